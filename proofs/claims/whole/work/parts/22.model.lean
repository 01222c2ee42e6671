section
variable {p : Program} {l : Launch} {e : Env} {lev : Nat} {s : State} {m : MethodId} {args : Array Value} {below : List Frame} {meth : Method} {c : Code} {G : GX}
theorem x_Mo_readItem_0 : DC b_Mo_readItem 0 (.aload_n 0) 1 1 := ⟨by decide +kernel, rfl⟩
theorem x_Mo_readItem_1 : DC b_Mo_readItem 1 (.iload_n 1) 1 2 := ⟨by decide +kernel, rfl⟩
theorem x_Mo_readItem_2 : DC b_Mo_readItem 2 (.invokevirtual 540) 3 5 := ⟨by decide +kernel, rfl⟩
theorem x_Mo_readItem_5 : DC b_Mo_readItem 5 (.aload_n 0) 1 6 := ⟨by decide +kernel, rfl⟩
theorem x_Mo_readItem_6 : DC b_Mo_readItem 6 (.getfield 453) 3 9 := ⟨by decide +kernel, rfl⟩
theorem x_Mo_readItem_9 : DC b_Mo_readItem 9 (.ifCond .ne 78) 3 12 := ⟨by decide +kernel, rfl⟩
theorem x_Mo_readItem_12 : DC b_Mo_readItem 12 (.aload_n 0) 1 13 := ⟨by decide +kernel, rfl⟩
theorem x_Mo_readItem_13 : DC b_Mo_readItem 13 (.bipush 42) 2 15 := ⟨by decide +kernel, rfl⟩
theorem x_Mo_readItem_15 : DC b_Mo_readItem 15 (.invokevirtual 507) 3 18 := ⟨by decide +kernel, rfl⟩
theorem x_Mo_readItem_18 : DC b_Mo_readItem 18 (.ifCond .ne 21) 3 21 := ⟨by decide +kernel, rfl⟩
theorem x_Mo_readItem_21 : DC b_Mo_readItem 21 (.aload_n 0) 1 22 := ⟨by decide +kernel, rfl⟩
theorem x_Mo_readItem_22 : DC b_Mo_readItem 22 (.bipush 47) 2 24 := ⟨by decide +kernel, rfl⟩
theorem x_Mo_readItem_24 : DC b_Mo_readItem 24 (.invokevirtual 507) 3 27 := ⟨by decide +kernel, rfl⟩
theorem x_Mo_readItem_27 : DC b_Mo_readItem 27 (.ifCond .ne 12) 3 30 := ⟨by decide +kernel, rfl⟩
theorem x_Mo_readItem_30 : DC b_Mo_readItem 30 (.aload_n 0) 1 31 := ⟨by decide +kernel, rfl⟩
theorem x_Mo_readItem_31 : DC b_Mo_readItem 31 (.bipush 37) 2 33 := ⟨by decide +kernel, rfl⟩
theorem x_Mo_readItem_33 : DC b_Mo_readItem 33 (.invokevirtual 507) 3 36 := ⟨by decide +kernel, rfl⟩
theorem x_Mo_readItem_36 : DC b_Mo_readItem 36 (.ifCond .eq 51) 3 39 := ⟨by decide +kernel, rfl⟩
theorem x_Mo_readItem_39 : DC b_Mo_readItem 39 (.aload_n 0) 1 40 := ⟨by decide +kernel, rfl⟩
theorem x_Mo_readItem_40 : DC b_Mo_readItem 40 (.bipush 42) 2 42 := ⟨by decide +kernel, rfl⟩
theorem x_Mo_readItem_42 : DC b_Mo_readItem 42 (.invokevirtual 507) 3 45 := ⟨by decide +kernel, rfl⟩
theorem x_Mo_readItem_45 : DC b_Mo_readItem 45 (.ifCond .eq 7) 3 48 := ⟨by decide +kernel, rfl⟩
theorem x_Mo_readItem_48 : DC b_Mo_readItem 48 (.iconst 5) 1 49 := ⟨by decide +kernel, rfl⟩
theorem x_Mo_readItem_49 : DC b_Mo_readItem 49 (.goto 19) 3 52 := ⟨by decide +kernel, rfl⟩
theorem x_Mo_readItem_52 : DC b_Mo_readItem 52 (.aload_n 0) 1 53 := ⟨by decide +kernel, rfl⟩
theorem x_Mo_readItem_53 : DC b_Mo_readItem 53 (.bipush 47) 2 55 := ⟨by decide +kernel, rfl⟩
theorem x_Mo_readItem_55 : DC b_Mo_readItem 55 (.invokevirtual 507) 3 58 := ⟨by decide +kernel, rfl⟩
theorem x_Mo_readItem_58 : DC b_Mo_readItem 58 (.ifCond .eq 8) 3 61 := ⟨by decide +kernel, rfl⟩
theorem x_Mo_readItem_61 : DC b_Mo_readItem 61 (.bipush 6) 2 63 := ⟨by decide +kernel, rfl⟩
theorem x_Mo_readItem_63 : DC b_Mo_readItem 63 (.goto 5) 3 66 := ⟨by decide +kernel, rfl⟩
theorem x_Mo_readItem_66 : DC b_Mo_readItem 66 (.bipush 7) 2 68 := ⟨by decide +kernel, rfl⟩
theorem x_Mo_readItem_68 : DC b_Mo_readItem 68 (.istore_n 2) 1 69 := ⟨by decide +kernel, rfl⟩
theorem x_Mo_readItem_69 : DC b_Mo_readItem 69 (.aload_n 0) 1 70 := ⟨by decide +kernel, rfl⟩
theorem x_Mo_readItem_70 : DC b_Mo_readItem 70 (.invokevirtual 522) 3 73 := ⟨by decide +kernel, rfl⟩
theorem x_Mo_readItem_73 : DC b_Mo_readItem 73 (.aload_n 0) 1 74 := ⟨by decide +kernel, rfl⟩
theorem x_Mo_readItem_74 : DC b_Mo_readItem 74 (.iload_n 1) 1 75 := ⟨by decide +kernel, rfl⟩
theorem x_Mo_readItem_75 : DC b_Mo_readItem 75 (.invokevirtual 540) 3 78 := ⟨by decide +kernel, rfl⟩
theorem x_Mo_readItem_78 : DC b_Mo_readItem 78 (.aload_n 0) 1 79 := ⟨by decide +kernel, rfl⟩
theorem x_Mo_readItem_79 : DC b_Mo_readItem 79 (.iload_n 2) 1 80 := ⟨by decide +kernel, rfl⟩
theorem x_Mo_readItem_80 : DC b_Mo_readItem 80 (.iconst 0) 1 81 := ⟨by decide +kernel, rfl⟩
theorem x_Mo_readItem_81 : DC b_Mo_readItem 81 (.invokevirtual 528) 3 84 := ⟨by decide +kernel, rfl⟩
theorem x_Mo_readItem_84 : DC b_Mo_readItem 84 (.goto (-79)) 3 87 := ⟨by decide +kernel, rfl⟩
theorem x_Mo_readItem_87 : DC b_Mo_readItem 87 (.return_) 1 88 := ⟨by decide +kernel, rfl⟩
def k_Mo_readItem_68 (SW : Int → Mem → Res) (SF : Int → Int → Mem → Res) (R5 : Int → Mem → Res) (a1 s0 : Int) (M : Mem) : Res := bcall (d_Mo_next M) fun v1 M2 => bcall (d_Mo_readAtom SW SF a1 M2) fun v3 M4 => bcall (d_Mo_mark s0 0 M4) fun v5 M6 => R5 a1 M6
theorem z_Mo_readItem_68 (C : Cx p s m args meth c G b_Mo_readItem 3 "PrairiePoolModel" none) {N : Nat} (hN : 20 ≤ N) (hlev : N + 4 ≤ lev) {SW : Int → Mem → Res} {SF : Int → Int → Mem → Res} (hSW : ∀ (lev' : Nat), N ≤ lev' → ∀ {a1 : Int} {M : Mem} {r : Int × Mem}, SW a1 M = some r → Mt l G y_Mo_readWhole b_Mo_readWhole 4 none lev' 0 [.ref (G.1 + 111), vi a1] M r) (hSF : ∀ (lev' : Nat), N ≤ lev' → ∀ {a1 : Int} {a2 : Int} {M : Mem} {r : Int × Mem}, SF a1 a2 M = some r → Mt l G y_Mo_readFew b_Mo_readFew 3 none lev' 0 [.ref (G.1 + 111), vi a1, vi a2] M r) {r : Int × Mem} {R5 : Int → Mem → Res} (hR5 : ∀ (a1 : Int) (M : Mem), R5 a1 M = some r → Z p l e lev s m args below meth c G 3 (MQ below (Qm G 0 r) args s 0 0 (Ab G)) M 5 [(0, .ref (G.1 + 111)), (1, vi a1)] []) {a1 s0 : Int} {M : Mem} (h : k_Mo_readItem_68 SW SF R5 a1 s0 M = some r) : Z p l e lev s m args below meth c G 3 (MQ below (Qm G 0 r) args s 0 0 (Ab G)) M 68 [(0, .ref (G.1 + 111)), (1, vi a1)] [vi s0] := by
  unfold k_Mo_readItem_68 at h
  refine z_istore_n (lv' := [(2, vi s0), (0, .ref (G.1 + 111)), (1, vi a1)]) C rfl x_Mo_readItem_68 (i_lt rfl) rfl ?_
  refine z_aload_n C 1 x_Mo_readItem_69 rfl ?_
  obtain ⟨v1, M2, fv1, h⟩ := bcall_e h
  refine z_callVv (k := 111) C x_Mo_readItem_70 cv_Mo_522 (t_Mo_next (lev := lev - 1) l G (by omega) fv1) nk_111 ck_111 rfl (by omega) rfl (i_le rfl) rfl ?_
  refine z_aload_n C 1 x_Mo_readItem_73 rfl ?_
  refine z_iload_n C 2 x_Mo_readItem_74 rfl ?_
  obtain ⟨v3, M4, fv3, h⟩ := bcall_e h
  refine z_callVv (k := 111) C x_Mo_readItem_75 cv_Mo_540 (t_Mo_readAtom (lev := lev - 1) l G hN (by omega) hSW hSF fv3) nk_111 ck_111 rfl (by omega) rfl (i_le rfl) rfl ?_
  refine z_aload_n C 1 x_Mo_readItem_78 rfl ?_
  refine z_iload_n C 0 x_Mo_readItem_79 rfl ?_
  refine z_iconst C x_Mo_readItem_80 ?_
  obtain ⟨v5, M6, fv5, h⟩ := bcall_e h
  refine z_callVv (k := 111) C x_Mo_readItem_81 cv_Mo_528 (t_Mo_mark (lev := lev - 1) l G (by omega) fv5) nk_111 ck_111 rfl (by omega) rfl (i_le rfl) rfl ?_
  refine z_goto (tgt := 5) C x_Mo_readItem_84 rfl ?_
  exact z_sub [1, 2] rfl (hR5 a1 M6 h)
def k_Mo_readItem_39 (SW : Int → Mem → Res) (SF : Int → Int → Mem → Res) (R5 : Int → Mem → Res) (a1 : Int) (M : Mem) : Res := bcall (d_Mo_isSign 42 M) fun v1 M2 => if w32 v1 = 0 then (bcall (d_Mo_isSign 47 M2) fun v4 M5 => if w32 v4 = 0 then (k_Mo_readItem_68 SW SF R5 a1 7 M5) else (k_Mo_readItem_68 SW SF R5 a1 6 M5)) else (k_Mo_readItem_68 SW SF R5 a1 5 M2)
theorem z_Mo_readItem_39 (C : Cx p s m args meth c G b_Mo_readItem 3 "PrairiePoolModel" none) {N : Nat} (hN : 20 ≤ N) (hlev : N + 4 ≤ lev) {SW : Int → Mem → Res} {SF : Int → Int → Mem → Res} (hSW : ∀ (lev' : Nat), N ≤ lev' → ∀ {a1 : Int} {M : Mem} {r : Int × Mem}, SW a1 M = some r → Mt l G y_Mo_readWhole b_Mo_readWhole 4 none lev' 0 [.ref (G.1 + 111), vi a1] M r) (hSF : ∀ (lev' : Nat), N ≤ lev' → ∀ {a1 : Int} {a2 : Int} {M : Mem} {r : Int × Mem}, SF a1 a2 M = some r → Mt l G y_Mo_readFew b_Mo_readFew 3 none lev' 0 [.ref (G.1 + 111), vi a1, vi a2] M r) {r : Int × Mem} {R5 : Int → Mem → Res} (hR5 : ∀ (a1 : Int) (M : Mem), R5 a1 M = some r → Z p l e lev s m args below meth c G 3 (MQ below (Qm G 0 r) args s 0 0 (Ab G)) M 5 [(0, .ref (G.1 + 111)), (1, vi a1)] []) {a1 : Int} {M : Mem} (h : k_Mo_readItem_39 SW SF R5 a1 M = some r) : Z p l e lev s m args below meth c G 3 (MQ below (Qm G 0 r) args s 0 0 (Ab G)) M 39 [(0, .ref (G.1 + 111)), (1, vi a1)] [] := by
  unfold k_Mo_readItem_39 at h
  refine z_aload_n C 0 x_Mo_readItem_39 rfl ?_
  refine z_bipush C rfl x_Mo_readItem_40 ?_
  obtain ⟨v1, M2, fv1, h⟩ := bcall_e h
  refine z_callVi (k := 111) C x_Mo_readItem_42 cv_Mo_507 (t_Mo_isSign (lev := lev - 1) l G (by omega) fv1) nk_111 ck_111 rfl (by omega) rfl (i_le rfl) rfl ?_
  rcases ite_e h with ⟨c3, h⟩ | ⟨c3, h⟩
  · refine z_if_eq_t (tgt := 52) C x_Mo_readItem_45 rfl c3 ?_
    refine z_aload_n C 0 x_Mo_readItem_52 rfl ?_
    refine z_bipush C rfl x_Mo_readItem_53 ?_
    obtain ⟨v4, M5, fv4, h⟩ := bcall_e h
    refine z_callVi (k := 111) C x_Mo_readItem_55 cv_Mo_507 (t_Mo_isSign (lev := lev - 1) l G (by omega) fv4) nk_111 ck_111 rfl (by omega) rfl (i_le rfl) rfl ?_
    rcases ite_e h with ⟨c6, h⟩ | ⟨c6, h⟩
    · refine z_if_eq_t (tgt := 66) C x_Mo_readItem_58 rfl c6 ?_
      refine z_bipush C rfl x_Mo_readItem_66 ?_
      exact z_sub [0, 1] rfl (z_Mo_readItem_68 C hN hlev hSW hSF hR5 h)
    · refine z_if_eq_f (tgt := 66) C x_Mo_readItem_58 rfl c6 ?_
      refine z_bipush C rfl x_Mo_readItem_61 ?_
      refine z_goto (tgt := 68) C x_Mo_readItem_63 rfl ?_
      exact z_sub [0, 1] rfl (z_Mo_readItem_68 C hN hlev hSW hSF hR5 h)
  · refine z_if_eq_f (tgt := 52) C x_Mo_readItem_45 rfl c3 ?_
    refine z_iconst C x_Mo_readItem_48 ?_
    refine z_goto (tgt := 68) C x_Mo_readItem_49 rfl ?_
    exact z_sub [0, 1] rfl (z_Mo_readItem_68 C hN hlev hSW hSF hR5 h)
def k_Mo_readItem_5 (SW : Int → Mem → Res) (SF : Int → Int → Mem → Res) (R5 : Int → Mem → Res) (a1 : Int) (M : Mem) : Res := blet (M 111 48) fun v1 => if w32 v1 = 0 then (bcall (d_Mo_isSign 42 M) fun v3 M4 => if w32 v3 = 0 then (bcall (d_Mo_isSign 47 M4) fun v6 M7 => if w32 v6 = 0 then (bcall (d_Mo_isSign 37 M7) fun v9 M10 => if w32 v9 = 0 then (some (0, M10)) else (k_Mo_readItem_39 SW SF R5 a1 M10)) else (k_Mo_readItem_39 SW SF R5 a1 M7)) else (k_Mo_readItem_39 SW SF R5 a1 M4)) else (some (0, M))
theorem z_Mo_readItem_5 (C : Cx p s m args meth c G b_Mo_readItem 3 "PrairiePoolModel" none) {N : Nat} (hN : 20 ≤ N) (hlev : N + 4 ≤ lev) {SW : Int → Mem → Res} {SF : Int → Int → Mem → Res} (hSW : ∀ (lev' : Nat), N ≤ lev' → ∀ {a1 : Int} {M : Mem} {r : Int × Mem}, SW a1 M = some r → Mt l G y_Mo_readWhole b_Mo_readWhole 4 none lev' 0 [.ref (G.1 + 111), vi a1] M r) (hSF : ∀ (lev' : Nat), N ≤ lev' → ∀ {a1 : Int} {a2 : Int} {M : Mem} {r : Int × Mem}, SF a1 a2 M = some r → Mt l G y_Mo_readFew b_Mo_readFew 3 none lev' 0 [.ref (G.1 + 111), vi a1, vi a2] M r) {r : Int × Mem} {R5 : Int → Mem → Res} (hR5 : ∀ (a1 : Int) (M : Mem), R5 a1 M = some r → Z p l e lev s m args below meth c G 3 (MQ below (Qm G 0 r) args s 0 0 (Ab G)) M 5 [(0, .ref (G.1 + 111)), (1, vi a1)] []) {a1 : Int} {M : Mem} (h : k_Mo_readItem_5 SW SF R5 a1 M = some r) : Z p l e lev s m args below meth c G 3 (MQ below (Qm G 0 r) args s 0 0 (Ab G)) M 5 [(0, .ref (G.1 + 111)), (1, vi a1)] [] := by
  unfold k_Mo_readItem_5 at h
  refine z_aload_n C 0 x_Mo_readItem_5 rfl ?_
  obtain ⟨v1, ev1, h⟩ := blet_e h
  refine z_getI (j := 48) C x_Mo_readItem_6 nk_111 ck_111 cw_12 (i_lt rfl) rfl rfl fl_Mo_453 ev1 ?_
  rcases ite_e h with ⟨c2, h⟩ | ⟨c2, h⟩
  · refine z_if_ne_f (tgt := 87) C x_Mo_readItem_9 rfl c2 ?_
    refine z_aload_n C 0 x_Mo_readItem_12 rfl ?_
    refine z_bipush C rfl x_Mo_readItem_13 ?_
    obtain ⟨v3, M4, fv3, h⟩ := bcall_e h
    refine z_callVi (k := 111) C x_Mo_readItem_15 cv_Mo_507 (t_Mo_isSign (lev := lev - 1) l G (by omega) fv3) nk_111 ck_111 rfl (by omega) rfl (i_le rfl) rfl ?_
    rcases ite_e h with ⟨c5, h⟩ | ⟨c5, h⟩
    · refine z_if_ne_f (tgt := 39) C x_Mo_readItem_18 rfl c5 ?_
      refine z_aload_n C 0 x_Mo_readItem_21 rfl ?_
      refine z_bipush C rfl x_Mo_readItem_22 ?_
      obtain ⟨v6, M7, fv6, h⟩ := bcall_e h
      refine z_callVi (k := 111) C x_Mo_readItem_24 cv_Mo_507 (t_Mo_isSign (lev := lev - 1) l G (by omega) fv6) nk_111 ck_111 rfl (by omega) rfl (i_le rfl) rfl ?_
      rcases ite_e h with ⟨c8, h⟩ | ⟨c8, h⟩
      · refine z_if_ne_f (tgt := 39) C x_Mo_readItem_27 rfl c8 ?_
        refine z_aload_n C 0 x_Mo_readItem_30 rfl ?_
        refine z_bipush C rfl x_Mo_readItem_31 ?_
        obtain ⟨v9, M10, fv9, h⟩ := bcall_e h
        refine z_callVi (k := 111) C x_Mo_readItem_33 cv_Mo_507 (t_Mo_isSign (lev := lev - 1) l G (by omega) fv9) nk_111 ck_111 rfl (by omega) rfl (i_le rfl) rfl ?_
        rcases ite_e h with ⟨c11, h⟩ | ⟨c11, h⟩
        · refine z_if_eq_t (tgt := 87) C x_Mo_readItem_36 rfl c11 ?_
          exact z_vret C x_Mo_readItem_87 h
        · refine z_if_eq_f (tgt := 87) C x_Mo_readItem_36 rfl c11 ?_
          exact z_sub [0, 1] rfl (z_Mo_readItem_39 C hN hlev hSW hSF hR5 h)
      · refine z_if_ne_t (tgt := 39) C x_Mo_readItem_27 rfl c8 ?_
        exact z_sub [0, 1] rfl (z_Mo_readItem_39 C hN hlev hSW hSF hR5 h)
    · refine z_if_ne_t (tgt := 39) C x_Mo_readItem_18 rfl c5 ?_
      exact z_sub [0, 1] rfl (z_Mo_readItem_39 C hN hlev hSW hSF hR5 h)
  · refine z_if_ne_t (tgt := 87) C x_Mo_readItem_9 rfl c2 ?_
    exact z_vret C x_Mo_readItem_87 h
theorem zl_Mo_readItem_5 (C : Cx p s m args meth c G b_Mo_readItem 3 "PrairiePoolModel" none) {N : Nat} (hN : 20 ≤ N) (hlev : N + 4 ≤ lev) {SW : Int → Mem → Res} {SF : Int → Int → Mem → Res} (hSW : ∀ (lev' : Nat), N ≤ lev' → ∀ {a1 : Int} {M : Mem} {r : Int × Mem}, SW a1 M = some r → Mt l G y_Mo_readWhole b_Mo_readWhole 4 none lev' 0 [.ref (G.1 + 111), vi a1] M r) (hSF : ∀ (lev' : Nat), N ≤ lev' → ∀ {a1 : Int} {a2 : Int} {M : Mem} {r : Int × Mem}, SF a1 a2 M = some r → Mt l G y_Mo_readFew b_Mo_readFew 3 none lev' 0 [.ref (G.1 + 111), vi a1, vi a2] M r) {r : Int × Mem}  : ∀ (n : Nat) (a1 : Int) (M : Mem), fix (fun _ _ => none) (k_Mo_readItem_5 SW SF) n a1 M = some r → Z p l e lev s m args below meth c G 3 (MQ below (Qm G 0 r) args s 0 0 (Ab G)) M 5 [(0, .ref (G.1 + 111)), (1, vi a1)] [] := by
  intro n
  induction n with
  | zero => intro a1 M h; exact nomatch (show (none : Res) = some r from h)
  | succ n ih => intro a1 M h; exact z_Mo_readItem_5 C hN hlev hSW hSF ih h
def d_Mo_readItem (SW : Int → Mem → Res) (SF : Int → Int → Mem → Res) (a1 : Int) (M : Mem) : Res := bcall (d_Mo_readAtom SW SF a1 M) fun v1 M2 => fix (fun _ _ => none) (k_Mo_readItem_5 SW SF) FU a1 M2
theorem t_Mo_readItem (l : Launch) (G : GX) {lev : Nat} {N : Nat} (hN : 20 ≤ N) (hlev : N + 4 ≤ lev) {SW : Int → Mem → Res} {SF : Int → Int → Mem → Res} (hSW : ∀ (lev' : Nat), N ≤ lev' → ∀ {a1 : Int} {M : Mem} {r : Int × Mem}, SW a1 M = some r → Mt l G y_Mo_readWhole b_Mo_readWhole 4 none lev' 0 [.ref (G.1 + 111), vi a1] M r) (hSF : ∀ (lev' : Nat), N ≤ lev' → ∀ {a1 : Int} {a2 : Int} {M : Mem} {r : Int × Mem}, SF a1 a2 M = some r → Mt l G y_Mo_readFew b_Mo_readFew 3 none lev' 0 [.ref (G.1 + 111), vi a1, vi a2] M r) {a1 : Int} {M : Mem} {r : Int × Mem} (h : d_Mo_readItem SW SF a1 M = some r) : Mt l G y_Mo_readItem b_Mo_readItem 3 none lev 0 [.ref (G.1 + 111), vi a1] M r := by
  refine Mt.of (by decide) (i_le rfl) ?_
  intro p e s m args below meth c C
  have C : Cx p s m args meth c G b_Mo_readItem 3 "PrairiePoolModel" none := C
  unfold d_Mo_readItem at h
  refine z_sub (lv' := [(0, .ref (G.1 + 111)), (1, vi a1)]) [0, 1] rfl ?_
  refine z_aload_n C 0 x_Mo_readItem_0 rfl ?_
  refine z_iload_n C 1 x_Mo_readItem_1 rfl ?_
  obtain ⟨v1, M2, fv1, h⟩ := bcall_e h
  refine z_callVv (k := 111) C x_Mo_readItem_2 cv_Mo_540 (t_Mo_readAtom (lev := lev - 1) l G hN (by omega) hSW hSF fv1) nk_111 ck_111 rfl (by omega) rfl (i_le rfl) rfl ?_
  exact z_sub [0, 1] rfl (zl_Mo_readItem_5 C hN hlev hSW hSF FU a1 M2 h)
theorem x_Mo_readSum_0 : DC b_Mo_readSum 0 (.aload_n 0) 1 1 := ⟨by decide +kernel, rfl⟩
theorem x_Mo_readSum_1 : DC b_Mo_readSum 1 (.iload_n 1) 1 2 := ⟨by decide +kernel, rfl⟩
theorem x_Mo_readSum_2 : DC b_Mo_readSum 2 (.invokevirtual 537) 3 5 := ⟨by decide +kernel, rfl⟩
theorem x_Mo_readSum_5 : DC b_Mo_readSum 5 (.aload_n 0) 1 6 := ⟨by decide +kernel, rfl⟩
theorem x_Mo_readSum_6 : DC b_Mo_readSum 6 (.getfield 453) 3 9 := ⟨by decide +kernel, rfl⟩
theorem x_Mo_readSum_9 : DC b_Mo_readSum 9 (.ifCond .ne 54) 3 12 := ⟨by decide +kernel, rfl⟩
theorem x_Mo_readSum_12 : DC b_Mo_readSum 12 (.aload_n 0) 1 13 := ⟨by decide +kernel, rfl⟩
theorem x_Mo_readSum_13 : DC b_Mo_readSum 13 (.bipush 43) 2 15 := ⟨by decide +kernel, rfl⟩
theorem x_Mo_readSum_15 : DC b_Mo_readSum 15 (.invokevirtual 507) 3 18 := ⟨by decide +kernel, rfl⟩
theorem x_Mo_readSum_18 : DC b_Mo_readSum 18 (.ifCond .ne 12) 3 21 := ⟨by decide +kernel, rfl⟩
theorem x_Mo_readSum_21 : DC b_Mo_readSum 21 (.aload_n 0) 1 22 := ⟨by decide +kernel, rfl⟩
theorem x_Mo_readSum_22 : DC b_Mo_readSum 22 (.bipush 45) 2 24 := ⟨by decide +kernel, rfl⟩
theorem x_Mo_readSum_24 : DC b_Mo_readSum 24 (.invokevirtual 507) 3 27 := ⟨by decide +kernel, rfl⟩
theorem x_Mo_readSum_27 : DC b_Mo_readSum 27 (.ifCond .eq 36) 3 30 := ⟨by decide +kernel, rfl⟩
theorem x_Mo_readSum_30 : DC b_Mo_readSum 30 (.aload_n 0) 1 31 := ⟨by decide +kernel, rfl⟩
theorem x_Mo_readSum_31 : DC b_Mo_readSum 31 (.bipush 43) 2 33 := ⟨by decide +kernel, rfl⟩
theorem x_Mo_readSum_33 : DC b_Mo_readSum 33 (.invokevirtual 507) 3 36 := ⟨by decide +kernel, rfl⟩
theorem x_Mo_readSum_36 : DC b_Mo_readSum 36 (.ifCond .eq 7) 3 39 := ⟨by decide +kernel, rfl⟩
theorem x_Mo_readSum_39 : DC b_Mo_readSum 39 (.iconst 3) 1 40 := ⟨by decide +kernel, rfl⟩
theorem x_Mo_readSum_40 : DC b_Mo_readSum 40 (.goto 4) 3 43 := ⟨by decide +kernel, rfl⟩
theorem x_Mo_readSum_43 : DC b_Mo_readSum 43 (.iconst 4) 1 44 := ⟨by decide +kernel, rfl⟩
theorem x_Mo_readSum_44 : DC b_Mo_readSum 44 (.istore_n 2) 1 45 := ⟨by decide +kernel, rfl⟩
theorem x_Mo_readSum_45 : DC b_Mo_readSum 45 (.aload_n 0) 1 46 := ⟨by decide +kernel, rfl⟩
theorem x_Mo_readSum_46 : DC b_Mo_readSum 46 (.invokevirtual 522) 3 49 := ⟨by decide +kernel, rfl⟩
theorem x_Mo_readSum_49 : DC b_Mo_readSum 49 (.aload_n 0) 1 50 := ⟨by decide +kernel, rfl⟩
theorem x_Mo_readSum_50 : DC b_Mo_readSum 50 (.iload_n 1) 1 51 := ⟨by decide +kernel, rfl⟩
theorem x_Mo_readSum_51 : DC b_Mo_readSum 51 (.invokevirtual 537) 3 54 := ⟨by decide +kernel, rfl⟩
theorem x_Mo_readSum_54 : DC b_Mo_readSum 54 (.aload_n 0) 1 55 := ⟨by decide +kernel, rfl⟩
theorem x_Mo_readSum_55 : DC b_Mo_readSum 55 (.iload_n 2) 1 56 := ⟨by decide +kernel, rfl⟩
theorem x_Mo_readSum_56 : DC b_Mo_readSum 56 (.iconst 0) 1 57 := ⟨by decide +kernel, rfl⟩
theorem x_Mo_readSum_57 : DC b_Mo_readSum 57 (.invokevirtual 528) 3 60 := ⟨by decide +kernel, rfl⟩
theorem x_Mo_readSum_60 : DC b_Mo_readSum 60 (.goto (-55)) 3 63 := ⟨by decide +kernel, rfl⟩
theorem x_Mo_readSum_63 : DC b_Mo_readSum 63 (.return_) 1 64 := ⟨by decide +kernel, rfl⟩
def k_Mo_readSum_44 (SW : Int → Mem → Res) (SF : Int → Int → Mem → Res) (R5 : Int → Mem → Res) (a1 s0 : Int) (M : Mem) : Res := bcall (d_Mo_next M) fun v1 M2 => bcall (d_Mo_readItem SW SF a1 M2) fun v3 M4 => bcall (d_Mo_mark s0 0 M4) fun v5 M6 => R5 a1 M6
theorem z_Mo_readSum_44 (C : Cx p s m args meth c G b_Mo_readSum 3 "PrairiePoolModel" none) {N : Nat} (hN : 20 ≤ N) (hlev : N + 5 ≤ lev) {SW : Int → Mem → Res} {SF : Int → Int → Mem → Res} (hSW : ∀ (lev' : Nat), N ≤ lev' → ∀ {a1 : Int} {M : Mem} {r : Int × Mem}, SW a1 M = some r → Mt l G y_Mo_readWhole b_Mo_readWhole 4 none lev' 0 [.ref (G.1 + 111), vi a1] M r) (hSF : ∀ (lev' : Nat), N ≤ lev' → ∀ {a1 : Int} {a2 : Int} {M : Mem} {r : Int × Mem}, SF a1 a2 M = some r → Mt l G y_Mo_readFew b_Mo_readFew 3 none lev' 0 [.ref (G.1 + 111), vi a1, vi a2] M r) {r : Int × Mem} {R5 : Int → Mem → Res} (hR5 : ∀ (a1 : Int) (M : Mem), R5 a1 M = some r → Z p l e lev s m args below meth c G 3 (MQ below (Qm G 0 r) args s 0 0 (Ab G)) M 5 [(0, .ref (G.1 + 111)), (1, vi a1)] []) {a1 s0 : Int} {M : Mem} (h : k_Mo_readSum_44 SW SF R5 a1 s0 M = some r) : Z p l e lev s m args below meth c G 3 (MQ below (Qm G 0 r) args s 0 0 (Ab G)) M 44 [(0, .ref (G.1 + 111)), (1, vi a1)] [vi s0] := by
  unfold k_Mo_readSum_44 at h
  refine z_istore_n (lv' := [(2, vi s0), (0, .ref (G.1 + 111)), (1, vi a1)]) C rfl x_Mo_readSum_44 (i_lt rfl) rfl ?_
  refine z_aload_n C 1 x_Mo_readSum_45 rfl ?_
  obtain ⟨v1, M2, fv1, h⟩ := bcall_e h
  refine z_callVv (k := 111) C x_Mo_readSum_46 cv_Mo_522 (t_Mo_next (lev := lev - 1) l G (by omega) fv1) nk_111 ck_111 rfl (by omega) rfl (i_le rfl) rfl ?_
  refine z_aload_n C 1 x_Mo_readSum_49 rfl ?_
  refine z_iload_n C 2 x_Mo_readSum_50 rfl ?_
  obtain ⟨v3, M4, fv3, h⟩ := bcall_e h
  refine z_callVv (k := 111) C x_Mo_readSum_51 cv_Mo_537 (t_Mo_readItem (lev := lev - 1) l G hN (by omega) hSW hSF fv3) nk_111 ck_111 rfl (by omega) rfl (i_le rfl) rfl ?_
  refine z_aload_n C 1 x_Mo_readSum_54 rfl ?_
  refine z_iload_n C 0 x_Mo_readSum_55 rfl ?_
  refine z_iconst C x_Mo_readSum_56 ?_
  obtain ⟨v5, M6, fv5, h⟩ := bcall_e h
  refine z_callVv (k := 111) C x_Mo_readSum_57 cv_Mo_528 (t_Mo_mark (lev := lev - 1) l G (by omega) fv5) nk_111 ck_111 rfl (by omega) rfl (i_le rfl) rfl ?_
  refine z_goto (tgt := 5) C x_Mo_readSum_60 rfl ?_
  exact z_sub [1, 2] rfl (hR5 a1 M6 h)
def k_Mo_readSum_30 (SW : Int → Mem → Res) (SF : Int → Int → Mem → Res) (R5 : Int → Mem → Res) (a1 : Int) (M : Mem) : Res := bcall (d_Mo_isSign 43 M) fun v1 M2 => if w32 v1 = 0 then (k_Mo_readSum_44 SW SF R5 a1 4 M2) else (k_Mo_readSum_44 SW SF R5 a1 3 M2)
theorem z_Mo_readSum_30 (C : Cx p s m args meth c G b_Mo_readSum 3 "PrairiePoolModel" none) {N : Nat} (hN : 20 ≤ N) (hlev : N + 5 ≤ lev) {SW : Int → Mem → Res} {SF : Int → Int → Mem → Res} (hSW : ∀ (lev' : Nat), N ≤ lev' → ∀ {a1 : Int} {M : Mem} {r : Int × Mem}, SW a1 M = some r → Mt l G y_Mo_readWhole b_Mo_readWhole 4 none lev' 0 [.ref (G.1 + 111), vi a1] M r) (hSF : ∀ (lev' : Nat), N ≤ lev' → ∀ {a1 : Int} {a2 : Int} {M : Mem} {r : Int × Mem}, SF a1 a2 M = some r → Mt l G y_Mo_readFew b_Mo_readFew 3 none lev' 0 [.ref (G.1 + 111), vi a1, vi a2] M r) {r : Int × Mem} {R5 : Int → Mem → Res} (hR5 : ∀ (a1 : Int) (M : Mem), R5 a1 M = some r → Z p l e lev s m args below meth c G 3 (MQ below (Qm G 0 r) args s 0 0 (Ab G)) M 5 [(0, .ref (G.1 + 111)), (1, vi a1)] []) {a1 : Int} {M : Mem} (h : k_Mo_readSum_30 SW SF R5 a1 M = some r) : Z p l e lev s m args below meth c G 3 (MQ below (Qm G 0 r) args s 0 0 (Ab G)) M 30 [(0, .ref (G.1 + 111)), (1, vi a1)] [] := by
  unfold k_Mo_readSum_30 at h
  refine z_aload_n C 0 x_Mo_readSum_30 rfl ?_
  refine z_bipush C rfl x_Mo_readSum_31 ?_
  obtain ⟨v1, M2, fv1, h⟩ := bcall_e h
  refine z_callVi (k := 111) C x_Mo_readSum_33 cv_Mo_507 (t_Mo_isSign (lev := lev - 1) l G (by omega) fv1) nk_111 ck_111 rfl (by omega) rfl (i_le rfl) rfl ?_
  rcases ite_e h with ⟨c3, h⟩ | ⟨c3, h⟩
  · refine z_if_eq_t (tgt := 43) C x_Mo_readSum_36 rfl c3 ?_
    refine z_iconst C x_Mo_readSum_43 ?_
    exact z_sub [0, 1] rfl (z_Mo_readSum_44 C hN hlev hSW hSF hR5 h)
  · refine z_if_eq_f (tgt := 43) C x_Mo_readSum_36 rfl c3 ?_
    refine z_iconst C x_Mo_readSum_39 ?_
    refine z_goto (tgt := 44) C x_Mo_readSum_40 rfl ?_
    exact z_sub [0, 1] rfl (z_Mo_readSum_44 C hN hlev hSW hSF hR5 h)
def k_Mo_readSum_5 (SW : Int → Mem → Res) (SF : Int → Int → Mem → Res) (R5 : Int → Mem → Res) (a1 : Int) (M : Mem) : Res := blet (M 111 48) fun v1 => if w32 v1 = 0 then (bcall (d_Mo_isSign 43 M) fun v3 M4 => if w32 v3 = 0 then (bcall (d_Mo_isSign 45 M4) fun v6 M7 => if w32 v6 = 0 then (some (0, M7)) else (k_Mo_readSum_30 SW SF R5 a1 M7)) else (k_Mo_readSum_30 SW SF R5 a1 M4)) else (some (0, M))
theorem z_Mo_readSum_5 (C : Cx p s m args meth c G b_Mo_readSum 3 "PrairiePoolModel" none) {N : Nat} (hN : 20 ≤ N) (hlev : N + 5 ≤ lev) {SW : Int → Mem → Res} {SF : Int → Int → Mem → Res} (hSW : ∀ (lev' : Nat), N ≤ lev' → ∀ {a1 : Int} {M : Mem} {r : Int × Mem}, SW a1 M = some r → Mt l G y_Mo_readWhole b_Mo_readWhole 4 none lev' 0 [.ref (G.1 + 111), vi a1] M r) (hSF : ∀ (lev' : Nat), N ≤ lev' → ∀ {a1 : Int} {a2 : Int} {M : Mem} {r : Int × Mem}, SF a1 a2 M = some r → Mt l G y_Mo_readFew b_Mo_readFew 3 none lev' 0 [.ref (G.1 + 111), vi a1, vi a2] M r) {r : Int × Mem} {R5 : Int → Mem → Res} (hR5 : ∀ (a1 : Int) (M : Mem), R5 a1 M = some r → Z p l e lev s m args below meth c G 3 (MQ below (Qm G 0 r) args s 0 0 (Ab G)) M 5 [(0, .ref (G.1 + 111)), (1, vi a1)] []) {a1 : Int} {M : Mem} (h : k_Mo_readSum_5 SW SF R5 a1 M = some r) : Z p l e lev s m args below meth c G 3 (MQ below (Qm G 0 r) args s 0 0 (Ab G)) M 5 [(0, .ref (G.1 + 111)), (1, vi a1)] [] := by
  unfold k_Mo_readSum_5 at h
  refine z_aload_n C 0 x_Mo_readSum_5 rfl ?_
  obtain ⟨v1, ev1, h⟩ := blet_e h
  refine z_getI (j := 48) C x_Mo_readSum_6 nk_111 ck_111 cw_12 (i_lt rfl) rfl rfl fl_Mo_453 ev1 ?_
  rcases ite_e h with ⟨c2, h⟩ | ⟨c2, h⟩
  · refine z_if_ne_f (tgt := 63) C x_Mo_readSum_9 rfl c2 ?_
    refine z_aload_n C 0 x_Mo_readSum_12 rfl ?_
    refine z_bipush C rfl x_Mo_readSum_13 ?_
    obtain ⟨v3, M4, fv3, h⟩ := bcall_e h
    refine z_callVi (k := 111) C x_Mo_readSum_15 cv_Mo_507 (t_Mo_isSign (lev := lev - 1) l G (by omega) fv3) nk_111 ck_111 rfl (by omega) rfl (i_le rfl) rfl ?_
    rcases ite_e h with ⟨c5, h⟩ | ⟨c5, h⟩
    · refine z_if_ne_f (tgt := 30) C x_Mo_readSum_18 rfl c5 ?_
      refine z_aload_n C 0 x_Mo_readSum_21 rfl ?_
      refine z_bipush C rfl x_Mo_readSum_22 ?_
      obtain ⟨v6, M7, fv6, h⟩ := bcall_e h
      refine z_callVi (k := 111) C x_Mo_readSum_24 cv_Mo_507 (t_Mo_isSign (lev := lev - 1) l G (by omega) fv6) nk_111 ck_111 rfl (by omega) rfl (i_le rfl) rfl ?_
      rcases ite_e h with ⟨c8, h⟩ | ⟨c8, h⟩
      · refine z_if_eq_t (tgt := 63) C x_Mo_readSum_27 rfl c8 ?_
        exact z_vret C x_Mo_readSum_63 h
      · refine z_if_eq_f (tgt := 63) C x_Mo_readSum_27 rfl c8 ?_
        exact z_sub [0, 1] rfl (z_Mo_readSum_30 C hN hlev hSW hSF hR5 h)
    · refine z_if_ne_t (tgt := 30) C x_Mo_readSum_18 rfl c5 ?_
      exact z_sub [0, 1] rfl (z_Mo_readSum_30 C hN hlev hSW hSF hR5 h)
  · refine z_if_ne_t (tgt := 63) C x_Mo_readSum_9 rfl c2 ?_
    exact z_vret C x_Mo_readSum_63 h
theorem zl_Mo_readSum_5 (C : Cx p s m args meth c G b_Mo_readSum 3 "PrairiePoolModel" none) {N : Nat} (hN : 20 ≤ N) (hlev : N + 5 ≤ lev) {SW : Int → Mem → Res} {SF : Int → Int → Mem → Res} (hSW : ∀ (lev' : Nat), N ≤ lev' → ∀ {a1 : Int} {M : Mem} {r : Int × Mem}, SW a1 M = some r → Mt l G y_Mo_readWhole b_Mo_readWhole 4 none lev' 0 [.ref (G.1 + 111), vi a1] M r) (hSF : ∀ (lev' : Nat), N ≤ lev' → ∀ {a1 : Int} {a2 : Int} {M : Mem} {r : Int × Mem}, SF a1 a2 M = some r → Mt l G y_Mo_readFew b_Mo_readFew 3 none lev' 0 [.ref (G.1 + 111), vi a1, vi a2] M r) {r : Int × Mem}  : ∀ (n : Nat) (a1 : Int) (M : Mem), fix (fun _ _ => none) (k_Mo_readSum_5 SW SF) n a1 M = some r → Z p l e lev s m args below meth c G 3 (MQ below (Qm G 0 r) args s 0 0 (Ab G)) M 5 [(0, .ref (G.1 + 111)), (1, vi a1)] [] := by
  intro n
  induction n with
  | zero => intro a1 M h; exact nomatch (show (none : Res) = some r from h)
  | succ n ih => intro a1 M h; exact z_Mo_readSum_5 C hN hlev hSW hSF ih h
def d_Mo_readSum (SW : Int → Mem → Res) (SF : Int → Int → Mem → Res) (a1 : Int) (M : Mem) : Res := bcall (d_Mo_readItem SW SF a1 M) fun v1 M2 => fix (fun _ _ => none) (k_Mo_readSum_5 SW SF) FU a1 M2
theorem t_Mo_readSum (l : Launch) (G : GX) {lev : Nat} {N : Nat} (hN : 20 ≤ N) (hlev : N + 5 ≤ lev) {SW : Int → Mem → Res} {SF : Int → Int → Mem → Res} (hSW : ∀ (lev' : Nat), N ≤ lev' → ∀ {a1 : Int} {M : Mem} {r : Int × Mem}, SW a1 M = some r → Mt l G y_Mo_readWhole b_Mo_readWhole 4 none lev' 0 [.ref (G.1 + 111), vi a1] M r) (hSF : ∀ (lev' : Nat), N ≤ lev' → ∀ {a1 : Int} {a2 : Int} {M : Mem} {r : Int × Mem}, SF a1 a2 M = some r → Mt l G y_Mo_readFew b_Mo_readFew 3 none lev' 0 [.ref (G.1 + 111), vi a1, vi a2] M r) {a1 : Int} {M : Mem} {r : Int × Mem} (h : d_Mo_readSum SW SF a1 M = some r) : Mt l G y_Mo_readSum b_Mo_readSum 3 none lev 0 [.ref (G.1 + 111), vi a1] M r := by
  refine Mt.of (by decide) (i_le rfl) ?_
  intro p e s m args below meth c C
  have C : Cx p s m args meth c G b_Mo_readSum 3 "PrairiePoolModel" none := C
  unfold d_Mo_readSum at h
  refine z_sub (lv' := [(0, .ref (G.1 + 111)), (1, vi a1)]) [0, 1] rfl ?_
  refine z_aload_n C 0 x_Mo_readSum_0 rfl ?_
  refine z_iload_n C 1 x_Mo_readSum_1 rfl ?_
  obtain ⟨v1, M2, fv1, h⟩ := bcall_e h
  refine z_callVv (k := 111) C x_Mo_readSum_2 cv_Mo_537 (t_Mo_readItem (lev := lev - 1) l G hN (by omega) hSW hSF fv1) nk_111 ck_111 rfl (by omega) rfl (i_le rfl) rfl ?_
  exact z_sub [0, 1] rfl (zl_Mo_readSum_5 C hN hlev hSW hSF FU a1 M2 h)
theorem x_Mo_readOne_0 : DC b_Mo_readOne 0 (.aload_n 0) 1 1 := ⟨by decide +kernel, rfl⟩
theorem x_Mo_readOne_1 : DC b_Mo_readOne 1 (.invokevirtual 488) 3 4 := ⟨by decide +kernel, rfl⟩
theorem x_Mo_readOne_4 : DC b_Mo_readOne 4 (.istore_n 2) 1 5 := ⟨by decide +kernel, rfl⟩
theorem x_Mo_readOne_5 : DC b_Mo_readOne 5 (.iload_n 2) 1 6 := ⟨by decide +kernel, rfl⟩
theorem x_Mo_readOne_6 : DC b_Mo_readOne 6 (.ifCond .eq 7) 3 9 := ⟨by decide +kernel, rfl⟩
theorem x_Mo_readOne_9 : DC b_Mo_readOne 9 (.aload_n 0) 1 10 := ⟨by decide +kernel, rfl⟩
theorem x_Mo_readOne_10 : DC b_Mo_readOne 10 (.invokevirtual 522) 3 13 := ⟨by decide +kernel, rfl⟩
theorem x_Mo_readOne_13 : DC b_Mo_readOne 13 (.aload_n 0) 1 14 := ⟨by decide +kernel, rfl⟩
theorem x_Mo_readOne_14 : DC b_Mo_readOne 14 (.iload_n 1) 1 15 := ⟨by decide +kernel, rfl⟩
theorem x_Mo_readOne_15 : DC b_Mo_readOne 15 (.invokevirtual 519) 3 18 := ⟨by decide +kernel, rfl⟩
theorem x_Mo_readOne_18 : DC b_Mo_readOne 18 (.aload_n 0) 1 19 := ⟨by decide +kernel, rfl⟩
theorem x_Mo_readOne_19 : DC b_Mo_readOne 19 (.bipush 60) 2 21 := ⟨by decide +kernel, rfl⟩
theorem x_Mo_readOne_21 : DC b_Mo_readOne 21 (.invokevirtual 507) 3 24 := ⟨by decide +kernel, rfl⟩
theorem x_Mo_readOne_24 : DC b_Mo_readOne 24 (.ifCond .eq 8) 3 27 := ⟨by decide +kernel, rfl⟩
theorem x_Mo_readOne_27 : DC b_Mo_readOne 27 (.bipush 10) 2 29 := ⟨by decide +kernel, rfl⟩
theorem x_Mo_readOne_29 : DC b_Mo_readOne 29 (.goto 32) 3 32 := ⟨by decide +kernel, rfl⟩
theorem x_Mo_readOne_32 : DC b_Mo_readOne 32 (.aload_n 0) 1 33 := ⟨by decide +kernel, rfl⟩
theorem x_Mo_readOne_33 : DC b_Mo_readOne 33 (.bipush 62) 2 35 := ⟨by decide +kernel, rfl⟩
theorem x_Mo_readOne_35 : DC b_Mo_readOne 35 (.invokevirtual 507) 3 38 := ⟨by decide +kernel, rfl⟩
theorem x_Mo_readOne_38 : DC b_Mo_readOne 38 (.ifCond .eq 8) 3 41 := ⟨by decide +kernel, rfl⟩
theorem x_Mo_readOne_41 : DC b_Mo_readOne 41 (.bipush 11) 2 43 := ⟨by decide +kernel, rfl⟩
theorem x_Mo_readOne_43 : DC b_Mo_readOne 43 (.goto 18) 3 46 := ⟨by decide +kernel, rfl⟩
theorem x_Mo_readOne_46 : DC b_Mo_readOne 46 (.aload_n 0) 1 47 := ⟨by decide +kernel, rfl⟩
theorem x_Mo_readOne_47 : DC b_Mo_readOne 47 (.bipush 61) 2 49 := ⟨by decide +kernel, rfl⟩
theorem x_Mo_readOne_49 : DC b_Mo_readOne 49 (.invokevirtual 507) 3 52 := ⟨by decide +kernel, rfl⟩
theorem x_Mo_readOne_52 : DC b_Mo_readOne 52 (.ifCond .eq 8) 3 55 := ⟨by decide +kernel, rfl⟩
theorem x_Mo_readOne_55 : DC b_Mo_readOne 55 (.bipush 12) 2 57 := ⟨by decide +kernel, rfl⟩
theorem x_Mo_readOne_57 : DC b_Mo_readOne 57 (.goto 4) 3 60 := ⟨by decide +kernel, rfl⟩
theorem x_Mo_readOne_60 : DC b_Mo_readOne 60 (.iconst (-1)) 1 61 := ⟨by decide +kernel, rfl⟩
theorem x_Mo_readOne_61 : DC b_Mo_readOne 61 (.istore_n 3) 1 62 := ⟨by decide +kernel, rfl⟩
theorem x_Mo_readOne_62 : DC b_Mo_readOne 62 (.aload_n 0) 1 63 := ⟨by decide +kernel, rfl⟩
theorem x_Mo_readOne_63 : DC b_Mo_readOne 63 (.getfield 453) 3 66 := ⟨by decide +kernel, rfl⟩
theorem x_Mo_readOne_66 : DC b_Mo_readOne 66 (.ifCond .ne 11) 3 69 := ⟨by decide +kernel, rfl⟩
theorem x_Mo_readOne_69 : DC b_Mo_readOne 69 (.iload_n 3) 1 70 := ⟨by decide +kernel, rfl⟩
theorem x_Mo_readOne_70 : DC b_Mo_readOne 70 (.ifCond .ge 7) 3 73 := ⟨by decide +kernel, rfl⟩
theorem x_Mo_readOne_73 : DC b_Mo_readOne 73 (.aload_n 0) 1 74 := ⟨by decide +kernel, rfl⟩
theorem x_Mo_readOne_74 : DC b_Mo_readOne 74 (.invokevirtual 516) 3 77 := ⟨by decide +kernel, rfl⟩
theorem x_Mo_readOne_77 : DC b_Mo_readOne 77 (.aload_n 0) 1 78 := ⟨by decide +kernel, rfl⟩
theorem x_Mo_readOne_78 : DC b_Mo_readOne 78 (.getfield 453) 3 81 := ⟨by decide +kernel, rfl⟩
theorem x_Mo_readOne_81 : DC b_Mo_readOne 81 (.ifCond .le 4) 3 84 := ⟨by decide +kernel, rfl⟩
theorem x_Mo_readOne_84 : DC b_Mo_readOne 84 (.return_) 1 85 := ⟨by decide +kernel, rfl⟩
theorem x_Mo_readOne_85 : DC b_Mo_readOne 85 (.aload_n 0) 1 86 := ⟨by decide +kernel, rfl⟩
theorem x_Mo_readOne_86 : DC b_Mo_readOne 86 (.invokevirtual 522) 3 89 := ⟨by decide +kernel, rfl⟩
theorem x_Mo_readOne_89 : DC b_Mo_readOne 89 (.aload_n 0) 1 90 := ⟨by decide +kernel, rfl⟩
theorem x_Mo_readOne_90 : DC b_Mo_readOne 90 (.iload_n 1) 1 91 := ⟨by decide +kernel, rfl⟩
theorem x_Mo_readOne_91 : DC b_Mo_readOne 91 (.invokevirtual 519) 3 94 := ⟨by decide +kernel, rfl⟩
theorem x_Mo_readOne_94 : DC b_Mo_readOne 94 (.aload_n 0) 1 95 := ⟨by decide +kernel, rfl⟩
theorem x_Mo_readOne_95 : DC b_Mo_readOne 95 (.iload_n 3) 1 96 := ⟨by decide +kernel, rfl⟩
theorem x_Mo_readOne_96 : DC b_Mo_readOne 96 (.iload_n 2) 1 97 := ⟨by decide +kernel, rfl⟩
theorem x_Mo_readOne_97 : DC b_Mo_readOne 97 (.ifCond .eq 7) 3 100 := ⟨by decide +kernel, rfl⟩
theorem x_Mo_readOne_100 : DC b_Mo_readOne 100 (.iconst 1) 1 101 := ⟨by decide +kernel, rfl⟩
theorem x_Mo_readOne_101 : DC b_Mo_readOne 101 (.goto 4) 3 104 := ⟨by decide +kernel, rfl⟩
theorem x_Mo_readOne_104 : DC b_Mo_readOne 104 (.iconst 0) 1 105 := ⟨by decide +kernel, rfl⟩
theorem x_Mo_readOne_105 : DC b_Mo_readOne 105 (.invokevirtual 528) 3 108 := ⟨by decide +kernel, rfl⟩
theorem x_Mo_readOne_108 : DC b_Mo_readOne 108 (.return_) 1 109 := ⟨by decide +kernel, rfl⟩
def k_Mo_readOne_105 (SW : Int → Mem → Res) (SF : Int → Int → Mem → Res) (s1 s2 : Int) (M : Mem) : Res := bcall (d_Mo_mark s1 s2 M) fun v1 M2 => some (0, M2)
theorem z_Mo_readOne_105 (C : Cx p s m args meth c G b_Mo_readOne 4 "PrairiePoolModel" none) {N : Nat} (hN : 20 ≤ N) (hlev : N + 6 ≤ lev) {SW : Int → Mem → Res} {SF : Int → Int → Mem → Res} (hSW : ∀ (lev' : Nat), N ≤ lev' → ∀ {a1 : Int} {M : Mem} {r : Int × Mem}, SW a1 M = some r → Mt l G y_Mo_readWhole b_Mo_readWhole 4 none lev' 0 [.ref (G.1 + 111), vi a1] M r) (hSF : ∀ (lev' : Nat), N ≤ lev' → ∀ {a1 : Int} {a2 : Int} {M : Mem} {r : Int × Mem}, SF a1 a2 M = some r → Mt l G y_Mo_readFew b_Mo_readFew 3 none lev' 0 [.ref (G.1 + 111), vi a1, vi a2] M r) {r : Int × Mem}  {s1 s2 : Int} {M : Mem} (h : k_Mo_readOne_105 SW SF s1 s2 M = some r) : Z p l e lev s m args below meth c G 4 (MQ below (Qm G 0 r) args s 0 0 (Ab G)) M 105 [] [vi s2, vi s1, .ref (G.1 + 111)] := by
  unfold k_Mo_readOne_105 at h
  obtain ⟨v1, M2, fv1, h⟩ := bcall_e h
  refine z_callVv (k := 111) C x_Mo_readOne_105 cv_Mo_528 (t_Mo_mark (lev := lev - 1) l G (by omega) fv1) nk_111 ck_111 rfl (by omega) rfl (i_le rfl) rfl ?_
  exact z_vret C x_Mo_readOne_108 h
def k_Mo_readOne_77 (SW : Int → Mem → Res) (SF : Int → Int → Mem → Res) (a1 a2 a3 : Int) (M : Mem) : Res := blet (M 111 48) fun v1 => if 0 < w32 v1 then (some (0, M)) else (bcall (d_Mo_next M) fun v3 M4 => bcall (d_Mo_readSum SW SF a1 M4) fun v5 M6 => if w32 a2 = 0 then (k_Mo_readOne_105 SW SF a3 0 M6) else (k_Mo_readOne_105 SW SF a3 1 M6))
theorem z_Mo_readOne_77 (C : Cx p s m args meth c G b_Mo_readOne 4 "PrairiePoolModel" none) {N : Nat} (hN : 20 ≤ N) (hlev : N + 6 ≤ lev) {SW : Int → Mem → Res} {SF : Int → Int → Mem → Res} (hSW : ∀ (lev' : Nat), N ≤ lev' → ∀ {a1 : Int} {M : Mem} {r : Int × Mem}, SW a1 M = some r → Mt l G y_Mo_readWhole b_Mo_readWhole 4 none lev' 0 [.ref (G.1 + 111), vi a1] M r) (hSF : ∀ (lev' : Nat), N ≤ lev' → ∀ {a1 : Int} {a2 : Int} {M : Mem} {r : Int × Mem}, SF a1 a2 M = some r → Mt l G y_Mo_readFew b_Mo_readFew 3 none lev' 0 [.ref (G.1 + 111), vi a1, vi a2] M r) {r : Int × Mem}  {a1 a2 a3 : Int} {M : Mem} (h : k_Mo_readOne_77 SW SF a1 a2 a3 M = some r) : Z p l e lev s m args below meth c G 4 (MQ below (Qm G 0 r) args s 0 0 (Ab G)) M 77 [(0, .ref (G.1 + 111)), (1, vi a1), (2, vi a2), (3, vi a3)] [] := by
  unfold k_Mo_readOne_77 at h
  refine z_aload_n C 0 x_Mo_readOne_77 rfl ?_
  obtain ⟨v1, ev1, h⟩ := blet_e h
  refine z_getI (j := 48) C x_Mo_readOne_78 nk_111 ck_111 cw_12 (i_lt rfl) rfl rfl fl_Mo_453 ev1 ?_
  rcases ite_e h with ⟨c2, h⟩ | ⟨c2, h⟩
  · refine z_if_le_f (tgt := 85) C x_Mo_readOne_81 rfl c2 ?_
    exact z_vret C x_Mo_readOne_84 h
  · refine z_if_le_t (tgt := 85) C x_Mo_readOne_81 rfl c2 ?_
    refine z_aload_n C 0 x_Mo_readOne_85 rfl ?_
    obtain ⟨v3, M4, fv3, h⟩ := bcall_e h
    refine z_callVv (k := 111) C x_Mo_readOne_86 cv_Mo_522 (t_Mo_next (lev := lev - 1) l G (by omega) fv3) nk_111 ck_111 rfl (by omega) rfl (i_le rfl) rfl ?_
    refine z_aload_n C 0 x_Mo_readOne_89 rfl ?_
    refine z_iload_n C 1 x_Mo_readOne_90 rfl ?_
    obtain ⟨v5, M6, fv5, h⟩ := bcall_e h
    refine z_callVv (k := 111) C x_Mo_readOne_91 cv_Mo_519 (t_Mo_readSum (lev := lev - 1) l G hN (by omega) hSW hSF fv5) nk_111 ck_111 rfl (by omega) rfl (i_le rfl) rfl ?_
    refine z_aload_n C 0 x_Mo_readOne_94 rfl ?_
    refine z_iload_n C 3 x_Mo_readOne_95 rfl ?_
    refine z_iload_n C 2 x_Mo_readOne_96 rfl ?_
    rcases ite_e h with ⟨c7, h⟩ | ⟨c7, h⟩
    · refine z_if_eq_t (tgt := 104) C x_Mo_readOne_97 rfl c7 ?_
      refine z_iconst C x_Mo_readOne_104 ?_
      exact z_sub [] rfl (z_Mo_readOne_105 C hN hlev hSW hSF h)
    · refine z_if_eq_f (tgt := 104) C x_Mo_readOne_97 rfl c7 ?_
      refine z_iconst C x_Mo_readOne_100 ?_
      refine z_goto (tgt := 105) C x_Mo_readOne_101 rfl ?_
      exact z_sub [] rfl (z_Mo_readOne_105 C hN hlev hSW hSF h)
def k_Mo_readOne_61 (SW : Int → Mem → Res) (SF : Int → Int → Mem → Res) (a1 a2 s0 : Int) (M : Mem) : Res := blet (M 111 48) fun v1 => if w32 v1 = 0 then (if w32 s0 < 0 then (bcall (d_Mo_wrong M) fun v4 M5 => k_Mo_readOne_77 SW SF a1 a2 s0 M5) else (k_Mo_readOne_77 SW SF a1 a2 s0 M)) else (k_Mo_readOne_77 SW SF a1 a2 s0 M)
theorem z_Mo_readOne_61 (C : Cx p s m args meth c G b_Mo_readOne 4 "PrairiePoolModel" none) {N : Nat} (hN : 20 ≤ N) (hlev : N + 6 ≤ lev) {SW : Int → Mem → Res} {SF : Int → Int → Mem → Res} (hSW : ∀ (lev' : Nat), N ≤ lev' → ∀ {a1 : Int} {M : Mem} {r : Int × Mem}, SW a1 M = some r → Mt l G y_Mo_readWhole b_Mo_readWhole 4 none lev' 0 [.ref (G.1 + 111), vi a1] M r) (hSF : ∀ (lev' : Nat), N ≤ lev' → ∀ {a1 : Int} {a2 : Int} {M : Mem} {r : Int × Mem}, SF a1 a2 M = some r → Mt l G y_Mo_readFew b_Mo_readFew 3 none lev' 0 [.ref (G.1 + 111), vi a1, vi a2] M r) {r : Int × Mem}  {a1 a2 s0 : Int} {M : Mem} (h : k_Mo_readOne_61 SW SF a1 a2 s0 M = some r) : Z p l e lev s m args below meth c G 4 (MQ below (Qm G 0 r) args s 0 0 (Ab G)) M 61 [(0, .ref (G.1 + 111)), (1, vi a1), (2, vi a2)] [vi s0] := by
  unfold k_Mo_readOne_61 at h
  refine z_istore_n (lv' := [(3, vi s0), (0, .ref (G.1 + 111)), (1, vi a1), (2, vi a2)]) C rfl x_Mo_readOne_61 (i_lt rfl) rfl ?_
  refine z_aload_n C 1 x_Mo_readOne_62 rfl ?_
  obtain ⟨v1, ev1, h⟩ := blet_e h
  refine z_getI (j := 48) C x_Mo_readOne_63 nk_111 ck_111 cw_12 (i_lt rfl) rfl rfl fl_Mo_453 ev1 ?_
  rcases ite_e h with ⟨c2, h⟩ | ⟨c2, h⟩
  · refine z_if_ne_f (tgt := 77) C x_Mo_readOne_66 rfl c2 ?_
    refine z_iload_n C 0 x_Mo_readOne_69 rfl ?_
    rcases ite_e h with ⟨c3, h⟩ | ⟨c3, h⟩
    · refine z_if_ge_f (tgt := 77) C x_Mo_readOne_70 rfl c3 ?_
      refine z_aload_n C 1 x_Mo_readOne_73 rfl ?_
      obtain ⟨v4, M5, fv4, h⟩ := bcall_e h
      refine z_callVv (k := 111) C x_Mo_readOne_74 cv_Mo_516 (t_Mo_wrong (lev := lev - 1) l G (by omega) fv4) nk_111 ck_111 rfl (by omega) rfl (i_le rfl) rfl ?_
      exact z_sub [1, 2, 3, 0] rfl (z_Mo_readOne_77 C hN hlev hSW hSF h)
    · refine z_if_ge_t (tgt := 77) C x_Mo_readOne_70 rfl c3 ?_
      exact z_sub [1, 2, 3, 0] rfl (z_Mo_readOne_77 C hN hlev hSW hSF h)
  · refine z_if_ne_t (tgt := 77) C x_Mo_readOne_66 rfl c2 ?_
    exact z_sub [1, 2, 3, 0] rfl (z_Mo_readOne_77 C hN hlev hSW hSF h)
def k_Mo_readOne_13 (SW : Int → Mem → Res) (SF : Int → Int → Mem → Res) (a1 a2 : Int) (M : Mem) : Res := bcall (d_Mo_readSum SW SF a1 M) fun v1 M2 => bcall (d_Mo_isSign 60 M2) fun v3 M4 => if w32 v3 = 0 then (bcall (d_Mo_isSign 62 M4) fun v6 M7 => if w32 v6 = 0 then (bcall (d_Mo_isSign 61 M7) fun v9 M10 => if w32 v9 = 0 then (k_Mo_readOne_61 SW SF a1 a2 (-1) M10) else (k_Mo_readOne_61 SW SF a1 a2 12 M10)) else (k_Mo_readOne_61 SW SF a1 a2 11 M7)) else (k_Mo_readOne_61 SW SF a1 a2 10 M4)
theorem z_Mo_readOne_13 (C : Cx p s m args meth c G b_Mo_readOne 4 "PrairiePoolModel" none) {N : Nat} (hN : 20 ≤ N) (hlev : N + 6 ≤ lev) {SW : Int → Mem → Res} {SF : Int → Int → Mem → Res} (hSW : ∀ (lev' : Nat), N ≤ lev' → ∀ {a1 : Int} {M : Mem} {r : Int × Mem}, SW a1 M = some r → Mt l G y_Mo_readWhole b_Mo_readWhole 4 none lev' 0 [.ref (G.1 + 111), vi a1] M r) (hSF : ∀ (lev' : Nat), N ≤ lev' → ∀ {a1 : Int} {a2 : Int} {M : Mem} {r : Int × Mem}, SF a1 a2 M = some r → Mt l G y_Mo_readFew b_Mo_readFew 3 none lev' 0 [.ref (G.1 + 111), vi a1, vi a2] M r) {r : Int × Mem}  {a1 a2 : Int} {M : Mem} (h : k_Mo_readOne_13 SW SF a1 a2 M = some r) : Z p l e lev s m args below meth c G 4 (MQ below (Qm G 0 r) args s 0 0 (Ab G)) M 13 [(0, .ref (G.1 + 111)), (1, vi a1), (2, vi a2)] [] := by
  unfold k_Mo_readOne_13 at h
  refine z_aload_n C 0 x_Mo_readOne_13 rfl ?_
  refine z_iload_n C 1 x_Mo_readOne_14 rfl ?_
  obtain ⟨v1, M2, fv1, h⟩ := bcall_e h
  refine z_callVv (k := 111) C x_Mo_readOne_15 cv_Mo_519 (t_Mo_readSum (lev := lev - 1) l G hN (by omega) hSW hSF fv1) nk_111 ck_111 rfl (by omega) rfl (i_le rfl) rfl ?_
  refine z_aload_n C 0 x_Mo_readOne_18 rfl ?_
  refine z_bipush C rfl x_Mo_readOne_19 ?_
  obtain ⟨v3, M4, fv3, h⟩ := bcall_e h
  refine z_callVi (k := 111) C x_Mo_readOne_21 cv_Mo_507 (t_Mo_isSign (lev := lev - 1) l G (by omega) fv3) nk_111 ck_111 rfl (by omega) rfl (i_le rfl) rfl ?_
  rcases ite_e h with ⟨c5, h⟩ | ⟨c5, h⟩
  · refine z_if_eq_t (tgt := 32) C x_Mo_readOne_24 rfl c5 ?_
    refine z_aload_n C 0 x_Mo_readOne_32 rfl ?_
    refine z_bipush C rfl x_Mo_readOne_33 ?_
    obtain ⟨v6, M7, fv6, h⟩ := bcall_e h
    refine z_callVi (k := 111) C x_Mo_readOne_35 cv_Mo_507 (t_Mo_isSign (lev := lev - 1) l G (by omega) fv6) nk_111 ck_111 rfl (by omega) rfl (i_le rfl) rfl ?_
    rcases ite_e h with ⟨c8, h⟩ | ⟨c8, h⟩
    · refine z_if_eq_t (tgt := 46) C x_Mo_readOne_38 rfl c8 ?_
      refine z_aload_n C 0 x_Mo_readOne_46 rfl ?_
      refine z_bipush C rfl x_Mo_readOne_47 ?_
      obtain ⟨v9, M10, fv9, h⟩ := bcall_e h
      refine z_callVi (k := 111) C x_Mo_readOne_49 cv_Mo_507 (t_Mo_isSign (lev := lev - 1) l G (by omega) fv9) nk_111 ck_111 rfl (by omega) rfl (i_le rfl) rfl ?_
      rcases ite_e h with ⟨c11, h⟩ | ⟨c11, h⟩
      · refine z_if_eq_t (tgt := 60) C x_Mo_readOne_52 rfl c11 ?_
        refine z_iconst C x_Mo_readOne_60 ?_
        exact z_sub [0, 1, 2] rfl (z_Mo_readOne_61 C hN hlev hSW hSF h)
      · refine z_if_eq_f (tgt := 60) C x_Mo_readOne_52 rfl c11 ?_
        refine z_bipush C rfl x_Mo_readOne_55 ?_
        refine z_goto (tgt := 61) C x_Mo_readOne_57 rfl ?_
        exact z_sub [0, 1, 2] rfl (z_Mo_readOne_61 C hN hlev hSW hSF h)
    · refine z_if_eq_f (tgt := 46) C x_Mo_readOne_38 rfl c8 ?_
      refine z_bipush C rfl x_Mo_readOne_41 ?_
      refine z_goto (tgt := 61) C x_Mo_readOne_43 rfl ?_
      exact z_sub [0, 1, 2] rfl (z_Mo_readOne_61 C hN hlev hSW hSF h)
  · refine z_if_eq_f (tgt := 32) C x_Mo_readOne_24 rfl c5 ?_
    refine z_bipush C rfl x_Mo_readOne_27 ?_
    refine z_goto (tgt := 61) C x_Mo_readOne_29 rfl ?_
    exact z_sub [0, 1, 2] rfl (z_Mo_readOne_61 C hN hlev hSW hSF h)
def d_Mo_readOne (SW : Int → Mem → Res) (SF : Int → Int → Mem → Res) (a1 : Int) (M : Mem) : Res := bcall (d_Mo_isNot M) fun v1 M2 => if w32 v1 = 0 then (k_Mo_readOne_13 SW SF a1 v1 M2) else (bcall (d_Mo_next M2) fun v4 M5 => k_Mo_readOne_13 SW SF a1 v1 M5)
theorem t_Mo_readOne (l : Launch) (G : GX) {lev : Nat} {N : Nat} (hN : 20 ≤ N) (hlev : N + 6 ≤ lev) {SW : Int → Mem → Res} {SF : Int → Int → Mem → Res} (hSW : ∀ (lev' : Nat), N ≤ lev' → ∀ {a1 : Int} {M : Mem} {r : Int × Mem}, SW a1 M = some r → Mt l G y_Mo_readWhole b_Mo_readWhole 4 none lev' 0 [.ref (G.1 + 111), vi a1] M r) (hSF : ∀ (lev' : Nat), N ≤ lev' → ∀ {a1 : Int} {a2 : Int} {M : Mem} {r : Int × Mem}, SF a1 a2 M = some r → Mt l G y_Mo_readFew b_Mo_readFew 3 none lev' 0 [.ref (G.1 + 111), vi a1, vi a2] M r) {a1 : Int} {M : Mem} {r : Int × Mem} (h : d_Mo_readOne SW SF a1 M = some r) : Mt l G y_Mo_readOne b_Mo_readOne 4 none lev 0 [.ref (G.1 + 111), vi a1] M r := by
  refine Mt.of (by decide) (i_le rfl) ?_
  intro p e s m args below meth c C
  have C : Cx p s m args meth c G b_Mo_readOne 4 "PrairiePoolModel" none := C
  unfold d_Mo_readOne at h
  refine z_sub (lv' := [(0, .ref (G.1 + 111)), (1, vi a1)]) [0, 1] rfl ?_
  refine z_aload_n C 0 x_Mo_readOne_0 rfl ?_
  obtain ⟨v1, M2, fv1, h⟩ := bcall_e h
  refine z_callVi (k := 111) C x_Mo_readOne_1 cv_Mo_488 (t_Mo_isNot (lev := lev - 1) l G (by omega) fv1) nk_111 ck_111 rfl (by omega) rfl (i_le rfl) rfl ?_
  refine z_istore_n (lv' := [(2, vi v1), (0, .ref (G.1 + 111)), (1, vi a1)]) C rfl x_Mo_readOne_4 (i_lt rfl) rfl ?_
  refine z_iload_n C 0 x_Mo_readOne_5 rfl ?_
  rcases ite_e h with ⟨c3, h⟩ | ⟨c3, h⟩
  · refine z_if_eq_t (tgt := 13) C x_Mo_readOne_6 rfl c3 ?_
    exact z_sub [1, 2, 0] rfl (z_Mo_readOne_13 C hN hlev hSW hSF h)
  · refine z_if_eq_f (tgt := 13) C x_Mo_readOne_6 rfl c3 ?_
    refine z_aload_n C 1 x_Mo_readOne_9 rfl ?_
    obtain ⟨v4, M5, fv4, h⟩ := bcall_e h
    refine z_callVv (k := 111) C x_Mo_readOne_10 cv_Mo_522 (t_Mo_next (lev := lev - 1) l G (by omega) fv4) nk_111 ck_111 rfl (by omega) rfl (i_le rfl) rfl ?_
    exact z_sub [1, 2, 0] rfl (z_Mo_readOne_13 C hN hlev hSW hSF h)
theorem x_Mo_readTest_0 : DC b_Mo_readTest 0 (.aload_n 0) 1 1 := ⟨by decide +kernel, rfl⟩
theorem x_Mo_readTest_1 : DC b_Mo_readTest 1 (.iload_n 1) 1 2 := ⟨by decide +kernel, rfl⟩
theorem x_Mo_readTest_2 : DC b_Mo_readTest 2 (.invokevirtual 534) 3 5 := ⟨by decide +kernel, rfl⟩
theorem x_Mo_readTest_5 : DC b_Mo_readTest 5 (.aload_n 0) 1 6 := ⟨by decide +kernel, rfl⟩
theorem x_Mo_readTest_6 : DC b_Mo_readTest 6 (.getfield 453) 3 9 := ⟨by decide +kernel, rfl⟩
theorem x_Mo_readTest_9 : DC b_Mo_readTest 9 (.ifCond .le 4) 3 12 := ⟨by decide +kernel, rfl⟩
theorem x_Mo_readTest_12 : DC b_Mo_readTest 12 (.return_) 1 13 := ⟨by decide +kernel, rfl⟩
theorem x_Mo_readTest_13 : DC b_Mo_readTest 13 (.aload_n 0) 1 14 := ⟨by decide +kernel, rfl⟩
theorem x_Mo_readTest_14 : DC b_Mo_readTest 14 (.invokevirtual 482) 3 17 := ⟨by decide +kernel, rfl⟩
theorem x_Mo_readTest_17 : DC b_Mo_readTest 17 (.istore_n 2) 1 18 := ⟨by decide +kernel, rfl⟩
theorem x_Mo_readTest_18 : DC b_Mo_readTest 18 (.aload_n 0) 1 19 := ⟨by decide +kernel, rfl⟩
theorem x_Mo_readTest_19 : DC b_Mo_readTest 19 (.getfield 453) 3 22 := ⟨by decide +kernel, rfl⟩
theorem x_Mo_readTest_22 : DC b_Mo_readTest 22 (.ifCond .ne 52) 3 25 := ⟨by decide +kernel, rfl⟩
theorem x_Mo_readTest_25 : DC b_Mo_readTest 25 (.iload_n 2) 1 26 := ⟨by decide +kernel, rfl⟩
theorem x_Mo_readTest_26 : DC b_Mo_readTest 26 (.ifCond .eq 13) 3 29 := ⟨by decide +kernel, rfl⟩
theorem x_Mo_readTest_29 : DC b_Mo_readTest 29 (.aload_n 0) 1 30 := ⟨by decide +kernel, rfl⟩
theorem x_Mo_readTest_30 : DC b_Mo_readTest 30 (.invokevirtual 482) 3 33 := ⟨by decide +kernel, rfl⟩
theorem x_Mo_readTest_33 : DC b_Mo_readTest 33 (.ifCond .eq 41) 3 36 := ⟨by decide +kernel, rfl⟩
theorem x_Mo_readTest_36 : DC b_Mo_readTest 36 (.goto 10) 3 39 := ⟨by decide +kernel, rfl⟩
theorem x_Mo_readTest_39 : DC b_Mo_readTest 39 (.aload_n 0) 1 40 := ⟨by decide +kernel, rfl⟩
theorem x_Mo_readTest_40 : DC b_Mo_readTest 40 (.invokevirtual 485) 3 43 := ⟨by decide +kernel, rfl⟩
theorem x_Mo_readTest_43 : DC b_Mo_readTest 43 (.ifCond .eq 31) 3 46 := ⟨by decide +kernel, rfl⟩
theorem x_Mo_readTest_46 : DC b_Mo_readTest 46 (.aload_n 0) 1 47 := ⟨by decide +kernel, rfl⟩
theorem x_Mo_readTest_47 : DC b_Mo_readTest 47 (.invokevirtual 522) 3 50 := ⟨by decide +kernel, rfl⟩
theorem x_Mo_readTest_50 : DC b_Mo_readTest 50 (.aload_n 0) 1 51 := ⟨by decide +kernel, rfl⟩
theorem x_Mo_readTest_51 : DC b_Mo_readTest 51 (.iload_n 1) 1 52 := ⟨by decide +kernel, rfl⟩
theorem x_Mo_readTest_52 : DC b_Mo_readTest 52 (.invokevirtual 534) 3 55 := ⟨by decide +kernel, rfl⟩
theorem x_Mo_readTest_55 : DC b_Mo_readTest 55 (.aload_n 0) 1 56 := ⟨by decide +kernel, rfl⟩
theorem x_Mo_readTest_56 : DC b_Mo_readTest 56 (.iload_n 2) 1 57 := ⟨by decide +kernel, rfl⟩
theorem x_Mo_readTest_57 : DC b_Mo_readTest 57 (.ifCond .eq 8) 3 60 := ⟨by decide +kernel, rfl⟩
theorem x_Mo_readTest_60 : DC b_Mo_readTest 60 (.bipush 13) 2 62 := ⟨by decide +kernel, rfl⟩
theorem x_Mo_readTest_62 : DC b_Mo_readTest 62 (.goto 5) 3 65 := ⟨by decide +kernel, rfl⟩
theorem x_Mo_readTest_65 : DC b_Mo_readTest 65 (.bipush 14) 2 67 := ⟨by decide +kernel, rfl⟩
theorem x_Mo_readTest_67 : DC b_Mo_readTest 67 (.iconst 0) 1 68 := ⟨by decide +kernel, rfl⟩
theorem x_Mo_readTest_68 : DC b_Mo_readTest 68 (.invokevirtual 528) 3 71 := ⟨by decide +kernel, rfl⟩
theorem x_Mo_readTest_71 : DC b_Mo_readTest 71 (.goto (-53)) 3 74 := ⟨by decide +kernel, rfl⟩
theorem x_Mo_readTest_74 : DC b_Mo_readTest 74 (.return_) 1 75 := ⟨by decide +kernel, rfl⟩
def k_Mo_readTest_67 (SW : Int → Mem → Res) (SF : Int → Int → Mem → Res) (R18 : Int → Int → Mem → Res) (a1 a2 s1 : Int) (M : Mem) : Res := bcall (d_Mo_mark s1 0 M) fun v1 M2 => R18 a1 a2 M2
theorem z_Mo_readTest_67 (C : Cx p s m args meth c G b_Mo_readTest 3 "PrairiePoolModel" none) {N : Nat} (hN : 20 ≤ N) (hlev : N + 7 ≤ lev) {SW : Int → Mem → Res} {SF : Int → Int → Mem → Res} (hSW : ∀ (lev' : Nat), N ≤ lev' → ∀ {a1 : Int} {M : Mem} {r : Int × Mem}, SW a1 M = some r → Mt l G y_Mo_readWhole b_Mo_readWhole 4 none lev' 0 [.ref (G.1 + 111), vi a1] M r) (hSF : ∀ (lev' : Nat), N ≤ lev' → ∀ {a1 : Int} {a2 : Int} {M : Mem} {r : Int × Mem}, SF a1 a2 M = some r → Mt l G y_Mo_readFew b_Mo_readFew 3 none lev' 0 [.ref (G.1 + 111), vi a1, vi a2] M r) {r : Int × Mem} {R18 : Int → Int → Mem → Res} (hR18 : ∀ (a1 a2 : Int) (M : Mem), R18 a1 a2 M = some r → Z p l e lev s m args below meth c G 3 (MQ below (Qm G 0 r) args s 0 0 (Ab G)) M 18 [(0, .ref (G.1 + 111)), (1, vi a1), (2, vi a2)] []) {a1 a2 s1 : Int} {M : Mem} (h : k_Mo_readTest_67 SW SF R18 a1 a2 s1 M = some r) : Z p l e lev s m args below meth c G 3 (MQ below (Qm G 0 r) args s 0 0 (Ab G)) M 67 [(0, .ref (G.1 + 111)), (1, vi a1), (2, vi a2)] [vi s1, .ref (G.1 + 111)] := by
  unfold k_Mo_readTest_67 at h
  refine z_iconst C x_Mo_readTest_67 ?_
  obtain ⟨v1, M2, fv1, h⟩ := bcall_e h
  refine z_callVv (k := 111) C x_Mo_readTest_68 cv_Mo_528 (t_Mo_mark (lev := lev - 1) l G (by omega) fv1) nk_111 ck_111 rfl (by omega) rfl (i_le rfl) rfl ?_
  refine z_goto (tgt := 18) C x_Mo_readTest_71 rfl ?_
  exact z_sub [0, 1, 2] rfl (hR18 a1 a2 M2 h)
def k_Mo_readTest_46 (SW : Int → Mem → Res) (SF : Int → Int → Mem → Res) (R18 : Int → Int → Mem → Res) (a1 a2 : Int) (M : Mem) : Res := bcall (d_Mo_next M) fun v1 M2 => bcall (d_Mo_readOne SW SF a1 M2) fun v3 M4 => if w32 a2 = 0 then (k_Mo_readTest_67 SW SF R18 a1 a2 14 M4) else (k_Mo_readTest_67 SW SF R18 a1 a2 13 M4)
theorem z_Mo_readTest_46 (C : Cx p s m args meth c G b_Mo_readTest 3 "PrairiePoolModel" none) {N : Nat} (hN : 20 ≤ N) (hlev : N + 7 ≤ lev) {SW : Int → Mem → Res} {SF : Int → Int → Mem → Res} (hSW : ∀ (lev' : Nat), N ≤ lev' → ∀ {a1 : Int} {M : Mem} {r : Int × Mem}, SW a1 M = some r → Mt l G y_Mo_readWhole b_Mo_readWhole 4 none lev' 0 [.ref (G.1 + 111), vi a1] M r) (hSF : ∀ (lev' : Nat), N ≤ lev' → ∀ {a1 : Int} {a2 : Int} {M : Mem} {r : Int × Mem}, SF a1 a2 M = some r → Mt l G y_Mo_readFew b_Mo_readFew 3 none lev' 0 [.ref (G.1 + 111), vi a1, vi a2] M r) {r : Int × Mem} {R18 : Int → Int → Mem → Res} (hR18 : ∀ (a1 a2 : Int) (M : Mem), R18 a1 a2 M = some r → Z p l e lev s m args below meth c G 3 (MQ below (Qm G 0 r) args s 0 0 (Ab G)) M 18 [(0, .ref (G.1 + 111)), (1, vi a1), (2, vi a2)] []) {a1 a2 : Int} {M : Mem} (h : k_Mo_readTest_46 SW SF R18 a1 a2 M = some r) : Z p l e lev s m args below meth c G 3 (MQ below (Qm G 0 r) args s 0 0 (Ab G)) M 46 [(0, .ref (G.1 + 111)), (1, vi a1), (2, vi a2)] [] := by
  unfold k_Mo_readTest_46 at h
  refine z_aload_n C 0 x_Mo_readTest_46 rfl ?_
  obtain ⟨v1, M2, fv1, h⟩ := bcall_e h
  refine z_callVv (k := 111) C x_Mo_readTest_47 cv_Mo_522 (t_Mo_next (lev := lev - 1) l G (by omega) fv1) nk_111 ck_111 rfl (by omega) rfl (i_le rfl) rfl ?_
  refine z_aload_n C 0 x_Mo_readTest_50 rfl ?_
  refine z_iload_n C 1 x_Mo_readTest_51 rfl ?_
  obtain ⟨v3, M4, fv3, h⟩ := bcall_e h
  refine z_callVv (k := 111) C x_Mo_readTest_52 cv_Mo_534 (t_Mo_readOne (lev := lev - 1) l G hN (by omega) hSW hSF fv3) nk_111 ck_111 rfl (by omega) rfl (i_le rfl) rfl ?_
  refine z_aload_n C 0 x_Mo_readTest_55 rfl ?_
  refine z_iload_n C 2 x_Mo_readTest_56 rfl ?_
  rcases ite_e h with ⟨c5, h⟩ | ⟨c5, h⟩
  · refine z_if_eq_t (tgt := 65) C x_Mo_readTest_57 rfl c5 ?_
    refine z_bipush C rfl x_Mo_readTest_65 ?_
    exact z_sub [0, 1, 2] rfl (z_Mo_readTest_67 C hN hlev hSW hSF hR18 h)
  · refine z_if_eq_f (tgt := 65) C x_Mo_readTest_57 rfl c5 ?_
    refine z_bipush C rfl x_Mo_readTest_60 ?_
    refine z_goto (tgt := 67) C x_Mo_readTest_62 rfl ?_
    exact z_sub [0, 1, 2] rfl (z_Mo_readTest_67 C hN hlev hSW hSF hR18 h)
def k_Mo_readTest_18 (SW : Int → Mem → Res) (SF : Int → Int → Mem → Res) (R18 : Int → Int → Mem → Res) (a1 a2 : Int) (M : Mem) : Res := blet (M 111 48) fun v1 => if w32 v1 = 0 then (if w32 a2 = 0 then (bcall (d_Mo_isOr M) fun v4 M5 => if w32 v4 = 0 then (some (0, M5)) else (k_Mo_readTest_46 SW SF R18 a1 a2 M5)) else (bcall (d_Mo_isAnd M) fun v7 M8 => if w32 v7 = 0 then (some (0, M8)) else (k_Mo_readTest_46 SW SF R18 a1 a2 M8))) else (some (0, M))
theorem z_Mo_readTest_18 (C : Cx p s m args meth c G b_Mo_readTest 3 "PrairiePoolModel" none) {N : Nat} (hN : 20 ≤ N) (hlev : N + 7 ≤ lev) {SW : Int → Mem → Res} {SF : Int → Int → Mem → Res} (hSW : ∀ (lev' : Nat), N ≤ lev' → ∀ {a1 : Int} {M : Mem} {r : Int × Mem}, SW a1 M = some r → Mt l G y_Mo_readWhole b_Mo_readWhole 4 none lev' 0 [.ref (G.1 + 111), vi a1] M r) (hSF : ∀ (lev' : Nat), N ≤ lev' → ∀ {a1 : Int} {a2 : Int} {M : Mem} {r : Int × Mem}, SF a1 a2 M = some r → Mt l G y_Mo_readFew b_Mo_readFew 3 none lev' 0 [.ref (G.1 + 111), vi a1, vi a2] M r) {r : Int × Mem} {R18 : Int → Int → Mem → Res} (hR18 : ∀ (a1 a2 : Int) (M : Mem), R18 a1 a2 M = some r → Z p l e lev s m args below meth c G 3 (MQ below (Qm G 0 r) args s 0 0 (Ab G)) M 18 [(0, .ref (G.1 + 111)), (1, vi a1), (2, vi a2)] []) {a1 a2 : Int} {M : Mem} (h : k_Mo_readTest_18 SW SF R18 a1 a2 M = some r) : Z p l e lev s m args below meth c G 3 (MQ below (Qm G 0 r) args s 0 0 (Ab G)) M 18 [(0, .ref (G.1 + 111)), (1, vi a1), (2, vi a2)] [] := by
  unfold k_Mo_readTest_18 at h
  refine z_aload_n C 0 x_Mo_readTest_18 rfl ?_
  obtain ⟨v1, ev1, h⟩ := blet_e h
  refine z_getI (j := 48) C x_Mo_readTest_19 nk_111 ck_111 cw_12 (i_lt rfl) rfl rfl fl_Mo_453 ev1 ?_
  rcases ite_e h with ⟨c2, h⟩ | ⟨c2, h⟩
  · refine z_if_ne_f (tgt := 74) C x_Mo_readTest_22 rfl c2 ?_
    refine z_iload_n C 2 x_Mo_readTest_25 rfl ?_
    rcases ite_e h with ⟨c3, h⟩ | ⟨c3, h⟩
    · refine z_if_eq_t (tgt := 39) C x_Mo_readTest_26 rfl c3 ?_
      refine z_aload_n C 0 x_Mo_readTest_39 rfl ?_
      obtain ⟨v4, M5, fv4, h⟩ := bcall_e h
      refine z_callVi (k := 111) C x_Mo_readTest_40 cv_Mo_485 (t_Mo_isOr (lev := lev - 1) l G (by omega) fv4) nk_111 ck_111 rfl (by omega) rfl (i_le rfl) rfl ?_
      rcases ite_e h with ⟨c6, h⟩ | ⟨c6, h⟩
      · refine z_if_eq_t (tgt := 74) C x_Mo_readTest_43 rfl c6 ?_
        exact z_vret C x_Mo_readTest_74 h
      · refine z_if_eq_f (tgt := 74) C x_Mo_readTest_43 rfl c6 ?_
        exact z_sub [0, 1, 2] rfl (z_Mo_readTest_46 C hN hlev hSW hSF hR18 h)
    · refine z_if_eq_f (tgt := 39) C x_Mo_readTest_26 rfl c3 ?_
      refine z_aload_n C 0 x_Mo_readTest_29 rfl ?_
      obtain ⟨v7, M8, fv7, h⟩ := bcall_e h
      refine z_callVi (k := 111) C x_Mo_readTest_30 cv_Mo_482 (t_Mo_isAnd (lev := lev - 1) l G (by omega) fv7) nk_111 ck_111 rfl (by omega) rfl (i_le rfl) rfl ?_
      rcases ite_e h with ⟨c9, h⟩ | ⟨c9, h⟩
      · refine z_if_eq_t (tgt := 74) C x_Mo_readTest_33 rfl c9 ?_
        exact z_vret C x_Mo_readTest_74 h
      · refine z_if_eq_f (tgt := 74) C x_Mo_readTest_33 rfl c9 ?_
        refine z_goto (tgt := 46) C x_Mo_readTest_36 rfl ?_
        exact z_sub [0, 1, 2] rfl (z_Mo_readTest_46 C hN hlev hSW hSF hR18 h)
  · refine z_if_ne_t (tgt := 74) C x_Mo_readTest_22 rfl c2 ?_
    exact z_vret C x_Mo_readTest_74 h
theorem zl_Mo_readTest_18 (C : Cx p s m args meth c G b_Mo_readTest 3 "PrairiePoolModel" none) {N : Nat} (hN : 20 ≤ N) (hlev : N + 7 ≤ lev) {SW : Int → Mem → Res} {SF : Int → Int → Mem → Res} (hSW : ∀ (lev' : Nat), N ≤ lev' → ∀ {a1 : Int} {M : Mem} {r : Int × Mem}, SW a1 M = some r → Mt l G y_Mo_readWhole b_Mo_readWhole 4 none lev' 0 [.ref (G.1 + 111), vi a1] M r) (hSF : ∀ (lev' : Nat), N ≤ lev' → ∀ {a1 : Int} {a2 : Int} {M : Mem} {r : Int × Mem}, SF a1 a2 M = some r → Mt l G y_Mo_readFew b_Mo_readFew 3 none lev' 0 [.ref (G.1 + 111), vi a1, vi a2] M r) {r : Int × Mem}  : ∀ (n : Nat) (a1 a2 : Int) (M : Mem), fix (fun _ _ _ => none) (k_Mo_readTest_18 SW SF) n a1 a2 M = some r → Z p l e lev s m args below meth c G 3 (MQ below (Qm G 0 r) args s 0 0 (Ab G)) M 18 [(0, .ref (G.1 + 111)), (1, vi a1), (2, vi a2)] [] := by
  intro n
  induction n with
  | zero => intro a1 a2 M h; exact nomatch (show (none : Res) = some r from h)
  | succ n ih => intro a1 a2 M h; exact z_Mo_readTest_18 C hN hlev hSW hSF ih h
def d_Mo_readTest (SW : Int → Mem → Res) (SF : Int → Int → Mem → Res) (a1 : Int) (M : Mem) : Res := bcall (d_Mo_readOne SW SF a1 M) fun v1 M2 => blet (M2 111 48) fun v3 => if 0 < w32 v3 then (some (0, M2)) else (bcall (d_Mo_isAnd M2) fun v5 M6 => fix (fun _ _ _ => none) (k_Mo_readTest_18 SW SF) FU a1 v5 M6)
theorem t_Mo_readTest (l : Launch) (G : GX) {lev : Nat} {N : Nat} (hN : 20 ≤ N) (hlev : N + 7 ≤ lev) {SW : Int → Mem → Res} {SF : Int → Int → Mem → Res} (hSW : ∀ (lev' : Nat), N ≤ lev' → ∀ {a1 : Int} {M : Mem} {r : Int × Mem}, SW a1 M = some r → Mt l G y_Mo_readWhole b_Mo_readWhole 4 none lev' 0 [.ref (G.1 + 111), vi a1] M r) (hSF : ∀ (lev' : Nat), N ≤ lev' → ∀ {a1 : Int} {a2 : Int} {M : Mem} {r : Int × Mem}, SF a1 a2 M = some r → Mt l G y_Mo_readFew b_Mo_readFew 3 none lev' 0 [.ref (G.1 + 111), vi a1, vi a2] M r) {a1 : Int} {M : Mem} {r : Int × Mem} (h : d_Mo_readTest SW SF a1 M = some r) : Mt l G y_Mo_readTest b_Mo_readTest 3 none lev 0 [.ref (G.1 + 111), vi a1] M r := by
  refine Mt.of (by decide) (i_le rfl) ?_
  intro p e s m args below meth c C
  have C : Cx p s m args meth c G b_Mo_readTest 3 "PrairiePoolModel" none := C
  unfold d_Mo_readTest at h
  refine z_sub (lv' := [(0, .ref (G.1 + 111)), (1, vi a1)]) [0, 1] rfl ?_
  refine z_aload_n C 0 x_Mo_readTest_0 rfl ?_
  refine z_iload_n C 1 x_Mo_readTest_1 rfl ?_
  obtain ⟨v1, M2, fv1, h⟩ := bcall_e h
  refine z_callVv (k := 111) C x_Mo_readTest_2 cv_Mo_534 (t_Mo_readOne (lev := lev - 1) l G hN (by omega) hSW hSF fv1) nk_111 ck_111 rfl (by omega) rfl (i_le rfl) rfl ?_
  refine z_aload_n C 0 x_Mo_readTest_5 rfl ?_
  obtain ⟨v3, ev3, h⟩ := blet_e h
  refine z_getI (j := 48) C x_Mo_readTest_6 nk_111 ck_111 cw_12 (i_lt rfl) rfl rfl fl_Mo_453 ev3 ?_
  rcases ite_e h with ⟨c4, h⟩ | ⟨c4, h⟩
  · refine z_if_le_f (tgt := 13) C x_Mo_readTest_9 rfl c4 ?_
    exact z_vret C x_Mo_readTest_12 h
  · refine z_if_le_t (tgt := 13) C x_Mo_readTest_9 rfl c4 ?_
    refine z_aload_n C 0 x_Mo_readTest_13 rfl ?_
    obtain ⟨v5, M6, fv5, h⟩ := bcall_e h
    refine z_callVi (k := 111) C x_Mo_readTest_14 cv_Mo_482 (t_Mo_isAnd (lev := lev - 1) l G (by omega) fv5) nk_111 ck_111 rfl (by omega) rfl (i_le rfl) rfl ?_
    refine z_istore_n (lv' := [(2, vi v5), (0, .ref (G.1 + 111)), (1, vi a1)]) C rfl x_Mo_readTest_17 (i_lt rfl) rfl ?_
    exact z_sub [1, 2, 0] rfl (zl_Mo_readTest_18 C hN hlev hSW hSF FU a1 v5 M6 h)
theorem x_Mo_readWhole_0 : DC b_Mo_readWhole 0 (.aload_n 0) 1 1 := ⟨by decide +kernel, rfl⟩
theorem x_Mo_readWhole_1 : DC b_Mo_readWhole 1 (.invokevirtual 513) 3 4 := ⟨by decide +kernel, rfl⟩
theorem x_Mo_readWhole_4 : DC b_Mo_readWhole 4 (.ifCond .ne 7) 3 7 := ⟨by decide +kernel, rfl⟩
theorem x_Mo_readWhole_7 : DC b_Mo_readWhole 7 (.aload_n 0) 1 8 := ⟨by decide +kernel, rfl⟩
theorem x_Mo_readWhole_8 : DC b_Mo_readWhole 8 (.invokevirtual 516) 3 11 := ⟨by decide +kernel, rfl⟩
theorem x_Mo_readWhole_11 : DC b_Mo_readWhole 11 (.iload_n 1) 1 12 := ⟨by decide +kernel, rfl⟩
theorem x_Mo_readWhole_12 : DC b_Mo_readWhole 12 (.bipush 8) 2 14 := ⟨by decide +kernel, rfl⟩
theorem x_Mo_readWhole_14 : DC b_Mo_readWhole 14 (.if_icmp .le 12) 3 17 := ⟨by decide +kernel, rfl⟩
theorem x_Mo_readWhole_17 : DC b_Mo_readWhole 17 (.aload_n 0) 1 18 := ⟨by decide +kernel, rfl⟩
theorem x_Mo_readWhole_18 : DC b_Mo_readWhole 18 (.iconst 5) 1 19 := ⟨by decide +kernel, rfl⟩
theorem x_Mo_readWhole_19 : DC b_Mo_readWhole 19 (.aload_n 0) 1 20 := ⟨by decide +kernel, rfl⟩
theorem x_Mo_readWhole_20 : DC b_Mo_readWhole 20 (.getfield 416) 3 23 := ⟨by decide +kernel, rfl⟩
theorem x_Mo_readWhole_23 : DC b_Mo_readWhole 23 (.invokevirtual 459) 3 26 := ⟨by decide +kernel, rfl⟩
theorem x_Mo_readWhole_26 : DC b_Mo_readWhole 26 (.aload_n 0) 1 27 := ⟨by decide +kernel, rfl⟩
theorem x_Mo_readWhole_27 : DC b_Mo_readWhole 27 (.getfield 453) 3 30 := ⟨by decide +kernel, rfl⟩
theorem x_Mo_readWhole_30 : DC b_Mo_readWhole 30 (.ifCond .le 4) 3 33 := ⟨by decide +kernel, rfl⟩
theorem x_Mo_readWhole_33 : DC b_Mo_readWhole 33 (.return_) 1 34 := ⟨by decide +kernel, rfl⟩
theorem x_Mo_readWhole_34 : DC b_Mo_readWhole 34 (.aload_n 0) 1 35 := ⟨by decide +kernel, rfl⟩
theorem x_Mo_readWhole_35 : DC b_Mo_readWhole 35 (.invokevirtual 472) 3 38 := ⟨by decide +kernel, rfl⟩
theorem x_Mo_readWhole_38 : DC b_Mo_readWhole 38 (.ifCond .ne 9) 3 41 := ⟨by decide +kernel, rfl⟩
theorem x_Mo_readWhole_41 : DC b_Mo_readWhole 41 (.aload_n 0) 1 42 := ⟨by decide +kernel, rfl⟩
theorem x_Mo_readWhole_42 : DC b_Mo_readWhole 42 (.iload_n 1) 1 43 := ⟨by decide +kernel, rfl⟩
theorem x_Mo_readWhole_43 : DC b_Mo_readWhole 43 (.invokevirtual 519) 3 46 := ⟨by decide +kernel, rfl⟩
theorem x_Mo_readWhole_46 : DC b_Mo_readWhole 46 (.return_) 1 47 := ⟨by decide +kernel, rfl⟩
theorem x_Mo_readWhole_47 : DC b_Mo_readWhole 47 (.aload_n 0) 1 48 := ⟨by decide +kernel, rfl⟩
theorem x_Mo_readWhole_48 : DC b_Mo_readWhole 48 (.invokevirtual 522) 3 51 := ⟨by decide +kernel, rfl⟩
theorem x_Mo_readWhole_51 : DC b_Mo_readWhole 51 (.aload_n 0) 1 52 := ⟨by decide +kernel, rfl⟩
theorem x_Mo_readWhole_52 : DC b_Mo_readWhole 52 (.iload_n 1) 1 53 := ⟨by decide +kernel, rfl⟩
theorem x_Mo_readWhole_53 : DC b_Mo_readWhole 53 (.invokevirtual 525) 3 56 := ⟨by decide +kernel, rfl⟩
theorem x_Mo_readWhole_56 : DC b_Mo_readWhole 56 (.aload_n 0) 1 57 := ⟨by decide +kernel, rfl⟩
theorem x_Mo_readWhole_57 : DC b_Mo_readWhole 57 (.getfield 453) 3 60 := ⟨by decide +kernel, rfl⟩
theorem x_Mo_readWhole_60 : DC b_Mo_readWhole 60 (.ifCond .ne 14) 3 63 := ⟨by decide +kernel, rfl⟩
theorem x_Mo_readWhole_63 : DC b_Mo_readWhole 63 (.aload_n 0) 1 64 := ⟨by decide +kernel, rfl⟩
theorem x_Mo_readWhole_64 : DC b_Mo_readWhole 64 (.invokevirtual 476) 3 67 := ⟨by decide +kernel, rfl⟩
theorem x_Mo_readWhole_67 : DC b_Mo_readWhole 67 (.ifCond .ne 7) 3 70 := ⟨by decide +kernel, rfl⟩
theorem x_Mo_readWhole_70 : DC b_Mo_readWhole 70 (.aload_n 0) 1 71 := ⟨by decide +kernel, rfl⟩
theorem x_Mo_readWhole_71 : DC b_Mo_readWhole 71 (.invokevirtual 516) 3 74 := ⟨by decide +kernel, rfl⟩
theorem x_Mo_readWhole_74 : DC b_Mo_readWhole 74 (.aload_n 0) 1 75 := ⟨by decide +kernel, rfl⟩
theorem x_Mo_readWhole_75 : DC b_Mo_readWhole 75 (.getfield 453) 3 78 := ⟨by decide +kernel, rfl⟩
theorem x_Mo_readWhole_78 : DC b_Mo_readWhole 78 (.ifCond .le 4) 3 81 := ⟨by decide +kernel, rfl⟩
theorem x_Mo_readWhole_81 : DC b_Mo_readWhole 81 (.return_) 1 82 := ⟨by decide +kernel, rfl⟩
theorem x_Mo_readWhole_82 : DC b_Mo_readWhole 82 (.aload_n 0) 1 83 := ⟨by decide +kernel, rfl⟩
theorem x_Mo_readWhole_83 : DC b_Mo_readWhole 83 (.getfield 500) 3 86 := ⟨by decide +kernel, rfl⟩
theorem x_Mo_readWhole_86 : DC b_Mo_readWhole 86 (.istore_n 2) 1 87 := ⟨by decide +kernel, rfl⟩
theorem x_Mo_readWhole_87 : DC b_Mo_readWhole 87 (.aload_n 0) 1 88 := ⟨by decide +kernel, rfl⟩
theorem x_Mo_readWhole_88 : DC b_Mo_readWhole 88 (.bipush 15) 2 90 := ⟨by decide +kernel, rfl⟩
theorem x_Mo_readWhole_90 : DC b_Mo_readWhole 90 (.iconst 0) 1 91 := ⟨by decide +kernel, rfl⟩
theorem x_Mo_readWhole_91 : DC b_Mo_readWhole 91 (.invokevirtual 528) 3 94 := ⟨by decide +kernel, rfl⟩
theorem x_Mo_readWhole_94 : DC b_Mo_readWhole 94 (.aload_n 0) 1 95 := ⟨by decide +kernel, rfl⟩
theorem x_Mo_readWhole_95 : DC b_Mo_readWhole 95 (.invokevirtual 522) 3 98 := ⟨by decide +kernel, rfl⟩
theorem x_Mo_readWhole_98 : DC b_Mo_readWhole 98 (.aload_n 0) 1 99 := ⟨by decide +kernel, rfl⟩
theorem x_Mo_readWhole_99 : DC b_Mo_readWhole 99 (.iload_n 1) 1 100 := ⟨by decide +kernel, rfl⟩
theorem x_Mo_readWhole_100 : DC b_Mo_readWhole 100 (.iconst 1) 1 101 := ⟨by decide +kernel, rfl⟩
theorem x_Mo_readWhole_101 : DC b_Mo_readWhole 101 (.iadd) 1 102 := ⟨by decide +kernel, rfl⟩
theorem x_Mo_readWhole_102 : DC b_Mo_readWhole 102 (.invokevirtual 531) 3 105 := ⟨by decide +kernel, rfl⟩
theorem x_Mo_readWhole_105 : DC b_Mo_readWhole 105 (.aload_n 0) 1 106 := ⟨by decide +kernel, rfl⟩
theorem x_Mo_readWhole_106 : DC b_Mo_readWhole 106 (.getfield 453) 3 109 := ⟨by decide +kernel, rfl⟩
theorem x_Mo_readWhole_109 : DC b_Mo_readWhole 109 (.ifCond .ne 14) 3 112 := ⟨by decide +kernel, rfl⟩
theorem x_Mo_readWhole_112 : DC b_Mo_readWhole 112 (.aload_n 0) 1 113 := ⟨by decide +kernel, rfl⟩
theorem x_Mo_readWhole_113 : DC b_Mo_readWhole 113 (.invokevirtual 479) 3 116 := ⟨by decide +kernel, rfl⟩
theorem x_Mo_readWhole_116 : DC b_Mo_readWhole 116 (.ifCond .ne 7) 3 119 := ⟨by decide +kernel, rfl⟩
theorem x_Mo_readWhole_119 : DC b_Mo_readWhole 119 (.aload_n 0) 1 120 := ⟨by decide +kernel, rfl⟩
theorem x_Mo_readWhole_120 : DC b_Mo_readWhole 120 (.invokevirtual 516) 3 123 := ⟨by decide +kernel, rfl⟩
theorem x_Mo_readWhole_123 : DC b_Mo_readWhole 123 (.aload_n 0) 1 124 := ⟨by decide +kernel, rfl⟩
theorem x_Mo_readWhole_124 : DC b_Mo_readWhole 124 (.getfield 453) 3 127 := ⟨by decide +kernel, rfl⟩
theorem x_Mo_readWhole_127 : DC b_Mo_readWhole 127 (.ifCond .le 4) 3 130 := ⟨by decide +kernel, rfl⟩
theorem x_Mo_readWhole_130 : DC b_Mo_readWhole 130 (.return_) 1 131 := ⟨by decide +kernel, rfl⟩
theorem x_Mo_readWhole_131 : DC b_Mo_readWhole 131 (.aload_n 0) 1 132 := ⟨by decide +kernel, rfl⟩
theorem x_Mo_readWhole_132 : DC b_Mo_readWhole 132 (.getfield 500) 3 135 := ⟨by decide +kernel, rfl⟩
theorem x_Mo_readWhole_135 : DC b_Mo_readWhole 135 (.istore_n 3) 1 136 := ⟨by decide +kernel, rfl⟩
theorem x_Mo_readWhole_136 : DC b_Mo_readWhole 136 (.aload_n 0) 1 137 := ⟨by decide +kernel, rfl⟩
theorem x_Mo_readWhole_137 : DC b_Mo_readWhole 137 (.bipush 16) 2 139 := ⟨by decide +kernel, rfl⟩
theorem x_Mo_readWhole_139 : DC b_Mo_readWhole 139 (.iconst 0) 1 140 := ⟨by decide +kernel, rfl⟩
theorem x_Mo_readWhole_140 : DC b_Mo_readWhole 140 (.invokevirtual 528) 3 143 := ⟨by decide +kernel, rfl⟩
theorem x_Mo_readWhole_143 : DC b_Mo_readWhole 143 (.aload_n 0) 1 144 := ⟨by decide +kernel, rfl⟩
theorem x_Mo_readWhole_144 : DC b_Mo_readWhole 144 (.getfield 139) 3 147 := ⟨by decide +kernel, rfl⟩
theorem x_Mo_readWhole_147 : DC b_Mo_readWhole 147 (.iload_n 2) 1 148 := ⟨by decide +kernel, rfl⟩
theorem x_Mo_readWhole_148 : DC b_Mo_readWhole 148 (.dup2) 1 149 := ⟨by decide +kernel, rfl⟩
theorem x_Mo_readWhole_149 : DC b_Mo_readWhole 149 (.iaload) 1 150 := ⟨by decide +kernel, rfl⟩
theorem x_Mo_readWhole_150 : DC b_Mo_readWhole 150 (.aload_n 0) 1 151 := ⟨by decide +kernel, rfl⟩
theorem x_Mo_readWhole_151 : DC b_Mo_readWhole 151 (.getfield 500) 3 154 := ⟨by decide +kernel, rfl⟩
theorem x_Mo_readWhole_154 : DC b_Mo_readWhole 154 (.iadd) 1 155 := ⟨by decide +kernel, rfl⟩
theorem x_Mo_readWhole_155 : DC b_Mo_readWhole 155 (.iastore) 1 156 := ⟨by decide +kernel, rfl⟩
theorem x_Mo_readWhole_156 : DC b_Mo_readWhole 156 (.aload_n 0) 1 157 := ⟨by decide +kernel, rfl⟩
theorem x_Mo_readWhole_157 : DC b_Mo_readWhole 157 (.invokevirtual 522) 3 160 := ⟨by decide +kernel, rfl⟩
theorem x_Mo_readWhole_160 : DC b_Mo_readWhole 160 (.aload_n 0) 1 161 := ⟨by decide +kernel, rfl⟩
theorem x_Mo_readWhole_161 : DC b_Mo_readWhole 161 (.iload_n 1) 1 162 := ⟨by decide +kernel, rfl⟩
theorem x_Mo_readWhole_162 : DC b_Mo_readWhole 162 (.iconst 1) 1 163 := ⟨by decide +kernel, rfl⟩
theorem x_Mo_readWhole_163 : DC b_Mo_readWhole 163 (.iadd) 1 164 := ⟨by decide +kernel, rfl⟩
theorem x_Mo_readWhole_164 : DC b_Mo_readWhole 164 (.invokevirtual 531) 3 167 := ⟨by decide +kernel, rfl⟩
theorem x_Mo_readWhole_167 : DC b_Mo_readWhole 167 (.aload_n 0) 1 168 := ⟨by decide +kernel, rfl⟩
theorem x_Mo_readWhole_168 : DC b_Mo_readWhole 168 (.getfield 139) 3 171 := ⟨by decide +kernel, rfl⟩
theorem x_Mo_readWhole_171 : DC b_Mo_readWhole 171 (.iload_n 3) 1 172 := ⟨by decide +kernel, rfl⟩
theorem x_Mo_readWhole_172 : DC b_Mo_readWhole 172 (.dup2) 1 173 := ⟨by decide +kernel, rfl⟩
theorem x_Mo_readWhole_173 : DC b_Mo_readWhole 173 (.iaload) 1 174 := ⟨by decide +kernel, rfl⟩
theorem x_Mo_readWhole_174 : DC b_Mo_readWhole 174 (.aload_n 0) 1 175 := ⟨by decide +kernel, rfl⟩
theorem x_Mo_readWhole_175 : DC b_Mo_readWhole 175 (.getfield 500) 3 178 := ⟨by decide +kernel, rfl⟩
theorem x_Mo_readWhole_178 : DC b_Mo_readWhole 178 (.iadd) 1 179 := ⟨by decide +kernel, rfl⟩
theorem x_Mo_readWhole_179 : DC b_Mo_readWhole 179 (.iastore) 1 180 := ⟨by decide +kernel, rfl⟩
theorem x_Mo_readWhole_180 : DC b_Mo_readWhole 180 (.return_) 1 181 := ⟨by decide +kernel, rfl⟩
def k_Mo_readWhole_123 (SW : Int → Mem → Res) (SF : Int → Int → Mem → Res) (a1 a2 : Int) (M : Mem) : Res := blet (M 111 48) fun v1 => if 0 < w32 v1 then (some (0, M)) else (blet (M 111 58) fun v3 => bcall (d_Mo_mark 16 0 M) fun v4 M5 => chk (0 ≤ w32 a2 ∧ w32 a2 < 1100) <| blet (M5 152 (ix a2)) fun v7 => blet (M5 111 58) fun v8 => chk (0 ≤ w32 a2 ∧ w32 a2 < 1100) <| blet (sto M5 152 (ix a2) (v7 + v8)) fun M10 => bcall (d_Mo_next M10) fun v11 M12 => bcall (SW (a1 + 1) M12) fun v13 M14 => chk (0 ≤ w32 v3 ∧ w32 v3 < 1100) <| blet (M14 152 (ix v3)) fun v16 => blet (M14 111 58) fun v17 => chk (0 ≤ w32 v3 ∧ w32 v3 < 1100) <| blet (sto M14 152 (ix v3) (v16 + v17)) fun M19 => some (0, M19))
theorem z_Mo_readWhole_123 (C : Cx p s m args meth c G b_Mo_readWhole 4 "PrairiePoolModel" none) {N : Nat} (hN : 20 ≤ N) (hlev : N + 8 ≤ lev) {SW : Int → Mem → Res} {SF : Int → Int → Mem → Res} (hSW : ∀ (lev' : Nat), N ≤ lev' → ∀ {a1 : Int} {M : Mem} {r : Int × Mem}, SW a1 M = some r → Mt l G y_Mo_readWhole b_Mo_readWhole 4 none lev' 0 [.ref (G.1 + 111), vi a1] M r) (hSF : ∀ (lev' : Nat), N ≤ lev' → ∀ {a1 : Int} {a2 : Int} {M : Mem} {r : Int × Mem}, SF a1 a2 M = some r → Mt l G y_Mo_readFew b_Mo_readFew 3 none lev' 0 [.ref (G.1 + 111), vi a1, vi a2] M r) {r : Int × Mem}  {a1 a2 : Int} {M : Mem} (h : k_Mo_readWhole_123 SW SF a1 a2 M = some r) : Z p l e lev s m args below meth c G 4 (MQ below (Qm G 0 r) args s 0 0 (Ab G)) M 123 [(0, .ref (G.1 + 111)), (1, vi a1), (2, vi a2)] [] := by
  unfold k_Mo_readWhole_123 at h
  refine z_aload_n C 0 x_Mo_readWhole_123 rfl ?_
  obtain ⟨v1, ev1, h⟩ := blet_e h
  refine z_getI (j := 48) C x_Mo_readWhole_124 nk_111 ck_111 cw_12 (i_lt rfl) rfl rfl fl_Mo_453 ev1 ?_
  rcases ite_e h with ⟨c2, h⟩ | ⟨c2, h⟩
  · refine z_if_le_f (tgt := 131) C x_Mo_readWhole_127 rfl c2 ?_
    exact z_vret C x_Mo_readWhole_130 h
  · refine z_if_le_t (tgt := 131) C x_Mo_readWhole_127 rfl c2 ?_
    refine z_aload_n C 0 x_Mo_readWhole_131 rfl ?_
    obtain ⟨v3, ev3, h⟩ := blet_e h
    refine z_getI (j := 58) C x_Mo_readWhole_132 nk_111 ck_111 cw_12 (i_lt rfl) rfl rfl fl_Mo_500 ev3 ?_
    refine z_istore_n (lv' := [(3, vi v3), (0, .ref (G.1 + 111)), (1, vi a1), (2, vi a2)]) C rfl x_Mo_readWhole_135 (i_lt rfl) rfl ?_
    refine z_aload_n C 1 x_Mo_readWhole_136 rfl ?_
    refine z_bipush C rfl x_Mo_readWhole_137 ?_
    refine z_iconst C x_Mo_readWhole_139 ?_
    obtain ⟨v4, M5, fv4, h⟩ := bcall_e h
    refine z_callVv (k := 111) C x_Mo_readWhole_140 cv_Mo_528 (t_Mo_mark (lev := lev - 1) l G (by omega) fv4) nk_111 ck_111 rfl (by omega) rfl (i_le rfl) rfl ?_
    refine z_aload_n C 1 x_Mo_readWhole_143 rfl ?_
    refine z_getR (j := 64) C x_Mo_readWhole_144 nk_111 ck_111 cw_12 (i_lt rfl) rfl rf_111_64 rfl fl_Mo_139 ?_
    refine z_iload_n C 3 x_Mo_readWhole_147 rfl ?_
    refine z_dup2 C x_Mo_readWhole_148 rfl rfl ?_
    obtain ⟨c6, h⟩ := chk_e h
    obtain ⟨v7, ev7, h⟩ := blet_e h
    refine z_iald C x_Mo_readWhole_149 nk_152 ck_152 c6 ev7 ?_
    refine z_aload_n C 1 x_Mo_readWhole_150 rfl ?_
    obtain ⟨v8, ev8, h⟩ := blet_e h
    refine z_getI (j := 58) C x_Mo_readWhole_151 nk_111 ck_111 cw_12 (i_lt rfl) rfl rfl fl_Mo_500 ev8 ?_
    refine z_iadd C x_Mo_readWhole_154 ?_
    obtain ⟨c9, h⟩ := chk_e h
    obtain ⟨M10, eM10, h⟩ := blet_e h
    refine z_iast C x_Mo_readWhole_155 nk_152 ck_152 c9 eM10 ?_
    refine z_aload_n C 1 x_Mo_readWhole_156 rfl ?_
    obtain ⟨v11, M12, fv11, h⟩ := bcall_e h
    refine z_callVv (k := 111) C x_Mo_readWhole_157 cv_Mo_522 (t_Mo_next (lev := lev - 1) l G (by omega) fv11) nk_111 ck_111 rfl (by omega) rfl (i_le rfl) rfl ?_
    refine z_aload_n C 1 x_Mo_readWhole_160 rfl ?_
    refine z_iload_n C 2 x_Mo_readWhole_161 rfl ?_
    refine z_iconst C x_Mo_readWhole_162 ?_
    refine z_iadd C x_Mo_readWhole_163 ?_
    obtain ⟨v13, M14, fv13, h⟩ := bcall_e h
    refine z_callVv (k := 111) C x_Mo_readWhole_164 cv_Mo_531 (hSW (lev - 1) (by omega) fv13) nk_111 ck_111 rfl (by omega) rfl (i_le rfl) rfl ?_
    refine z_aload_n C 1 x_Mo_readWhole_167 rfl ?_
    refine z_getR (j := 64) C x_Mo_readWhole_168 nk_111 ck_111 cw_12 (i_lt rfl) rfl rf_111_64 rfl fl_Mo_139 ?_
    refine z_iload_n C 0 x_Mo_readWhole_171 rfl ?_
    refine z_dup2 C x_Mo_readWhole_172 rfl rfl ?_
    obtain ⟨c15, h⟩ := chk_e h
    obtain ⟨v16, ev16, h⟩ := blet_e h
    refine z_iald C x_Mo_readWhole_173 nk_152 ck_152 c15 ev16 ?_
    refine z_aload_n C 1 x_Mo_readWhole_174 rfl ?_
    obtain ⟨v17, ev17, h⟩ := blet_e h
    refine z_getI (j := 58) C x_Mo_readWhole_175 nk_111 ck_111 cw_12 (i_lt rfl) rfl rfl fl_Mo_500 ev17 ?_
    refine z_iadd C x_Mo_readWhole_178 ?_
    obtain ⟨c18, h⟩ := chk_e h
    obtain ⟨M19, eM19, h⟩ := blet_e h
    refine z_iast C x_Mo_readWhole_179 nk_152 ck_152 c18 eM19 ?_
    exact z_vret C x_Mo_readWhole_180 h
def k_Mo_readWhole_74 (SW : Int → Mem → Res) (SF : Int → Int → Mem → Res) (a1 : Int) (M : Mem) : Res := blet (M 111 48) fun v1 => if 0 < w32 v1 then (some (0, M)) else (blet (M 111 58) fun v3 => bcall (d_Mo_mark 15 0 M) fun v4 M5 => bcall (d_Mo_next M5) fun v6 M7 => bcall (SW (a1 + 1) M7) fun v8 M9 => blet (M9 111 48) fun v10 => if w32 v10 = 0 then (bcall (d_Mo_isElse M9) fun v12 M13 => if w32 v12 = 0 then (bcall (d_Mo_wrong M13) fun v15 M16 => k_Mo_readWhole_123 SW SF a1 v3 M16) else (k_Mo_readWhole_123 SW SF a1 v3 M13)) else (k_Mo_readWhole_123 SW SF a1 v3 M9))
theorem z_Mo_readWhole_74 (C : Cx p s m args meth c G b_Mo_readWhole 4 "PrairiePoolModel" none) {N : Nat} (hN : 20 ≤ N) (hlev : N + 8 ≤ lev) {SW : Int → Mem → Res} {SF : Int → Int → Mem → Res} (hSW : ∀ (lev' : Nat), N ≤ lev' → ∀ {a1 : Int} {M : Mem} {r : Int × Mem}, SW a1 M = some r → Mt l G y_Mo_readWhole b_Mo_readWhole 4 none lev' 0 [.ref (G.1 + 111), vi a1] M r) (hSF : ∀ (lev' : Nat), N ≤ lev' → ∀ {a1 : Int} {a2 : Int} {M : Mem} {r : Int × Mem}, SF a1 a2 M = some r → Mt l G y_Mo_readFew b_Mo_readFew 3 none lev' 0 [.ref (G.1 + 111), vi a1, vi a2] M r) {r : Int × Mem}  {a1 : Int} {M : Mem} (h : k_Mo_readWhole_74 SW SF a1 M = some r) : Z p l e lev s m args below meth c G 4 (MQ below (Qm G 0 r) args s 0 0 (Ab G)) M 74 [(0, .ref (G.1 + 111)), (1, vi a1)] [] := by
  unfold k_Mo_readWhole_74 at h
  refine z_aload_n C 0 x_Mo_readWhole_74 rfl ?_
  obtain ⟨v1, ev1, h⟩ := blet_e h
  refine z_getI (j := 48) C x_Mo_readWhole_75 nk_111 ck_111 cw_12 (i_lt rfl) rfl rfl fl_Mo_453 ev1 ?_
  rcases ite_e h with ⟨c2, h⟩ | ⟨c2, h⟩
  · refine z_if_le_f (tgt := 82) C x_Mo_readWhole_78 rfl c2 ?_
    exact z_vret C x_Mo_readWhole_81 h
  · refine z_if_le_t (tgt := 82) C x_Mo_readWhole_78 rfl c2 ?_
    refine z_aload_n C 0 x_Mo_readWhole_82 rfl ?_
    obtain ⟨v3, ev3, h⟩ := blet_e h
    refine z_getI (j := 58) C x_Mo_readWhole_83 nk_111 ck_111 cw_12 (i_lt rfl) rfl rfl fl_Mo_500 ev3 ?_
    refine z_istore_n (lv' := [(2, vi v3), (0, .ref (G.1 + 111)), (1, vi a1)]) C rfl x_Mo_readWhole_86 (i_lt rfl) rfl ?_
    refine z_aload_n C 1 x_Mo_readWhole_87 rfl ?_
    refine z_bipush C rfl x_Mo_readWhole_88 ?_
    refine z_iconst C x_Mo_readWhole_90 ?_
    obtain ⟨v4, M5, fv4, h⟩ := bcall_e h
    refine z_callVv (k := 111) C x_Mo_readWhole_91 cv_Mo_528 (t_Mo_mark (lev := lev - 1) l G (by omega) fv4) nk_111 ck_111 rfl (by omega) rfl (i_le rfl) rfl ?_
    refine z_aload_n C 1 x_Mo_readWhole_94 rfl ?_
    obtain ⟨v6, M7, fv6, h⟩ := bcall_e h
    refine z_callVv (k := 111) C x_Mo_readWhole_95 cv_Mo_522 (t_Mo_next (lev := lev - 1) l G (by omega) fv6) nk_111 ck_111 rfl (by omega) rfl (i_le rfl) rfl ?_
    refine z_aload_n C 1 x_Mo_readWhole_98 rfl ?_
    refine z_iload_n C 2 x_Mo_readWhole_99 rfl ?_
    refine z_iconst C x_Mo_readWhole_100 ?_
    refine z_iadd C x_Mo_readWhole_101 ?_
    obtain ⟨v8, M9, fv8, h⟩ := bcall_e h
    refine z_callVv (k := 111) C x_Mo_readWhole_102 cv_Mo_531 (hSW (lev - 1) (by omega) fv8) nk_111 ck_111 rfl (by omega) rfl (i_le rfl) rfl ?_
    refine z_aload_n C 1 x_Mo_readWhole_105 rfl ?_
    obtain ⟨v10, ev10, h⟩ := blet_e h
    refine z_getI (j := 48) C x_Mo_readWhole_106 nk_111 ck_111 cw_12 (i_lt rfl) rfl rfl fl_Mo_453 ev10 ?_
    rcases ite_e h with ⟨c11, h⟩ | ⟨c11, h⟩
    · refine z_if_ne_f (tgt := 123) C x_Mo_readWhole_109 rfl c11 ?_
      refine z_aload_n C 1 x_Mo_readWhole_112 rfl ?_
      obtain ⟨v12, M13, fv12, h⟩ := bcall_e h
      refine z_callVi (k := 111) C x_Mo_readWhole_113 cv_Mo_479 (t_Mo_isElse (lev := lev - 1) l G (by omega) fv12) nk_111 ck_111 rfl (by omega) rfl (i_le rfl) rfl ?_
      rcases ite_e h with ⟨c14, h⟩ | ⟨c14, h⟩
      · refine z_if_ne_f (tgt := 123) C x_Mo_readWhole_116 rfl c14 ?_
        refine z_aload_n C 1 x_Mo_readWhole_119 rfl ?_
        obtain ⟨v15, M16, fv15, h⟩ := bcall_e h
        refine z_callVv (k := 111) C x_Mo_readWhole_120 cv_Mo_516 (t_Mo_wrong (lev := lev - 1) l G (by omega) fv15) nk_111 ck_111 rfl (by omega) rfl (i_le rfl) rfl ?_
        exact z_sub [1, 2, 0] rfl (z_Mo_readWhole_123 C hN hlev hSW hSF h)
      · refine z_if_ne_t (tgt := 123) C x_Mo_readWhole_116 rfl c14 ?_
        exact z_sub [1, 2, 0] rfl (z_Mo_readWhole_123 C hN hlev hSW hSF h)
    · refine z_if_ne_t (tgt := 123) C x_Mo_readWhole_109 rfl c11 ?_
      exact z_sub [1, 2, 0] rfl (z_Mo_readWhole_123 C hN hlev hSW hSF h)
def k_Mo_readWhole_26 (SW : Int → Mem → Res) (SF : Int → Int → Mem → Res) (a1 : Int) (M : Mem) : Res := blet (M 111 48) fun v1 => if 0 < w32 v1 then (some (0, M)) else (bcall (d_Mo_isIf M) fun v3 M4 => if w32 v3 = 0 then (bcall (d_Mo_readSum SW SF a1 M4) fun v6 M7 => some (0, M7)) else (bcall (d_Mo_next M4) fun v8 M9 => bcall (d_Mo_readTest SW SF a1 M9) fun v10 M11 => blet (M11 111 48) fun v12 => if w32 v12 = 0 then (bcall (d_Mo_isThen M11) fun v14 M15 => if w32 v14 = 0 then (bcall (d_Mo_wrong M15) fun v17 M18 => k_Mo_readWhole_74 SW SF a1 M18) else (k_Mo_readWhole_74 SW SF a1 M15)) else (k_Mo_readWhole_74 SW SF a1 M11)))
theorem z_Mo_readWhole_26 (C : Cx p s m args meth c G b_Mo_readWhole 4 "PrairiePoolModel" none) {N : Nat} (hN : 20 ≤ N) (hlev : N + 8 ≤ lev) {SW : Int → Mem → Res} {SF : Int → Int → Mem → Res} (hSW : ∀ (lev' : Nat), N ≤ lev' → ∀ {a1 : Int} {M : Mem} {r : Int × Mem}, SW a1 M = some r → Mt l G y_Mo_readWhole b_Mo_readWhole 4 none lev' 0 [.ref (G.1 + 111), vi a1] M r) (hSF : ∀ (lev' : Nat), N ≤ lev' → ∀ {a1 : Int} {a2 : Int} {M : Mem} {r : Int × Mem}, SF a1 a2 M = some r → Mt l G y_Mo_readFew b_Mo_readFew 3 none lev' 0 [.ref (G.1 + 111), vi a1, vi a2] M r) {r : Int × Mem}  {a1 : Int} {M : Mem} (h : k_Mo_readWhole_26 SW SF a1 M = some r) : Z p l e lev s m args below meth c G 4 (MQ below (Qm G 0 r) args s 0 0 (Ab G)) M 26 [(0, .ref (G.1 + 111)), (1, vi a1)] [] := by
  unfold k_Mo_readWhole_26 at h
  refine z_aload_n C 0 x_Mo_readWhole_26 rfl ?_
  obtain ⟨v1, ev1, h⟩ := blet_e h
  refine z_getI (j := 48) C x_Mo_readWhole_27 nk_111 ck_111 cw_12 (i_lt rfl) rfl rfl fl_Mo_453 ev1 ?_
  rcases ite_e h with ⟨c2, h⟩ | ⟨c2, h⟩
  · refine z_if_le_f (tgt := 34) C x_Mo_readWhole_30 rfl c2 ?_
    exact z_vret C x_Mo_readWhole_33 h
  · refine z_if_le_t (tgt := 34) C x_Mo_readWhole_30 rfl c2 ?_
    refine z_aload_n C 0 x_Mo_readWhole_34 rfl ?_
    obtain ⟨v3, M4, fv3, h⟩ := bcall_e h
    refine z_callVi (k := 111) C x_Mo_readWhole_35 cv_Mo_472 (t_Mo_isIf (lev := lev - 1) l G (by omega) fv3) nk_111 ck_111 rfl (by omega) rfl (i_le rfl) rfl ?_
    rcases ite_e h with ⟨c5, h⟩ | ⟨c5, h⟩
    · refine z_if_ne_f (tgt := 47) C x_Mo_readWhole_38 rfl c5 ?_
      refine z_aload_n C 0 x_Mo_readWhole_41 rfl ?_
      refine z_iload_n C 1 x_Mo_readWhole_42 rfl ?_
      obtain ⟨v6, M7, fv6, h⟩ := bcall_e h
      refine z_callVv (k := 111) C x_Mo_readWhole_43 cv_Mo_519 (t_Mo_readSum (lev := lev - 1) l G hN (by omega) hSW hSF fv6) nk_111 ck_111 rfl (by omega) rfl (i_le rfl) rfl ?_
      exact z_vret C x_Mo_readWhole_46 h
    · refine z_if_ne_t (tgt := 47) C x_Mo_readWhole_38 rfl c5 ?_
      refine z_aload_n C 0 x_Mo_readWhole_47 rfl ?_
      obtain ⟨v8, M9, fv8, h⟩ := bcall_e h
      refine z_callVv (k := 111) C x_Mo_readWhole_48 cv_Mo_522 (t_Mo_next (lev := lev - 1) l G (by omega) fv8) nk_111 ck_111 rfl (by omega) rfl (i_le rfl) rfl ?_
      refine z_aload_n C 0 x_Mo_readWhole_51 rfl ?_
      refine z_iload_n C 1 x_Mo_readWhole_52 rfl ?_
      obtain ⟨v10, M11, fv10, h⟩ := bcall_e h
      refine z_callVv (k := 111) C x_Mo_readWhole_53 cv_Mo_525 (t_Mo_readTest (lev := lev - 1) l G hN (by omega) hSW hSF fv10) nk_111 ck_111 rfl (by omega) rfl (i_le rfl) rfl ?_
      refine z_aload_n C 0 x_Mo_readWhole_56 rfl ?_
      obtain ⟨v12, ev12, h⟩ := blet_e h
      refine z_getI (j := 48) C x_Mo_readWhole_57 nk_111 ck_111 cw_12 (i_lt rfl) rfl rfl fl_Mo_453 ev12 ?_
      rcases ite_e h with ⟨c13, h⟩ | ⟨c13, h⟩
      · refine z_if_ne_f (tgt := 74) C x_Mo_readWhole_60 rfl c13 ?_
        refine z_aload_n C 0 x_Mo_readWhole_63 rfl ?_
        obtain ⟨v14, M15, fv14, h⟩ := bcall_e h
        refine z_callVi (k := 111) C x_Mo_readWhole_64 cv_Mo_476 (t_Mo_isThen (lev := lev - 1) l G (by omega) fv14) nk_111 ck_111 rfl (by omega) rfl (i_le rfl) rfl ?_
        rcases ite_e h with ⟨c16, h⟩ | ⟨c16, h⟩
        · refine z_if_ne_f (tgt := 74) C x_Mo_readWhole_67 rfl c16 ?_
          refine z_aload_n C 0 x_Mo_readWhole_70 rfl ?_
          obtain ⟨v17, M18, fv17, h⟩ := bcall_e h
          refine z_callVv (k := 111) C x_Mo_readWhole_71 cv_Mo_516 (t_Mo_wrong (lev := lev - 1) l G (by omega) fv17) nk_111 ck_111 rfl (by omega) rfl (i_le rfl) rfl ?_
          exact z_sub [0, 1] rfl (z_Mo_readWhole_74 C hN hlev hSW hSF h)
        · refine z_if_ne_t (tgt := 74) C x_Mo_readWhole_67 rfl c16 ?_
          exact z_sub [0, 1] rfl (z_Mo_readWhole_74 C hN hlev hSW hSF h)
      · refine z_if_ne_t (tgt := 74) C x_Mo_readWhole_60 rfl c13 ?_
        exact z_sub [0, 1] rfl (z_Mo_readWhole_74 C hN hlev hSW hSF h)
def k_Mo_readWhole_11 (SW : Int → Mem → Res) (SF : Int → Int → Mem → Res) (a1 : Int) (M : Mem) : Res := if 8 < w32 a1 then (blet (M 111 51) fun v2 => bcall (d_Mo_fail 5 v2 M) fun v3 M4 => k_Mo_readWhole_26 SW SF a1 M4) else (k_Mo_readWhole_26 SW SF a1 M)
theorem z_Mo_readWhole_11 (C : Cx p s m args meth c G b_Mo_readWhole 4 "PrairiePoolModel" none) {N : Nat} (hN : 20 ≤ N) (hlev : N + 8 ≤ lev) {SW : Int → Mem → Res} {SF : Int → Int → Mem → Res} (hSW : ∀ (lev' : Nat), N ≤ lev' → ∀ {a1 : Int} {M : Mem} {r : Int × Mem}, SW a1 M = some r → Mt l G y_Mo_readWhole b_Mo_readWhole 4 none lev' 0 [.ref (G.1 + 111), vi a1] M r) (hSF : ∀ (lev' : Nat), N ≤ lev' → ∀ {a1 : Int} {a2 : Int} {M : Mem} {r : Int × Mem}, SF a1 a2 M = some r → Mt l G y_Mo_readFew b_Mo_readFew 3 none lev' 0 [.ref (G.1 + 111), vi a1, vi a2] M r) {r : Int × Mem}  {a1 : Int} {M : Mem} (h : k_Mo_readWhole_11 SW SF a1 M = some r) : Z p l e lev s m args below meth c G 4 (MQ below (Qm G 0 r) args s 0 0 (Ab G)) M 11 [(0, .ref (G.1 + 111)), (1, vi a1)] [] := by
  unfold k_Mo_readWhole_11 at h
  refine z_iload_n C 1 x_Mo_readWhole_11 rfl ?_
  refine z_bipush C rfl x_Mo_readWhole_12 ?_
  rcases ite_e h with ⟨c1, h⟩ | ⟨c1, h⟩
  · refine z_icmp_le_f (tgt := 26) C x_Mo_readWhole_14 rfl c1 ?_
    refine z_aload_n C 0 x_Mo_readWhole_17 rfl ?_
    refine z_iconst C x_Mo_readWhole_18 ?_
    refine z_aload_n C 0 x_Mo_readWhole_19 rfl ?_
    obtain ⟨v2, ev2, h⟩ := blet_e h
    refine z_getI (j := 51) C x_Mo_readWhole_20 nk_111 ck_111 cw_12 (i_lt rfl) rfl rfl fl_Mo_416 ev2 ?_
    obtain ⟨v3, M4, fv3, h⟩ := bcall_e h
    refine z_callVv (k := 111) C x_Mo_readWhole_23 cv_Mo_459 (t_Mo_fail (lev := lev - 1) l G (by omega) fv3) nk_111 ck_111 rfl (by omega) rfl (i_le rfl) rfl ?_
    exact z_sub [0, 1] rfl (z_Mo_readWhole_26 C hN hlev hSW hSF h)
  · refine z_icmp_le_t (tgt := 26) C x_Mo_readWhole_14 rfl c1 ?_
    exact z_sub [0, 1] rfl (z_Mo_readWhole_26 C hN hlev hSW hSF h)
def d_Mo_readWhole (SW : Int → Mem → Res) (SF : Int → Int → Mem → Res) (a1 : Int) (M : Mem) : Res := bcall (d_Mo_canBegin M) fun v1 M2 => if w32 v1 = 0 then (bcall (d_Mo_wrong M2) fun v4 M5 => k_Mo_readWhole_11 SW SF a1 M5) else (k_Mo_readWhole_11 SW SF a1 M2)
theorem t_Mo_readWhole (l : Launch) (G : GX) {lev : Nat} {N : Nat} (hN : 20 ≤ N) (hlev : N + 8 ≤ lev) {SW : Int → Mem → Res} {SF : Int → Int → Mem → Res} (hSW : ∀ (lev' : Nat), N ≤ lev' → ∀ {a1 : Int} {M : Mem} {r : Int × Mem}, SW a1 M = some r → Mt l G y_Mo_readWhole b_Mo_readWhole 4 none lev' 0 [.ref (G.1 + 111), vi a1] M r) (hSF : ∀ (lev' : Nat), N ≤ lev' → ∀ {a1 : Int} {a2 : Int} {M : Mem} {r : Int × Mem}, SF a1 a2 M = some r → Mt l G y_Mo_readFew b_Mo_readFew 3 none lev' 0 [.ref (G.1 + 111), vi a1, vi a2] M r) {a1 : Int} {M : Mem} {r : Int × Mem} (h : d_Mo_readWhole SW SF a1 M = some r) : Mt l G y_Mo_readWhole b_Mo_readWhole 4 none lev 0 [.ref (G.1 + 111), vi a1] M r := by
  refine Mt.of (by decide) (i_le rfl) ?_
  intro p e s m args below meth c C
  have C : Cx p s m args meth c G b_Mo_readWhole 4 "PrairiePoolModel" none := C
  unfold d_Mo_readWhole at h
  refine z_sub (lv' := [(0, .ref (G.1 + 111)), (1, vi a1)]) [0, 1] rfl ?_
  refine z_aload_n C 0 x_Mo_readWhole_0 rfl ?_
  obtain ⟨v1, M2, fv1, h⟩ := bcall_e h
  refine z_callVi (k := 111) C x_Mo_readWhole_1 cv_Mo_513 (t_Mo_canBegin (lev := lev - 1) l G (by omega) fv1) nk_111 ck_111 rfl (by omega) rfl (i_le rfl) rfl ?_
  rcases ite_e h with ⟨c3, h⟩ | ⟨c3, h⟩
  · refine z_if_ne_f (tgt := 11) C x_Mo_readWhole_4 rfl c3 ?_
    refine z_aload_n C 0 x_Mo_readWhole_7 rfl ?_
    obtain ⟨v4, M5, fv4, h⟩ := bcall_e h
    refine z_callVv (k := 111) C x_Mo_readWhole_8 cv_Mo_516 (t_Mo_wrong (lev := lev - 1) l G (by omega) fv4) nk_111 ck_111 rfl (by omega) rfl (i_le rfl) rfl ?_
    exact z_sub [0, 1] rfl (z_Mo_readWhole_11 C hN hlev hSW hSF h)
  · refine z_if_ne_t (tgt := 11) C x_Mo_readWhole_4 rfl c3 ?_
    exact z_sub [0, 1] rfl (z_Mo_readWhole_11 C hN hlev hSW hSF h)
theorem x_Mo_readDeeper_0 : DC b_Mo_readDeeper 0 (.aload_n 0) 1 1 := ⟨by decide +kernel, rfl⟩
theorem x_Mo_readDeeper_1 : DC b_Mo_readDeeper 1 (.invokevirtual 504) 3 4 := ⟨by decide +kernel, rfl⟩
theorem x_Mo_readDeeper_4 : DC b_Mo_readDeeper 4 (.ifCond .ne 7) 3 7 := ⟨by decide +kernel, rfl⟩
theorem x_Mo_readDeeper_7 : DC b_Mo_readDeeper 7 (.aload_n 0) 1 8 := ⟨by decide +kernel, rfl⟩
theorem x_Mo_readDeeper_8 : DC b_Mo_readDeeper 8 (.invokevirtual 516) 3 11 := ⟨by decide +kernel, rfl⟩
theorem x_Mo_readDeeper_11 : DC b_Mo_readDeeper 11 (.iload_n 1) 1 12 := ⟨by decide +kernel, rfl⟩
theorem x_Mo_readDeeper_12 : DC b_Mo_readDeeper 12 (.bipush 8) 2 14 := ⟨by decide +kernel, rfl⟩
theorem x_Mo_readDeeper_14 : DC b_Mo_readDeeper 14 (.if_icmp .le 12) 3 17 := ⟨by decide +kernel, rfl⟩
theorem x_Mo_readDeeper_17 : DC b_Mo_readDeeper 17 (.aload_n 0) 1 18 := ⟨by decide +kernel, rfl⟩
theorem x_Mo_readDeeper_18 : DC b_Mo_readDeeper 18 (.iconst 5) 1 19 := ⟨by decide +kernel, rfl⟩
theorem x_Mo_readDeeper_19 : DC b_Mo_readDeeper 19 (.aload_n 0) 1 20 := ⟨by decide +kernel, rfl⟩
theorem x_Mo_readDeeper_20 : DC b_Mo_readDeeper 20 (.getfield 416) 3 23 := ⟨by decide +kernel, rfl⟩
theorem x_Mo_readDeeper_23 : DC b_Mo_readDeeper 23 (.invokevirtual 459) 3 26 := ⟨by decide +kernel, rfl⟩
theorem x_Mo_readDeeper_26 : DC b_Mo_readDeeper 26 (.aload_n 0) 1 27 := ⟨by decide +kernel, rfl⟩
theorem x_Mo_readDeeper_27 : DC b_Mo_readDeeper 27 (.getfield 453) 3 30 := ⟨by decide +kernel, rfl⟩
theorem x_Mo_readDeeper_30 : DC b_Mo_readDeeper 30 (.ifCond .ne 8) 3 33 := ⟨by decide +kernel, rfl⟩
theorem x_Mo_readDeeper_33 : DC b_Mo_readDeeper 33 (.aload_n 0) 1 34 := ⟨by decide +kernel, rfl⟩
theorem x_Mo_readDeeper_34 : DC b_Mo_readDeeper 34 (.iload_n 1) 1 35 := ⟨by decide +kernel, rfl⟩
theorem x_Mo_readDeeper_35 : DC b_Mo_readDeeper 35 (.invokevirtual 519) 3 38 := ⟨by decide +kernel, rfl⟩
theorem x_Mo_readDeeper_38 : DC b_Mo_readDeeper 38 (.return_) 1 39 := ⟨by decide +kernel, rfl⟩
def k_Mo_readDeeper_26 (SW : Int → Mem → Res) (SF : Int → Int → Mem → Res) (a1 : Int) (M : Mem) : Res := blet (M 111 48) fun v1 => if w32 v1 = 0 then (bcall (d_Mo_readSum SW SF a1 M) fun v3 M4 => some (0, M4)) else (some (0, M))
theorem z_Mo_readDeeper_26 (C : Cx p s m args meth c G b_Mo_readDeeper 2 "PrairiePoolModel" none) {N : Nat} (hN : 20 ≤ N) (hlev : N + 6 ≤ lev) {SW : Int → Mem → Res} {SF : Int → Int → Mem → Res} (hSW : ∀ (lev' : Nat), N ≤ lev' → ∀ {a1 : Int} {M : Mem} {r : Int × Mem}, SW a1 M = some r → Mt l G y_Mo_readWhole b_Mo_readWhole 4 none lev' 0 [.ref (G.1 + 111), vi a1] M r) (hSF : ∀ (lev' : Nat), N ≤ lev' → ∀ {a1 : Int} {a2 : Int} {M : Mem} {r : Int × Mem}, SF a1 a2 M = some r → Mt l G y_Mo_readFew b_Mo_readFew 3 none lev' 0 [.ref (G.1 + 111), vi a1, vi a2] M r) {r : Int × Mem}  {a1 : Int} {M : Mem} (h : k_Mo_readDeeper_26 SW SF a1 M = some r) : Z p l e lev s m args below meth c G 2 (MQ below (Qm G 0 r) args s 0 0 (Ab G)) M 26 [(0, .ref (G.1 + 111)), (1, vi a1)] [] := by
  unfold k_Mo_readDeeper_26 at h
  refine z_aload_n C 0 x_Mo_readDeeper_26 rfl ?_
  obtain ⟨v1, ev1, h⟩ := blet_e h
  refine z_getI (j := 48) C x_Mo_readDeeper_27 nk_111 ck_111 cw_12 (i_lt rfl) rfl rfl fl_Mo_453 ev1 ?_
  rcases ite_e h with ⟨c2, h⟩ | ⟨c2, h⟩
  · refine z_if_ne_f (tgt := 38) C x_Mo_readDeeper_30 rfl c2 ?_
    refine z_aload_n C 0 x_Mo_readDeeper_33 rfl ?_
    refine z_iload_n C 1 x_Mo_readDeeper_34 rfl ?_
    obtain ⟨v3, M4, fv3, h⟩ := bcall_e h
    refine z_callVv (k := 111) C x_Mo_readDeeper_35 cv_Mo_519 (t_Mo_readSum (lev := lev - 1) l G hN (by omega) hSW hSF fv3) nk_111 ck_111 rfl (by omega) rfl (i_le rfl) rfl ?_
    exact z_vret C x_Mo_readDeeper_38 h
  · refine z_if_ne_t (tgt := 38) C x_Mo_readDeeper_30 rfl c2 ?_
    exact z_vret C x_Mo_readDeeper_38 h
def k_Mo_readDeeper_11 (SW : Int → Mem → Res) (SF : Int → Int → Mem → Res) (a1 : Int) (M : Mem) : Res := if 8 < w32 a1 then (blet (M 111 51) fun v2 => bcall (d_Mo_fail 5 v2 M) fun v3 M4 => k_Mo_readDeeper_26 SW SF a1 M4) else (k_Mo_readDeeper_26 SW SF a1 M)
theorem z_Mo_readDeeper_11 (C : Cx p s m args meth c G b_Mo_readDeeper 2 "PrairiePoolModel" none) {N : Nat} (hN : 20 ≤ N) (hlev : N + 6 ≤ lev) {SW : Int → Mem → Res} {SF : Int → Int → Mem → Res} (hSW : ∀ (lev' : Nat), N ≤ lev' → ∀ {a1 : Int} {M : Mem} {r : Int × Mem}, SW a1 M = some r → Mt l G y_Mo_readWhole b_Mo_readWhole 4 none lev' 0 [.ref (G.1 + 111), vi a1] M r) (hSF : ∀ (lev' : Nat), N ≤ lev' → ∀ {a1 : Int} {a2 : Int} {M : Mem} {r : Int × Mem}, SF a1 a2 M = some r → Mt l G y_Mo_readFew b_Mo_readFew 3 none lev' 0 [.ref (G.1 + 111), vi a1, vi a2] M r) {r : Int × Mem}  {a1 : Int} {M : Mem} (h : k_Mo_readDeeper_11 SW SF a1 M = some r) : Z p l e lev s m args below meth c G 2 (MQ below (Qm G 0 r) args s 0 0 (Ab G)) M 11 [(0, .ref (G.1 + 111)), (1, vi a1)] [] := by
  unfold k_Mo_readDeeper_11 at h
  refine z_iload_n C 1 x_Mo_readDeeper_11 rfl ?_
  refine z_bipush C rfl x_Mo_readDeeper_12 ?_
  rcases ite_e h with ⟨c1, h⟩ | ⟨c1, h⟩
  · refine z_icmp_le_f (tgt := 26) C x_Mo_readDeeper_14 rfl c1 ?_
    refine z_aload_n C 0 x_Mo_readDeeper_17 rfl ?_
    refine z_iconst C x_Mo_readDeeper_18 ?_
    refine z_aload_n C 0 x_Mo_readDeeper_19 rfl ?_
    obtain ⟨v2, ev2, h⟩ := blet_e h
    refine z_getI (j := 51) C x_Mo_readDeeper_20 nk_111 ck_111 cw_12 (i_lt rfl) rfl rfl fl_Mo_416 ev2 ?_
    obtain ⟨v3, M4, fv3, h⟩ := bcall_e h
    refine z_callVv (k := 111) C x_Mo_readDeeper_23 cv_Mo_459 (t_Mo_fail (lev := lev - 1) l G (by omega) fv3) nk_111 ck_111 rfl (by omega) rfl (i_le rfl) rfl ?_
    exact z_sub [0, 1] rfl (z_Mo_readDeeper_26 C hN hlev hSW hSF h)
  · refine z_icmp_le_t (tgt := 26) C x_Mo_readDeeper_14 rfl c1 ?_
    exact z_sub [0, 1] rfl (z_Mo_readDeeper_26 C hN hlev hSW hSF h)
def d_Mo_readDeeper (SW : Int → Mem → Res) (SF : Int → Int → Mem → Res) (a1 : Int) (M : Mem) : Res := bcall (d_Mo_canBeginSum M) fun v1 M2 => if w32 v1 = 0 then (bcall (d_Mo_wrong M2) fun v4 M5 => k_Mo_readDeeper_11 SW SF a1 M5) else (k_Mo_readDeeper_11 SW SF a1 M2)
theorem t_Mo_readDeeper (l : Launch) (G : GX) {lev : Nat} {N : Nat} (hN : 20 ≤ N) (hlev : N + 6 ≤ lev) {SW : Int → Mem → Res} {SF : Int → Int → Mem → Res} (hSW : ∀ (lev' : Nat), N ≤ lev' → ∀ {a1 : Int} {M : Mem} {r : Int × Mem}, SW a1 M = some r → Mt l G y_Mo_readWhole b_Mo_readWhole 4 none lev' 0 [.ref (G.1 + 111), vi a1] M r) (hSF : ∀ (lev' : Nat), N ≤ lev' → ∀ {a1 : Int} {a2 : Int} {M : Mem} {r : Int × Mem}, SF a1 a2 M = some r → Mt l G y_Mo_readFew b_Mo_readFew 3 none lev' 0 [.ref (G.1 + 111), vi a1, vi a2] M r) {a1 : Int} {M : Mem} {r : Int × Mem} (h : d_Mo_readDeeper SW SF a1 M = some r) : Mt l G y_Mo_readDeeper b_Mo_readDeeper 2 none lev 0 [.ref (G.1 + 111), vi a1] M r := by
  refine Mt.of (by decide) (i_le rfl) ?_
  intro p e s m args below meth c C
  have C : Cx p s m args meth c G b_Mo_readDeeper 2 "PrairiePoolModel" none := C
  unfold d_Mo_readDeeper at h
  refine z_sub (lv' := [(0, .ref (G.1 + 111)), (1, vi a1)]) [0, 1] rfl ?_
  refine z_aload_n C 0 x_Mo_readDeeper_0 rfl ?_
  obtain ⟨v1, M2, fv1, h⟩ := bcall_e h
  refine z_callVi (k := 111) C x_Mo_readDeeper_1 cv_Mo_504 (t_Mo_canBeginSum (lev := lev - 1) l G (by omega) fv1) nk_111 ck_111 rfl (by omega) rfl (i_le rfl) rfl ?_
  rcases ite_e h with ⟨c3, h⟩ | ⟨c3, h⟩
  · refine z_if_ne_f (tgt := 11) C x_Mo_readDeeper_4 rfl c3 ?_
    refine z_aload_n C 0 x_Mo_readDeeper_7 rfl ?_
    obtain ⟨v4, M5, fv4, h⟩ := bcall_e h
    refine z_callVv (k := 111) C x_Mo_readDeeper_8 cv_Mo_516 (t_Mo_wrong (lev := lev - 1) l G (by omega) fv4) nk_111 ck_111 rfl (by omega) rfl (i_le rfl) rfl ?_
    exact z_sub [0, 1] rfl (z_Mo_readDeeper_11 C hN hlev hSW hSF h)
  · refine z_if_ne_t (tgt := 11) C x_Mo_readDeeper_4 rfl c3 ?_
    exact z_sub [0, 1] rfl (z_Mo_readDeeper_11 C hN hlev hSW hSF h)
theorem x_Mo_readFew_0 : DC b_Mo_readFew 0 (.aload_n 0) 1 1 := ⟨by decide +kernel, rfl⟩
theorem x_Mo_readFew_1 : DC b_Mo_readFew 1 (.invokevirtual 522) 3 4 := ⟨by decide +kernel, rfl⟩
theorem x_Mo_readFew_4 : DC b_Mo_readFew 4 (.aload_n 0) 1 5 := ⟨by decide +kernel, rfl⟩
theorem x_Mo_readFew_5 : DC b_Mo_readFew 5 (.bipush 40) 2 7 := ⟨by decide +kernel, rfl⟩
theorem x_Mo_readFew_7 : DC b_Mo_readFew 7 (.invokevirtual 507) 3 10 := ⟨by decide +kernel, rfl⟩
theorem x_Mo_readFew_10 : DC b_Mo_readFew 10 (.ifCond .ne 8) 3 13 := ⟨by decide +kernel, rfl⟩
theorem x_Mo_readFew_13 : DC b_Mo_readFew 13 (.aload_n 0) 1 14 := ⟨by decide +kernel, rfl⟩
theorem x_Mo_readFew_14 : DC b_Mo_readFew 14 (.invokevirtual 516) 3 17 := ⟨by decide +kernel, rfl⟩
theorem x_Mo_readFew_17 : DC b_Mo_readFew 17 (.return_) 1 18 := ⟨by decide +kernel, rfl⟩
theorem x_Mo_readFew_18 : DC b_Mo_readFew 18 (.aload_n 0) 1 19 := ⟨by decide +kernel, rfl⟩
theorem x_Mo_readFew_19 : DC b_Mo_readFew 19 (.invokevirtual 522) 3 22 := ⟨by decide +kernel, rfl⟩
theorem x_Mo_readFew_22 : DC b_Mo_readFew 22 (.aload_n 0) 1 23 := ⟨by decide +kernel, rfl⟩
theorem x_Mo_readFew_23 : DC b_Mo_readFew 23 (.iload_n 1) 1 24 := ⟨by decide +kernel, rfl⟩
theorem x_Mo_readFew_24 : DC b_Mo_readFew 24 (.iconst 1) 1 25 := ⟨by decide +kernel, rfl⟩
theorem x_Mo_readFew_25 : DC b_Mo_readFew 25 (.iadd) 1 26 := ⟨by decide +kernel, rfl⟩
theorem x_Mo_readFew_26 : DC b_Mo_readFew 26 (.invokevirtual 553) 3 29 := ⟨by decide +kernel, rfl⟩
theorem x_Mo_readFew_29 : DC b_Mo_readFew 29 (.aload_n 0) 1 30 := ⟨by decide +kernel, rfl⟩
theorem x_Mo_readFew_30 : DC b_Mo_readFew 30 (.getfield 453) 3 33 := ⟨by decide +kernel, rfl⟩
theorem x_Mo_readFew_33 : DC b_Mo_readFew 33 (.ifCond .ne 16) 3 36 := ⟨by decide +kernel, rfl⟩
theorem x_Mo_readFew_36 : DC b_Mo_readFew 36 (.aload_n 0) 1 37 := ⟨by decide +kernel, rfl⟩
theorem x_Mo_readFew_37 : DC b_Mo_readFew 37 (.bipush 44) 2 39 := ⟨by decide +kernel, rfl⟩
theorem x_Mo_readFew_39 : DC b_Mo_readFew 39 (.invokevirtual 507) 3 42 := ⟨by decide +kernel, rfl⟩
theorem x_Mo_readFew_42 : DC b_Mo_readFew 42 (.ifCond .ne 7) 3 45 := ⟨by decide +kernel, rfl⟩
theorem x_Mo_readFew_45 : DC b_Mo_readFew 45 (.aload_n 0) 1 46 := ⟨by decide +kernel, rfl⟩
theorem x_Mo_readFew_46 : DC b_Mo_readFew 46 (.invokevirtual 516) 3 49 := ⟨by decide +kernel, rfl⟩
theorem x_Mo_readFew_49 : DC b_Mo_readFew 49 (.aload_n 0) 1 50 := ⟨by decide +kernel, rfl⟩
theorem x_Mo_readFew_50 : DC b_Mo_readFew 50 (.getfield 453) 3 53 := ⟨by decide +kernel, rfl⟩
theorem x_Mo_readFew_53 : DC b_Mo_readFew 53 (.ifCond .le 4) 3 56 := ⟨by decide +kernel, rfl⟩
theorem x_Mo_readFew_56 : DC b_Mo_readFew 56 (.return_) 1 57 := ⟨by decide +kernel, rfl⟩
theorem x_Mo_readFew_57 : DC b_Mo_readFew 57 (.aload_n 0) 1 58 := ⟨by decide +kernel, rfl⟩
theorem x_Mo_readFew_58 : DC b_Mo_readFew 58 (.invokevirtual 522) 3 61 := ⟨by decide +kernel, rfl⟩
theorem x_Mo_readFew_61 : DC b_Mo_readFew 61 (.aload_n 0) 1 62 := ⟨by decide +kernel, rfl⟩
theorem x_Mo_readFew_62 : DC b_Mo_readFew 62 (.iload_n 1) 1 63 := ⟨by decide +kernel, rfl⟩
theorem x_Mo_readFew_63 : DC b_Mo_readFew 63 (.iconst 1) 1 64 := ⟨by decide +kernel, rfl⟩
theorem x_Mo_readFew_64 : DC b_Mo_readFew 64 (.iadd) 1 65 := ⟨by decide +kernel, rfl⟩
theorem x_Mo_readFew_65 : DC b_Mo_readFew 65 (.invokevirtual 553) 3 68 := ⟨by decide +kernel, rfl⟩
theorem x_Mo_readFew_68 : DC b_Mo_readFew 68 (.aload_n 0) 1 69 := ⟨by decide +kernel, rfl⟩
theorem x_Mo_readFew_69 : DC b_Mo_readFew 69 (.getfield 453) 3 72 := ⟨by decide +kernel, rfl⟩
theorem x_Mo_readFew_72 : DC b_Mo_readFew 72 (.ifCond .ne 16) 3 75 := ⟨by decide +kernel, rfl⟩
theorem x_Mo_readFew_75 : DC b_Mo_readFew 75 (.aload_n 0) 1 76 := ⟨by decide +kernel, rfl⟩
theorem x_Mo_readFew_76 : DC b_Mo_readFew 76 (.bipush 41) 2 78 := ⟨by decide +kernel, rfl⟩
theorem x_Mo_readFew_78 : DC b_Mo_readFew 78 (.invokevirtual 507) 3 81 := ⟨by decide +kernel, rfl⟩
theorem x_Mo_readFew_81 : DC b_Mo_readFew 81 (.ifCond .ne 7) 3 84 := ⟨by decide +kernel, rfl⟩
theorem x_Mo_readFew_84 : DC b_Mo_readFew 84 (.aload_n 0) 1 85 := ⟨by decide +kernel, rfl⟩
theorem x_Mo_readFew_85 : DC b_Mo_readFew 85 (.invokevirtual 516) 3 88 := ⟨by decide +kernel, rfl⟩
theorem x_Mo_readFew_88 : DC b_Mo_readFew 88 (.aload_n 0) 1 89 := ⟨by decide +kernel, rfl⟩
theorem x_Mo_readFew_89 : DC b_Mo_readFew 89 (.getfield 453) 3 92 := ⟨by decide +kernel, rfl⟩
theorem x_Mo_readFew_92 : DC b_Mo_readFew 92 (.ifCond .le 4) 3 95 := ⟨by decide +kernel, rfl⟩
theorem x_Mo_readFew_95 : DC b_Mo_readFew 95 (.return_) 1 96 := ⟨by decide +kernel, rfl⟩
theorem x_Mo_readFew_96 : DC b_Mo_readFew 96 (.aload_n 0) 1 97 := ⟨by decide +kernel, rfl⟩
theorem x_Mo_readFew_97 : DC b_Mo_readFew 97 (.invokevirtual 522) 3 100 := ⟨by decide +kernel, rfl⟩
theorem x_Mo_readFew_100 : DC b_Mo_readFew 100 (.aload_n 0) 1 101 := ⟨by decide +kernel, rfl⟩
theorem x_Mo_readFew_101 : DC b_Mo_readFew 101 (.iload_n 2) 1 102 := ⟨by decide +kernel, rfl⟩
theorem x_Mo_readFew_102 : DC b_Mo_readFew 102 (.iconst 0) 1 103 := ⟨by decide +kernel, rfl⟩
theorem x_Mo_readFew_103 : DC b_Mo_readFew 103 (.invokevirtual 528) 3 106 := ⟨by decide +kernel, rfl⟩
theorem x_Mo_readFew_106 : DC b_Mo_readFew 106 (.return_) 1 107 := ⟨by decide +kernel, rfl⟩
def k_Mo_readFew_88 (SW : Int → Mem → Res) (SF : Int → Int → Mem → Res) (a2 : Int) (M : Mem) : Res := blet (M 111 48) fun v1 => if 0 < w32 v1 then (some (0, M)) else (bcall (d_Mo_next M) fun v3 M4 => bcall (d_Mo_mark a2 0 M4) fun v5 M6 => some (0, M6))
theorem z_Mo_readFew_88 (C : Cx p s m args meth c G b_Mo_readFew 3 "PrairiePoolModel" none) {N : Nat} (hN : 20 ≤ N) (hlev : N + 7 ≤ lev) {SW : Int → Mem → Res} {SF : Int → Int → Mem → Res} (hSW : ∀ (lev' : Nat), N ≤ lev' → ∀ {a1 : Int} {M : Mem} {r : Int × Mem}, SW a1 M = some r → Mt l G y_Mo_readWhole b_Mo_readWhole 4 none lev' 0 [.ref (G.1 + 111), vi a1] M r) (hSF : ∀ (lev' : Nat), N ≤ lev' → ∀ {a1 : Int} {a2 : Int} {M : Mem} {r : Int × Mem}, SF a1 a2 M = some r → Mt l G y_Mo_readFew b_Mo_readFew 3 none lev' 0 [.ref (G.1 + 111), vi a1, vi a2] M r) {r : Int × Mem}  {a2 : Int} {M : Mem} (h : k_Mo_readFew_88 SW SF a2 M = some r) : Z p l e lev s m args below meth c G 3 (MQ below (Qm G 0 r) args s 0 0 (Ab G)) M 88 [(0, .ref (G.1 + 111)), (2, vi a2)] [] := by
  unfold k_Mo_readFew_88 at h
  refine z_aload_n C 0 x_Mo_readFew_88 rfl ?_
  obtain ⟨v1, ev1, h⟩ := blet_e h
  refine z_getI (j := 48) C x_Mo_readFew_89 nk_111 ck_111 cw_12 (i_lt rfl) rfl rfl fl_Mo_453 ev1 ?_
  rcases ite_e h with ⟨c2, h⟩ | ⟨c2, h⟩
  · refine z_if_le_f (tgt := 96) C x_Mo_readFew_92 rfl c2 ?_
    exact z_vret C x_Mo_readFew_95 h
  · refine z_if_le_t (tgt := 96) C x_Mo_readFew_92 rfl c2 ?_
    refine z_aload_n C 0 x_Mo_readFew_96 rfl ?_
    obtain ⟨v3, M4, fv3, h⟩ := bcall_e h
    refine z_callVv (k := 111) C x_Mo_readFew_97 cv_Mo_522 (t_Mo_next (lev := lev - 1) l G (by omega) fv3) nk_111 ck_111 rfl (by omega) rfl (i_le rfl) rfl ?_
    refine z_aload_n C 0 x_Mo_readFew_100 rfl ?_
    refine z_iload_n C 1 x_Mo_readFew_101 rfl ?_
    refine z_iconst C x_Mo_readFew_102 ?_
    obtain ⟨v5, M6, fv5, h⟩ := bcall_e h
    refine z_callVv (k := 111) C x_Mo_readFew_103 cv_Mo_528 (t_Mo_mark (lev := lev - 1) l G (by omega) fv5) nk_111 ck_111 rfl (by omega) rfl (i_le rfl) rfl ?_
    exact z_vret C x_Mo_readFew_106 h
def k_Mo_readFew_49 (SW : Int → Mem → Res) (SF : Int → Int → Mem → Res) (a1 a2 : Int) (M : Mem) : Res := blet (M 111 48) fun v1 => if 0 < w32 v1 then (some (0, M)) else (bcall (d_Mo_next M) fun v3 M4 => bcall (d_Mo_readDeeper SW SF (a1 + 1) M4) fun v5 M6 => blet (M6 111 48) fun v7 => if w32 v7 = 0 then (bcall (d_Mo_isSign 41 M6) fun v9 M10 => if w32 v9 = 0 then (bcall (d_Mo_wrong M10) fun v12 M13 => k_Mo_readFew_88 SW SF a2 M13) else (k_Mo_readFew_88 SW SF a2 M10)) else (k_Mo_readFew_88 SW SF a2 M6))
theorem z_Mo_readFew_49 (C : Cx p s m args meth c G b_Mo_readFew 3 "PrairiePoolModel" none) {N : Nat} (hN : 20 ≤ N) (hlev : N + 7 ≤ lev) {SW : Int → Mem → Res} {SF : Int → Int → Mem → Res} (hSW : ∀ (lev' : Nat), N ≤ lev' → ∀ {a1 : Int} {M : Mem} {r : Int × Mem}, SW a1 M = some r → Mt l G y_Mo_readWhole b_Mo_readWhole 4 none lev' 0 [.ref (G.1 + 111), vi a1] M r) (hSF : ∀ (lev' : Nat), N ≤ lev' → ∀ {a1 : Int} {a2 : Int} {M : Mem} {r : Int × Mem}, SF a1 a2 M = some r → Mt l G y_Mo_readFew b_Mo_readFew 3 none lev' 0 [.ref (G.1 + 111), vi a1, vi a2] M r) {r : Int × Mem}  {a1 a2 : Int} {M : Mem} (h : k_Mo_readFew_49 SW SF a1 a2 M = some r) : Z p l e lev s m args below meth c G 3 (MQ below (Qm G 0 r) args s 0 0 (Ab G)) M 49 [(0, .ref (G.1 + 111)), (1, vi a1), (2, vi a2)] [] := by
  unfold k_Mo_readFew_49 at h
  refine z_aload_n C 0 x_Mo_readFew_49 rfl ?_
  obtain ⟨v1, ev1, h⟩ := blet_e h
  refine z_getI (j := 48) C x_Mo_readFew_50 nk_111 ck_111 cw_12 (i_lt rfl) rfl rfl fl_Mo_453 ev1 ?_
  rcases ite_e h with ⟨c2, h⟩ | ⟨c2, h⟩
  · refine z_if_le_f (tgt := 57) C x_Mo_readFew_53 rfl c2 ?_
    exact z_vret C x_Mo_readFew_56 h
  · refine z_if_le_t (tgt := 57) C x_Mo_readFew_53 rfl c2 ?_
    refine z_aload_n C 0 x_Mo_readFew_57 rfl ?_
    obtain ⟨v3, M4, fv3, h⟩ := bcall_e h
    refine z_callVv (k := 111) C x_Mo_readFew_58 cv_Mo_522 (t_Mo_next (lev := lev - 1) l G (by omega) fv3) nk_111 ck_111 rfl (by omega) rfl (i_le rfl) rfl ?_
    refine z_aload_n C 0 x_Mo_readFew_61 rfl ?_
    refine z_iload_n C 1 x_Mo_readFew_62 rfl ?_
    refine z_iconst C x_Mo_readFew_63 ?_
    refine z_iadd C x_Mo_readFew_64 ?_
    obtain ⟨v5, M6, fv5, h⟩ := bcall_e h
    refine z_callVv (k := 111) C x_Mo_readFew_65 cv_Mo_553 (t_Mo_readDeeper (lev := lev - 1) l G hN (by omega) hSW hSF fv5) nk_111 ck_111 rfl (by omega) rfl (i_le rfl) rfl ?_
    refine z_aload_n C 0 x_Mo_readFew_68 rfl ?_
    obtain ⟨v7, ev7, h⟩ := blet_e h
    refine z_getI (j := 48) C x_Mo_readFew_69 nk_111 ck_111 cw_12 (i_lt rfl) rfl rfl fl_Mo_453 ev7 ?_
    rcases ite_e h with ⟨c8, h⟩ | ⟨c8, h⟩
    · refine z_if_ne_f (tgt := 88) C x_Mo_readFew_72 rfl c8 ?_
      refine z_aload_n C 0 x_Mo_readFew_75 rfl ?_
      refine z_bipush C rfl x_Mo_readFew_76 ?_
      obtain ⟨v9, M10, fv9, h⟩ := bcall_e h
      refine z_callVi (k := 111) C x_Mo_readFew_78 cv_Mo_507 (t_Mo_isSign (lev := lev - 1) l G (by omega) fv9) nk_111 ck_111 rfl (by omega) rfl (i_le rfl) rfl ?_
      rcases ite_e h with ⟨c11, h⟩ | ⟨c11, h⟩
      · refine z_if_ne_f (tgt := 88) C x_Mo_readFew_81 rfl c11 ?_
        refine z_aload_n C 0 x_Mo_readFew_84 rfl ?_
        obtain ⟨v12, M13, fv12, h⟩ := bcall_e h
        refine z_callVv (k := 111) C x_Mo_readFew_85 cv_Mo_516 (t_Mo_wrong (lev := lev - 1) l G (by omega) fv12) nk_111 ck_111 rfl (by omega) rfl (i_le rfl) rfl ?_
        exact z_sub [0, 2] rfl (z_Mo_readFew_88 C hN hlev hSW hSF h)
      · refine z_if_ne_t (tgt := 88) C x_Mo_readFew_81 rfl c11 ?_
        exact z_sub [0, 2] rfl (z_Mo_readFew_88 C hN hlev hSW hSF h)
    · refine z_if_ne_t (tgt := 88) C x_Mo_readFew_72 rfl c8 ?_
      exact z_sub [0, 2] rfl (z_Mo_readFew_88 C hN hlev hSW hSF h)
def d_Mo_readFew (SW : Int → Mem → Res) (SF : Int → Int → Mem → Res) (a1 a2 : Int) (M : Mem) : Res := bcall (d_Mo_next M) fun v1 M2 => bcall (d_Mo_isSign 40 M2) fun v3 M4 => if w32 v3 = 0 then (bcall (d_Mo_wrong M4) fun v6 M7 => some (0, M7)) else (bcall (d_Mo_next M4) fun v8 M9 => bcall (d_Mo_readDeeper SW SF (a1 + 1) M9) fun v10 M11 => blet (M11 111 48) fun v12 => if w32 v12 = 0 then (bcall (d_Mo_isSign 44 M11) fun v14 M15 => if w32 v14 = 0 then (bcall (d_Mo_wrong M15) fun v17 M18 => k_Mo_readFew_49 SW SF a1 a2 M18) else (k_Mo_readFew_49 SW SF a1 a2 M15)) else (k_Mo_readFew_49 SW SF a1 a2 M11))
theorem t_Mo_readFew (l : Launch) (G : GX) {lev : Nat} {N : Nat} (hN : 20 ≤ N) (hlev : N + 7 ≤ lev) {SW : Int → Mem → Res} {SF : Int → Int → Mem → Res} (hSW : ∀ (lev' : Nat), N ≤ lev' → ∀ {a1 : Int} {M : Mem} {r : Int × Mem}, SW a1 M = some r → Mt l G y_Mo_readWhole b_Mo_readWhole 4 none lev' 0 [.ref (G.1 + 111), vi a1] M r) (hSF : ∀ (lev' : Nat), N ≤ lev' → ∀ {a1 : Int} {a2 : Int} {M : Mem} {r : Int × Mem}, SF a1 a2 M = some r → Mt l G y_Mo_readFew b_Mo_readFew 3 none lev' 0 [.ref (G.1 + 111), vi a1, vi a2] M r) {a1 a2 : Int} {M : Mem} {r : Int × Mem} (h : d_Mo_readFew SW SF a1 a2 M = some r) : Mt l G y_Mo_readFew b_Mo_readFew 3 none lev 0 [.ref (G.1 + 111), vi a1, vi a2] M r := by
  refine Mt.of (by decide) (i_le rfl) ?_
  intro p e s m args below meth c C
  have C : Cx p s m args meth c G b_Mo_readFew 3 "PrairiePoolModel" none := C
  unfold d_Mo_readFew at h
  refine z_sub (lv' := [(0, .ref (G.1 + 111)), (1, vi a1), (2, vi a2)]) [0, 1, 2] rfl ?_
  refine z_aload_n C 0 x_Mo_readFew_0 rfl ?_
  obtain ⟨v1, M2, fv1, h⟩ := bcall_e h
  refine z_callVv (k := 111) C x_Mo_readFew_1 cv_Mo_522 (t_Mo_next (lev := lev - 1) l G (by omega) fv1) nk_111 ck_111 rfl (by omega) rfl (i_le rfl) rfl ?_
  refine z_aload_n C 0 x_Mo_readFew_4 rfl ?_
  refine z_bipush C rfl x_Mo_readFew_5 ?_
  obtain ⟨v3, M4, fv3, h⟩ := bcall_e h
  refine z_callVi (k := 111) C x_Mo_readFew_7 cv_Mo_507 (t_Mo_isSign (lev := lev - 1) l G (by omega) fv3) nk_111 ck_111 rfl (by omega) rfl (i_le rfl) rfl ?_
  rcases ite_e h with ⟨c5, h⟩ | ⟨c5, h⟩
  · refine z_if_ne_f (tgt := 18) C x_Mo_readFew_10 rfl c5 ?_
    refine z_aload_n C 0 x_Mo_readFew_13 rfl ?_
    obtain ⟨v6, M7, fv6, h⟩ := bcall_e h
    refine z_callVv (k := 111) C x_Mo_readFew_14 cv_Mo_516 (t_Mo_wrong (lev := lev - 1) l G (by omega) fv6) nk_111 ck_111 rfl (by omega) rfl (i_le rfl) rfl ?_
    exact z_vret C x_Mo_readFew_17 h
  · refine z_if_ne_t (tgt := 18) C x_Mo_readFew_10 rfl c5 ?_
    refine z_aload_n C 0 x_Mo_readFew_18 rfl ?_
    obtain ⟨v8, M9, fv8, h⟩ := bcall_e h
    refine z_callVv (k := 111) C x_Mo_readFew_19 cv_Mo_522 (t_Mo_next (lev := lev - 1) l G (by omega) fv8) nk_111 ck_111 rfl (by omega) rfl (i_le rfl) rfl ?_
    refine z_aload_n C 0 x_Mo_readFew_22 rfl ?_
    refine z_iload_n C 1 x_Mo_readFew_23 rfl ?_
    refine z_iconst C x_Mo_readFew_24 ?_
    refine z_iadd C x_Mo_readFew_25 ?_
    obtain ⟨v10, M11, fv10, h⟩ := bcall_e h
    refine z_callVv (k := 111) C x_Mo_readFew_26 cv_Mo_553 (t_Mo_readDeeper (lev := lev - 1) l G hN (by omega) hSW hSF fv10) nk_111 ck_111 rfl (by omega) rfl (i_le rfl) rfl ?_
    refine z_aload_n C 0 x_Mo_readFew_29 rfl ?_
    obtain ⟨v12, ev12, h⟩ := blet_e h
    refine z_getI (j := 48) C x_Mo_readFew_30 nk_111 ck_111 cw_12 (i_lt rfl) rfl rfl fl_Mo_453 ev12 ?_
    rcases ite_e h with ⟨c13, h⟩ | ⟨c13, h⟩
    · refine z_if_ne_f (tgt := 49) C x_Mo_readFew_33 rfl c13 ?_
      refine z_aload_n C 0 x_Mo_readFew_36 rfl ?_
      refine z_bipush C rfl x_Mo_readFew_37 ?_
      obtain ⟨v14, M15, fv14, h⟩ := bcall_e h
      refine z_callVi (k := 111) C x_Mo_readFew_39 cv_Mo_507 (t_Mo_isSign (lev := lev - 1) l G (by omega) fv14) nk_111 ck_111 rfl (by omega) rfl (i_le rfl) rfl ?_
      rcases ite_e h with ⟨c16, h⟩ | ⟨c16, h⟩
      · refine z_if_ne_f (tgt := 49) C x_Mo_readFew_42 rfl c16 ?_
        refine z_aload_n C 0 x_Mo_readFew_45 rfl ?_
        obtain ⟨v17, M18, fv17, h⟩ := bcall_e h
        refine z_callVv (k := 111) C x_Mo_readFew_46 cv_Mo_516 (t_Mo_wrong (lev := lev - 1) l G (by omega) fv17) nk_111 ck_111 rfl (by omega) rfl (i_le rfl) rfl ?_
        exact z_sub [0, 1, 2] rfl (z_Mo_readFew_49 C hN hlev hSW hSF h)
      · refine z_if_ne_t (tgt := 49) C x_Mo_readFew_42 rfl c16 ?_
        exact z_sub [0, 1, 2] rfl (z_Mo_readFew_49 C hN hlev hSW hSF h)
    · refine z_if_ne_t (tgt := 49) C x_Mo_readFew_33 rfl c13 ?_
      exact z_sub [0, 1, 2] rfl (z_Mo_readFew_49 C hN hlev hSW hSF h)
def rwG : Nat → (Int → Mem → Res) × (Int → Int → Mem → Res)
  | 0 => (fun _ _ => none, fun _ _ _ => none)
  | n + 1 => (d_Mo_readWhole (rwG n).1 (rwG n).2, d_Mo_readFew (rwG n).1 (rwG n).2)
theorem rwG_ok (l : Launch) (G : GX) : ∀ n : Nat, (∀ (lev' : Nat), 20 + 20 * n ≤ lev' → ∀ {a1 : Int} {M : Mem} {r : Int × Mem}, (rwG n).1 a1 M = some r → Mt l G y_Mo_readWhole b_Mo_readWhole 4 none lev' 0 [.ref (G.1 + 111), vi a1] M r) ∧ (∀ (lev' : Nat), 20 + 20 * n ≤ lev' → ∀ {a1 : Int} {a2 : Int} {M : Mem} {r : Int × Mem}, (rwG n).2 a1 a2 M = some r → Mt l G y_Mo_readFew b_Mo_readFew 3 none lev' 0 [.ref (G.1 + 111), vi a1, vi a2] M r) := by
  intro n
  induction n with
  | zero => exact ⟨(fun _ _ _ _ _ h => nomatch (show (none : Res) = some _ from h)), (fun _ _ _ _ _ _ h => nomatch (show (none : Res) = some _ from h))⟩
  | succ n ih =>
    obtain ⟨ih1, ih2⟩ := ih
    exact ⟨fun lev' hl _ _ _ h => t_Mo_readWhole (N := 20 + 20 * n) l G (by omega) (by omega) ih1 ih2 h, fun lev' hl _ _ _ _ h => t_Mo_readFew (N := 20 + 20 * n) l G (by omega) (by omega) ih1 ih2 h⟩
def d_Mo_readWholeC (a1 : Int) (M : Mem) : Res := (rwG 16).1 a1 M
theorem t_Mo_readWholeC (l : Launch) (G : GX) {lev : Nat} (hlev : 340 ≤ lev) {a1 : Int} {M : Mem} {r : Int × Mem} (h : d_Mo_readWholeC a1 M = some r) : Mt l G y_Mo_readWhole b_Mo_readWhole 4 none lev 0 [.ref (G.1 + 111), vi a1] M r := (rwG_ok l G 16).1 lev hlev h
theorem x_Mo_readDef_0 : DC b_Mo_readDef 0 (.aload_n 0) 1 1 := ⟨by decide +kernel, rfl⟩
theorem x_Mo_readDef_1 : DC b_Mo_readDef 1 (.getfield 422) 3 4 := ⟨by decide +kernel, rfl⟩
theorem x_Mo_readDef_4 : DC b_Mo_readDef 4 (.iconst 1) 1 5 := ⟨by decide +kernel, rfl⟩
theorem x_Mo_readDef_5 : DC b_Mo_readDef 5 (.if_icmp .ne 26) 3 8 := ⟨by decide +kernel, rfl⟩
theorem x_Mo_readDef_8 : DC b_Mo_readDef 8 (.aload_n 0) 1 9 := ⟨by decide +kernel, rfl⟩
theorem x_Mo_readDef_9 : DC b_Mo_readDef 9 (.getfield 436) 3 12 := ⟨by decide +kernel, rfl⟩
theorem x_Mo_readDef_12 : DC b_Mo_readDef 12 (.bipush 8) 2 14 := ⟨by decide +kernel, rfl⟩
theorem x_Mo_readDef_14 : DC b_Mo_readDef 14 (.if_icmp .gt 17) 3 17 := ⟨by decide +kernel, rfl⟩
theorem x_Mo_readDef_17 : DC b_Mo_readDef 17 (.aload_n 0) 1 18 := ⟨by decide +kernel, rfl⟩
theorem x_Mo_readDef_18 : DC b_Mo_readDef 18 (.invokevirtual 546) 3 21 := ⟨by decide +kernel, rfl⟩
theorem x_Mo_readDef_21 : DC b_Mo_readDef 21 (.ifCond .ge 10) 3 24 := ⟨by decide +kernel, rfl⟩
theorem x_Mo_readDef_24 : DC b_Mo_readDef 24 (.aload_n 0) 1 25 := ⟨by decide +kernel, rfl⟩
theorem x_Mo_readDef_25 : DC b_Mo_readDef 25 (.invokevirtual 510) 3 28 := ⟨by decide +kernel, rfl⟩
theorem x_Mo_readDef_28 : DC b_Mo_readDef 28 (.ifCond .eq 8) 3 31 := ⟨by decide +kernel, rfl⟩
theorem x_Mo_readDef_31 : DC b_Mo_readDef 31 (.aload_n 0) 1 32 := ⟨by decide +kernel, rfl⟩
theorem x_Mo_readDef_32 : DC b_Mo_readDef 32 (.invokevirtual 516) 3 35 := ⟨by decide +kernel, rfl⟩
theorem x_Mo_readDef_35 : DC b_Mo_readDef 35 (.return_) 1 36 := ⟨by decide +kernel, rfl⟩
theorem x_Mo_readDef_36 : DC b_Mo_readDef 36 (.aload_n 0) 1 37 := ⟨by decide +kernel, rfl⟩
theorem x_Mo_readDef_37 : DC b_Mo_readDef 37 (.getfield 497) 3 40 := ⟨by decide +kernel, rfl⟩
theorem x_Mo_readDef_40 : DC b_Mo_readDef 40 (.bipush 10) 2 42 := ⟨by decide +kernel, rfl⟩
theorem x_Mo_readDef_42 : DC b_Mo_readDef 42 (.if_icmp .ne 12) 3 45 := ⟨by decide +kernel, rfl⟩
theorem x_Mo_readDef_45 : DC b_Mo_readDef 45 (.aload_n 0) 1 46 := ⟨by decide +kernel, rfl⟩
theorem x_Mo_readDef_46 : DC b_Mo_readDef 46 (.iconst 3) 1 47 := ⟨by decide +kernel, rfl⟩
theorem x_Mo_readDef_47 : DC b_Mo_readDef 47 (.aload_n 0) 1 48 := ⟨by decide +kernel, rfl⟩
theorem x_Mo_readDef_48 : DC b_Mo_readDef 48 (.getfield 416) 3 51 := ⟨by decide +kernel, rfl⟩
theorem x_Mo_readDef_51 : DC b_Mo_readDef 51 (.invokevirtual 459) 3 54 := ⟨by decide +kernel, rfl⟩
theorem x_Mo_readDef_54 : DC b_Mo_readDef 54 (.aload_n 0) 1 55 := ⟨by decide +kernel, rfl⟩
theorem x_Mo_readDef_55 : DC b_Mo_readDef 55 (.invokevirtual 550) 3 58 := ⟨by decide +kernel, rfl⟩
theorem x_Mo_readDef_58 : DC b_Mo_readDef 58 (.ifCond .lt 12) 3 61 := ⟨by decide +kernel, rfl⟩
theorem x_Mo_readDef_61 : DC b_Mo_readDef 61 (.aload_n 0) 1 62 := ⟨by decide +kernel, rfl⟩
theorem x_Mo_readDef_62 : DC b_Mo_readDef 62 (.iconst 4) 1 63 := ⟨by decide +kernel, rfl⟩
theorem x_Mo_readDef_63 : DC b_Mo_readDef 63 (.aload_n 0) 1 64 := ⟨by decide +kernel, rfl⟩
theorem x_Mo_readDef_64 : DC b_Mo_readDef 64 (.getfield 416) 3 67 := ⟨by decide +kernel, rfl⟩
theorem x_Mo_readDef_67 : DC b_Mo_readDef 67 (.invokevirtual 459) 3 70 := ⟨by decide +kernel, rfl⟩
theorem x_Mo_readDef_70 : DC b_Mo_readDef 70 (.aload_n 0) 1 71 := ⟨by decide +kernel, rfl⟩
theorem x_Mo_readDef_71 : DC b_Mo_readDef 71 (.getfield 453) 3 74 := ⟨by decide +kernel, rfl⟩
theorem x_Mo_readDef_74 : DC b_Mo_readDef 74 (.ifCond .le 4) 3 77 := ⟨by decide +kernel, rfl⟩
theorem x_Mo_readDef_77 : DC b_Mo_readDef 77 (.return_) 1 78 := ⟨by decide +kernel, rfl⟩
theorem x_Mo_readDef_78 : DC b_Mo_readDef 78 (.aload_n 0) 1 79 := ⟨by decide +kernel, rfl⟩
theorem x_Mo_readDef_79 : DC b_Mo_readDef 79 (.getfield 428) 3 82 := ⟨by decide +kernel, rfl⟩
theorem x_Mo_readDef_82 : DC b_Mo_readDef 82 (.lstore_n 1) 1 83 := ⟨by decide +kernel, rfl⟩
theorem x_Mo_readDef_83 : DC b_Mo_readDef 83 (.aload_n 0) 1 84 := ⟨by decide +kernel, rfl⟩
theorem x_Mo_readDef_84 : DC b_Mo_readDef 84 (.invokevirtual 522) 3 87 := ⟨by decide +kernel, rfl⟩
theorem x_Mo_readDef_87 : DC b_Mo_readDef 87 (.aload_n 0) 1 88 := ⟨by decide +kernel, rfl⟩
theorem x_Mo_readDef_88 : DC b_Mo_readDef 88 (.bipush 58) 2 90 := ⟨by decide +kernel, rfl⟩
theorem x_Mo_readDef_90 : DC b_Mo_readDef 90 (.invokevirtual 507) 3 93 := ⟨by decide +kernel, rfl⟩
theorem x_Mo_readDef_93 : DC b_Mo_readDef 93 (.ifCond .ne 8) 3 96 := ⟨by decide +kernel, rfl⟩
theorem x_Mo_readDef_96 : DC b_Mo_readDef 96 (.aload_n 0) 1 97 := ⟨by decide +kernel, rfl⟩
theorem x_Mo_readDef_97 : DC b_Mo_readDef 97 (.invokevirtual 516) 3 100 := ⟨by decide +kernel, rfl⟩
theorem x_Mo_readDef_100 : DC b_Mo_readDef 100 (.return_) 1 101 := ⟨by decide +kernel, rfl⟩
theorem x_Mo_readDef_101 : DC b_Mo_readDef 101 (.aload_n 0) 1 102 := ⟨by decide +kernel, rfl⟩
theorem x_Mo_readDef_102 : DC b_Mo_readDef 102 (.invokevirtual 522) 3 105 := ⟨by decide +kernel, rfl⟩
theorem x_Mo_readDef_105 : DC b_Mo_readDef 105 (.aload_n 0) 1 106 := ⟨by decide +kernel, rfl⟩
theorem x_Mo_readDef_106 : DC b_Mo_readDef 106 (.iconst 1) 1 107 := ⟨by decide +kernel, rfl⟩
theorem x_Mo_readDef_107 : DC b_Mo_readDef 107 (.invokevirtual 531) 3 110 := ⟨by decide +kernel, rfl⟩
theorem x_Mo_readDef_110 : DC b_Mo_readDef 110 (.aload_n 0) 1 111 := ⟨by decide +kernel, rfl⟩
theorem x_Mo_readDef_111 : DC b_Mo_readDef 111 (.getfield 453) 3 114 := ⟨by decide +kernel, rfl⟩
theorem x_Mo_readDef_114 : DC b_Mo_readDef 114 (.ifCond .ne 16) 3 117 := ⟨by decide +kernel, rfl⟩
theorem x_Mo_readDef_117 : DC b_Mo_readDef 117 (.aload_n 0) 1 118 := ⟨by decide +kernel, rfl⟩
theorem x_Mo_readDef_118 : DC b_Mo_readDef 118 (.bipush 59) 2 120 := ⟨by decide +kernel, rfl⟩
theorem x_Mo_readDef_120 : DC b_Mo_readDef 120 (.invokevirtual 507) 3 123 := ⟨by decide +kernel, rfl⟩
theorem x_Mo_readDef_123 : DC b_Mo_readDef 123 (.ifCond .ne 7) 3 126 := ⟨by decide +kernel, rfl⟩
theorem x_Mo_readDef_126 : DC b_Mo_readDef 126 (.aload_n 0) 1 127 := ⟨by decide +kernel, rfl⟩
theorem x_Mo_readDef_127 : DC b_Mo_readDef 127 (.invokevirtual 516) 3 130 := ⟨by decide +kernel, rfl⟩
theorem x_Mo_readDef_130 : DC b_Mo_readDef 130 (.aload_n 0) 1 131 := ⟨by decide +kernel, rfl⟩
theorem x_Mo_readDef_131 : DC b_Mo_readDef 131 (.getfield 453) 3 134 := ⟨by decide +kernel, rfl⟩
theorem x_Mo_readDef_134 : DC b_Mo_readDef 134 (.ifCond .le 4) 3 137 := ⟨by decide +kernel, rfl⟩
theorem x_Mo_readDef_137 : DC b_Mo_readDef 137 (.return_) 1 138 := ⟨by decide +kernel, rfl⟩
theorem x_Mo_readDef_138 : DC b_Mo_readDef 138 (.aload_n 0) 1 139 := ⟨by decide +kernel, rfl⟩
theorem x_Mo_readDef_139 : DC b_Mo_readDef 139 (.invokevirtual 522) 3 142 := ⟨by decide +kernel, rfl⟩
theorem x_Mo_readDef_142 : DC b_Mo_readDef 142 (.aload_n 0) 1 143 := ⟨by decide +kernel, rfl⟩
theorem x_Mo_readDef_143 : DC b_Mo_readDef 143 (.getfield 145) 3 146 := ⟨by decide +kernel, rfl⟩
theorem x_Mo_readDef_146 : DC b_Mo_readDef 146 (.aload_n 0) 1 147 := ⟨by decide +kernel, rfl⟩
theorem x_Mo_readDef_147 : DC b_Mo_readDef 147 (.getfield 497) 3 150 := ⟨by decide +kernel, rfl⟩
theorem x_Mo_readDef_150 : DC b_Mo_readDef 150 (.lload_n 1) 1 151 := ⟨by decide +kernel, rfl⟩
theorem x_Mo_readDef_151 : DC b_Mo_readDef 151 (.lastore) 1 152 := ⟨by decide +kernel, rfl⟩
theorem x_Mo_readDef_152 : DC b_Mo_readDef 152 (.aload_n 0) 1 153 := ⟨by decide +kernel, rfl⟩
theorem x_Mo_readDef_153 : DC b_Mo_readDef 153 (.dup) 1 154 := ⟨by decide +kernel, rfl⟩
theorem x_Mo_readDef_154 : DC b_Mo_readDef 154 (.getfield 497) 3 157 := ⟨by decide +kernel, rfl⟩
theorem x_Mo_readDef_157 : DC b_Mo_readDef 157 (.iconst 1) 1 158 := ⟨by decide +kernel, rfl⟩
theorem x_Mo_readDef_158 : DC b_Mo_readDef 158 (.iadd) 1 159 := ⟨by decide +kernel, rfl⟩
theorem x_Mo_readDef_159 : DC b_Mo_readDef 159 (.putfield 497) 3 162 := ⟨by decide +kernel, rfl⟩
theorem x_Mo_readDef_162 : DC b_Mo_readDef 162 (.aload_n 0) 1 163 := ⟨by decide +kernel, rfl⟩
theorem x_Mo_readDef_163 : DC b_Mo_readDef 163 (.getfield 136) 3 166 := ⟨by decide +kernel, rfl⟩
theorem x_Mo_readDef_166 : DC b_Mo_readDef 166 (.aload_n 0) 1 167 := ⟨by decide +kernel, rfl⟩
theorem x_Mo_readDef_167 : DC b_Mo_readDef 167 (.getfield 497) 3 170 := ⟨by decide +kernel, rfl⟩
theorem x_Mo_readDef_170 : DC b_Mo_readDef 170 (.aload_n 0) 1 171 := ⟨by decide +kernel, rfl⟩
theorem x_Mo_readDef_171 : DC b_Mo_readDef 171 (.getfield 500) 3 174 := ⟨by decide +kernel, rfl⟩
theorem x_Mo_readDef_174 : DC b_Mo_readDef 174 (.iastore) 1 175 := ⟨by decide +kernel, rfl⟩
theorem x_Mo_readDef_175 : DC b_Mo_readDef 175 (.return_) 1 176 := ⟨by decide +kernel, rfl⟩
def k_Mo_readDef_130 (a1 : Int) (M : Mem) : Res := blet (M 111 48) fun v1 => if 0 < w32 v1 then (some (0, M)) else (bcall (d_Mo_next M) fun v3 M4 => blet (M4 111 57) fun v5 => chk (0 ≤ w32 v5 ∧ w32 v5 < 10) <| blet (sto M4 154 (ix v5) a1) fun M7 => blet (M7 111 57) fun v8 => blet (sto M7 111 57 (v8 + 1)) fun M9 => blet (M9 111 57) fun v10 => blet (M9 111 58) fun v11 => chk (0 ≤ w32 v10 ∧ w32 v10 < 11) <| blet (sto M9 151 (ix v10) v11) fun M13 => some (0, M13))
theorem z_Mo_readDef_130 (C : Cx p s m args meth c G b_Mo_readDef 3 "PrairiePoolModel" none) (hlev : 341 ≤ lev) {r : Int × Mem}  {a1 : Int} {M : Mem} (h : k_Mo_readDef_130 a1 M = some r) : Z p l e lev s m args below meth c G 3 (MQ below (Qm G 0 r) args s 0 0 (Ab G)) M 130 [(0, .ref (G.1 + 111)), (1, vl a1)] [] := by
  unfold k_Mo_readDef_130 at h
  refine z_aload_n C 0 x_Mo_readDef_130 rfl ?_
  obtain ⟨v1, ev1, h⟩ := blet_e h
  refine z_getI (j := 48) C x_Mo_readDef_131 nk_111 ck_111 cw_12 (i_lt rfl) rfl rfl fl_Mo_453 ev1 ?_
  rcases ite_e h with ⟨c2, h⟩ | ⟨c2, h⟩
  · refine z_if_le_f (tgt := 138) C x_Mo_readDef_134 rfl c2 ?_
    exact z_vret C x_Mo_readDef_137 h
  · refine z_if_le_t (tgt := 138) C x_Mo_readDef_134 rfl c2 ?_
    refine z_aload_n C 0 x_Mo_readDef_138 rfl ?_
    obtain ⟨v3, M4, fv3, h⟩ := bcall_e h
    refine z_callVv (k := 111) C x_Mo_readDef_139 cv_Mo_522 (t_Mo_next (lev := lev - 1) l G (by omega) fv3) nk_111 ck_111 rfl (by omega) rfl (i_le rfl) rfl ?_
    refine z_aload_n C 0 x_Mo_readDef_142 rfl ?_
    refine z_getR (j := 66) C x_Mo_readDef_143 nk_111 ck_111 cw_12 (i_lt rfl) rfl rf_111_66 rfl fl_Mo_145 ?_
    refine z_aload_n C 0 x_Mo_readDef_146 rfl ?_
    obtain ⟨v5, ev5, h⟩ := blet_e h
    refine z_getI (j := 57) C x_Mo_readDef_147 nk_111 ck_111 cw_12 (i_lt rfl) rfl rfl fl_Mo_497 ev5 ?_
    refine z_lload_n C 1 x_Mo_readDef_150 rfl ?_
    obtain ⟨c6, h⟩ := chk_e h
    obtain ⟨M7, eM7, h⟩ := blet_e h
    refine z_last C x_Mo_readDef_151 nk_154 ck_154 c6 eM7 ?_
    refine z_aload_n C 0 x_Mo_readDef_152 rfl ?_
    refine z_dup C x_Mo_readDef_153 rfl ?_
    obtain ⟨v8, ev8, h⟩ := blet_e h
    refine z_getI (j := 57) C x_Mo_readDef_154 nk_111 ck_111 cw_12 (i_lt rfl) rfl rfl fl_Mo_497 ev8 ?_
    refine z_iconst C x_Mo_readDef_157 ?_
    refine z_iadd C x_Mo_readDef_158 ?_
    obtain ⟨M9, eM9, h⟩ := blet_e h
    refine z_putI (j := 57) C x_Mo_readDef_159 nk_111 ck_111 cw_12 (i_lt rfl) rfl rfl rfl rfl fl_Mo_497 eM9 ?_
    refine z_aload_n C 0 x_Mo_readDef_162 rfl ?_
    refine z_getR (j := 63) C x_Mo_readDef_163 nk_111 ck_111 cw_12 (i_lt rfl) rfl rf_111_63 rfl fl_Mo_136 ?_
    refine z_aload_n C 0 x_Mo_readDef_166 rfl ?_
    obtain ⟨v10, ev10, h⟩ := blet_e h
    refine z_getI (j := 57) C x_Mo_readDef_167 nk_111 ck_111 cw_12 (i_lt rfl) rfl rfl fl_Mo_497 ev10 ?_
    refine z_aload_n C 0 x_Mo_readDef_170 rfl ?_
    obtain ⟨v11, ev11, h⟩ := blet_e h
    refine z_getI (j := 58) C x_Mo_readDef_171 nk_111 ck_111 cw_12 (i_lt rfl) rfl rfl fl_Mo_500 ev11 ?_
    obtain ⟨c12, h⟩ := chk_e h
    obtain ⟨M13, eM13, h⟩ := blet_e h
    refine z_iast C x_Mo_readDef_174 nk_151 ck_151 c12 eM13 ?_
    exact z_vret C x_Mo_readDef_175 h
def k_Mo_readDef_70 (M : Mem) : Res := blet (M 111 48) fun v1 => if 0 < w32 v1 then (some (0, M)) else (blet (M 111 55) fun v3 => bcall (d_Mo_next M) fun v4 M5 => bcall (d_Mo_isSign 58 M5) fun v6 M7 => if w32 v6 = 0 then (bcall (d_Mo_wrong M7) fun v9 M10 => some (0, M10)) else (bcall (d_Mo_next M7) fun v11 M12 => bcall (d_Mo_readWholeC 1 M12) fun v13 M14 => blet (M14 111 48) fun v15 => if w32 v15 = 0 then (bcall (d_Mo_isSign 59 M14) fun v17 M18 => if w32 v17 = 0 then (bcall (d_Mo_wrong M18) fun v20 M21 => k_Mo_readDef_130 v3 M21) else (k_Mo_readDef_130 v3 M18)) else (k_Mo_readDef_130 v3 M14)))
theorem z_Mo_readDef_70 (C : Cx p s m args meth c G b_Mo_readDef 3 "PrairiePoolModel" none) (hlev : 341 ≤ lev) {r : Int × Mem}  {M : Mem} (h : k_Mo_readDef_70 M = some r) : Z p l e lev s m args below meth c G 3 (MQ below (Qm G 0 r) args s 0 0 (Ab G)) M 70 [(0, .ref (G.1 + 111))] [] := by
  unfold k_Mo_readDef_70 at h
  refine z_aload_n C 0 x_Mo_readDef_70 rfl ?_
  obtain ⟨v1, ev1, h⟩ := blet_e h
  refine z_getI (j := 48) C x_Mo_readDef_71 nk_111 ck_111 cw_12 (i_lt rfl) rfl rfl fl_Mo_453 ev1 ?_
  rcases ite_e h with ⟨c2, h⟩ | ⟨c2, h⟩
  · refine z_if_le_f (tgt := 78) C x_Mo_readDef_74 rfl c2 ?_
    exact z_vret C x_Mo_readDef_77 h
  · refine z_if_le_t (tgt := 78) C x_Mo_readDef_74 rfl c2 ?_
    refine z_aload_n C 0 x_Mo_readDef_78 rfl ?_
    obtain ⟨v3, ev3, h⟩ := blet_e h
    refine z_getL (j := 55) C x_Mo_readDef_79 nk_111 ck_111 cw_12 (i_lt rfl) rfl rfl fl_Mo_428 ev3 ?_
    refine z_lstore_n (lv' := [(1, vl v3), (0, .ref (G.1 + 111))]) C rfl x_Mo_readDef_82 (i_lt rfl) rfl ?_
    refine z_aload_n C 1 x_Mo_readDef_83 rfl ?_
    obtain ⟨v4, M5, fv4, h⟩ := bcall_e h
    refine z_callVv (k := 111) C x_Mo_readDef_84 cv_Mo_522 (t_Mo_next (lev := lev - 1) l G (by omega) fv4) nk_111 ck_111 rfl (by omega) rfl (i_le rfl) rfl ?_
    refine z_aload_n C 1 x_Mo_readDef_87 rfl ?_
    refine z_bipush C rfl x_Mo_readDef_88 ?_
    obtain ⟨v6, M7, fv6, h⟩ := bcall_e h
    refine z_callVi (k := 111) C x_Mo_readDef_90 cv_Mo_507 (t_Mo_isSign (lev := lev - 1) l G (by omega) fv6) nk_111 ck_111 rfl (by omega) rfl (i_le rfl) rfl ?_
    rcases ite_e h with ⟨c8, h⟩ | ⟨c8, h⟩
    · refine z_if_ne_f (tgt := 101) C x_Mo_readDef_93 rfl c8 ?_
      refine z_aload_n C 1 x_Mo_readDef_96 rfl ?_
      obtain ⟨v9, M10, fv9, h⟩ := bcall_e h
      refine z_callVv (k := 111) C x_Mo_readDef_97 cv_Mo_516 (t_Mo_wrong (lev := lev - 1) l G (by omega) fv9) nk_111 ck_111 rfl (by omega) rfl (i_le rfl) rfl ?_
      exact z_vret C x_Mo_readDef_100 h
    · refine z_if_ne_t (tgt := 101) C x_Mo_readDef_93 rfl c8 ?_
      refine z_aload_n C 1 x_Mo_readDef_101 rfl ?_
      obtain ⟨v11, M12, fv11, h⟩ := bcall_e h
      refine z_callVv (k := 111) C x_Mo_readDef_102 cv_Mo_522 (t_Mo_next (lev := lev - 1) l G (by omega) fv11) nk_111 ck_111 rfl (by omega) rfl (i_le rfl) rfl ?_
      refine z_aload_n C 1 x_Mo_readDef_105 rfl ?_
      refine z_iconst C x_Mo_readDef_106 ?_
      obtain ⟨v13, M14, fv13, h⟩ := bcall_e h
      refine z_callVv (k := 111) C x_Mo_readDef_107 cv_Mo_531 (t_Mo_readWholeC (lev := lev - 1) l G (by omega) fv13) nk_111 ck_111 rfl (by omega) rfl (i_le rfl) rfl ?_
      refine z_aload_n C 1 x_Mo_readDef_110 rfl ?_
      obtain ⟨v15, ev15, h⟩ := blet_e h
      refine z_getI (j := 48) C x_Mo_readDef_111 nk_111 ck_111 cw_12 (i_lt rfl) rfl rfl fl_Mo_453 ev15 ?_
      rcases ite_e h with ⟨c16, h⟩ | ⟨c16, h⟩
      · refine z_if_ne_f (tgt := 130) C x_Mo_readDef_114 rfl c16 ?_
        refine z_aload_n C 1 x_Mo_readDef_117 rfl ?_
        refine z_bipush C rfl x_Mo_readDef_118 ?_
        obtain ⟨v17, M18, fv17, h⟩ := bcall_e h
        refine z_callVi (k := 111) C x_Mo_readDef_120 cv_Mo_507 (t_Mo_isSign (lev := lev - 1) l G (by omega) fv17) nk_111 ck_111 rfl (by omega) rfl (i_le rfl) rfl ?_
        rcases ite_e h with ⟨c19, h⟩ | ⟨c19, h⟩
        · refine z_if_ne_f (tgt := 130) C x_Mo_readDef_123 rfl c19 ?_
          refine z_aload_n C 1 x_Mo_readDef_126 rfl ?_
          obtain ⟨v20, M21, fv20, h⟩ := bcall_e h
          refine z_callVv (k := 111) C x_Mo_readDef_127 cv_Mo_516 (t_Mo_wrong (lev := lev - 1) l G (by omega) fv20) nk_111 ck_111 rfl (by omega) rfl (i_le rfl) rfl ?_
          exact z_sub [1, 0] rfl (z_Mo_readDef_130 C hlev h)
        · refine z_if_ne_t (tgt := 130) C x_Mo_readDef_123 rfl c19 ?_
          exact z_sub [1, 0] rfl (z_Mo_readDef_130 C hlev h)
      · refine z_if_ne_t (tgt := 130) C x_Mo_readDef_114 rfl c16 ?_
        exact z_sub [1, 0] rfl (z_Mo_readDef_130 C hlev h)
def k_Mo_readDef_54 (M : Mem) : Res := bcall (d_Mo_named M) fun v1 M2 => if w32 v1 < 0 then (k_Mo_readDef_70 M2) else (blet (M2 111 51) fun v4 => bcall (d_Mo_fail 4 v4 M2) fun v5 M6 => k_Mo_readDef_70 M6)
theorem z_Mo_readDef_54 (C : Cx p s m args meth c G b_Mo_readDef 3 "PrairiePoolModel" none) (hlev : 341 ≤ lev) {r : Int × Mem}  {M : Mem} (h : k_Mo_readDef_54 M = some r) : Z p l e lev s m args below meth c G 3 (MQ below (Qm G 0 r) args s 0 0 (Ab G)) M 54 [(0, .ref (G.1 + 111))] [] := by
  unfold k_Mo_readDef_54 at h
  refine z_aload_n C 0 x_Mo_readDef_54 rfl ?_
  obtain ⟨v1, M2, fv1, h⟩ := bcall_e h
  refine z_callVi (k := 111) C x_Mo_readDef_55 cv_Mo_550 (t_Mo_named (lev := lev - 1) l G (by omega) fv1) nk_111 ck_111 rfl (by omega) rfl (i_le rfl) rfl ?_
  rcases ite_e h with ⟨c3, h⟩ | ⟨c3, h⟩
  · refine z_if_lt_t (tgt := 70) C x_Mo_readDef_58 rfl c3 ?_
    exact z_sub [0] rfl (z_Mo_readDef_70 C hlev h)
  · refine z_if_lt_f (tgt := 70) C x_Mo_readDef_58 rfl c3 ?_
    refine z_aload_n C 0 x_Mo_readDef_61 rfl ?_
    refine z_iconst C x_Mo_readDef_62 ?_
    refine z_aload_n C 0 x_Mo_readDef_63 rfl ?_
    obtain ⟨v4, ev4, h⟩ := blet_e h
    refine z_getI (j := 51) C x_Mo_readDef_64 nk_111 ck_111 cw_12 (i_lt rfl) rfl rfl fl_Mo_416 ev4 ?_
    obtain ⟨v5, M6, fv5, h⟩ := bcall_e h
    refine z_callVv (k := 111) C x_Mo_readDef_67 cv_Mo_459 (t_Mo_fail (lev := lev - 1) l G (by omega) fv5) nk_111 ck_111 rfl (by omega) rfl (i_le rfl) rfl ?_
    exact z_sub [0] rfl (z_Mo_readDef_70 C hlev h)
def k_Mo_readDef_31 (M : Mem) : Res := bcall (d_Mo_wrong M) fun v1 M2 => some (0, M2)
theorem z_Mo_readDef_31 (C : Cx p s m args meth c G b_Mo_readDef 3 "PrairiePoolModel" none) (hlev : 341 ≤ lev) {r : Int × Mem}  {M : Mem} (h : k_Mo_readDef_31 M = some r) : Z p l e lev s m args below meth c G 3 (MQ below (Qm G 0 r) args s 0 0 (Ab G)) M 31 [(0, .ref (G.1 + 111))] [] := by
  unfold k_Mo_readDef_31 at h
  refine z_aload_n C 0 x_Mo_readDef_31 rfl ?_
  obtain ⟨v1, M2, fv1, h⟩ := bcall_e h
  refine z_callVv (k := 111) C x_Mo_readDef_32 cv_Mo_516 (t_Mo_wrong (lev := lev - 1) l G (by omega) fv1) nk_111 ck_111 rfl (by omega) rfl (i_le rfl) rfl ?_
  exact z_vret C x_Mo_readDef_35 h
def d_Mo_readDef (M : Mem) : Res := blet (M 111 50) fun v1 => if w32 v1 = 1 then (blet (M 111 54) fun v3 => if 8 < w32 v3 then (k_Mo_readDef_31 M) else (bcall (d_Mo_variable M) fun v5 M6 => if w32 v5 < 0 then (bcall (d_Mo_isKept M6) fun v8 M9 => if w32 v8 = 0 then (blet (M9 111 57) fun v11 => if w32 v11 = 10 then (blet (M9 111 51) fun v13 => bcall (d_Mo_fail 3 v13 M9) fun v14 M15 => k_Mo_readDef_54 M15) else (k_Mo_readDef_54 M9)) else (k_Mo_readDef_31 M9)) else (k_Mo_readDef_31 M6))) else (k_Mo_readDef_31 M)
theorem t_Mo_readDef (l : Launch) (G : GX) {lev : Nat} (hlev : 341 ≤ lev) {M : Mem} {r : Int × Mem} (h : d_Mo_readDef M = some r) : Mt l G y_Mo_readDef b_Mo_readDef 3 none lev 0 [.ref (G.1 + 111)] M r := by
  refine Mt.of (by decide) (i_le rfl) ?_
  intro p e s m args below meth c C
  have C : Cx p s m args meth c G b_Mo_readDef 3 "PrairiePoolModel" none := C
  unfold d_Mo_readDef at h
  refine z_sub (lv' := [(0, .ref (G.1 + 111))]) [0] rfl ?_
  refine z_aload_n C 0 x_Mo_readDef_0 rfl ?_
  obtain ⟨v1, ev1, h⟩ := blet_e h
  refine z_getI (j := 50) C x_Mo_readDef_1 nk_111 ck_111 cw_12 (i_lt rfl) rfl rfl fl_Mo_422 ev1 ?_
  refine z_iconst C x_Mo_readDef_4 ?_
  rcases ite_e h with ⟨c2, h⟩ | ⟨c2, h⟩
  · refine z_icmp_ne_f (tgt := 31) C x_Mo_readDef_5 rfl c2 ?_
    refine z_aload_n C 0 x_Mo_readDef_8 rfl ?_
    obtain ⟨v3, ev3, h⟩ := blet_e h
    refine z_getI (j := 54) C x_Mo_readDef_9 nk_111 ck_111 cw_12 (i_lt rfl) rfl rfl fl_Mo_436 ev3 ?_
    refine z_bipush C rfl x_Mo_readDef_12 ?_
    rcases ite_e h with ⟨c4, h⟩ | ⟨c4, h⟩
    · refine z_icmp_gt_t (tgt := 31) C x_Mo_readDef_14 rfl c4 ?_
      exact z_sub [0] rfl (z_Mo_readDef_31 C hlev h)
    · refine z_icmp_gt_f (tgt := 31) C x_Mo_readDef_14 rfl c4 ?_
      refine z_aload_n C 0 x_Mo_readDef_17 rfl ?_
      obtain ⟨v5, M6, fv5, h⟩ := bcall_e h
      refine z_callVi (k := 111) C x_Mo_readDef_18 cv_Mo_546 (t_Mo_variable (lev := lev - 1) l G (by omega) fv5) nk_111 ck_111 rfl (by omega) rfl (i_le rfl) rfl ?_
      rcases ite_e h with ⟨c7, h⟩ | ⟨c7, h⟩
      · refine z_if_ge_f (tgt := 31) C x_Mo_readDef_21 rfl c7 ?_
        refine z_aload_n C 0 x_Mo_readDef_24 rfl ?_
        obtain ⟨v8, M9, fv8, h⟩ := bcall_e h
        refine z_callVi (k := 111) C x_Mo_readDef_25 cv_Mo_510 (t_Mo_isKept (lev := lev - 1) l G (by omega) fv8) nk_111 ck_111 rfl (by omega) rfl (i_le rfl) rfl ?_
        rcases ite_e h with ⟨c10, h⟩ | ⟨c10, h⟩
        · refine z_if_eq_t (tgt := 36) C x_Mo_readDef_28 rfl c10 ?_
          refine z_aload_n C 0 x_Mo_readDef_36 rfl ?_
          obtain ⟨v11, ev11, h⟩ := blet_e h
          refine z_getI (j := 57) C x_Mo_readDef_37 nk_111 ck_111 cw_12 (i_lt rfl) rfl rfl fl_Mo_497 ev11 ?_
          refine z_bipush C rfl x_Mo_readDef_40 ?_
          rcases ite_e h with ⟨c12, h⟩ | ⟨c12, h⟩
          · refine z_icmp_ne_f (tgt := 54) C x_Mo_readDef_42 rfl c12 ?_
            refine z_aload_n C 0 x_Mo_readDef_45 rfl ?_
            refine z_iconst C x_Mo_readDef_46 ?_
            refine z_aload_n C 0 x_Mo_readDef_47 rfl ?_
            obtain ⟨v13, ev13, h⟩ := blet_e h
            refine z_getI (j := 51) C x_Mo_readDef_48 nk_111 ck_111 cw_12 (i_lt rfl) rfl rfl fl_Mo_416 ev13 ?_
            obtain ⟨v14, M15, fv14, h⟩ := bcall_e h
            refine z_callVv (k := 111) C x_Mo_readDef_51 cv_Mo_459 (t_Mo_fail (lev := lev - 1) l G (by omega) fv14) nk_111 ck_111 rfl (by omega) rfl (i_le rfl) rfl ?_
            exact z_sub [0] rfl (z_Mo_readDef_54 C hlev h)
          · refine z_icmp_ne_t (tgt := 54) C x_Mo_readDef_42 rfl c12 ?_
            exact z_sub [0] rfl (z_Mo_readDef_54 C hlev h)
        · refine z_if_eq_f (tgt := 36) C x_Mo_readDef_28 rfl c10 ?_
          exact z_sub [0] rfl (z_Mo_readDef_31 C hlev h)
      · refine z_if_ge_t (tgt := 31) C x_Mo_readDef_21 rfl c7 ?_
        exact z_sub [0] rfl (z_Mo_readDef_31 C hlev h)
  · refine z_icmp_ne_t (tgt := 31) C x_Mo_readDef_5 rfl c2 ?_
    exact z_sub [0] rfl (z_Mo_readDef_31 C hlev h)
theorem x_Mo_acts_0 : DC b_Mo_acts 0 (.aload_n 0) 1 1 := ⟨by decide +kernel, rfl⟩
theorem x_Mo_acts_1 : DC b_Mo_acts 1 (.iconst 0) 1 2 := ⟨by decide +kernel, rfl⟩
theorem x_Mo_acts_2 : DC b_Mo_acts 2 (.putfield 257) 3 5 := ⟨by decide +kernel, rfl⟩
theorem x_Mo_acts_5 : DC b_Mo_acts 5 (.aload_n 0) 1 6 := ⟨by decide +kernel, rfl⟩
theorem x_Mo_acts_6 : DC b_Mo_acts 6 (.iconst 0) 1 7 := ⟨by decide +kernel, rfl⟩
theorem x_Mo_acts_7 : DC b_Mo_acts 7 (.putfield 260) 3 10 := ⟨by decide +kernel, rfl⟩
theorem x_Mo_acts_10 : DC b_Mo_acts 10 (.iload_n 1) 1 11 := ⟨by decide +kernel, rfl⟩
theorem x_Mo_acts_11 : DC b_Mo_acts 11 (.ifCond .lt 18) 3 14 := ⟨by decide +kernel, rfl⟩
theorem x_Mo_acts_14 : DC b_Mo_acts 14 (.iload_n 1) 1 15 := ⟨by decide +kernel, rfl⟩
theorem x_Mo_acts_15 : DC b_Mo_acts 15 (.aload_n 0) 1 16 := ⟨by decide +kernel, rfl⟩
theorem x_Mo_acts_16 : DC b_Mo_acts 16 (.getfield 556) 3 19 := ⟨by decide +kernel, rfl⟩
theorem x_Mo_acts_19 : DC b_Mo_acts 19 (.if_icmp .gt 10) 3 22 := ⟨by decide +kernel, rfl⟩
theorem x_Mo_acts_22 : DC b_Mo_acts 22 (.iload_n 2) 1 23 := ⟨by decide +kernel, rfl⟩
theorem x_Mo_acts_23 : DC b_Mo_acts 23 (.invokestatic 306) 3 26 := ⟨by decide +kernel, rfl⟩
theorem x_Mo_acts_26 : DC b_Mo_acts 26 (.ifCond .ne 9) 3 29 := ⟨by decide +kernel, rfl⟩
theorem x_Mo_acts_29 : DC b_Mo_acts 29 (.aload_n 0) 1 30 := ⟨by decide +kernel, rfl⟩
theorem x_Mo_acts_30 : DC b_Mo_acts 30 (.iconst 5) 1 31 := ⟨by decide +kernel, rfl⟩
theorem x_Mo_acts_31 : DC b_Mo_acts 31 (.invokevirtual 297) 3 34 := ⟨by decide +kernel, rfl⟩
theorem x_Mo_acts_34 : DC b_Mo_acts 34 (.ireturn) 1 35 := ⟨by decide +kernel, rfl⟩
theorem x_Mo_acts_35 : DC b_Mo_acts 35 (.aload_n 0) 1 36 := ⟨by decide +kernel, rfl⟩
theorem x_Mo_acts_36 : DC b_Mo_acts 36 (.getfield 562) 3 39 := ⟨by decide +kernel, rfl⟩
theorem x_Mo_acts_39 : DC b_Mo_acts 39 (.iconst 4) 1 40 := ⟨by decide +kernel, rfl⟩
theorem x_Mo_acts_40 : DC b_Mo_acts 40 (.if_icmp .ne 10) 3 43 := ⟨by decide +kernel, rfl⟩
theorem x_Mo_acts_43 : DC b_Mo_acts 43 (.aload_n 0) 1 44 := ⟨by decide +kernel, rfl⟩
theorem x_Mo_acts_44 : DC b_Mo_acts 44 (.bipush 7) 2 46 := ⟨by decide +kernel, rfl⟩
theorem x_Mo_acts_46 : DC b_Mo_acts 46 (.invokevirtual 297) 3 49 := ⟨by decide +kernel, rfl⟩
theorem x_Mo_acts_49 : DC b_Mo_acts 49 (.ireturn) 1 50 := ⟨by decide +kernel, rfl⟩
theorem x_Mo_acts_50 : DC b_Mo_acts 50 (.aload_n 0) 1 51 := ⟨by decide +kernel, rfl⟩
theorem x_Mo_acts_51 : DC b_Mo_acts 51 (.iload_n 1) 1 52 := ⟨by decide +kernel, rfl⟩
theorem x_Mo_acts_52 : DC b_Mo_acts 52 (.putfield 410) 3 55 := ⟨by decide +kernel, rfl⟩
theorem x_Mo_acts_55 : DC b_Mo_acts 55 (.aload_n 0) 1 56 := ⟨by decide +kernel, rfl⟩
theorem x_Mo_acts_56 : DC b_Mo_acts 56 (.iconst 0) 1 57 := ⟨by decide +kernel, rfl⟩
theorem x_Mo_acts_57 : DC b_Mo_acts 57 (.putfield 556) 3 60 := ⟨by decide +kernel, rfl⟩
theorem x_Mo_acts_60 : DC b_Mo_acts 60 (.aload_n 0) 1 61 := ⟨by decide +kernel, rfl⟩
theorem x_Mo_acts_61 : DC b_Mo_acts 61 (.iconst 0) 1 62 := ⟨by decide +kernel, rfl⟩
theorem x_Mo_acts_62 : DC b_Mo_acts 62 (.putfield 413) 3 65 := ⟨by decide +kernel, rfl⟩
theorem x_Mo_acts_65 : DC b_Mo_acts 65 (.aload_n 0) 1 66 := ⟨by decide +kernel, rfl⟩
theorem x_Mo_acts_66 : DC b_Mo_acts 66 (.iconst 0) 1 67 := ⟨by decide +kernel, rfl⟩
theorem x_Mo_acts_67 : DC b_Mo_acts 67 (.putfield 453) 3 70 := ⟨by decide +kernel, rfl⟩
theorem x_Mo_acts_70 : DC b_Mo_acts 70 (.aload_n 0) 1 71 := ⟨by decide +kernel, rfl⟩
theorem x_Mo_acts_71 : DC b_Mo_acts 71 (.iconst 0) 1 72 := ⟨by decide +kernel, rfl⟩
theorem x_Mo_acts_72 : DC b_Mo_acts 72 (.putfield 497) 3 75 := ⟨by decide +kernel, rfl⟩
theorem x_Mo_acts_75 : DC b_Mo_acts 75 (.aload_n 0) 1 76 := ⟨by decide +kernel, rfl⟩
theorem x_Mo_acts_76 : DC b_Mo_acts 76 (.iconst 0) 1 77 := ⟨by decide +kernel, rfl⟩
theorem x_Mo_acts_77 : DC b_Mo_acts 77 (.putfield 500) 3 80 := ⟨by decide +kernel, rfl⟩
theorem x_Mo_acts_80 : DC b_Mo_acts 80 (.aload_n 0) 1 81 := ⟨by decide +kernel, rfl⟩
theorem x_Mo_acts_81 : DC b_Mo_acts 81 (.getfield 136) 3 84 := ⟨by decide +kernel, rfl⟩
theorem x_Mo_acts_84 : DC b_Mo_acts 84 (.iconst 0) 1 85 := ⟨by decide +kernel, rfl⟩
theorem x_Mo_acts_85 : DC b_Mo_acts 85 (.iconst 0) 1 86 := ⟨by decide +kernel, rfl⟩
theorem x_Mo_acts_86 : DC b_Mo_acts 86 (.iastore) 1 87 := ⟨by decide +kernel, rfl⟩
theorem x_Mo_acts_87 : DC b_Mo_acts 87 (.aload_n 0) 1 88 := ⟨by decide +kernel, rfl⟩
theorem x_Mo_acts_88 : DC b_Mo_acts 88 (.invokevirtual 522) 3 91 := ⟨by decide +kernel, rfl⟩
theorem x_Mo_acts_91 : DC b_Mo_acts 91 (.aload_n 0) 1 92 := ⟨by decide +kernel, rfl⟩
theorem x_Mo_acts_92 : DC b_Mo_acts 92 (.getfield 453) 3 95 := ⟨by decide +kernel, rfl⟩
theorem x_Mo_acts_95 : DC b_Mo_acts 95 (.ifCond .ne 17) 3 98 := ⟨by decide +kernel, rfl⟩
theorem x_Mo_acts_98 : DC b_Mo_acts 98 (.aload_n 0) 1 99 := ⟨by decide +kernel, rfl⟩
theorem x_Mo_acts_99 : DC b_Mo_acts 99 (.getfield 422) 3 102 := ⟨by decide +kernel, rfl⟩
theorem x_Mo_acts_102 : DC b_Mo_acts 102 (.ifCond .eq 10) 3 105 := ⟨by decide +kernel, rfl⟩
theorem x_Mo_acts_105 : DC b_Mo_acts 105 (.aload_n 0) 1 106 := ⟨by decide +kernel, rfl⟩
theorem x_Mo_acts_106 : DC b_Mo_acts 106 (.invokevirtual 565) 3 109 := ⟨by decide +kernel, rfl⟩
theorem x_Mo_acts_109 : DC b_Mo_acts 109 (.goto (-18)) 3 112 := ⟨by decide +kernel, rfl⟩
theorem x_Mo_acts_112 : DC b_Mo_acts 112 (.aload_n 0) 1 113 := ⟨by decide +kernel, rfl⟩
theorem x_Mo_acts_113 : DC b_Mo_acts 113 (.aload_n 0) 1 114 := ⟨by decide +kernel, rfl⟩
theorem x_Mo_acts_114 : DC b_Mo_acts 114 (.getfield 453) 3 117 := ⟨by decide +kernel, rfl⟩
theorem x_Mo_acts_117 : DC b_Mo_acts 117 (.putfield 117) 3 120 := ⟨by decide +kernel, rfl⟩
theorem x_Mo_acts_120 : DC b_Mo_acts 120 (.aload_n 0) 1 121 := ⟨by decide +kernel, rfl⟩
theorem x_Mo_acts_121 : DC b_Mo_acts 121 (.aload_n 0) 1 122 := ⟨by decide +kernel, rfl⟩
theorem x_Mo_acts_122 : DC b_Mo_acts 122 (.getfield 453) 3 125 := ⟨by decide +kernel, rfl⟩
theorem x_Mo_acts_125 : DC b_Mo_acts 125 (.ifCond .ne 7) 3 128 := ⟨by decide +kernel, rfl⟩
theorem x_Mo_acts_128 : DC b_Mo_acts 128 (.iconst (-1)) 1 129 := ⟨by decide +kernel, rfl⟩
theorem x_Mo_acts_129 : DC b_Mo_acts 129 (.goto 7) 3 132 := ⟨by decide +kernel, rfl⟩
theorem x_Mo_acts_132 : DC b_Mo_acts 132 (.aload_n 0) 1 133 := ⟨by decide +kernel, rfl⟩
theorem x_Mo_acts_133 : DC b_Mo_acts 133 (.getfield 456) 3 136 := ⟨by decide +kernel, rfl⟩
theorem x_Mo_acts_136 : DC b_Mo_acts 136 (.putfield 121) 3 139 := ⟨by decide +kernel, rfl⟩
theorem x_Mo_acts_139 : DC b_Mo_acts 139 (.aload_n 0) 1 140 := ⟨by decide +kernel, rfl⟩
theorem x_Mo_acts_140 : DC b_Mo_acts 140 (.getfield 453) 3 143 := ⟨by decide +kernel, rfl⟩
theorem x_Mo_acts_143 : DC b_Mo_acts 143 (.ifCond .le 10) 3 146 := ⟨by decide +kernel, rfl⟩
theorem x_Mo_acts_146 : DC b_Mo_acts 146 (.aload_n 0) 1 147 := ⟨by decide +kernel, rfl⟩
theorem x_Mo_acts_147 : DC b_Mo_acts 147 (.bipush 10) 2 149 := ⟨by decide +kernel, rfl⟩
theorem x_Mo_acts_149 : DC b_Mo_acts 149 (.invokevirtual 297) 3 152 := ⟨by decide +kernel, rfl⟩
theorem x_Mo_acts_152 : DC b_Mo_acts 152 (.ireturn) 1 153 := ⟨by decide +kernel, rfl⟩
theorem x_Mo_acts_153 : DC b_Mo_acts 153 (.iconst 0) 1 154 := ⟨by decide +kernel, rfl⟩
theorem x_Mo_acts_154 : DC b_Mo_acts 154 (.istore_n 3) 1 155 := ⟨by decide +kernel, rfl⟩
theorem x_Mo_acts_155 : DC b_Mo_acts 155 (.iload_n 3) 1 156 := ⟨by decide +kernel, rfl⟩
theorem x_Mo_acts_156 : DC b_Mo_acts 156 (.aload_n 0) 1 157 := ⟨by decide +kernel, rfl⟩
theorem x_Mo_acts_157 : DC b_Mo_acts 157 (.getfield 500) 3 160 := ⟨by decide +kernel, rfl⟩
theorem x_Mo_acts_160 : DC b_Mo_acts 160 (.if_icmp .ge 30) 3 163 := ⟨by decide +kernel, rfl⟩
theorem x_Mo_acts_163 : DC b_Mo_acts 163 (.aload_n 0) 1 164 := ⟨by decide +kernel, rfl⟩
theorem x_Mo_acts_164 : DC b_Mo_acts 164 (.getfield 133) 3 167 := ⟨by decide +kernel, rfl⟩
theorem x_Mo_acts_167 : DC b_Mo_acts 167 (.sipush 1100) 3 170 := ⟨by decide +kernel, rfl⟩
theorem x_Mo_acts_170 : DC b_Mo_acts 170 (.aload_n 0) 1 171 := ⟨by decide +kernel, rfl⟩
theorem x_Mo_acts_171 : DC b_Mo_acts 171 (.getfield 562) 3 174 := ⟨by decide +kernel, rfl⟩
theorem x_Mo_acts_174 : DC b_Mo_acts 174 (.imul) 1 175 := ⟨by decide +kernel, rfl⟩
theorem x_Mo_acts_175 : DC b_Mo_acts 175 (.iload_n 3) 1 176 := ⟨by decide +kernel, rfl⟩
theorem x_Mo_acts_176 : DC b_Mo_acts 176 (.iadd) 1 177 := ⟨by decide +kernel, rfl⟩
theorem x_Mo_acts_177 : DC b_Mo_acts 177 (.aload_n 0) 1 178 := ⟨by decide +kernel, rfl⟩
theorem x_Mo_acts_178 : DC b_Mo_acts 178 (.getfield 139) 3 181 := ⟨by decide +kernel, rfl⟩
theorem x_Mo_acts_181 : DC b_Mo_acts 181 (.iload_n 3) 1 182 := ⟨by decide +kernel, rfl⟩
theorem x_Mo_acts_182 : DC b_Mo_acts 182 (.iaload) 1 183 := ⟨by decide +kernel, rfl⟩
theorem x_Mo_acts_183 : DC b_Mo_acts 183 (.iastore) 1 184 := ⟨by decide +kernel, rfl⟩
theorem x_Mo_acts_184 : DC b_Mo_acts 184 (.iinc 3 1) 3 187 := ⟨by decide +kernel, rfl⟩
theorem x_Mo_acts_187 : DC b_Mo_acts 187 (.goto (-32)) 3 190 := ⟨by decide +kernel, rfl⟩
theorem x_Mo_acts_190 : DC b_Mo_acts 190 (.iconst 0) 1 191 := ⟨by decide +kernel, rfl⟩
theorem x_Mo_acts_191 : DC b_Mo_acts 191 (.istore_n 3) 1 192 := ⟨by decide +kernel, rfl⟩
theorem x_Mo_acts_192 : DC b_Mo_acts 192 (.iload_n 3) 1 193 := ⟨by decide +kernel, rfl⟩
theorem x_Mo_acts_193 : DC b_Mo_acts 193 (.aload_n 0) 1 194 := ⟨by decide +kernel, rfl⟩
theorem x_Mo_acts_194 : DC b_Mo_acts 194 (.getfield 497) 3 197 := ⟨by decide +kernel, rfl⟩
theorem x_Mo_acts_197 : DC b_Mo_acts 197 (.if_icmp .gt 29) 3 200 := ⟨by decide +kernel, rfl⟩
theorem x_Mo_acts_200 : DC b_Mo_acts 200 (.aload_n 0) 1 201 := ⟨by decide +kernel, rfl⟩
theorem x_Mo_acts_201 : DC b_Mo_acts 201 (.getfield 130) 3 204 := ⟨by decide +kernel, rfl⟩
theorem x_Mo_acts_204 : DC b_Mo_acts 204 (.bipush 11) 2 206 := ⟨by decide +kernel, rfl⟩
theorem x_Mo_acts_206 : DC b_Mo_acts 206 (.aload_n 0) 1 207 := ⟨by decide +kernel, rfl⟩
theorem x_Mo_acts_207 : DC b_Mo_acts 207 (.getfield 562) 3 210 := ⟨by decide +kernel, rfl⟩
theorem x_Mo_acts_210 : DC b_Mo_acts 210 (.imul) 1 211 := ⟨by decide +kernel, rfl⟩
theorem x_Mo_acts_211 : DC b_Mo_acts 211 (.iload_n 3) 1 212 := ⟨by decide +kernel, rfl⟩
theorem x_Mo_acts_212 : DC b_Mo_acts 212 (.iadd) 1 213 := ⟨by decide +kernel, rfl⟩
theorem x_Mo_acts_213 : DC b_Mo_acts 213 (.aload_n 0) 1 214 := ⟨by decide +kernel, rfl⟩
theorem x_Mo_acts_214 : DC b_Mo_acts 214 (.getfield 136) 3 217 := ⟨by decide +kernel, rfl⟩
theorem x_Mo_acts_217 : DC b_Mo_acts 217 (.iload_n 3) 1 218 := ⟨by decide +kernel, rfl⟩
theorem x_Mo_acts_218 : DC b_Mo_acts 218 (.iaload) 1 219 := ⟨by decide +kernel, rfl⟩
theorem x_Mo_acts_219 : DC b_Mo_acts 219 (.iastore) 1 220 := ⟨by decide +kernel, rfl⟩
theorem x_Mo_acts_220 : DC b_Mo_acts 220 (.iinc 3 1) 3 223 := ⟨by decide +kernel, rfl⟩
theorem x_Mo_acts_223 : DC b_Mo_acts 223 (.goto (-31)) 3 226 := ⟨by decide +kernel, rfl⟩
theorem x_Mo_acts_226 : DC b_Mo_acts 226 (.iconst 0) 1 227 := ⟨by decide +kernel, rfl⟩
theorem x_Mo_acts_227 : DC b_Mo_acts 227 (.istore_n 3) 1 228 := ⟨by decide +kernel, rfl⟩
theorem x_Mo_acts_228 : DC b_Mo_acts 228 (.iload_n 3) 1 229 := ⟨by decide +kernel, rfl⟩
theorem x_Mo_acts_229 : DC b_Mo_acts 229 (.aload_n 0) 1 230 := ⟨by decide +kernel, rfl⟩
theorem x_Mo_acts_230 : DC b_Mo_acts 230 (.getfield 497) 3 233 := ⟨by decide +kernel, rfl⟩
theorem x_Mo_acts_233 : DC b_Mo_acts 233 (.if_icmp .ge 29) 3 236 := ⟨by decide +kernel, rfl⟩
theorem x_Mo_acts_236 : DC b_Mo_acts 236 (.aload_n 0) 1 237 := ⟨by decide +kernel, rfl⟩
theorem x_Mo_acts_237 : DC b_Mo_acts 237 (.getfield 142) 3 240 := ⟨by decide +kernel, rfl⟩
theorem x_Mo_acts_240 : DC b_Mo_acts 240 (.bipush 10) 2 242 := ⟨by decide +kernel, rfl⟩
theorem x_Mo_acts_242 : DC b_Mo_acts 242 (.aload_n 0) 1 243 := ⟨by decide +kernel, rfl⟩
theorem x_Mo_acts_243 : DC b_Mo_acts 243 (.getfield 562) 3 246 := ⟨by decide +kernel, rfl⟩
theorem x_Mo_acts_246 : DC b_Mo_acts 246 (.imul) 1 247 := ⟨by decide +kernel, rfl⟩
theorem x_Mo_acts_247 : DC b_Mo_acts 247 (.iload_n 3) 1 248 := ⟨by decide +kernel, rfl⟩
theorem x_Mo_acts_248 : DC b_Mo_acts 248 (.iadd) 1 249 := ⟨by decide +kernel, rfl⟩
theorem x_Mo_acts_249 : DC b_Mo_acts 249 (.aload_n 0) 1 250 := ⟨by decide +kernel, rfl⟩
theorem x_Mo_acts_250 : DC b_Mo_acts 250 (.getfield 145) 3 253 := ⟨by decide +kernel, rfl⟩
theorem x_Mo_acts_253 : DC b_Mo_acts 253 (.iload_n 3) 1 254 := ⟨by decide +kernel, rfl⟩
theorem x_Mo_acts_254 : DC b_Mo_acts 254 (.laload) 1 255 := ⟨by decide +kernel, rfl⟩
theorem x_Mo_acts_255 : DC b_Mo_acts 255 (.lastore) 1 256 := ⟨by decide +kernel, rfl⟩
theorem x_Mo_acts_256 : DC b_Mo_acts 256 (.iinc 3 1) 3 259 := ⟨by decide +kernel, rfl⟩
theorem x_Mo_acts_259 : DC b_Mo_acts 259 (.goto (-31)) 3 262 := ⟨by decide +kernel, rfl⟩
theorem x_Mo_acts_262 : DC b_Mo_acts 262 (.aload_n 0) 1 263 := ⟨by decide +kernel, rfl⟩
theorem x_Mo_acts_263 : DC b_Mo_acts 263 (.getfield 127) 3 266 := ⟨by decide +kernel, rfl⟩
theorem x_Mo_acts_266 : DC b_Mo_acts 266 (.aload_n 0) 1 267 := ⟨by decide +kernel, rfl⟩
theorem x_Mo_acts_267 : DC b_Mo_acts 267 (.getfield 562) 3 270 := ⟨by decide +kernel, rfl⟩
theorem x_Mo_acts_270 : DC b_Mo_acts 270 (.aload_n 0) 1 271 := ⟨by decide +kernel, rfl⟩
theorem x_Mo_acts_271 : DC b_Mo_acts 271 (.getfield 497) 3 274 := ⟨by decide +kernel, rfl⟩
theorem x_Mo_acts_274 : DC b_Mo_acts 274 (.iastore) 1 275 := ⟨by decide +kernel, rfl⟩
theorem x_Mo_acts_275 : DC b_Mo_acts 275 (.aload_n 0) 1 276 := ⟨by decide +kernel, rfl⟩
theorem x_Mo_acts_276 : DC b_Mo_acts 276 (.getfield 124) 3 279 := ⟨by decide +kernel, rfl⟩
theorem x_Mo_acts_279 : DC b_Mo_acts 279 (.aload_n 0) 1 280 := ⟨by decide +kernel, rfl⟩
theorem x_Mo_acts_280 : DC b_Mo_acts 280 (.getfield 562) 3 283 := ⟨by decide +kernel, rfl⟩
theorem x_Mo_acts_283 : DC b_Mo_acts 283 (.iload_n 2) 1 284 := ⟨by decide +kernel, rfl⟩
theorem x_Mo_acts_284 : DC b_Mo_acts 284 (.iastore) 1 285 := ⟨by decide +kernel, rfl⟩
theorem x_Mo_acts_285 : DC b_Mo_acts 285 (.aload_n 0) 1 286 := ⟨by decide +kernel, rfl⟩
theorem x_Mo_acts_286 : DC b_Mo_acts 286 (.dup) 1 287 := ⟨by decide +kernel, rfl⟩
theorem x_Mo_acts_287 : DC b_Mo_acts 287 (.getfield 562) 3 290 := ⟨by decide +kernel, rfl⟩
theorem x_Mo_acts_290 : DC b_Mo_acts 290 (.iconst 1) 1 291 := ⟨by decide +kernel, rfl⟩
theorem x_Mo_acts_291 : DC b_Mo_acts 291 (.iadd) 1 292 := ⟨by decide +kernel, rfl⟩
theorem x_Mo_acts_292 : DC b_Mo_acts 292 (.putfield 562) 3 295 := ⟨by decide +kernel, rfl⟩
theorem x_Mo_acts_295 : DC b_Mo_acts 295 (.aload_n 0) 1 296 := ⟨by decide +kernel, rfl⟩
theorem x_Mo_acts_296 : DC b_Mo_acts 296 (.getfield 497) 3 299 := ⟨by decide +kernel, rfl⟩
theorem x_Mo_acts_299 : DC b_Mo_acts 299 (.ireturn) 1 300 := ⟨by decide +kernel, rfl⟩
def k_Mo_acts_228 (R228 : Int → Int → Mem → Res) (a2 a3 : Int) (M : Mem) : Res := blet (M 111 57) fun v1 => if w32 a3 < w32 v1 then (blet (M 111 56) fun v3 => chk (0 ≤ w32 a3 ∧ w32 a3 < 10) <| blet (M 154 (ix a3)) fun v5 => chk (0 ≤ w32 ((10 * v3) + a3) ∧ w32 ((10 * v3) + a3) < 40) <| blet (sto M 153 (ix ((10 * v3) + a3)) v5) fun M7 => blet (a3 + 1) fun v8 => R228 a2 v8 M7) else (blet (M 111 56) fun v9 => blet (M 111 57) fun v10 => chk (0 ≤ w32 v9 ∧ w32 v9 < 4) <| blet (sto M 148 (ix v9) v10) fun M12 => blet (M12 111 56) fun v13 => chk (0 ≤ w32 v13 ∧ w32 v13 < 4) <| blet (sto M12 147 (ix v13) a2) fun M15 => blet (M15 111 56) fun v16 => blet (sto M15 111 56 (v16 + 1)) fun M17 => blet (M17 111 57) fun v18 => some (v18, M17))
theorem z_Mo_acts_228 (C : Cx p s m args meth c G b_Mo_acts 4 "PrairiePoolModel" (some .int)) (hlev : 342 ≤ lev) {r : Int × Mem} {R228 : Int → Int → Mem → Res} (hR228 : ∀ (a2 a3 : Int) (M : Mem), R228 a2 a3 M = some r → Z p l e lev s m args below meth c G 4 (MQ below (Qm G 1 r) args s 0 0 (Ab G)) M 228 [(0, .ref (G.1 + 111)), (2, vi a2), (3, vi a3)] []) {a2 a3 : Int} {M : Mem} (h : k_Mo_acts_228 R228 a2 a3 M = some r) : Z p l e lev s m args below meth c G 4 (MQ below (Qm G 1 r) args s 0 0 (Ab G)) M 228 [(0, .ref (G.1 + 111)), (2, vi a2), (3, vi a3)] [] := by
  unfold k_Mo_acts_228 at h
  refine z_iload_n C 2 x_Mo_acts_228 rfl ?_
  refine z_aload_n C 0 x_Mo_acts_229 rfl ?_
  obtain ⟨v1, ev1, h⟩ := blet_e h
  refine z_getI (j := 57) C x_Mo_acts_230 nk_111 ck_111 cw_12 (i_lt rfl) rfl rfl fl_Mo_497 ev1 ?_
  rcases ite_e h with ⟨c2, h⟩ | ⟨c2, h⟩
  · refine z_icmp_ge_f (tgt := 262) C x_Mo_acts_233 rfl c2 ?_
    refine z_aload_n C 0 x_Mo_acts_236 rfl ?_
    refine z_getR (j := 65) C x_Mo_acts_237 nk_111 ck_111 cw_12 (i_lt rfl) rfl rf_111_65 rfl fl_Mo_142 ?_
    refine z_bipush C rfl x_Mo_acts_240 ?_
    refine z_aload_n C 0 x_Mo_acts_242 rfl ?_
    obtain ⟨v3, ev3, h⟩ := blet_e h
    refine z_getI (j := 56) C x_Mo_acts_243 nk_111 ck_111 cw_12 (i_lt rfl) rfl rfl fl_Mo_562 ev3 ?_
    refine z_imul C x_Mo_acts_246 ?_
    refine z_iload_n C 2 x_Mo_acts_247 rfl ?_
    refine z_iadd C x_Mo_acts_248 ?_
    refine z_aload_n C 0 x_Mo_acts_249 rfl ?_
    refine z_getR (j := 66) C x_Mo_acts_250 nk_111 ck_111 cw_12 (i_lt rfl) rfl rf_111_66 rfl fl_Mo_145 ?_
    refine z_iload_n C 2 x_Mo_acts_253 rfl ?_
    obtain ⟨c4, h⟩ := chk_e h
    obtain ⟨v5, ev5, h⟩ := blet_e h
    refine z_lald C x_Mo_acts_254 nk_154 ck_154 c4 ev5 ?_
    obtain ⟨c6, h⟩ := chk_e h
    obtain ⟨M7, eM7, h⟩ := blet_e h
    refine z_last C x_Mo_acts_255 nk_153 ck_153 c6 eM7 ?_
    obtain ⟨v8, ev8, h⟩ := blet_e h
    refine z_iinc (lv' := [(3, vi v8), (0, .ref (G.1 + 111)), (2, vi a2)]) C 2 ev8 x_Mo_acts_256 rfl (i_lt rfl) rfl ?_
    refine z_goto (tgt := 228) C x_Mo_acts_259 rfl ?_
    exact z_sub [1, 2, 0] rfl (hR228 a2 v8 M7 h)
  · refine z_icmp_ge_t (tgt := 262) C x_Mo_acts_233 rfl c2 ?_
    refine z_aload_n C 0 x_Mo_acts_262 rfl ?_
    refine z_getR (j := 60) C x_Mo_acts_263 nk_111 ck_111 cw_12 (i_lt rfl) rfl rf_111_60 rfl fl_Mo_127 ?_
    refine z_aload_n C 0 x_Mo_acts_266 rfl ?_
    obtain ⟨v9, ev9, h⟩ := blet_e h
    refine z_getI (j := 56) C x_Mo_acts_267 nk_111 ck_111 cw_12 (i_lt rfl) rfl rfl fl_Mo_562 ev9 ?_
    refine z_aload_n C 0 x_Mo_acts_270 rfl ?_
    obtain ⟨v10, ev10, h⟩ := blet_e h
    refine z_getI (j := 57) C x_Mo_acts_271 nk_111 ck_111 cw_12 (i_lt rfl) rfl rfl fl_Mo_497 ev10 ?_
    obtain ⟨c11, h⟩ := chk_e h
    obtain ⟨M12, eM12, h⟩ := blet_e h
    refine z_iast C x_Mo_acts_274 nk_148 ck_148 c11 eM12 ?_
    refine z_aload_n C 0 x_Mo_acts_275 rfl ?_
    refine z_getR (j := 59) C x_Mo_acts_276 nk_111 ck_111 cw_12 (i_lt rfl) rfl rf_111_59 rfl fl_Mo_124 ?_
    refine z_aload_n C 0 x_Mo_acts_279 rfl ?_
    obtain ⟨v13, ev13, h⟩ := blet_e h
    refine z_getI (j := 56) C x_Mo_acts_280 nk_111 ck_111 cw_12 (i_lt rfl) rfl rfl fl_Mo_562 ev13 ?_
    refine z_iload_n C 1 x_Mo_acts_283 rfl ?_
    obtain ⟨c14, h⟩ := chk_e h
    obtain ⟨M15, eM15, h⟩ := blet_e h
    refine z_iast C x_Mo_acts_284 nk_147 ck_147 c14 eM15 ?_
    refine z_aload_n C 0 x_Mo_acts_285 rfl ?_
    refine z_dup C x_Mo_acts_286 rfl ?_
    obtain ⟨v16, ev16, h⟩ := blet_e h
    refine z_getI (j := 56) C x_Mo_acts_287 nk_111 ck_111 cw_12 (i_lt rfl) rfl rfl fl_Mo_562 ev16 ?_
    refine z_iconst C x_Mo_acts_290 ?_
    refine z_iadd C x_Mo_acts_291 ?_
    obtain ⟨M17, eM17, h⟩ := blet_e h
    refine z_putI (j := 56) C x_Mo_acts_292 nk_111 ck_111 cw_12 (i_lt rfl) rfl rfl rfl rfl fl_Mo_562 eM17 ?_
    refine z_aload_n C 0 x_Mo_acts_295 rfl ?_
    obtain ⟨v18, ev18, h⟩ := blet_e h
    refine z_getI (j := 57) C x_Mo_acts_296 nk_111 ck_111 cw_12 (i_lt rfl) rfl rfl fl_Mo_497 ev18 ?_
    exact z_iret C x_Mo_acts_299 h
theorem zl_Mo_acts_228 (C : Cx p s m args meth c G b_Mo_acts 4 "PrairiePoolModel" (some .int)) (hlev : 342 ≤ lev) {r : Int × Mem}  : ∀ (n : Nat) (a2 a3 : Int) (M : Mem), fix (fun _ _ _ => none) (k_Mo_acts_228) n a2 a3 M = some r → Z p l e lev s m args below meth c G 4 (MQ below (Qm G 1 r) args s 0 0 (Ab G)) M 228 [(0, .ref (G.1 + 111)), (2, vi a2), (3, vi a3)] [] := by
  intro n
  induction n with
  | zero => intro a2 a3 M h; exact nomatch (show (none : Res) = some r from h)
  | succ n ih => intro a2 a3 M h; exact z_Mo_acts_228 C hlev ih h
def k_Mo_acts_192 (R192 : Int → Int → Mem → Res) (a2 a3 : Int) (M : Mem) : Res := blet (M 111 57) fun v1 => if w32 v1 < w32 a3 then (fix (fun _ _ _ => none) (k_Mo_acts_228) FU a2 0 M) else (blet (M 111 56) fun v3 => chk (0 ≤ w32 a3 ∧ w32 a3 < 11) <| blet (M 151 (ix a3)) fun v5 => chk (0 ≤ w32 ((11 * v3) + a3) ∧ w32 ((11 * v3) + a3) < 44) <| blet (sto M 149 (ix ((11 * v3) + a3)) v5) fun M7 => blet (a3 + 1) fun v8 => R192 a2 v8 M7)
theorem z_Mo_acts_192 (C : Cx p s m args meth c G b_Mo_acts 4 "PrairiePoolModel" (some .int)) (hlev : 342 ≤ lev) {r : Int × Mem} {R192 : Int → Int → Mem → Res} (hR192 : ∀ (a2 a3 : Int) (M : Mem), R192 a2 a3 M = some r → Z p l e lev s m args below meth c G 4 (MQ below (Qm G 1 r) args s 0 0 (Ab G)) M 192 [(0, .ref (G.1 + 111)), (2, vi a2), (3, vi a3)] []) {a2 a3 : Int} {M : Mem} (h : k_Mo_acts_192 R192 a2 a3 M = some r) : Z p l e lev s m args below meth c G 4 (MQ below (Qm G 1 r) args s 0 0 (Ab G)) M 192 [(0, .ref (G.1 + 111)), (2, vi a2), (3, vi a3)] [] := by
  unfold k_Mo_acts_192 at h
  refine z_iload_n C 2 x_Mo_acts_192 rfl ?_
  refine z_aload_n C 0 x_Mo_acts_193 rfl ?_
  obtain ⟨v1, ev1, h⟩ := blet_e h
  refine z_getI (j := 57) C x_Mo_acts_194 nk_111 ck_111 cw_12 (i_lt rfl) rfl rfl fl_Mo_497 ev1 ?_
  rcases ite_e h with ⟨c2, h⟩ | ⟨c2, h⟩
  · refine z_icmp_gt_t (tgt := 226) C x_Mo_acts_197 rfl c2 ?_
    refine z_iconst C x_Mo_acts_226 ?_
    refine z_istore_n (lv' := [(3, vi 0), (0, .ref (G.1 + 111)), (2, vi a2)]) C rfl x_Mo_acts_227 (i_lt rfl) rfl ?_
    exact z_sub [1, 2, 0] rfl (zl_Mo_acts_228 C hlev FU a2 0 M h)
  · refine z_icmp_gt_f (tgt := 226) C x_Mo_acts_197 rfl c2 ?_
    refine z_aload_n C 0 x_Mo_acts_200 rfl ?_
    refine z_getR (j := 61) C x_Mo_acts_201 nk_111 ck_111 cw_12 (i_lt rfl) rfl rf_111_61 rfl fl_Mo_130 ?_
    refine z_bipush C rfl x_Mo_acts_204 ?_
    refine z_aload_n C 0 x_Mo_acts_206 rfl ?_
    obtain ⟨v3, ev3, h⟩ := blet_e h
    refine z_getI (j := 56) C x_Mo_acts_207 nk_111 ck_111 cw_12 (i_lt rfl) rfl rfl fl_Mo_562 ev3 ?_
    refine z_imul C x_Mo_acts_210 ?_
    refine z_iload_n C 2 x_Mo_acts_211 rfl ?_
    refine z_iadd C x_Mo_acts_212 ?_
    refine z_aload_n C 0 x_Mo_acts_213 rfl ?_
    refine z_getR (j := 63) C x_Mo_acts_214 nk_111 ck_111 cw_12 (i_lt rfl) rfl rf_111_63 rfl fl_Mo_136 ?_
    refine z_iload_n C 2 x_Mo_acts_217 rfl ?_
    obtain ⟨c4, h⟩ := chk_e h
    obtain ⟨v5, ev5, h⟩ := blet_e h
    refine z_iald C x_Mo_acts_218 nk_151 ck_151 c4 ev5 ?_
    obtain ⟨c6, h⟩ := chk_e h
    obtain ⟨M7, eM7, h⟩ := blet_e h
    refine z_iast C x_Mo_acts_219 nk_149 ck_149 c6 eM7 ?_
    obtain ⟨v8, ev8, h⟩ := blet_e h
    refine z_iinc (lv' := [(3, vi v8), (0, .ref (G.1 + 111)), (2, vi a2)]) C 2 ev8 x_Mo_acts_220 rfl (i_lt rfl) rfl ?_
    refine z_goto (tgt := 192) C x_Mo_acts_223 rfl ?_
    exact z_sub [1, 2, 0] rfl (hR192 a2 v8 M7 h)
theorem zl_Mo_acts_192 (C : Cx p s m args meth c G b_Mo_acts 4 "PrairiePoolModel" (some .int)) (hlev : 342 ≤ lev) {r : Int × Mem}  : ∀ (n : Nat) (a2 a3 : Int) (M : Mem), fix (fun _ _ _ => none) (k_Mo_acts_192) n a2 a3 M = some r → Z p l e lev s m args below meth c G 4 (MQ below (Qm G 1 r) args s 0 0 (Ab G)) M 192 [(0, .ref (G.1 + 111)), (2, vi a2), (3, vi a3)] [] := by
  intro n
  induction n with
  | zero => intro a2 a3 M h; exact nomatch (show (none : Res) = some r from h)
  | succ n ih => intro a2 a3 M h; exact z_Mo_acts_192 C hlev ih h
def k_Mo_acts_155 (R155 : Int → Int → Mem → Res) (a2 a3 : Int) (M : Mem) : Res := blet (M 111 58) fun v1 => if w32 a3 < w32 v1 then (blet (M 111 56) fun v3 => chk (0 ≤ w32 a3 ∧ w32 a3 < 1100) <| blet (M 152 (ix a3)) fun v5 => chk (0 ≤ w32 ((1100 * v3) + a3) ∧ w32 ((1100 * v3) + a3) < 4400) <| blet (sto M 150 (ix ((1100 * v3) + a3)) v5) fun M7 => blet (a3 + 1) fun v8 => R155 a2 v8 M7) else (fix (fun _ _ _ => none) (k_Mo_acts_192) FU a2 0 M)
theorem z_Mo_acts_155 (C : Cx p s m args meth c G b_Mo_acts 4 "PrairiePoolModel" (some .int)) (hlev : 342 ≤ lev) {r : Int × Mem} {R155 : Int → Int → Mem → Res} (hR155 : ∀ (a2 a3 : Int) (M : Mem), R155 a2 a3 M = some r → Z p l e lev s m args below meth c G 4 (MQ below (Qm G 1 r) args s 0 0 (Ab G)) M 155 [(0, .ref (G.1 + 111)), (2, vi a2), (3, vi a3)] []) {a2 a3 : Int} {M : Mem} (h : k_Mo_acts_155 R155 a2 a3 M = some r) : Z p l e lev s m args below meth c G 4 (MQ below (Qm G 1 r) args s 0 0 (Ab G)) M 155 [(0, .ref (G.1 + 111)), (2, vi a2), (3, vi a3)] [] := by
  unfold k_Mo_acts_155 at h
  refine z_iload_n C 2 x_Mo_acts_155 rfl ?_
  refine z_aload_n C 0 x_Mo_acts_156 rfl ?_
  obtain ⟨v1, ev1, h⟩ := blet_e h
  refine z_getI (j := 58) C x_Mo_acts_157 nk_111 ck_111 cw_12 (i_lt rfl) rfl rfl fl_Mo_500 ev1 ?_
  rcases ite_e h with ⟨c2, h⟩ | ⟨c2, h⟩
  · refine z_icmp_ge_f (tgt := 190) C x_Mo_acts_160 rfl c2 ?_
    refine z_aload_n C 0 x_Mo_acts_163 rfl ?_
    refine z_getR (j := 62) C x_Mo_acts_164 nk_111 ck_111 cw_12 (i_lt rfl) rfl rf_111_62 rfl fl_Mo_133 ?_
    refine z_sipush C rfl x_Mo_acts_167 ?_
    refine z_aload_n C 0 x_Mo_acts_170 rfl ?_
    obtain ⟨v3, ev3, h⟩ := blet_e h
    refine z_getI (j := 56) C x_Mo_acts_171 nk_111 ck_111 cw_12 (i_lt rfl) rfl rfl fl_Mo_562 ev3 ?_
    refine z_imul C x_Mo_acts_174 ?_
    refine z_iload_n C 2 x_Mo_acts_175 rfl ?_
    refine z_iadd C x_Mo_acts_176 ?_
    refine z_aload_n C 0 x_Mo_acts_177 rfl ?_
    refine z_getR (j := 64) C x_Mo_acts_178 nk_111 ck_111 cw_12 (i_lt rfl) rfl rf_111_64 rfl fl_Mo_139 ?_
    refine z_iload_n C 2 x_Mo_acts_181 rfl ?_
    obtain ⟨c4, h⟩ := chk_e h
    obtain ⟨v5, ev5, h⟩ := blet_e h
    refine z_iald C x_Mo_acts_182 nk_152 ck_152 c4 ev5 ?_
    obtain ⟨c6, h⟩ := chk_e h
    obtain ⟨M7, eM7, h⟩ := blet_e h
    refine z_iast C x_Mo_acts_183 nk_150 ck_150 c6 eM7 ?_
    obtain ⟨v8, ev8, h⟩ := blet_e h
    refine z_iinc (lv' := [(3, vi v8), (0, .ref (G.1 + 111)), (2, vi a2)]) C 2 ev8 x_Mo_acts_184 rfl (i_lt rfl) rfl ?_
    refine z_goto (tgt := 155) C x_Mo_acts_187 rfl ?_
    exact z_sub [1, 2, 0] rfl (hR155 a2 v8 M7 h)
  · refine z_icmp_ge_t (tgt := 190) C x_Mo_acts_160 rfl c2 ?_
    refine z_iconst C x_Mo_acts_190 ?_
    refine z_istore_n (lv' := [(3, vi 0), (0, .ref (G.1 + 111)), (2, vi a2)]) C rfl x_Mo_acts_191 (i_lt rfl) rfl ?_
    exact z_sub [1, 2, 0] rfl (zl_Mo_acts_192 C hlev FU a2 0 M h)
theorem zl_Mo_acts_155 (C : Cx p s m args meth c G b_Mo_acts 4 "PrairiePoolModel" (some .int)) (hlev : 342 ≤ lev) {r : Int × Mem}  : ∀ (n : Nat) (a2 a3 : Int) (M : Mem), fix (fun _ _ _ => none) (k_Mo_acts_155) n a2 a3 M = some r → Z p l e lev s m args below meth c G 4 (MQ below (Qm G 1 r) args s 0 0 (Ab G)) M 155 [(0, .ref (G.1 + 111)), (2, vi a2), (3, vi a3)] [] := by
  intro n
  induction n with
  | zero => intro a2 a3 M h; exact nomatch (show (none : Res) = some r from h)
  | succ n ih => intro a2 a3 M h; exact z_Mo_acts_155 C hlev ih h
def k_Mo_acts_136 (a2 s1 : Int) (M : Mem) : Res := blet (sto M 111 47 s1) fun M1 => blet (M1 111 48) fun v2 => if 0 < w32 v2 then (bcall (d_Mo_refuse 10 M1) fun v4 M5 => some (v4, M5)) else (fix (fun _ _ _ => none) (k_Mo_acts_155) FU a2 0 M1)
theorem z_Mo_acts_136 (C : Cx p s m args meth c G b_Mo_acts 4 "PrairiePoolModel" (some .int)) (hlev : 342 ≤ lev) {r : Int × Mem}  {a2 s1 : Int} {M : Mem} (h : k_Mo_acts_136 a2 s1 M = some r) : Z p l e lev s m args below meth c G 4 (MQ below (Qm G 1 r) args s 0 0 (Ab G)) M 136 [(0, .ref (G.1 + 111)), (2, vi a2)] [vi s1, .ref (G.1 + 111)] := by
  unfold k_Mo_acts_136 at h
  obtain ⟨M1, eM1, h⟩ := blet_e h
  refine z_putI (j := 47) C x_Mo_acts_136 nk_111 ck_111 cw_12 (i_lt rfl) rfl rfl rfl rfl fl_Mo_121 eM1 ?_
  refine z_aload_n C 0 x_Mo_acts_139 rfl ?_
  obtain ⟨v2, ev2, h⟩ := blet_e h
  refine z_getI (j := 48) C x_Mo_acts_140 nk_111 ck_111 cw_12 (i_lt rfl) rfl rfl fl_Mo_453 ev2 ?_
  rcases ite_e h with ⟨c3, h⟩ | ⟨c3, h⟩
  · refine z_if_le_f (tgt := 153) C x_Mo_acts_143 rfl c3 ?_
    refine z_aload_n C 0 x_Mo_acts_146 rfl ?_
    refine z_bipush C rfl x_Mo_acts_147 ?_
    obtain ⟨v4, M5, fv4, h⟩ := bcall_e h
    refine z_callVi (k := 111) C x_Mo_acts_149 cv_Mo_297 (t_Mo_refuse (lev := lev - 1) l G (by omega) fv4) nk_111 ck_111 rfl (by omega) rfl (i_le rfl) rfl ?_
    exact z_iret C x_Mo_acts_152 h
  · refine z_if_le_t (tgt := 153) C x_Mo_acts_143 rfl c3 ?_
    refine z_iconst C x_Mo_acts_153 ?_
    refine z_istore_n (lv' := [(3, vi 0), (0, .ref (G.1 + 111)), (2, vi a2)]) C rfl x_Mo_acts_154 (i_lt rfl) rfl ?_
    exact z_sub [1, 2, 0] rfl (zl_Mo_acts_155 C hlev FU a2 0 M1 h)
def k_Mo_acts_112 (a2 : Int) (M : Mem) : Res := blet (M 111 48) fun v1 => blet (sto M 111 46 v1) fun M2 => blet (M2 111 48) fun v3 => if w32 v3 = 0 then (k_Mo_acts_136 a2 (-1) M2) else (blet (M2 111 49) fun v5 => k_Mo_acts_136 a2 v5 M2)
theorem z_Mo_acts_112 (C : Cx p s m args meth c G b_Mo_acts 4 "PrairiePoolModel" (some .int)) (hlev : 342 ≤ lev) {r : Int × Mem}  {a2 : Int} {M : Mem} (h : k_Mo_acts_112 a2 M = some r) : Z p l e lev s m args below meth c G 4 (MQ below (Qm G 1 r) args s 0 0 (Ab G)) M 112 [(0, .ref (G.1 + 111)), (2, vi a2)] [] := by
  unfold k_Mo_acts_112 at h
  refine z_aload_n C 0 x_Mo_acts_112 rfl ?_
  refine z_aload_n C 0 x_Mo_acts_113 rfl ?_
  obtain ⟨v1, ev1, h⟩ := blet_e h
  refine z_getI (j := 48) C x_Mo_acts_114 nk_111 ck_111 cw_12 (i_lt rfl) rfl rfl fl_Mo_453 ev1 ?_
  obtain ⟨M2, eM2, h⟩ := blet_e h
  refine z_putI (j := 46) C x_Mo_acts_117 nk_111 ck_111 cw_12 (i_lt rfl) rfl rfl rfl rfl fl_Mo_117 eM2 ?_
  refine z_aload_n C 0 x_Mo_acts_120 rfl ?_
  refine z_aload_n C 0 x_Mo_acts_121 rfl ?_
  obtain ⟨v3, ev3, h⟩ := blet_e h
  refine z_getI (j := 48) C x_Mo_acts_122 nk_111 ck_111 cw_12 (i_lt rfl) rfl rfl fl_Mo_453 ev3 ?_
  rcases ite_e h with ⟨c4, h⟩ | ⟨c4, h⟩
  · refine z_if_ne_f (tgt := 132) C x_Mo_acts_125 rfl c4 ?_
    refine z_iconst C x_Mo_acts_128 ?_
    refine z_goto (tgt := 136) C x_Mo_acts_129 rfl ?_
    exact z_sub [0, 1] rfl (z_Mo_acts_136 C hlev h)
  · refine z_if_ne_t (tgt := 132) C x_Mo_acts_125 rfl c4 ?_
    refine z_aload_n C 0 x_Mo_acts_132 rfl ?_
    obtain ⟨v5, ev5, h⟩ := blet_e h
    refine z_getI (j := 49) C x_Mo_acts_133 nk_111 ck_111 cw_12 (i_lt rfl) rfl rfl fl_Mo_456 ev5 ?_
    exact z_sub [0, 1] rfl (z_Mo_acts_136 C hlev h)
def k_Mo_acts_91 (R91 : Int → Mem → Res) (a2 : Int) (M : Mem) : Res := blet (M 111 48) fun v1 => if w32 v1 = 0 then (blet (M 111 50) fun v3 => if w32 v3 = 0 then (k_Mo_acts_112 a2 M) else (bcall (d_Mo_readDef M) fun v5 M6 => R91 a2 M6)) else (k_Mo_acts_112 a2 M)
theorem z_Mo_acts_91 (C : Cx p s m args meth c G b_Mo_acts 4 "PrairiePoolModel" (some .int)) (hlev : 342 ≤ lev) {r : Int × Mem} {R91 : Int → Mem → Res} (hR91 : ∀ (a2 : Int) (M : Mem), R91 a2 M = some r → Z p l e lev s m args below meth c G 4 (MQ below (Qm G 1 r) args s 0 0 (Ab G)) M 91 [(0, .ref (G.1 + 111)), (2, vi a2)] []) {a2 : Int} {M : Mem} (h : k_Mo_acts_91 R91 a2 M = some r) : Z p l e lev s m args below meth c G 4 (MQ below (Qm G 1 r) args s 0 0 (Ab G)) M 91 [(0, .ref (G.1 + 111)), (2, vi a2)] [] := by
  unfold k_Mo_acts_91 at h
  refine z_aload_n C 0 x_Mo_acts_91 rfl ?_
  obtain ⟨v1, ev1, h⟩ := blet_e h
  refine z_getI (j := 48) C x_Mo_acts_92 nk_111 ck_111 cw_12 (i_lt rfl) rfl rfl fl_Mo_453 ev1 ?_
  rcases ite_e h with ⟨c2, h⟩ | ⟨c2, h⟩
  · refine z_if_ne_f (tgt := 112) C x_Mo_acts_95 rfl c2 ?_
    refine z_aload_n C 0 x_Mo_acts_98 rfl ?_
    obtain ⟨v3, ev3, h⟩ := blet_e h
    refine z_getI (j := 50) C x_Mo_acts_99 nk_111 ck_111 cw_12 (i_lt rfl) rfl rfl fl_Mo_422 ev3 ?_
    rcases ite_e h with ⟨c4, h⟩ | ⟨c4, h⟩
    · refine z_if_eq_t (tgt := 112) C x_Mo_acts_102 rfl c4 ?_
      exact z_sub [0, 1] rfl (z_Mo_acts_112 C hlev h)
    · refine z_if_eq_f (tgt := 112) C x_Mo_acts_102 rfl c4 ?_
      refine z_aload_n C 0 x_Mo_acts_105 rfl ?_
      obtain ⟨v5, M6, fv5, h⟩ := bcall_e h
      refine z_callVv (k := 111) C x_Mo_acts_106 cv_Mo_565 (t_Mo_readDef (lev := lev - 1) l G (by omega) fv5) nk_111 ck_111 rfl (by omega) rfl (i_le rfl) rfl ?_
      refine z_goto (tgt := 91) C x_Mo_acts_109 rfl ?_
      exact z_sub [0, 1] rfl (hR91 a2 M6 h)
  · refine z_if_ne_t (tgt := 112) C x_Mo_acts_95 rfl c2 ?_
    exact z_sub [0, 1] rfl (z_Mo_acts_112 C hlev h)
theorem zl_Mo_acts_91 (C : Cx p s m args meth c G b_Mo_acts 4 "PrairiePoolModel" (some .int)) (hlev : 342 ≤ lev) {r : Int × Mem}  : ∀ (n : Nat) (a2 : Int) (M : Mem), fix (fun _ _ => none) (k_Mo_acts_91) n a2 M = some r → Z p l e lev s m args below meth c G 4 (MQ below (Qm G 1 r) args s 0 0 (Ab G)) M 91 [(0, .ref (G.1 + 111)), (2, vi a2)] [] := by
  intro n
  induction n with
  | zero => intro a2 M h; exact nomatch (show (none : Res) = some r from h)
  | succ n ih => intro a2 M h; exact z_Mo_acts_91 C hlev ih h
def k_Mo_acts_29 (M : Mem) : Res := bcall (d_Mo_refuse 5 M) fun v1 M2 => some (v1, M2)
theorem z_Mo_acts_29 (C : Cx p s m args meth c G b_Mo_acts 4 "PrairiePoolModel" (some .int)) (hlev : 342 ≤ lev) {r : Int × Mem}  {M : Mem} (h : k_Mo_acts_29 M = some r) : Z p l e lev s m args below meth c G 4 (MQ below (Qm G 1 r) args s 0 0 (Ab G)) M 29 [(0, .ref (G.1 + 111))] [] := by
  unfold k_Mo_acts_29 at h
  refine z_aload_n C 0 x_Mo_acts_29 rfl ?_
  refine z_iconst C x_Mo_acts_30 ?_
  obtain ⟨v1, M2, fv1, h⟩ := bcall_e h
  refine z_callVi (k := 111) C x_Mo_acts_31 cv_Mo_297 (t_Mo_refuse (lev := lev - 1) l G (by omega) fv1) nk_111 ck_111 rfl (by omega) rfl (i_le rfl) rfl ?_
  exact z_iret C x_Mo_acts_34 h
def d_Mo_acts (a1 a2 : Int) (M : Mem) : Res := blet (sto M 111 1 0) fun M1 => blet (sto M1 111 0 0) fun M2 => if w32 a1 < 0 then (k_Mo_acts_29 M2) else (blet (M2 111 44) fun v4 => if w32 v4 < w32 a1 then (k_Mo_acts_29 M2) else (bcall (d_Mo_isDay a2 M2) fun v6 M7 => if w32 v6 = 0 then (k_Mo_acts_29 M7) else (blet (M7 111 56) fun v9 => if w32 v9 = 4 then (bcall (d_Mo_refuse 7 M7) fun v11 M12 => some (v11, M12)) else (blet (sto M7 111 45 a1) fun M13 => blet (sto M13 111 44 0) fun M14 => blet (sto M14 111 52 0) fun M15 => blet (sto M15 111 48 0) fun M16 => blet (sto M16 111 57 0) fun M17 => blet (sto M17 111 58 0) fun M18 => blet (sto M18 151 0 0) fun M19 => bcall (d_Mo_next M19) fun v20 M21 => fix (fun _ _ => none) (k_Mo_acts_91) FU a2 M21))))
theorem t_Mo_acts (l : Launch) (G : GX) {lev : Nat} (hlev : 342 ≤ lev) {a1 a2 : Int} {M : Mem} {r : Int × Mem} (h : d_Mo_acts a1 a2 M = some r) : Mt l G y_Mo_acts b_Mo_acts 4 (some .int) lev 1 [.ref (G.1 + 111), vi a1, vi a2] M r := by
  refine Mt.of (by decide) (i_le rfl) ?_
  intro p e s m args below meth c C
  have C : Cx p s m args meth c G b_Mo_acts 4 "PrairiePoolModel" (some .int) := C
  unfold d_Mo_acts at h
  refine z_sub (lv' := [(0, .ref (G.1 + 111)), (1, vi a1), (2, vi a2)]) [0, 1, 2] rfl ?_
  refine z_aload_n C 0 x_Mo_acts_0 rfl ?_
  refine z_iconst C x_Mo_acts_1 ?_
  obtain ⟨M1, eM1, h⟩ := blet_e h
  refine z_putI (j := 1) C x_Mo_acts_2 nk_111 ck_111 cw_12 (i_lt rfl) rfl rfl rfl rfl fl_Mo_257 eM1 ?_
  refine z_aload_n C 0 x_Mo_acts_5 rfl ?_
  refine z_iconst C x_Mo_acts_6 ?_
  obtain ⟨M2, eM2, h⟩ := blet_e h
  refine z_putI (j := 0) C x_Mo_acts_7 nk_111 ck_111 cw_12 (i_lt rfl) rfl rfl rfl rfl fl_Mo_260 eM2 ?_
  refine z_iload_n C 1 x_Mo_acts_10 rfl ?_
  rcases ite_e h with ⟨c3, h⟩ | ⟨c3, h⟩
  · refine z_if_lt_t (tgt := 29) C x_Mo_acts_11 rfl c3 ?_
    exact z_sub [0] rfl (z_Mo_acts_29 C hlev h)
  · refine z_if_lt_f (tgt := 29) C x_Mo_acts_11 rfl c3 ?_
    refine z_iload_n C 1 x_Mo_acts_14 rfl ?_
    refine z_aload_n C 0 x_Mo_acts_15 rfl ?_
    obtain ⟨v4, ev4, h⟩ := blet_e h
    refine z_getI (j := 44) C x_Mo_acts_16 nk_111 ck_111 cw_12 (i_lt rfl) rfl rfl fl_Mo_556 ev4 ?_
    rcases ite_e h with ⟨c5, h⟩ | ⟨c5, h⟩
    · refine z_icmp_gt_t (tgt := 29) C x_Mo_acts_19 rfl c5 ?_
      exact z_sub [0] rfl (z_Mo_acts_29 C hlev h)
    · refine z_icmp_gt_f (tgt := 29) C x_Mo_acts_19 rfl c5 ?_
      refine z_iload_n C 2 x_Mo_acts_22 rfl ?_
      obtain ⟨v6, M7, fv6, h⟩ := bcall_e h
      refine z_callSi C x_Mo_acts_23 cs_Mo_306 (t_Mo_isDay (lev := lev - 1) l G (by omega) fv6) (by omega) rfl (i_le rfl) rfl ?_
      rcases ite_e h with ⟨c8, h⟩ | ⟨c8, h⟩
      · refine z_if_ne_f (tgt := 35) C x_Mo_acts_26 rfl c8 ?_
        exact z_sub [0] rfl (z_Mo_acts_29 C hlev h)
      · refine z_if_ne_t (tgt := 35) C x_Mo_acts_26 rfl c8 ?_
        refine z_aload_n C 0 x_Mo_acts_35 rfl ?_
        obtain ⟨v9, ev9, h⟩ := blet_e h
        refine z_getI (j := 56) C x_Mo_acts_36 nk_111 ck_111 cw_12 (i_lt rfl) rfl rfl fl_Mo_562 ev9 ?_
        refine z_iconst C x_Mo_acts_39 ?_
        rcases ite_e h with ⟨c10, h⟩ | ⟨c10, h⟩
        · refine z_icmp_ne_f (tgt := 50) C x_Mo_acts_40 rfl c10 ?_
          refine z_aload_n C 0 x_Mo_acts_43 rfl ?_
          refine z_bipush C rfl x_Mo_acts_44 ?_
          obtain ⟨v11, M12, fv11, h⟩ := bcall_e h
          refine z_callVi (k := 111) C x_Mo_acts_46 cv_Mo_297 (t_Mo_refuse (lev := lev - 1) l G (by omega) fv11) nk_111 ck_111 rfl (by omega) rfl (i_le rfl) rfl ?_
          exact z_iret C x_Mo_acts_49 h
        · refine z_icmp_ne_t (tgt := 50) C x_Mo_acts_40 rfl c10 ?_
          refine z_aload_n C 0 x_Mo_acts_50 rfl ?_
          refine z_iload_n C 1 x_Mo_acts_51 rfl ?_
          obtain ⟨M13, eM13, h⟩ := blet_e h
          refine z_putI (j := 45) C x_Mo_acts_52 nk_111 ck_111 cw_12 (i_lt rfl) rfl rfl rfl rfl fl_Mo_410 eM13 ?_
          refine z_aload_n C 0 x_Mo_acts_55 rfl ?_
          refine z_iconst C x_Mo_acts_56 ?_
          obtain ⟨M14, eM14, h⟩ := blet_e h
          refine z_putI (j := 44) C x_Mo_acts_57 nk_111 ck_111 cw_12 (i_lt rfl) rfl rfl rfl rfl fl_Mo_556 eM14 ?_
          refine z_aload_n C 0 x_Mo_acts_60 rfl ?_
          refine z_iconst C x_Mo_acts_61 ?_
          obtain ⟨M15, eM15, h⟩ := blet_e h
          refine z_putI (j := 52) C x_Mo_acts_62 nk_111 ck_111 cw_12 (i_lt rfl) rfl rfl rfl rfl fl_Mo_413 eM15 ?_
          refine z_aload_n C 0 x_Mo_acts_65 rfl ?_
          refine z_iconst C x_Mo_acts_66 ?_
          obtain ⟨M16, eM16, h⟩ := blet_e h
          refine z_putI (j := 48) C x_Mo_acts_67 nk_111 ck_111 cw_12 (i_lt rfl) rfl rfl rfl rfl fl_Mo_453 eM16 ?_
          refine z_aload_n C 0 x_Mo_acts_70 rfl ?_
          refine z_iconst C x_Mo_acts_71 ?_
          obtain ⟨M17, eM17, h⟩ := blet_e h
          refine z_putI (j := 57) C x_Mo_acts_72 nk_111 ck_111 cw_12 (i_lt rfl) rfl rfl rfl rfl fl_Mo_497 eM17 ?_
          refine z_aload_n C 0 x_Mo_acts_75 rfl ?_
          refine z_iconst C x_Mo_acts_76 ?_
          obtain ⟨M18, eM18, h⟩ := blet_e h
          refine z_putI (j := 58) C x_Mo_acts_77 nk_111 ck_111 cw_12 (i_lt rfl) rfl rfl rfl rfl fl_Mo_500 eM18 ?_
          refine z_aload_n C 0 x_Mo_acts_80 rfl ?_
          refine z_getR (j := 63) C x_Mo_acts_81 nk_111 ck_111 cw_12 (i_lt rfl) rfl rf_111_63 rfl fl_Mo_136 ?_
          refine z_iconst C x_Mo_acts_84 ?_
          refine z_iconst C x_Mo_acts_85 ?_
          obtain ⟨M19, eM19, h⟩ := blet_e h
          refine z_iast C x_Mo_acts_86 nk_151 ck_151 (by decide) eM19 ?_
          refine z_aload_n C 0 x_Mo_acts_87 rfl ?_
          obtain ⟨v20, M21, fv20, h⟩ := bcall_e h
          refine z_callVv (k := 111) C x_Mo_acts_88 cv_Mo_522 (t_Mo_next (lev := lev - 1) l G (by omega) fv20) nk_111 ck_111 rfl (by omega) rfl (i_le rfl) rfl ?_
          exact z_sub [0, 2] rfl (zl_Mo_acts_91 C hlev FU a2 M21 h)
theorem x_Mo_fault_0 : DC b_Mo_fault 0 (.aload_n 0) 1 1 := ⟨by decide +kernel, rfl⟩
theorem x_Mo_fault_1 : DC b_Mo_fault 1 (.iconst 0) 1 2 := ⟨by decide +kernel, rfl⟩
theorem x_Mo_fault_2 : DC b_Mo_fault 2 (.putfield 257) 3 5 := ⟨by decide +kernel, rfl⟩
theorem x_Mo_fault_5 : DC b_Mo_fault 5 (.iload_n 1) 1 6 := ⟨by decide +kernel, rfl⟩
theorem x_Mo_fault_6 : DC b_Mo_fault 6 (.ifCond .ne 10) 3 9 := ⟨by decide +kernel, rfl⟩
theorem x_Mo_fault_9 : DC b_Mo_fault 9 (.aload_n 0) 1 10 := ⟨by decide +kernel, rfl⟩
theorem x_Mo_fault_10 : DC b_Mo_fault 10 (.getfield 117) 3 13 := ⟨by decide +kernel, rfl⟩
theorem x_Mo_fault_13 : DC b_Mo_fault 13 (.goto 16) 3 16 := ⟨by decide +kernel, rfl⟩
theorem x_Mo_fault_16 : DC b_Mo_fault 16 (.iload_n 1) 1 17 := ⟨by decide +kernel, rfl⟩
theorem x_Mo_fault_17 : DC b_Mo_fault 17 (.iconst 1) 1 18 := ⟨by decide +kernel, rfl⟩
theorem x_Mo_fault_18 : DC b_Mo_fault 18 (.if_icmp .ne 10) 3 21 := ⟨by decide +kernel, rfl⟩
theorem x_Mo_fault_21 : DC b_Mo_fault 21 (.aload_n 0) 1 22 := ⟨by decide +kernel, rfl⟩
theorem x_Mo_fault_22 : DC b_Mo_fault 22 (.getfield 121) 3 25 := ⟨by decide +kernel, rfl⟩
theorem x_Mo_fault_25 : DC b_Mo_fault 25 (.goto 4) 3 28 := ⟨by decide +kernel, rfl⟩
theorem x_Mo_fault_28 : DC b_Mo_fault 28 (.iconst (-1)) 1 29 := ⟨by decide +kernel, rfl⟩
theorem x_Mo_fault_29 : DC b_Mo_fault 29 (.ireturn) 1 30 := ⟨by decide +kernel, rfl⟩
def d_Mo_fault (a1 : Int) (M : Mem) : Res := blet (sto M 111 1 0) fun M1 => if w32 a1 = 0 then (blet (M1 111 46) fun v3 => some (v3, M1)) else (if w32 a1 = 1 then (blet (M1 111 47) fun v5 => some (v5, M1)) else (some ((-1), M1)))
theorem t_Mo_fault (l : Launch) (G : GX) {lev : Nat} (hlev : 0 ≤ lev) {a1 : Int} {M : Mem} {r : Int × Mem} (h : d_Mo_fault a1 M = some r) : Mt l G y_Mo_fault b_Mo_fault 2 (some .int) lev 1 [.ref (G.1 + 111), vi a1] M r := by
  refine Mt.of (by decide) (i_le rfl) ?_
  intro p e s m args below meth c C
  have C : Cx p s m args meth c G b_Mo_fault 2 "PrairiePoolModel" (some .int) := C
  unfold d_Mo_fault at h
  refine z_sub (lv' := [(0, .ref (G.1 + 111)), (1, vi a1)]) [0, 1] rfl ?_
  refine z_aload_n C 0 x_Mo_fault_0 rfl ?_
  refine z_iconst C x_Mo_fault_1 ?_
  obtain ⟨M1, eM1, h⟩ := blet_e h
  refine z_putI (j := 1) C x_Mo_fault_2 nk_111 ck_111 cw_12 (i_lt rfl) rfl rfl rfl rfl fl_Mo_257 eM1 ?_
  refine z_iload_n C 1 x_Mo_fault_5 rfl ?_
  rcases ite_e h with ⟨c2, h⟩ | ⟨c2, h⟩
  · refine z_if_ne_f (tgt := 16) C x_Mo_fault_6 rfl c2 ?_
    refine z_aload_n C 0 x_Mo_fault_9 rfl ?_
    obtain ⟨v3, ev3, h⟩ := blet_e h
    refine z_getI (j := 46) C x_Mo_fault_10 nk_111 ck_111 cw_12 (i_lt rfl) rfl rfl fl_Mo_117 ev3 ?_
    refine z_goto (tgt := 29) C x_Mo_fault_13 rfl ?_
    exact z_iret C x_Mo_fault_29 h
  · refine z_if_ne_t (tgt := 16) C x_Mo_fault_6 rfl c2 ?_
    refine z_iload_n C 1 x_Mo_fault_16 rfl ?_
    refine z_iconst C x_Mo_fault_17 ?_
    rcases ite_e h with ⟨c4, h⟩ | ⟨c4, h⟩
    · refine z_icmp_ne_f (tgt := 28) C x_Mo_fault_18 rfl c4 ?_
      refine z_aload_n C 0 x_Mo_fault_21 rfl ?_
      obtain ⟨v5, ev5, h⟩ := blet_e h
      refine z_getI (j := 47) C x_Mo_fault_22 nk_111 ck_111 cw_12 (i_lt rfl) rfl rfl fl_Mo_121 ev5 ?_
      refine z_goto (tgt := 29) C x_Mo_fault_25 rfl ?_
      exact z_iret C x_Mo_fault_29 h
    · refine z_icmp_ne_t (tgt := 28) C x_Mo_fault_18 rfl c4 ?_
      refine z_iconst C x_Mo_fault_28 ?_
      exact z_iret C x_Mo_fault_29 h
theorem x_Mo_came_0 : DC b_Mo_came 0 (.lconst 0) 1 1 := ⟨by decide +kernel, rfl⟩
theorem x_Mo_came_1 : DC b_Mo_came 1 (.lstore 4) 2 3 := ⟨by decide +kernel, rfl⟩
theorem x_Mo_came_3 : DC b_Mo_came 3 (.iconst 0) 1 4 := ⟨by decide +kernel, rfl⟩
theorem x_Mo_came_4 : DC b_Mo_came 4 (.istore 6) 2 6 := ⟨by decide +kernel, rfl⟩
theorem x_Mo_came_6 : DC b_Mo_came 6 (.iload 6) 2 8 := ⟨by decide +kernel, rfl⟩
theorem x_Mo_came_8 : DC b_Mo_came 8 (.aload_n 0) 1 9 := ⟨by decide +kernel, rfl⟩
theorem x_Mo_came_9 : DC b_Mo_came 9 (.getfield 309) 3 12 := ⟨by decide +kernel, rfl⟩
theorem x_Mo_came_12 : DC b_Mo_came 12 (.if_icmp .ge 75) 3 15 := ⟨by decide +kernel, rfl⟩
theorem x_Mo_came_15 : DC b_Mo_came 15 (.aload_n 0) 1 16 := ⟨by decide +kernel, rfl⟩
theorem x_Mo_came_16 : DC b_Mo_came 16 (.getfield 62) 3 19 := ⟨by decide +kernel, rfl⟩
theorem x_Mo_came_19 : DC b_Mo_came 19 (.iload 6) 2 21 := ⟨by decide +kernel, rfl⟩
theorem x_Mo_came_21 : DC b_Mo_came 21 (.iaload) 1 22 := ⟨by decide +kernel, rfl⟩
theorem x_Mo_came_22 : DC b_Mo_came 22 (.iload_n 3) 1 23 := ⟨by decide +kernel, rfl⟩
theorem x_Mo_came_23 : DC b_Mo_came 23 (.if_icmp .gt 58) 3 26 := ⟨by decide +kernel, rfl⟩
theorem x_Mo_came_26 : DC b_Mo_came 26 (.aload_n 0) 1 27 := ⟨by decide +kernel, rfl⟩
theorem x_Mo_came_27 : DC b_Mo_came 27 (.getfield 35) 3 30 := ⟨by decide +kernel, rfl⟩
theorem x_Mo_came_30 : DC b_Mo_came 30 (.iload 6) 2 32 := ⟨by decide +kernel, rfl⟩
theorem x_Mo_came_32 : DC b_Mo_came 32 (.iaload) 1 33 := ⟨by decide +kernel, rfl⟩
theorem x_Mo_came_33 : DC b_Mo_came 33 (.iconst 2) 1 34 := ⟨by decide +kernel, rfl⟩
theorem x_Mo_came_34 : DC b_Mo_came 34 (.if_icmp .ne 47) 3 37 := ⟨by decide +kernel, rfl⟩
theorem x_Mo_came_37 : DC b_Mo_came 37 (.aload_n 0) 1 38 := ⟨by decide +kernel, rfl⟩
theorem x_Mo_came_38 : DC b_Mo_came 38 (.getfield 47) 3 41 := ⟨by decide +kernel, rfl⟩
theorem x_Mo_came_41 : DC b_Mo_came 41 (.iload 6) 2 43 := ⟨by decide +kernel, rfl⟩
theorem x_Mo_came_43 : DC b_Mo_came 43 (.iaload) 1 44 := ⟨by decide +kernel, rfl⟩
theorem x_Mo_came_44 : DC b_Mo_came 44 (.iload_n 2) 1 45 := ⟨by decide +kernel, rfl⟩
theorem x_Mo_came_45 : DC b_Mo_came 45 (.if_icmp .ne 36) 3 48 := ⟨by decide +kernel, rfl⟩
theorem x_Mo_came_48 : DC b_Mo_came 48 (.aload_n 0) 1 49 := ⟨by decide +kernel, rfl⟩
theorem x_Mo_came_49 : DC b_Mo_came 49 (.getfield 50) 3 52 := ⟨by decide +kernel, rfl⟩
theorem x_Mo_came_52 : DC b_Mo_came 52 (.iload 6) 2 54 := ⟨by decide +kernel, rfl⟩
theorem x_Mo_came_54 : DC b_Mo_came 54 (.iaload) 1 55 := ⟨by decide +kernel, rfl⟩
theorem x_Mo_came_55 : DC b_Mo_came 55 (.iload_n 1) 1 56 := ⟨by decide +kernel, rfl⟩
theorem x_Mo_came_56 : DC b_Mo_came 56 (.if_icmp .ne 25) 3 59 := ⟨by decide +kernel, rfl⟩
theorem x_Mo_came_59 : DC b_Mo_came 59 (.lload 4) 2 61 := ⟨by decide +kernel, rfl⟩
theorem x_Mo_came_61 : DC b_Mo_came 61 (.aload_n 0) 1 62 := ⟨by decide +kernel, rfl⟩
theorem x_Mo_came_62 : DC b_Mo_came 62 (.getfield 86) 3 65 := ⟨by decide +kernel, rfl⟩
theorem x_Mo_came_65 : DC b_Mo_came 65 (.iload 6) 2 67 := ⟨by decide +kernel, rfl⟩
theorem x_Mo_came_67 : DC b_Mo_came 67 (.iaload) 1 68 := ⟨by decide +kernel, rfl⟩
theorem x_Mo_came_68 : DC b_Mo_came 68 (.i2l) 1 69 := ⟨by decide +kernel, rfl⟩
theorem x_Mo_came_69 : DC b_Mo_came 69 (.aload_n 0) 1 70 := ⟨by decide +kernel, rfl⟩
theorem x_Mo_came_70 : DC b_Mo_came 70 (.getfield 56) 3 73 := ⟨by decide +kernel, rfl⟩
theorem x_Mo_came_73 : DC b_Mo_came 73 (.iload 6) 2 75 := ⟨by decide +kernel, rfl⟩
theorem x_Mo_came_75 : DC b_Mo_came 75 (.iaload) 1 76 := ⟨by decide +kernel, rfl⟩
theorem x_Mo_came_76 : DC b_Mo_came 76 (.i2l) 1 77 := ⟨by decide +kernel, rfl⟩
theorem x_Mo_came_77 : DC b_Mo_came 77 (.lmul) 1 78 := ⟨by decide +kernel, rfl⟩
theorem x_Mo_came_78 : DC b_Mo_came 78 (.ladd) 1 79 := ⟨by decide +kernel, rfl⟩
theorem x_Mo_came_79 : DC b_Mo_came 79 (.lstore 4) 2 81 := ⟨by decide +kernel, rfl⟩
theorem x_Mo_came_81 : DC b_Mo_came 81 (.iinc 6 1) 3 84 := ⟨by decide +kernel, rfl⟩
theorem x_Mo_came_84 : DC b_Mo_came 84 (.goto (-78)) 3 87 := ⟨by decide +kernel, rfl⟩
theorem x_Mo_came_87 : DC b_Mo_came 87 (.lload 4) 2 89 := ⟨by decide +kernel, rfl⟩
theorem x_Mo_came_89 : DC b_Mo_came 89 (.lreturn) 1 90 := ⟨by decide +kernel, rfl⟩
def k_Mo_came_81 (R6 : Int → Int → Int → Int → Int → Mem → Res) (a1 a2 a3 a4 a6 : Int) (M : Mem) : Res := blet (a6 + 1) fun v1 => R6 a1 a2 a3 a4 v1 M
theorem z_Mo_came_81 (C : Cx p s m args meth c G b_Mo_came 7 "PrairiePoolModel" (some .long)) (hlev : 0 ≤ lev) {r : Int × Mem} {R6 : Int → Int → Int → Int → Int → Mem → Res} (hR6 : ∀ (a1 a2 a3 a4 a6 : Int) (M : Mem), R6 a1 a2 a3 a4 a6 M = some r → Z p l e lev s m args below meth c G 7 (MQ below (Qm G 2 r) args s 0 0 (Ab G)) M 6 [(0, .ref (G.1 + 111)), (1, vi a1), (2, vi a2), (3, vi a3), (4, vl a4), (6, vi a6)] []) {a1 a2 a3 a4 a6 : Int} {M : Mem} (h : k_Mo_came_81 R6 a1 a2 a3 a4 a6 M = some r) : Z p l e lev s m args below meth c G 7 (MQ below (Qm G 2 r) args s 0 0 (Ab G)) M 81 [(0, .ref (G.1 + 111)), (1, vi a1), (2, vi a2), (3, vi a3), (4, vl a4), (6, vi a6)] [] := by
  unfold k_Mo_came_81 at h
  obtain ⟨v1, ev1, h⟩ := blet_e h
  refine z_iinc (lv' := [(6, vi v1), (0, .ref (G.1 + 111)), (1, vi a1), (2, vi a2), (3, vi a3), (4, vl a4)]) C 5 ev1 x_Mo_came_81 rfl (i_lt rfl) rfl ?_
  refine z_goto (tgt := 6) C x_Mo_came_84 rfl ?_
  exact z_sub [1, 2, 3, 4, 5, 0] rfl (hR6 a1 a2 a3 a4 v1 M h)
def k_Mo_came_6 (R6 : Int → Int → Int → Int → Int → Mem → Res) (a1 a2 a3 a4 a6 : Int) (M : Mem) : Res := blet (M 111 7) fun v1 => if w32 a6 < w32 v1 then (chk (0 ≤ w32 a6 ∧ w32 a6 < 120) <| blet (M 129 (ix a6)) fun v4 => if w32 a3 < w32 v4 then (k_Mo_came_81 R6 a1 a2 a3 a4 a6 M) else (chk (0 ≤ w32 a6 ∧ w32 a6 < 120) <| blet (M 120 (ix a6)) fun v7 => if w32 v7 = 2 then (chk (0 ≤ w32 a6 ∧ w32 a6 < 120) <| blet (M 124 (ix a6)) fun v10 => if w32 v10 = w32 a2 then (chk (0 ≤ w32 a6 ∧ w32 a6 < 120) <| blet (M 125 (ix a6)) fun v13 => if w32 v13 = w32 a1 then (chk (0 ≤ w32 a6 ∧ w32 a6 < 120) <| blet (M 137 (ix a6)) fun v16 => chk (0 ≤ w32 a6 ∧ w32 a6 < 120) <| blet (M 127 (ix a6)) fun v18 => blet (a4 + ((w32 v16) * (w32 v18))) fun v19 => k_Mo_came_81 R6 a1 a2 a3 v19 a6 M) else (k_Mo_came_81 R6 a1 a2 a3 a4 a6 M)) else (k_Mo_came_81 R6 a1 a2 a3 a4 a6 M)) else (k_Mo_came_81 R6 a1 a2 a3 a4 a6 M))) else (some (a4, M))
theorem z_Mo_came_6 (C : Cx p s m args meth c G b_Mo_came 7 "PrairiePoolModel" (some .long)) (hlev : 0 ≤ lev) {r : Int × Mem} {R6 : Int → Int → Int → Int → Int → Mem → Res} (hR6 : ∀ (a1 a2 a3 a4 a6 : Int) (M : Mem), R6 a1 a2 a3 a4 a6 M = some r → Z p l e lev s m args below meth c G 7 (MQ below (Qm G 2 r) args s 0 0 (Ab G)) M 6 [(0, .ref (G.1 + 111)), (1, vi a1), (2, vi a2), (3, vi a3), (4, vl a4), (6, vi a6)] []) {a1 a2 a3 a4 a6 : Int} {M : Mem} (h : k_Mo_came_6 R6 a1 a2 a3 a4 a6 M = some r) : Z p l e lev s m args below meth c G 7 (MQ below (Qm G 2 r) args s 0 0 (Ab G)) M 6 [(0, .ref (G.1 + 111)), (1, vi a1), (2, vi a2), (3, vi a3), (4, vl a4), (6, vi a6)] [] := by
  unfold k_Mo_came_6 at h
  refine z_iload C 5 x_Mo_came_6 rfl ?_
  refine z_aload_n C 0 x_Mo_came_8 rfl ?_
  obtain ⟨v1, ev1, h⟩ := blet_e h
  refine z_getI (j := 7) C x_Mo_came_9 nk_111 ck_111 cw_12 (i_lt rfl) rfl rfl fl_Mo_309 ev1 ?_
  rcases ite_e h with ⟨c2, h⟩ | ⟨c2, h⟩
  · refine z_icmp_ge_f (tgt := 87) C x_Mo_came_12 rfl c2 ?_
    refine z_aload_n C 0 x_Mo_came_15 rfl ?_
    refine z_getR (j := 25) C x_Mo_came_16 nk_111 ck_111 cw_12 (i_lt rfl) rfl rf_111_25 rfl fl_Mo_62 ?_
    refine z_iload C 5 x_Mo_came_19 rfl ?_
    obtain ⟨c3, h⟩ := chk_e h
    obtain ⟨v4, ev4, h⟩ := blet_e h
    refine z_iald C x_Mo_came_21 nk_129 ck_129 c3 ev4 ?_
    refine z_iload_n C 3 x_Mo_came_22 rfl ?_
    rcases ite_e h with ⟨c5, h⟩ | ⟨c5, h⟩
    · refine z_icmp_gt_t (tgt := 81) C x_Mo_came_23 rfl c5 ?_
      exact z_sub [0, 1, 2, 3, 4, 5] rfl (z_Mo_came_81 C hlev hR6 h)
    · refine z_icmp_gt_f (tgt := 81) C x_Mo_came_23 rfl c5 ?_
      refine z_aload_n C 0 x_Mo_came_26 rfl ?_
      refine z_getR (j := 16) C x_Mo_came_27 nk_111 ck_111 cw_12 (i_lt rfl) rfl rf_111_16 rfl fl_Mo_35 ?_
      refine z_iload C 5 x_Mo_came_30 rfl ?_
      obtain ⟨c6, h⟩ := chk_e h
      obtain ⟨v7, ev7, h⟩ := blet_e h
      refine z_iald C x_Mo_came_32 nk_120 ck_120 c6 ev7 ?_
      refine z_iconst C x_Mo_came_33 ?_
      rcases ite_e h with ⟨c8, h⟩ | ⟨c8, h⟩
      · refine z_icmp_ne_f (tgt := 81) C x_Mo_came_34 rfl c8 ?_
        refine z_aload_n C 0 x_Mo_came_37 rfl ?_
        refine z_getR (j := 20) C x_Mo_came_38 nk_111 ck_111 cw_12 (i_lt rfl) rfl rf_111_20 rfl fl_Mo_47 ?_
        refine z_iload C 5 x_Mo_came_41 rfl ?_
        obtain ⟨c9, h⟩ := chk_e h
        obtain ⟨v10, ev10, h⟩ := blet_e h
        refine z_iald C x_Mo_came_43 nk_124 ck_124 c9 ev10 ?_
        refine z_iload_n C 2 x_Mo_came_44 rfl ?_
        rcases ite_e h with ⟨c11, h⟩ | ⟨c11, h⟩
        · refine z_icmp_ne_f (tgt := 81) C x_Mo_came_45 rfl c11 ?_
          refine z_aload_n C 0 x_Mo_came_48 rfl ?_
          refine z_getR (j := 21) C x_Mo_came_49 nk_111 ck_111 cw_12 (i_lt rfl) rfl rf_111_21 rfl fl_Mo_50 ?_
          refine z_iload C 5 x_Mo_came_52 rfl ?_
          obtain ⟨c12, h⟩ := chk_e h
          obtain ⟨v13, ev13, h⟩ := blet_e h
          refine z_iald C x_Mo_came_54 nk_125 ck_125 c12 ev13 ?_
          refine z_iload_n C 1 x_Mo_came_55 rfl ?_
          rcases ite_e h with ⟨c14, h⟩ | ⟨c14, h⟩
          · refine z_icmp_ne_f (tgt := 81) C x_Mo_came_56 rfl c14 ?_
            refine z_lload C 4 x_Mo_came_59 rfl ?_
            refine z_aload_n C 0 x_Mo_came_61 rfl ?_
            refine z_getR (j := 33) C x_Mo_came_62 nk_111 ck_111 cw_12 (i_lt rfl) rfl rf_111_33 rfl fl_Mo_86 ?_
            refine z_iload C 5 x_Mo_came_65 rfl ?_
            obtain ⟨c15, h⟩ := chk_e h
            obtain ⟨v16, ev16, h⟩ := blet_e h
            refine z_iald C x_Mo_came_67 nk_137 ck_137 c15 ev16 ?_
            refine z_i2l C x_Mo_came_68 ?_
            refine z_aload_n C 0 x_Mo_came_69 rfl ?_
            refine z_getR (j := 23) C x_Mo_came_70 nk_111 ck_111 cw_12 (i_lt rfl) rfl rf_111_23 rfl fl_Mo_56 ?_
            refine z_iload C 5 x_Mo_came_73 rfl ?_
            obtain ⟨c17, h⟩ := chk_e h
            obtain ⟨v18, ev18, h⟩ := blet_e h
            refine z_iald C x_Mo_came_75 nk_127 ck_127 c17 ev18 ?_
            refine z_i2l C x_Mo_came_76 ?_
            refine z_lmul C x_Mo_came_77 ?_
            refine z_ladd C x_Mo_came_78 ?_
            obtain ⟨v19, ev19, h⟩ := blet_e h
            refine z_lstore (lv' := [(4, vl v19), (0, .ref (G.1 + 111)), (1, vi a1), (2, vi a2), (3, vi a3), (6, vi a6)]) C ev19 x_Mo_came_79 (i_lt rfl) rfl ?_
            exact z_sub [1, 2, 3, 4, 0, 5] rfl (z_Mo_came_81 C hlev hR6 h)
          · refine z_icmp_ne_t (tgt := 81) C x_Mo_came_56 rfl c14 ?_
            exact z_sub [0, 1, 2, 3, 4, 5] rfl (z_Mo_came_81 C hlev hR6 h)
        · refine z_icmp_ne_t (tgt := 81) C x_Mo_came_45 rfl c11 ?_
          exact z_sub [0, 1, 2, 3, 4, 5] rfl (z_Mo_came_81 C hlev hR6 h)
      · refine z_icmp_ne_t (tgt := 81) C x_Mo_came_34 rfl c8 ?_
        exact z_sub [0, 1, 2, 3, 4, 5] rfl (z_Mo_came_81 C hlev hR6 h)
  · refine z_icmp_ge_t (tgt := 87) C x_Mo_came_12 rfl c2 ?_
    refine z_lload C 4 x_Mo_came_87 rfl ?_
    exact z_lret C x_Mo_came_89 h
theorem zl_Mo_came_6 (C : Cx p s m args meth c G b_Mo_came 7 "PrairiePoolModel" (some .long)) (hlev : 0 ≤ lev) {r : Int × Mem}  : ∀ (n : Nat) (a1 a2 a3 a4 a6 : Int) (M : Mem), fix (fun _ _ _ _ _ _ => none) (k_Mo_came_6) n a1 a2 a3 a4 a6 M = some r → Z p l e lev s m args below meth c G 7 (MQ below (Qm G 2 r) args s 0 0 (Ab G)) M 6 [(0, .ref (G.1 + 111)), (1, vi a1), (2, vi a2), (3, vi a3), (4, vl a4), (6, vi a6)] [] := by
  intro n
  induction n with
  | zero => intro a1 a2 a3 a4 a6 M h; exact nomatch (show (none : Res) = some r from h)
  | succ n ih => intro a1 a2 a3 a4 a6 M h; exact z_Mo_came_6 C hlev ih h
def d_Mo_came (a1 a2 a3 : Int) (M : Mem) : Res := fix (fun _ _ _ _ _ _ => none) (k_Mo_came_6) FU a1 a2 a3 0 0 M
theorem t_Mo_came (l : Launch) (G : GX) {lev : Nat} (hlev : 0 ≤ lev) {a1 a2 a3 : Int} {M : Mem} {r : Int × Mem} (h : d_Mo_came a1 a2 a3 M = some r) : Mt l G y_Mo_came b_Mo_came 7 (some .long) lev 2 [.ref (G.1 + 111), vi a1, vi a2, vi a3] M r := by
  refine Mt.of (by decide) (i_le rfl) ?_
  intro p e s m args below meth c C
  have C : Cx p s m args meth c G b_Mo_came 7 "PrairiePoolModel" (some .long) := C
  unfold d_Mo_came at h
  refine z_sub (lv' := [(0, .ref (G.1 + 111)), (1, vi a1), (2, vi a2), (3, vi a3)]) [0, 1, 2, 3] rfl ?_
  refine z_lconst0 C x_Mo_came_0 ?_
  refine z_lstore (lv' := [(4, vl 0), (0, .ref (G.1 + 111)), (1, vi a1), (2, vi a2), (3, vi a3)]) C rfl x_Mo_came_1 (i_lt rfl) rfl ?_
  refine z_iconst C x_Mo_came_3 ?_
  refine z_istore (lv' := [(6, vi 0), (4, vl 0), (0, .ref (G.1 + 111)), (1, vi a1), (2, vi a2), (3, vi a3)]) C rfl x_Mo_came_4 (i_lt rfl) rfl ?_
  exact z_sub [2, 3, 4, 5, 1, 0] rfl (zl_Mo_came_6 C hlev FU a1 a2 a3 0 0 M h)
theorem x_Mo_ofYear_0 : DC b_Mo_ofYear 0 (.aload_n 0) 1 1 := ⟨by decide +kernel, rfl⟩
theorem x_Mo_ofYear_1 : DC b_Mo_ofYear 1 (.invokevirtual 344) 3 4 := ⟨by decide +kernel, rfl⟩
theorem x_Mo_ofYear_4 : DC b_Mo_ofYear 4 (.aload_n 0) 1 5 := ⟨by decide +kernel, rfl⟩
theorem x_Mo_ofYear_5 : DC b_Mo_ofYear 5 (.getfield 151) 3 8 := ⟨by decide +kernel, rfl⟩
theorem x_Mo_ofYear_8 : DC b_Mo_ofYear 8 (.iconst 0) 1 9 := ⟨by decide +kernel, rfl⟩
theorem x_Mo_ofYear_9 : DC b_Mo_ofYear 9 (.iload 4) 2 11 := ⟨by decide +kernel, rfl⟩
theorem x_Mo_ofYear_11 : DC b_Mo_ofYear 11 (.i2l) 1 12 := ⟨by decide +kernel, rfl⟩
theorem x_Mo_ofYear_12 : DC b_Mo_ofYear 12 (.lastore) 1 13 := ⟨by decide +kernel, rfl⟩
theorem x_Mo_ofYear_13 : DC b_Mo_ofYear 13 (.aload_n 0) 1 14 := ⟨by decide +kernel, rfl⟩
theorem x_Mo_ofYear_14 : DC b_Mo_ofYear 14 (.getfield 151) 3 17 := ⟨by decide +kernel, rfl⟩
theorem x_Mo_ofYear_17 : DC b_Mo_ofYear 17 (.iconst 3) 1 18 := ⟨by decide +kernel, rfl⟩
theorem x_Mo_ofYear_18 : DC b_Mo_ofYear 18 (.iload_n 3) 1 19 := ⟨by decide +kernel, rfl⟩
theorem x_Mo_ofYear_19 : DC b_Mo_ofYear 19 (.i2l) 1 20 := ⟨by decide +kernel, rfl⟩
theorem x_Mo_ofYear_20 : DC b_Mo_ofYear 20 (.lastore) 1 21 := ⟨by decide +kernel, rfl⟩
theorem x_Mo_ofYear_21 : DC b_Mo_ofYear 21 (.aload_n 0) 1 22 := ⟨by decide +kernel, rfl⟩
theorem x_Mo_ofYear_22 : DC b_Mo_ofYear 22 (.lload_n 1) 1 23 := ⟨by decide +kernel, rfl⟩
theorem x_Mo_ofYear_23 : DC b_Mo_ofYear 23 (.bipush 52) 2 25 := ⟨by decide +kernel, rfl⟩
theorem x_Mo_ofYear_25 : DC b_Mo_ofYear 25 (.iload_n 3) 1 26 := ⟨by decide +kernel, rfl⟩
theorem x_Mo_ofYear_26 : DC b_Mo_ofYear 26 (.imul) 1 27 := ⟨by decide +kernel, rfl⟩
theorem x_Mo_ofYear_27 : DC b_Mo_ofYear 27 (.bipush 51) 2 29 := ⟨by decide +kernel, rfl⟩
theorem x_Mo_ofYear_29 : DC b_Mo_ofYear 29 (.iadd) 1 30 := ⟨by decide +kernel, rfl⟩
theorem x_Mo_ofYear_30 : DC b_Mo_ofYear 30 (.lconst 0) 1 31 := ⟨by decide +kernel, rfl⟩
theorem x_Mo_ofYear_31 : DC b_Mo_ofYear 31 (.invokevirtual 354) 3 34 := ⟨by decide +kernel, rfl⟩
theorem x_Mo_ofYear_34 : DC b_Mo_ofYear 34 (.lconst 0) 1 35 := ⟨by decide +kernel, rfl⟩
theorem x_Mo_ofYear_35 : DC b_Mo_ofYear 35 (.ldc2_w 326) 3 38 := ⟨by decide +kernel, rfl⟩
theorem x_Mo_ofYear_38 : DC b_Mo_ofYear 38 (.invokestatic 360) 3 41 := ⟨by decide +kernel, rfl⟩
theorem x_Mo_ofYear_41 : DC b_Mo_ofYear 41 (.lreturn) 1 42 := ⟨by decide +kernel, rfl⟩
def d_Mo_ofYear (a1 a3 a4 : Int) (M : Mem) : Res := bcall (d_Mo_letNothing M) fun v1 M2 => blet (sto M2 156 0 (w32 a4)) fun M3 => blet (sto M3 156 3 (w32 a3)) fun M4 => bcall (d_Mo_told a1 ((52 * a3) + 51) 0 M4) fun v5 M6 => bcall (d_Mo_cut1 v5 0 1000 M6) fun v7 M8 => some (v7, M8)
theorem t_Mo_ofYear (l : Launch) (G : GX) {lev : Nat} (hlev : 5 ≤ lev) {a1 a3 a4 : Int} {M : Mem} {r : Int × Mem} (h : d_Mo_ofYear a1 a3 a4 M = some r) : Mt l G y_Mo_ofYear b_Mo_ofYear 5 (some .long) lev 2 [.ref (G.1 + 111), vl a1, vi a3, vi a4] M r := by
  refine Mt.of (by decide) (i_le rfl) ?_
  intro p e s m args below meth c C
  have C : Cx p s m args meth c G b_Mo_ofYear 5 "PrairiePoolModel" (some .long) := C
  unfold d_Mo_ofYear at h
  refine z_sub (lv' := [(0, .ref (G.1 + 111)), (1, vl a1), (3, vi a3), (4, vi a4)]) [0, 1, 2, 3] rfl ?_
  refine z_aload_n C 0 x_Mo_ofYear_0 rfl ?_
  obtain ⟨v1, M2, fv1, h⟩ := bcall_e h
  refine z_callVv (k := 111) C x_Mo_ofYear_1 cv_Mo_344 (t_Mo_letNothing (lev := lev - 1) l G (by omega) fv1) nk_111 ck_111 rfl (by omega) rfl (i_le rfl) rfl ?_
  refine z_aload_n C 0 x_Mo_ofYear_4 rfl ?_
  refine z_getR (j := 68) C x_Mo_ofYear_5 nk_111 ck_111 cw_12 (i_lt rfl) rfl rf_111_68 rfl fl_Mo_151 ?_
  refine z_iconst C x_Mo_ofYear_8 ?_
  refine z_iload C 3 x_Mo_ofYear_9 rfl ?_
  refine z_i2l C x_Mo_ofYear_11 ?_
  obtain ⟨M3, eM3, h⟩ := blet_e h
  refine z_last C x_Mo_ofYear_12 nk_156 ck_156 (by decide) eM3 ?_
  refine z_aload_n C 0 x_Mo_ofYear_13 rfl ?_
  refine z_getR (j := 68) C x_Mo_ofYear_14 nk_111 ck_111 cw_12 (i_lt rfl) rfl rf_111_68 rfl fl_Mo_151 ?_
  refine z_iconst C x_Mo_ofYear_17 ?_
  refine z_iload_n C 2 x_Mo_ofYear_18 rfl ?_
  refine z_i2l C x_Mo_ofYear_19 ?_
  obtain ⟨M4, eM4, h⟩ := blet_e h
  refine z_last C x_Mo_ofYear_20 nk_156 ck_156 (by decide) eM4 ?_
  refine z_aload_n C 0 x_Mo_ofYear_21 rfl ?_
  refine z_lload_n C 1 x_Mo_ofYear_22 rfl ?_
  refine z_bipush C rfl x_Mo_ofYear_23 ?_
  refine z_iload_n C 2 x_Mo_ofYear_25 rfl ?_
  refine z_imul C x_Mo_ofYear_26 ?_
  refine z_bipush C rfl x_Mo_ofYear_27 ?_
  refine z_iadd C x_Mo_ofYear_29 ?_
  refine z_lconst0 C x_Mo_ofYear_30 ?_
  obtain ⟨v5, M6, fv5, h⟩ := bcall_e h
  refine z_callVl (k := 111) C x_Mo_ofYear_31 cv_Mo_354 (t_Mo_told (lev := lev - 1) l G (by omega) fv5) nk_111 ck_111 rfl (by omega) rfl (i_le rfl) rfl ?_
  refine z_lconst0 C x_Mo_ofYear_34 ?_
  refine z_ldc2 C kl_Mo_326 x_Mo_ofYear_35 ?_
  obtain ⟨v7, M8, fv7, h⟩ := bcall_e h
  refine z_callSl C x_Mo_ofYear_38 cs_Mo_360 (t_Mo_cut1 (lev := lev - 1) l G (by omega) fv7) (by omega) rfl (i_le rfl) rfl ?_
  exact z_lret C x_Mo_ofYear_41 h
theorem x_Mo_kept_0 : DC b_Mo_kept 0 (.aload_n 0) 1 1 := ⟨by decide +kernel, rfl⟩
theorem x_Mo_kept_1 : DC b_Mo_kept 1 (.iload_n 1) 1 2 := ⟨by decide +kernel, rfl⟩
theorem x_Mo_kept_2 : DC b_Mo_kept 2 (.iload_n 2) 1 3 := ⟨by decide +kernel, rfl⟩
theorem x_Mo_kept_3 : DC b_Mo_kept 3 (.iload_n 3) 1 4 := ⟨by decide +kernel, rfl⟩
theorem x_Mo_kept_4 : DC b_Mo_kept 4 (.invokevirtual 596) 3 7 := ⟨by decide +kernel, rfl⟩
theorem x_Mo_kept_7 : DC b_Mo_kept 7 (.aload_n 0) 1 8 := ⟨by decide +kernel, rfl⟩
theorem x_Mo_kept_8 : DC b_Mo_kept 8 (.bipush 104) 2 10 := ⟨by decide +kernel, rfl⟩
theorem x_Mo_kept_10 : DC b_Mo_kept 10 (.bipush 101) 2 12 := ⟨by decide +kernel, rfl⟩
theorem x_Mo_kept_12 : DC b_Mo_kept 12 (.bipush 108) 2 14 := ⟨by decide +kernel, rfl⟩
theorem x_Mo_kept_14 : DC b_Mo_kept 14 (.bipush 100) 2 16 := ⟨by decide +kernel, rfl⟩
theorem x_Mo_kept_16 : DC b_Mo_kept 16 (.iconst 0) 1 17 := ⟨by decide +kernel, rfl⟩
theorem x_Mo_kept_17 : DC b_Mo_kept 17 (.iconst 0) 1 18 := ⟨by decide +kernel, rfl⟩
theorem x_Mo_kept_18 : DC b_Mo_kept 18 (.invokestatic 350) 3 21 := ⟨by decide +kernel, rfl⟩
theorem x_Mo_kept_21 : DC b_Mo_kept 21 (.iload_n 1) 1 22 := ⟨by decide +kernel, rfl⟩
theorem x_Mo_kept_22 : DC b_Mo_kept 22 (.iload_n 2) 1 23 := ⟨by decide +kernel, rfl⟩
theorem x_Mo_kept_23 : DC b_Mo_kept 23 (.invokevirtual 600) 3 26 := ⟨by decide +kernel, rfl⟩
theorem x_Mo_kept_26 : DC b_Mo_kept 26 (.lmul) 1 27 := ⟨by decide +kernel, rfl⟩
theorem x_Mo_kept_27 : DC b_Mo_kept 27 (.ldc2_w 326) 3 30 := ⟨by decide +kernel, rfl⟩
theorem x_Mo_kept_30 : DC b_Mo_kept 30 (.ldiv) 1 31 := ⟨by decide +kernel, rfl⟩
theorem x_Mo_kept_31 : DC b_Mo_kept 31 (.lreturn) 1 32 := ⟨by decide +kernel, rfl⟩
def d_Mo_kept (a1 a2 a3 : Int) (M : Mem) : Res := bcall (d_Mo_came a1 a2 a3 M) fun v1 M2 => bcall (d_Mo_spelled 104 101 108 100 0 0 M2) fun v3 M4 => bcall (d_Mo_ofYear v3 a1 a2 M4) fun v5 M6 => some (dv64 (v1 * v5) 1000, M6)
theorem t_Mo_kept (l : Launch) (G : GX) {lev : Nat} (hlev : 6 ≤ lev) {a1 a2 a3 : Int} {M : Mem} {r : Int × Mem} (h : d_Mo_kept a1 a2 a3 M = some r) : Mt l G y_Mo_kept b_Mo_kept 4 (some .long) lev 2 [.ref (G.1 + 111), vi a1, vi a2, vi a3] M r := by
  refine Mt.of (by decide) (i_le rfl) ?_
  intro p e s m args below meth c C
  have C : Cx p s m args meth c G b_Mo_kept 4 "PrairiePoolModel" (some .long) := C
  unfold d_Mo_kept at h
  refine z_sub (lv' := [(0, .ref (G.1 + 111)), (1, vi a1), (2, vi a2), (3, vi a3)]) [0, 1, 2, 3] rfl ?_
  refine z_aload_n C 0 x_Mo_kept_0 rfl ?_
  refine z_iload_n C 1 x_Mo_kept_1 rfl ?_
  refine z_iload_n C 2 x_Mo_kept_2 rfl ?_
  refine z_iload_n C 3 x_Mo_kept_3 rfl ?_
  obtain ⟨v1, M2, fv1, h⟩ := bcall_e h
  refine z_callVl (k := 111) C x_Mo_kept_4 cv_Mo_596 (t_Mo_came (lev := lev - 1) l G (by omega) fv1) nk_111 ck_111 rfl (by omega) rfl (i_le rfl) rfl ?_
  refine z_aload_n C 0 x_Mo_kept_7 rfl ?_
  refine z_bipush C rfl x_Mo_kept_8 ?_
  refine z_bipush C rfl x_Mo_kept_10 ?_
  refine z_bipush C rfl x_Mo_kept_12 ?_
  refine z_bipush C rfl x_Mo_kept_14 ?_
  refine z_iconst C x_Mo_kept_16 ?_
  refine z_iconst C x_Mo_kept_17 ?_
  obtain ⟨v3, M4, fv3, h⟩ := bcall_e h
  refine z_callSl C x_Mo_kept_18 cs_Mo_350 (t_Mo_spelled (lev := lev - 1) l G (by omega) fv3) (by omega) rfl (i_le rfl) rfl ?_
  refine z_iload_n C 1 x_Mo_kept_21 rfl ?_
  refine z_iload_n C 2 x_Mo_kept_22 rfl ?_
  obtain ⟨v5, M6, fv5, h⟩ := bcall_e h
  refine z_callVl (k := 111) C x_Mo_kept_23 cv_Mo_600 (t_Mo_ofYear (lev := lev - 1) l G (by omega) fv5) nk_111 ck_111 rfl (by omega) rfl (i_le rfl) rfl ?_
  refine z_lmul C x_Mo_kept_26 ?_
  refine z_ldc2 C kl_Mo_326 x_Mo_kept_27 ?_
  refine z_ldiv C (by decide) x_Mo_kept_30 ?_
  exact z_lret C x_Mo_kept_31 h
theorem x_Mo_bring_0 : DC b_Mo_bring 0 (.lconst 0) 1 1 := ⟨by decide +kernel, rfl⟩
theorem x_Mo_bring_1 : DC b_Mo_bring 1 (.lstore 4) 2 3 := ⟨by decide +kernel, rfl⟩
theorem x_Mo_bring_3 : DC b_Mo_bring 3 (.iconst 0) 1 4 := ⟨by decide +kernel, rfl⟩
theorem x_Mo_bring_4 : DC b_Mo_bring 4 (.istore 6) 2 6 := ⟨by decide +kernel, rfl⟩
theorem x_Mo_bring_6 : DC b_Mo_bring 6 (.iload 6) 2 8 := ⟨by decide +kernel, rfl⟩
theorem x_Mo_bring_8 : DC b_Mo_bring 8 (.bipush 20) 2 10 := ⟨by decide +kernel, rfl⟩
theorem x_Mo_bring_10 : DC b_Mo_bring 10 (.if_icmp .ge 17) 3 13 := ⟨by decide +kernel, rfl⟩
theorem x_Mo_bring_13 : DC b_Mo_bring 13 (.aload_n 0) 1 14 := ⟨by decide +kernel, rfl⟩
theorem x_Mo_bring_14 : DC b_Mo_bring 14 (.getfield 164) 3 17 := ⟨by decide +kernel, rfl⟩
theorem x_Mo_bring_17 : DC b_Mo_bring 17 (.iload 6) 2 19 := ⟨by decide +kernel, rfl⟩
theorem x_Mo_bring_19 : DC b_Mo_bring 19 (.lconst 0) 1 20 := ⟨by decide +kernel, rfl⟩
theorem x_Mo_bring_20 : DC b_Mo_bring 20 (.lastore) 1 21 := ⟨by decide +kernel, rfl⟩
theorem x_Mo_bring_21 : DC b_Mo_bring 21 (.iinc 6 1) 3 24 := ⟨by decide +kernel, rfl⟩
theorem x_Mo_bring_24 : DC b_Mo_bring 24 (.goto (-18)) 3 27 := ⟨by decide +kernel, rfl⟩
theorem x_Mo_bring_27 : DC b_Mo_bring 27 (.iconst 0) 1 28 := ⟨by decide +kernel, rfl⟩
theorem x_Mo_bring_28 : DC b_Mo_bring 28 (.istore 6) 2 30 := ⟨by decide +kernel, rfl⟩
theorem x_Mo_bring_30 : DC b_Mo_bring 30 (.iload 6) 2 32 := ⟨by decide +kernel, rfl⟩
theorem x_Mo_bring_32 : DC b_Mo_bring 32 (.aload_n 0) 1 33 := ⟨by decide +kernel, rfl⟩
theorem x_Mo_bring_33 : DC b_Mo_bring 33 (.getfield 309) 3 36 := ⟨by decide +kernel, rfl⟩
theorem x_Mo_bring_36 : DC b_Mo_bring 36 (.if_icmp .ge 105) 3 39 := ⟨by decide +kernel, rfl⟩
theorem x_Mo_bring_39 : DC b_Mo_bring 39 (.aload_n 0) 1 40 := ⟨by decide +kernel, rfl⟩
theorem x_Mo_bring_40 : DC b_Mo_bring 40 (.getfield 62) 3 43 := ⟨by decide +kernel, rfl⟩
theorem x_Mo_bring_43 : DC b_Mo_bring 43 (.iload 6) 2 45 := ⟨by decide +kernel, rfl⟩
theorem x_Mo_bring_45 : DC b_Mo_bring 45 (.iaload) 1 46 := ⟨by decide +kernel, rfl⟩
theorem x_Mo_bring_46 : DC b_Mo_bring 46 (.iload_n 3) 1 47 := ⟨by decide +kernel, rfl⟩
theorem x_Mo_bring_47 : DC b_Mo_bring 47 (.if_icmp .gt 88) 3 50 := ⟨by decide +kernel, rfl⟩
theorem x_Mo_bring_50 : DC b_Mo_bring 50 (.aload_n 0) 1 51 := ⟨by decide +kernel, rfl⟩
theorem x_Mo_bring_51 : DC b_Mo_bring 51 (.getfield 35) 3 54 := ⟨by decide +kernel, rfl⟩
theorem x_Mo_bring_54 : DC b_Mo_bring 54 (.iload 6) 2 56 := ⟨by decide +kernel, rfl⟩
theorem x_Mo_bring_56 : DC b_Mo_bring 56 (.iaload) 1 57 := ⟨by decide +kernel, rfl⟩
theorem x_Mo_bring_57 : DC b_Mo_bring 57 (.ifCond .ne 78) 3 60 := ⟨by decide +kernel, rfl⟩
theorem x_Mo_bring_60 : DC b_Mo_bring 60 (.aload_n 0) 1 61 := ⟨by decide +kernel, rfl⟩
theorem x_Mo_bring_61 : DC b_Mo_bring 61 (.getfield 89) 3 64 := ⟨by decide +kernel, rfl⟩
theorem x_Mo_bring_64 : DC b_Mo_bring 64 (.iload 6) 2 66 := ⟨by decide +kernel, rfl⟩
theorem x_Mo_bring_66 : DC b_Mo_bring 66 (.iaload) 1 67 := ⟨by decide +kernel, rfl⟩
theorem x_Mo_bring_67 : DC b_Mo_bring 67 (.iload_n 2) 1 68 := ⟨by decide +kernel, rfl⟩
theorem x_Mo_bring_68 : DC b_Mo_bring 68 (.if_icmp .ne 67) 3 71 := ⟨by decide +kernel, rfl⟩
theorem x_Mo_bring_71 : DC b_Mo_bring 71 (.aload_n 0) 1 72 := ⟨by decide +kernel, rfl⟩
theorem x_Mo_bring_72 : DC b_Mo_bring 72 (.getfield 50) 3 75 := ⟨by decide +kernel, rfl⟩
theorem x_Mo_bring_75 : DC b_Mo_bring 75 (.iload 6) 2 77 := ⟨by decide +kernel, rfl⟩
theorem x_Mo_bring_77 : DC b_Mo_bring 77 (.iaload) 1 78 := ⟨by decide +kernel, rfl⟩
theorem x_Mo_bring_78 : DC b_Mo_bring 78 (.iload_n 1) 1 79 := ⟨by decide +kernel, rfl⟩
theorem x_Mo_bring_79 : DC b_Mo_bring 79 (.if_icmp .eq 6) 3 82 := ⟨by decide +kernel, rfl⟩
theorem x_Mo_bring_82 : DC b_Mo_bring 82 (.goto 53) 3 85 := ⟨by decide +kernel, rfl⟩
theorem x_Mo_bring_85 : DC b_Mo_bring 85 (.aload_n 0) 1 86 := ⟨by decide +kernel, rfl⟩
theorem x_Mo_bring_86 : DC b_Mo_bring 86 (.getfield 164) 3 89 := ⟨by decide +kernel, rfl⟩
theorem x_Mo_bring_89 : DC b_Mo_bring 89 (.aload_n 0) 1 90 := ⟨by decide +kernel, rfl⟩
theorem x_Mo_bring_90 : DC b_Mo_bring 90 (.getfield 38) 3 93 := ⟨by decide +kernel, rfl⟩
theorem x_Mo_bring_93 : DC b_Mo_bring 93 (.iload 6) 2 95 := ⟨by decide +kernel, rfl⟩
theorem x_Mo_bring_95 : DC b_Mo_bring 95 (.iaload) 1 96 := ⟨by decide +kernel, rfl⟩
theorem x_Mo_bring_96 : DC b_Mo_bring 96 (.dup2) 1 97 := ⟨by decide +kernel, rfl⟩
theorem x_Mo_bring_97 : DC b_Mo_bring 97 (.laload) 1 98 := ⟨by decide +kernel, rfl⟩
theorem x_Mo_bring_98 : DC b_Mo_bring 98 (.aload_n 0) 1 99 := ⟨by decide +kernel, rfl⟩
theorem x_Mo_bring_99 : DC b_Mo_bring 99 (.iload 6) 2 101 := ⟨by decide +kernel, rfl⟩
theorem x_Mo_bring_101 : DC b_Mo_bring 101 (.invokevirtual 347) 3 104 := ⟨by decide +kernel, rfl⟩
theorem x_Mo_bring_104 : DC b_Mo_bring 104 (.aload_n 0) 1 105 := ⟨by decide +kernel, rfl⟩
theorem x_Mo_bring_105 : DC b_Mo_bring 105 (.getfield 83) 3 108 := ⟨by decide +kernel, rfl⟩
theorem x_Mo_bring_108 : DC b_Mo_bring 108 (.iload 6) 2 110 := ⟨by decide +kernel, rfl⟩
theorem x_Mo_bring_110 : DC b_Mo_bring 110 (.iaload) 1 111 := ⟨by decide +kernel, rfl⟩
theorem x_Mo_bring_111 : DC b_Mo_bring 111 (.isub) 1 112 := ⟨by decide +kernel, rfl⟩
theorem x_Mo_bring_112 : DC b_Mo_bring 112 (.i2l) 1 113 := ⟨by decide +kernel, rfl⟩
theorem x_Mo_bring_113 : DC b_Mo_bring 113 (.ladd) 1 114 := ⟨by decide +kernel, rfl⟩
theorem x_Mo_bring_114 : DC b_Mo_bring 114 (.lastore) 1 115 := ⟨by decide +kernel, rfl⟩
theorem x_Mo_bring_115 : DC b_Mo_bring 115 (.lload 4) 2 117 := ⟨by decide +kernel, rfl⟩
theorem x_Mo_bring_117 : DC b_Mo_bring 117 (.aload_n 0) 1 118 := ⟨by decide +kernel, rfl⟩
theorem x_Mo_bring_118 : DC b_Mo_bring 118 (.iload 6) 2 120 := ⟨by decide +kernel, rfl⟩
theorem x_Mo_bring_120 : DC b_Mo_bring 120 (.invokevirtual 347) 3 123 := ⟨by decide +kernel, rfl⟩
theorem x_Mo_bring_123 : DC b_Mo_bring 123 (.aload_n 0) 1 124 := ⟨by decide +kernel, rfl⟩
theorem x_Mo_bring_124 : DC b_Mo_bring 124 (.getfield 83) 3 127 := ⟨by decide +kernel, rfl⟩
theorem x_Mo_bring_127 : DC b_Mo_bring 127 (.iload 6) 2 129 := ⟨by decide +kernel, rfl⟩
theorem x_Mo_bring_129 : DC b_Mo_bring 129 (.iaload) 1 130 := ⟨by decide +kernel, rfl⟩
theorem x_Mo_bring_130 : DC b_Mo_bring 130 (.isub) 1 131 := ⟨by decide +kernel, rfl⟩
theorem x_Mo_bring_131 : DC b_Mo_bring 131 (.i2l) 1 132 := ⟨by decide +kernel, rfl⟩
theorem x_Mo_bring_132 : DC b_Mo_bring 132 (.ladd) 1 133 := ⟨by decide +kernel, rfl⟩
theorem x_Mo_bring_133 : DC b_Mo_bring 133 (.lstore 4) 2 135 := ⟨by decide +kernel, rfl⟩
theorem x_Mo_bring_135 : DC b_Mo_bring 135 (.iinc 6 1) 3 138 := ⟨by decide +kernel, rfl⟩
theorem x_Mo_bring_138 : DC b_Mo_bring 138 (.goto (-108)) 3 141 := ⟨by decide +kernel, rfl⟩
theorem x_Mo_bring_141 : DC b_Mo_bring 141 (.lload 4) 2 143 := ⟨by decide +kernel, rfl⟩
theorem x_Mo_bring_143 : DC b_Mo_bring 143 (.lreturn) 1 144 := ⟨by decide +kernel, rfl⟩
def k_Mo_bring_135 (R30 : Int → Int → Int → Int → Int → Mem → Res) (a1 a2 a3 a4 a6 : Int) (M : Mem) : Res := blet (a6 + 1) fun v1 => R30 a1 a2 a3 a4 v1 M
theorem z_Mo_bring_135 (C : Cx p s m args meth c G b_Mo_bring 7 "PrairiePoolModel" (some .long)) (hlev : 1 ≤ lev) {r : Int × Mem} {R30 : Int → Int → Int → Int → Int → Mem → Res} (hR30 : ∀ (a1 a2 a3 a4 a6 : Int) (M : Mem), R30 a1 a2 a3 a4 a6 M = some r → Z p l e lev s m args below meth c G 7 (MQ below (Qm G 2 r) args s 0 0 (Ab G)) M 30 [(0, .ref (G.1 + 111)), (1, vi a1), (2, vi a2), (3, vi a3), (4, vl a4), (6, vi a6)] []) {a1 a2 a3 a4 a6 : Int} {M : Mem} (h : k_Mo_bring_135 R30 a1 a2 a3 a4 a6 M = some r) : Z p l e lev s m args below meth c G 7 (MQ below (Qm G 2 r) args s 0 0 (Ab G)) M 135 [(0, .ref (G.1 + 111)), (1, vi a1), (2, vi a2), (3, vi a3), (4, vl a4), (6, vi a6)] [] := by
  unfold k_Mo_bring_135 at h
  obtain ⟨v1, ev1, h⟩ := blet_e h
  refine z_iinc (lv' := [(6, vi v1), (0, .ref (G.1 + 111)), (1, vi a1), (2, vi a2), (3, vi a3), (4, vl a4)]) C 5 ev1 x_Mo_bring_135 rfl (i_lt rfl) rfl ?_
  refine z_goto (tgt := 30) C x_Mo_bring_138 rfl ?_
  exact z_sub [1, 2, 3, 4, 5, 0] rfl (hR30 a1 a2 a3 a4 v1 M h)
def k_Mo_bring_30 (R30 : Int → Int → Int → Int → Int → Mem → Res) (a1 a2 a3 a4 a6 : Int) (M : Mem) : Res := blet (M 111 7) fun v1 => if w32 a6 < w32 v1 then (chk (0 ≤ w32 a6 ∧ w32 a6 < 120) <| blet (M 129 (ix a6)) fun v4 => if w32 a3 < w32 v4 then (k_Mo_bring_135 R30 a1 a2 a3 a4 a6 M) else (chk (0 ≤ w32 a6 ∧ w32 a6 < 120) <| blet (M 120 (ix a6)) fun v7 => if w32 v7 = 0 then (chk (0 ≤ w32 a6 ∧ w32 a6 < 120) <| blet (M 138 (ix a6)) fun v10 => if w32 v10 = w32 a2 then (chk (0 ≤ w32 a6 ∧ w32 a6 < 120) <| blet (M 125 (ix a6)) fun v13 => if w32 v13 = w32 a1 then (chk (0 ≤ w32 a6 ∧ w32 a6 < 120) <| blet (M 121 (ix a6)) fun v16 => chk (0 ≤ w32 v16 ∧ w32 v16 < 20) <| blet (M 160 (ix v16)) fun v18 => bcall (d_Mo_net a6 M) fun v19 M20 => chk (0 ≤ w32 a6 ∧ w32 a6 < 120) <| blet (M20 136 (ix a6)) fun v22 => chk (0 ≤ w32 v16 ∧ w32 v16 < 20) <| blet (sto M20 160 (ix v16) (v18 + (w32 (v19 - v22)))) fun M24 => bcall (d_Mo_net a6 M24) fun v25 M26 => chk (0 ≤ w32 a6 ∧ w32 a6 < 120) <| blet (M26 136 (ix a6)) fun v28 => blet (a4 + (w32 (v25 - v28))) fun v29 => k_Mo_bring_135 R30 a1 a2 a3 v29 a6 M26) else (k_Mo_bring_135 R30 a1 a2 a3 a4 a6 M)) else (k_Mo_bring_135 R30 a1 a2 a3 a4 a6 M)) else (k_Mo_bring_135 R30 a1 a2 a3 a4 a6 M))) else (some (a4, M))
theorem z_Mo_bring_30 (C : Cx p s m args meth c G b_Mo_bring 7 "PrairiePoolModel" (some .long)) (hlev : 1 ≤ lev) {r : Int × Mem} {R30 : Int → Int → Int → Int → Int → Mem → Res} (hR30 : ∀ (a1 a2 a3 a4 a6 : Int) (M : Mem), R30 a1 a2 a3 a4 a6 M = some r → Z p l e lev s m args below meth c G 7 (MQ below (Qm G 2 r) args s 0 0 (Ab G)) M 30 [(0, .ref (G.1 + 111)), (1, vi a1), (2, vi a2), (3, vi a3), (4, vl a4), (6, vi a6)] []) {a1 a2 a3 a4 a6 : Int} {M : Mem} (h : k_Mo_bring_30 R30 a1 a2 a3 a4 a6 M = some r) : Z p l e lev s m args below meth c G 7 (MQ below (Qm G 2 r) args s 0 0 (Ab G)) M 30 [(0, .ref (G.1 + 111)), (1, vi a1), (2, vi a2), (3, vi a3), (4, vl a4), (6, vi a6)] [] := by
  unfold k_Mo_bring_30 at h
  refine z_iload C 5 x_Mo_bring_30 rfl ?_
  refine z_aload_n C 0 x_Mo_bring_32 rfl ?_
  obtain ⟨v1, ev1, h⟩ := blet_e h
  refine z_getI (j := 7) C x_Mo_bring_33 nk_111 ck_111 cw_12 (i_lt rfl) rfl rfl fl_Mo_309 ev1 ?_
  rcases ite_e h with ⟨c2, h⟩ | ⟨c2, h⟩
  · refine z_icmp_ge_f (tgt := 141) C x_Mo_bring_36 rfl c2 ?_
    refine z_aload_n C 0 x_Mo_bring_39 rfl ?_
    refine z_getR (j := 25) C x_Mo_bring_40 nk_111 ck_111 cw_12 (i_lt rfl) rfl rf_111_25 rfl fl_Mo_62 ?_
    refine z_iload C 5 x_Mo_bring_43 rfl ?_
    obtain ⟨c3, h⟩ := chk_e h
    obtain ⟨v4, ev4, h⟩ := blet_e h
    refine z_iald C x_Mo_bring_45 nk_129 ck_129 c3 ev4 ?_
    refine z_iload_n C 3 x_Mo_bring_46 rfl ?_
    rcases ite_e h with ⟨c5, h⟩ | ⟨c5, h⟩
    · refine z_icmp_gt_t (tgt := 135) C x_Mo_bring_47 rfl c5 ?_
      exact z_sub [0, 1, 2, 3, 4, 5] rfl (z_Mo_bring_135 C hlev hR30 h)
    · refine z_icmp_gt_f (tgt := 135) C x_Mo_bring_47 rfl c5 ?_
      refine z_aload_n C 0 x_Mo_bring_50 rfl ?_
      refine z_getR (j := 16) C x_Mo_bring_51 nk_111 ck_111 cw_12 (i_lt rfl) rfl rf_111_16 rfl fl_Mo_35 ?_
      refine z_iload C 5 x_Mo_bring_54 rfl ?_
      obtain ⟨c6, h⟩ := chk_e h
      obtain ⟨v7, ev7, h⟩ := blet_e h
      refine z_iald C x_Mo_bring_56 nk_120 ck_120 c6 ev7 ?_
      rcases ite_e h with ⟨c8, h⟩ | ⟨c8, h⟩
      · refine z_if_ne_f (tgt := 135) C x_Mo_bring_57 rfl c8 ?_
        refine z_aload_n C 0 x_Mo_bring_60 rfl ?_
        refine z_getR (j := 34) C x_Mo_bring_61 nk_111 ck_111 cw_12 (i_lt rfl) rfl rf_111_34 rfl fl_Mo_89 ?_
        refine z_iload C 5 x_Mo_bring_64 rfl ?_
        obtain ⟨c9, h⟩ := chk_e h
        obtain ⟨v10, ev10, h⟩ := blet_e h
        refine z_iald C x_Mo_bring_66 nk_138 ck_138 c9 ev10 ?_
        refine z_iload_n C 2 x_Mo_bring_67 rfl ?_
        rcases ite_e h with ⟨c11, h⟩ | ⟨c11, h⟩
        · refine z_icmp_ne_f (tgt := 135) C x_Mo_bring_68 rfl c11 ?_
          refine z_aload_n C 0 x_Mo_bring_71 rfl ?_
          refine z_getR (j := 21) C x_Mo_bring_72 nk_111 ck_111 cw_12 (i_lt rfl) rfl rf_111_21 rfl fl_Mo_50 ?_
          refine z_iload C 5 x_Mo_bring_75 rfl ?_
          obtain ⟨c12, h⟩ := chk_e h
          obtain ⟨v13, ev13, h⟩ := blet_e h
          refine z_iald C x_Mo_bring_77 nk_125 ck_125 c12 ev13 ?_
          refine z_iload_n C 1 x_Mo_bring_78 rfl ?_
          rcases ite_e h with ⟨c14, h⟩ | ⟨c14, h⟩
          · refine z_icmp_eq_t (tgt := 85) C x_Mo_bring_79 rfl c14 ?_
            refine z_aload_n C 0 x_Mo_bring_85 rfl ?_
            refine z_getR (j := 73) C x_Mo_bring_86 nk_111 ck_111 cw_12 (i_lt rfl) rfl rf_111_73 rfl fl_Mo_164 ?_
            refine z_aload_n C 0 x_Mo_bring_89 rfl ?_
            refine z_getR (j := 17) C x_Mo_bring_90 nk_111 ck_111 cw_12 (i_lt rfl) rfl rf_111_17 rfl fl_Mo_38 ?_
            refine z_iload C 5 x_Mo_bring_93 rfl ?_
            obtain ⟨c15, h⟩ := chk_e h
            obtain ⟨v16, ev16, h⟩ := blet_e h
            refine z_iald C x_Mo_bring_95 nk_121 ck_121 c15 ev16 ?_
            refine z_dup2 C x_Mo_bring_96 rfl rfl ?_
            obtain ⟨c17, h⟩ := chk_e h
            obtain ⟨v18, ev18, h⟩ := blet_e h
            refine z_lald C x_Mo_bring_97 nk_160 ck_160 c17 ev18 ?_
            refine z_aload_n C 0 x_Mo_bring_98 rfl ?_
            refine z_iload C 5 x_Mo_bring_99 rfl ?_
            obtain ⟨v19, M20, fv19, h⟩ := bcall_e h
            refine z_callVi (k := 111) C x_Mo_bring_101 cv_Mo_347 (t_Mo_net (lev := lev - 1) l G (by omega) fv19) nk_111 ck_111 rfl (by omega) rfl (i_le rfl) rfl ?_
            refine z_aload_n C 0 x_Mo_bring_104 rfl ?_
            refine z_getR (j := 32) C x_Mo_bring_105 nk_111 ck_111 cw_12 (i_lt rfl) rfl rf_111_32 rfl fl_Mo_83 ?_
            refine z_iload C 5 x_Mo_bring_108 rfl ?_
            obtain ⟨c21, h⟩ := chk_e h
            obtain ⟨v22, ev22, h⟩ := blet_e h
            refine z_iald C x_Mo_bring_110 nk_136 ck_136 c21 ev22 ?_
            refine z_isub C x_Mo_bring_111 ?_
            refine z_i2l C x_Mo_bring_112 ?_
            refine z_ladd C x_Mo_bring_113 ?_
            obtain ⟨c23, h⟩ := chk_e h
            obtain ⟨M24, eM24, h⟩ := blet_e h
            refine z_last C x_Mo_bring_114 nk_160 ck_160 c23 eM24 ?_
            refine z_lload C 4 x_Mo_bring_115 rfl ?_
            refine z_aload_n C 0 x_Mo_bring_117 rfl ?_
            refine z_iload C 5 x_Mo_bring_118 rfl ?_
            obtain ⟨v25, M26, fv25, h⟩ := bcall_e h
            refine z_callVi (k := 111) C x_Mo_bring_120 cv_Mo_347 (t_Mo_net (lev := lev - 1) l G (by omega) fv25) nk_111 ck_111 rfl (by omega) rfl (i_le rfl) rfl ?_
            refine z_aload_n C 0 x_Mo_bring_123 rfl ?_
            refine z_getR (j := 32) C x_Mo_bring_124 nk_111 ck_111 cw_12 (i_lt rfl) rfl rf_111_32 rfl fl_Mo_83 ?_
            refine z_iload C 5 x_Mo_bring_127 rfl ?_
            obtain ⟨c27, h⟩ := chk_e h
            obtain ⟨v28, ev28, h⟩ := blet_e h
            refine z_iald C x_Mo_bring_129 nk_136 ck_136 c27 ev28 ?_
            refine z_isub C x_Mo_bring_130 ?_
            refine z_i2l C x_Mo_bring_131 ?_
            refine z_ladd C x_Mo_bring_132 ?_
            obtain ⟨v29, ev29, h⟩ := blet_e h
            refine z_lstore (lv' := [(4, vl v29), (0, .ref (G.1 + 111)), (1, vi a1), (2, vi a2), (3, vi a3), (6, vi a6)]) C ev29 x_Mo_bring_133 (i_lt rfl) rfl ?_
            exact z_sub [1, 2, 3, 4, 0, 5] rfl (z_Mo_bring_135 C hlev hR30 h)
          · refine z_icmp_eq_f (tgt := 85) C x_Mo_bring_79 rfl c14 ?_
            refine z_goto (tgt := 135) C x_Mo_bring_82 rfl ?_
            exact z_sub [0, 1, 2, 3, 4, 5] rfl (z_Mo_bring_135 C hlev hR30 h)
        · refine z_icmp_ne_t (tgt := 135) C x_Mo_bring_68 rfl c11 ?_
          exact z_sub [0, 1, 2, 3, 4, 5] rfl (z_Mo_bring_135 C hlev hR30 h)
      · refine z_if_ne_t (tgt := 135) C x_Mo_bring_57 rfl c8 ?_
        exact z_sub [0, 1, 2, 3, 4, 5] rfl (z_Mo_bring_135 C hlev hR30 h)
  · refine z_icmp_ge_t (tgt := 141) C x_Mo_bring_36 rfl c2 ?_
    refine z_lload C 4 x_Mo_bring_141 rfl ?_
    exact z_lret C x_Mo_bring_143 h
theorem zl_Mo_bring_30 (C : Cx p s m args meth c G b_Mo_bring 7 "PrairiePoolModel" (some .long)) (hlev : 1 ≤ lev) {r : Int × Mem}  : ∀ (n : Nat) (a1 a2 a3 a4 a6 : Int) (M : Mem), fix (fun _ _ _ _ _ _ => none) (k_Mo_bring_30) n a1 a2 a3 a4 a6 M = some r → Z p l e lev s m args below meth c G 7 (MQ below (Qm G 2 r) args s 0 0 (Ab G)) M 30 [(0, .ref (G.1 + 111)), (1, vi a1), (2, vi a2), (3, vi a3), (4, vl a4), (6, vi a6)] [] := by
  intro n
  induction n with
  | zero => intro a1 a2 a3 a4 a6 M h; exact nomatch (show (none : Res) = some r from h)
  | succ n ih => intro a1 a2 a3 a4 a6 M h; exact z_Mo_bring_30 C hlev ih h
def k_Mo_bring_6 (R6 : Int → Int → Int → Int → Int → Mem → Res) (a1 a2 a3 a4 a6 : Int) (M : Mem) : Res := if w32 a6 < 20 then (chk (0 ≤ w32 a6 ∧ w32 a6 < 20) <| blet (sto M 160 (ix a6) 0) fun M3 => blet (a6 + 1) fun v4 => R6 a1 a2 a3 a4 v4 M3) else (fix (fun _ _ _ _ _ _ => none) (k_Mo_bring_30) FU a1 a2 a3 a4 0 M)
theorem z_Mo_bring_6 (C : Cx p s m args meth c G b_Mo_bring 7 "PrairiePoolModel" (some .long)) (hlev : 1 ≤ lev) {r : Int × Mem} {R6 : Int → Int → Int → Int → Int → Mem → Res} (hR6 : ∀ (a1 a2 a3 a4 a6 : Int) (M : Mem), R6 a1 a2 a3 a4 a6 M = some r → Z p l e lev s m args below meth c G 7 (MQ below (Qm G 2 r) args s 0 0 (Ab G)) M 6 [(0, .ref (G.1 + 111)), (1, vi a1), (2, vi a2), (3, vi a3), (4, vl a4), (6, vi a6)] []) {a1 a2 a3 a4 a6 : Int} {M : Mem} (h : k_Mo_bring_6 R6 a1 a2 a3 a4 a6 M = some r) : Z p l e lev s m args below meth c G 7 (MQ below (Qm G 2 r) args s 0 0 (Ab G)) M 6 [(0, .ref (G.1 + 111)), (1, vi a1), (2, vi a2), (3, vi a3), (4, vl a4), (6, vi a6)] [] := by
  unfold k_Mo_bring_6 at h
  refine z_iload C 5 x_Mo_bring_6 rfl ?_
  refine z_bipush C rfl x_Mo_bring_8 ?_
  rcases ite_e h with ⟨c1, h⟩ | ⟨c1, h⟩
  · refine z_icmp_ge_f (tgt := 27) C x_Mo_bring_10 rfl c1 ?_
    refine z_aload_n C 0 x_Mo_bring_13 rfl ?_
    refine z_getR (j := 73) C x_Mo_bring_14 nk_111 ck_111 cw_12 (i_lt rfl) rfl rf_111_73 rfl fl_Mo_164 ?_
    refine z_iload C 5 x_Mo_bring_17 rfl ?_
    refine z_lconst0 C x_Mo_bring_19 ?_
    obtain ⟨c2, h⟩ := chk_e h
    obtain ⟨M3, eM3, h⟩ := blet_e h
    refine z_last C x_Mo_bring_20 nk_160 ck_160 c2 eM3 ?_
    obtain ⟨v4, ev4, h⟩ := blet_e h
    refine z_iinc (lv' := [(6, vi v4), (0, .ref (G.1 + 111)), (1, vi a1), (2, vi a2), (3, vi a3), (4, vl a4)]) C 5 ev4 x_Mo_bring_21 rfl (i_lt rfl) rfl ?_
    refine z_goto (tgt := 6) C x_Mo_bring_24 rfl ?_
    exact z_sub [1, 2, 3, 4, 5, 0] rfl (hR6 a1 a2 a3 a4 v4 M3 h)
  · refine z_icmp_ge_t (tgt := 27) C x_Mo_bring_10 rfl c1 ?_
    refine z_iconst C x_Mo_bring_27 ?_
    refine z_istore (lv' := [(6, vi 0), (0, .ref (G.1 + 111)), (1, vi a1), (2, vi a2), (3, vi a3), (4, vl a4)]) C rfl x_Mo_bring_28 (i_lt rfl) rfl ?_
    exact z_sub [1, 2, 3, 4, 5, 0] rfl (zl_Mo_bring_30 C hlev FU a1 a2 a3 a4 0 M h)
theorem zl_Mo_bring_6 (C : Cx p s m args meth c G b_Mo_bring 7 "PrairiePoolModel" (some .long)) (hlev : 1 ≤ lev) {r : Int × Mem}  : ∀ (n : Nat) (a1 a2 a3 a4 a6 : Int) (M : Mem), fix (fun _ _ _ _ _ _ => none) (k_Mo_bring_6) n a1 a2 a3 a4 a6 M = some r → Z p l e lev s m args below meth c G 7 (MQ below (Qm G 2 r) args s 0 0 (Ab G)) M 6 [(0, .ref (G.1 + 111)), (1, vi a1), (2, vi a2), (3, vi a3), (4, vl a4), (6, vi a6)] [] := by
  intro n
  induction n with
  | zero => intro a1 a2 a3 a4 a6 M h; exact nomatch (show (none : Res) = some r from h)
  | succ n ih => intro a1 a2 a3 a4 a6 M h; exact z_Mo_bring_6 C hlev ih h
def d_Mo_bring (a1 a2 a3 : Int) (M : Mem) : Res := fix (fun _ _ _ _ _ _ => none) (k_Mo_bring_6) FU a1 a2 a3 0 0 M
theorem t_Mo_bring (l : Launch) (G : GX) {lev : Nat} (hlev : 1 ≤ lev) {a1 a2 a3 : Int} {M : Mem} {r : Int × Mem} (h : d_Mo_bring a1 a2 a3 M = some r) : Mt l G y_Mo_bring b_Mo_bring 7 (some .long) lev 2 [.ref (G.1 + 111), vi a1, vi a2, vi a3] M r := by
  refine Mt.of (by decide) (i_le rfl) ?_
  intro p e s m args below meth c C
  have C : Cx p s m args meth c G b_Mo_bring 7 "PrairiePoolModel" (some .long) := C
  unfold d_Mo_bring at h
  refine z_sub (lv' := [(0, .ref (G.1 + 111)), (1, vi a1), (2, vi a2), (3, vi a3)]) [0, 1, 2, 3] rfl ?_
  refine z_lconst0 C x_Mo_bring_0 ?_
  refine z_lstore (lv' := [(4, vl 0), (0, .ref (G.1 + 111)), (1, vi a1), (2, vi a2), (3, vi a3)]) C rfl x_Mo_bring_1 (i_lt rfl) rfl ?_
  refine z_iconst C x_Mo_bring_3 ?_
  refine z_istore (lv' := [(6, vi 0), (4, vl 0), (0, .ref (G.1 + 111)), (1, vi a1), (2, vi a2), (3, vi a3)]) C rfl x_Mo_bring_4 (i_lt rfl) rfl ?_
  exact z_sub [2, 3, 4, 5, 1, 0] rfl (zl_Mo_bring_6 C hlev FU a1 a2 a3 0 0 M h)
theorem x_Mo_paid_0 : DC b_Mo_paid 0 (.aload_n 0) 1 1 := ⟨by decide +kernel, rfl⟩
theorem x_Mo_paid_1 : DC b_Mo_paid 1 (.iconst 0) 1 2 := ⟨by decide +kernel, rfl⟩
theorem x_Mo_paid_2 : DC b_Mo_paid 2 (.putfield 257) 3 5 := ⟨by decide +kernel, rfl⟩
theorem x_Mo_paid_5 : DC b_Mo_paid 5 (.aload_n 0) 1 6 := ⟨by decide +kernel, rfl⟩
theorem x_Mo_paid_6 : DC b_Mo_paid 6 (.iconst 0) 1 7 := ⟨by decide +kernel, rfl⟩
theorem x_Mo_paid_7 : DC b_Mo_paid 7 (.putfield 260) 3 10 := ⟨by decide +kernel, rfl⟩
theorem x_Mo_paid_10 : DC b_Mo_paid 10 (.iload_n 2) 1 11 := ⟨by decide +kernel, rfl⟩
theorem x_Mo_paid_11 : DC b_Mo_paid 11 (.invokestatic 332) 3 14 := ⟨by decide +kernel, rfl⟩
theorem x_Mo_paid_14 : DC b_Mo_paid 14 (.ifCond .ne 10) 3 17 := ⟨by decide +kernel, rfl⟩
theorem x_Mo_paid_17 : DC b_Mo_paid 17 (.aload_n 0) 1 18 := ⟨by decide +kernel, rfl⟩
theorem x_Mo_paid_18 : DC b_Mo_paid 18 (.iconst 2) 1 19 := ⟨by decide +kernel, rfl⟩
theorem x_Mo_paid_19 : DC b_Mo_paid 19 (.invokevirtual 297) 3 22 := ⟨by decide +kernel, rfl⟩
theorem x_Mo_paid_22 : DC b_Mo_paid 22 (.i2l) 1 23 := ⟨by decide +kernel, rfl⟩
theorem x_Mo_paid_23 : DC b_Mo_paid 23 (.lreturn) 1 24 := ⟨by decide +kernel, rfl⟩
theorem x_Mo_paid_24 : DC b_Mo_paid 24 (.iload_n 1) 1 25 := ⟨by decide +kernel, rfl⟩
theorem x_Mo_paid_25 : DC b_Mo_paid 25 (.invokestatic 335) 3 28 := ⟨by decide +kernel, rfl⟩
theorem x_Mo_paid_28 : DC b_Mo_paid 28 (.ifCond .eq 23) 3 31 := ⟨by decide +kernel, rfl⟩
theorem x_Mo_paid_31 : DC b_Mo_paid 31 (.iload_n 3) 1 32 := ⟨by decide +kernel, rfl⟩
theorem x_Mo_paid_32 : DC b_Mo_paid 32 (.i2l) 1 33 := ⟨by decide +kernel, rfl⟩
theorem x_Mo_paid_33 : DC b_Mo_paid 33 (.lconst 0) 1 34 := ⟨by decide +kernel, rfl⟩
theorem x_Mo_paid_34 : DC b_Mo_paid 34 (.ldc2_w 604) 3 37 := ⟨by decide +kernel, rfl⟩
theorem x_Mo_paid_37 : DC b_Mo_paid 37 (.invokestatic 265) 3 40 := ⟨by decide +kernel, rfl⟩
theorem x_Mo_paid_40 : DC b_Mo_paid 40 (.ifCond .eq 11) 3 43 := ⟨by decide +kernel, rfl⟩
theorem x_Mo_paid_43 : DC b_Mo_paid 43 (.iload 4) 2 45 := ⟨by decide +kernel, rfl⟩
theorem x_Mo_paid_45 : DC b_Mo_paid 45 (.invokestatic 306) 3 48 := ⟨by decide +kernel, rfl⟩
theorem x_Mo_paid_48 : DC b_Mo_paid 48 (.ifCond .ne 10) 3 51 := ⟨by decide +kernel, rfl⟩
theorem x_Mo_paid_51 : DC b_Mo_paid 51 (.aload_n 0) 1 52 := ⟨by decide +kernel, rfl⟩
theorem x_Mo_paid_52 : DC b_Mo_paid 52 (.iconst 5) 1 53 := ⟨by decide +kernel, rfl⟩
theorem x_Mo_paid_53 : DC b_Mo_paid 53 (.invokevirtual 297) 3 56 := ⟨by decide +kernel, rfl⟩
theorem x_Mo_paid_56 : DC b_Mo_paid 56 (.i2l) 1 57 := ⟨by decide +kernel, rfl⟩
theorem x_Mo_paid_57 : DC b_Mo_paid 57 (.lreturn) 1 58 := ⟨by decide +kernel, rfl⟩
theorem x_Mo_paid_58 : DC b_Mo_paid 58 (.aload_n 0) 1 59 := ⟨by decide +kernel, rfl⟩
theorem x_Mo_paid_59 : DC b_Mo_paid 59 (.iload 4) 2 61 := ⟨by decide +kernel, rfl⟩
theorem x_Mo_paid_61 : DC b_Mo_paid 61 (.invokevirtual 403) 3 64 := ⟨by decide +kernel, rfl⟩
theorem x_Mo_paid_64 : DC b_Mo_paid 64 (.iload_n 3) 1 65 := ⟨by decide +kernel, rfl⟩
theorem x_Mo_paid_65 : DC b_Mo_paid 65 (.ifCond .ne 14) 3 68 := ⟨by decide +kernel, rfl⟩
theorem x_Mo_paid_68 : DC b_Mo_paid 68 (.aload_n 0) 1 69 := ⟨by decide +kernel, rfl⟩
theorem x_Mo_paid_69 : DC b_Mo_paid 69 (.iload_n 1) 1 70 := ⟨by decide +kernel, rfl⟩
theorem x_Mo_paid_70 : DC b_Mo_paid 70 (.iload_n 2) 1 71 := ⟨by decide +kernel, rfl⟩
theorem x_Mo_paid_71 : DC b_Mo_paid 71 (.iload 4) 2 73 := ⟨by decide +kernel, rfl⟩
theorem x_Mo_paid_73 : DC b_Mo_paid 73 (.invokevirtual 596) 3 76 := ⟨by decide +kernel, rfl⟩
theorem x_Mo_paid_76 : DC b_Mo_paid 76 (.goto 27) 3 79 := ⟨by decide +kernel, rfl⟩
theorem x_Mo_paid_79 : DC b_Mo_paid 79 (.iload_n 3) 1 80 := ⟨by decide +kernel, rfl⟩
theorem x_Mo_paid_80 : DC b_Mo_paid 80 (.iconst 1) 1 81 := ⟨by decide +kernel, rfl⟩
theorem x_Mo_paid_81 : DC b_Mo_paid 81 (.if_icmp .ne 14) 3 84 := ⟨by decide +kernel, rfl⟩
theorem x_Mo_paid_84 : DC b_Mo_paid 84 (.aload_n 0) 1 85 := ⟨by decide +kernel, rfl⟩
theorem x_Mo_paid_85 : DC b_Mo_paid 85 (.iload_n 1) 1 86 := ⟨by decide +kernel, rfl⟩
theorem x_Mo_paid_86 : DC b_Mo_paid 86 (.iload_n 2) 1 87 := ⟨by decide +kernel, rfl⟩
theorem x_Mo_paid_87 : DC b_Mo_paid 87 (.iload 4) 2 89 := ⟨by decide +kernel, rfl⟩
theorem x_Mo_paid_89 : DC b_Mo_paid 89 (.invokevirtual 606) 3 92 := ⟨by decide +kernel, rfl⟩
theorem x_Mo_paid_92 : DC b_Mo_paid 92 (.goto 11) 3 95 := ⟨by decide +kernel, rfl⟩
theorem x_Mo_paid_95 : DC b_Mo_paid 95 (.aload_n 0) 1 96 := ⟨by decide +kernel, rfl⟩
theorem x_Mo_paid_96 : DC b_Mo_paid 96 (.iload_n 1) 1 97 := ⟨by decide +kernel, rfl⟩
theorem x_Mo_paid_97 : DC b_Mo_paid 97 (.iload_n 2) 1 98 := ⟨by decide +kernel, rfl⟩
theorem x_Mo_paid_98 : DC b_Mo_paid 98 (.iload 4) 2 100 := ⟨by decide +kernel, rfl⟩
theorem x_Mo_paid_100 : DC b_Mo_paid 100 (.invokevirtual 609) 3 103 := ⟨by decide +kernel, rfl⟩
theorem x_Mo_paid_103 : DC b_Mo_paid 103 (.lreturn) 1 104 := ⟨by decide +kernel, rfl⟩
def k_Mo_paid_51 (M : Mem) : Res := bcall (d_Mo_refuse 5 M) fun v1 M2 => some (w32 v1, M2)
theorem z_Mo_paid_51 (C : Cx p s m args meth c G b_Mo_paid 5 "PrairiePoolModel" (some .long)) (hlev : 8 ≤ lev) {r : Int × Mem}  {M : Mem} (h : k_Mo_paid_51 M = some r) : Z p l e lev s m args below meth c G 5 (MQ below (Qm G 2 r) args s 0 0 (Ab G)) M 51 [(0, .ref (G.1 + 111))] [] := by
  unfold k_Mo_paid_51 at h
  refine z_aload_n C 0 x_Mo_paid_51 rfl ?_
  refine z_iconst C x_Mo_paid_52 ?_
  obtain ⟨v1, M2, fv1, h⟩ := bcall_e h
  refine z_callVi (k := 111) C x_Mo_paid_53 cv_Mo_297 (t_Mo_refuse (lev := lev - 1) l G (by omega) fv1) nk_111 ck_111 rfl (by omega) rfl (i_le rfl) rfl ?_
  refine z_i2l C x_Mo_paid_56 ?_
  exact z_lret C x_Mo_paid_57 h
def d_Mo_paid (a1 a2 a3 a4 : Int) (M : Mem) : Res := blet (sto M 111 1 0) fun M1 => blet (sto M1 111 0 0) fun M2 => bcall (d_Mo_isGrade a2 M2) fun v3 M4 => if w32 v3 = 0 then (bcall (d_Mo_refuse 2 M4) fun v6 M7 => some (w32 v6, M7)) else (bcall (d_Mo_isYear a1 M4) fun v8 M9 => if w32 v8 = 0 then (k_Mo_paid_51 M9) else (bcall (d_Mo_isIn (w32 a3) 0 2 M9) fun v11 M12 => if w32 v11 = 0 then (k_Mo_paid_51 M12) else (bcall (d_Mo_isDay a4 M12) fun v14 M15 => if w32 v14 = 0 then (k_Mo_paid_51 M15) else (bcall (d_Mo_play a4 M15) fun v17 M18 => if w32 a3 = 0 then (bcall (d_Mo_came a1 a2 a4 M18) fun v20 M21 => some (v20, M21)) else (if w32 a3 = 1 then (bcall (d_Mo_kept a1 a2 a4 M18) fun v23 M24 => some (v23, M24)) else (bcall (d_Mo_bring a1 a2 a4 M18) fun v25 M26 => some (v25, M26)))))))
theorem t_Mo_paid (l : Launch) (G : GX) {lev : Nat} (hlev : 8 ≤ lev) {a1 a2 a3 a4 : Int} {M : Mem} {r : Int × Mem} (h : d_Mo_paid a1 a2 a3 a4 M = some r) : Mt l G y_Mo_paid b_Mo_paid 5 (some .long) lev 2 [.ref (G.1 + 111), vi a1, vi a2, vi a3, vi a4] M r := by
  refine Mt.of (by decide) (i_le rfl) ?_
  intro p e s m args below meth c C
  have C : Cx p s m args meth c G b_Mo_paid 5 "PrairiePoolModel" (some .long) := C
  unfold d_Mo_paid at h
  refine z_sub (lv' := [(0, .ref (G.1 + 111)), (1, vi a1), (2, vi a2), (3, vi a3), (4, vi a4)]) [0, 1, 2, 3, 4] rfl ?_
  refine z_aload_n C 0 x_Mo_paid_0 rfl ?_
  refine z_iconst C x_Mo_paid_1 ?_
  obtain ⟨M1, eM1, h⟩ := blet_e h
  refine z_putI (j := 1) C x_Mo_paid_2 nk_111 ck_111 cw_12 (i_lt rfl) rfl rfl rfl rfl fl_Mo_257 eM1 ?_
  refine z_aload_n C 0 x_Mo_paid_5 rfl ?_
  refine z_iconst C x_Mo_paid_6 ?_
  obtain ⟨M2, eM2, h⟩ := blet_e h
  refine z_putI (j := 0) C x_Mo_paid_7 nk_111 ck_111 cw_12 (i_lt rfl) rfl rfl rfl rfl fl_Mo_260 eM2 ?_
  refine z_iload_n C 2 x_Mo_paid_10 rfl ?_
  obtain ⟨v3, M4, fv3, h⟩ := bcall_e h
  refine z_callSi C x_Mo_paid_11 cs_Mo_332 (t_Mo_isGrade (lev := lev - 1) l G (by omega) fv3) (by omega) rfl (i_le rfl) rfl ?_
  rcases ite_e h with ⟨c5, h⟩ | ⟨c5, h⟩
  · refine z_if_ne_f (tgt := 24) C x_Mo_paid_14 rfl c5 ?_
    refine z_aload_n C 0 x_Mo_paid_17 rfl ?_
    refine z_iconst C x_Mo_paid_18 ?_
    obtain ⟨v6, M7, fv6, h⟩ := bcall_e h
    refine z_callVi (k := 111) C x_Mo_paid_19 cv_Mo_297 (t_Mo_refuse (lev := lev - 1) l G (by omega) fv6) nk_111 ck_111 rfl (by omega) rfl (i_le rfl) rfl ?_
    refine z_i2l C x_Mo_paid_22 ?_
    exact z_lret C x_Mo_paid_23 h
  · refine z_if_ne_t (tgt := 24) C x_Mo_paid_14 rfl c5 ?_
    refine z_iload_n C 1 x_Mo_paid_24 rfl ?_
    obtain ⟨v8, M9, fv8, h⟩ := bcall_e h
    refine z_callSi C x_Mo_paid_25 cs_Mo_335 (t_Mo_isYear (lev := lev - 1) l G (by omega) fv8) (by omega) rfl (i_le rfl) rfl ?_
    rcases ite_e h with ⟨c10, h⟩ | ⟨c10, h⟩
    · refine z_if_eq_t (tgt := 51) C x_Mo_paid_28 rfl c10 ?_
      exact z_sub [0] rfl (z_Mo_paid_51 C hlev h)
    · refine z_if_eq_f (tgt := 51) C x_Mo_paid_28 rfl c10 ?_
      refine z_iload_n C 3 x_Mo_paid_31 rfl ?_
      refine z_i2l C x_Mo_paid_32 ?_
      refine z_lconst0 C x_Mo_paid_33 ?_
      refine z_ldc2 C kl_Mo_604 x_Mo_paid_34 ?_
      obtain ⟨v11, M12, fv11, h⟩ := bcall_e h
      refine z_callSi C x_Mo_paid_37 cs_Mo_265 (t_Mo_isIn (lev := lev - 1) l G (by omega) fv11) (by omega) rfl (i_le rfl) rfl ?_
      rcases ite_e h with ⟨c13, h⟩ | ⟨c13, h⟩
      · refine z_if_eq_t (tgt := 51) C x_Mo_paid_40 rfl c13 ?_
        exact z_sub [0] rfl (z_Mo_paid_51 C hlev h)
      · refine z_if_eq_f (tgt := 51) C x_Mo_paid_40 rfl c13 ?_
        refine z_iload C 4 x_Mo_paid_43 rfl ?_
        obtain ⟨v14, M15, fv14, h⟩ := bcall_e h
        refine z_callSi C x_Mo_paid_45 cs_Mo_306 (t_Mo_isDay (lev := lev - 1) l G (by omega) fv14) (by omega) rfl (i_le rfl) rfl ?_
        rcases ite_e h with ⟨c16, h⟩ | ⟨c16, h⟩
        · refine z_if_ne_f (tgt := 58) C x_Mo_paid_48 rfl c16 ?_
          exact z_sub [0] rfl (z_Mo_paid_51 C hlev h)
        · refine z_if_ne_t (tgt := 58) C x_Mo_paid_48 rfl c16 ?_
          refine z_aload_n C 0 x_Mo_paid_58 rfl ?_
          refine z_iload C 4 x_Mo_paid_59 rfl ?_
          obtain ⟨v17, M18, fv17, h⟩ := bcall_e h
          refine z_callVv (k := 111) C x_Mo_paid_61 cv_Mo_403 (t_Mo_play (lev := lev - 1) l G (by omega) fv17) nk_111 ck_111 rfl (by omega) rfl (i_le rfl) rfl ?_
          refine z_iload_n C 3 x_Mo_paid_64 rfl ?_
          rcases ite_e h with ⟨c19, h⟩ | ⟨c19, h⟩
          · refine z_if_ne_f (tgt := 79) C x_Mo_paid_65 rfl c19 ?_
            refine z_aload_n C 0 x_Mo_paid_68 rfl ?_
            refine z_iload_n C 1 x_Mo_paid_69 rfl ?_
            refine z_iload_n C 2 x_Mo_paid_70 rfl ?_
            refine z_iload C 4 x_Mo_paid_71 rfl ?_
            obtain ⟨v20, M21, fv20, h⟩ := bcall_e h
            refine z_callVl (k := 111) C x_Mo_paid_73 cv_Mo_596 (t_Mo_came (lev := lev - 1) l G (by omega) fv20) nk_111 ck_111 rfl (by omega) rfl (i_le rfl) rfl ?_
            refine z_goto (tgt := 103) C x_Mo_paid_76 rfl ?_
            exact z_lret C x_Mo_paid_103 h
          · refine z_if_ne_t (tgt := 79) C x_Mo_paid_65 rfl c19 ?_
            refine z_iload_n C 3 x_Mo_paid_79 rfl ?_
            refine z_iconst C x_Mo_paid_80 ?_
            rcases ite_e h with ⟨c22, h⟩ | ⟨c22, h⟩
            · refine z_icmp_ne_f (tgt := 95) C x_Mo_paid_81 rfl c22 ?_
              refine z_aload_n C 0 x_Mo_paid_84 rfl ?_
              refine z_iload_n C 1 x_Mo_paid_85 rfl ?_
              refine z_iload_n C 2 x_Mo_paid_86 rfl ?_
              refine z_iload C 4 x_Mo_paid_87 rfl ?_
              obtain ⟨v23, M24, fv23, h⟩ := bcall_e h
              refine z_callVl (k := 111) C x_Mo_paid_89 cv_Mo_606 (t_Mo_kept (lev := lev - 1) l G (by omega) fv23) nk_111 ck_111 rfl (by omega) rfl (i_le rfl) rfl ?_
              refine z_goto (tgt := 103) C x_Mo_paid_92 rfl ?_
              exact z_lret C x_Mo_paid_103 h
            · refine z_icmp_ne_t (tgt := 95) C x_Mo_paid_81 rfl c22 ?_
              refine z_aload_n C 0 x_Mo_paid_95 rfl ?_
              refine z_iload_n C 1 x_Mo_paid_96 rfl ?_
              refine z_iload_n C 2 x_Mo_paid_97 rfl ?_
              refine z_iload C 4 x_Mo_paid_98 rfl ?_
              obtain ⟨v25, M26, fv25, h⟩ := bcall_e h
              refine z_callVl (k := 111) C x_Mo_paid_100 cv_Mo_609 (t_Mo_bring (lev := lev - 1) l G (by omega) fv25) nk_111 ck_111 rfl (by omega) rfl (i_le rfl) rfl ?_
              exact z_lret C x_Mo_paid_103 h
theorem x_Mo_asksFarm_0 : DC b_Mo_asksFarm 0 (.aload_n 0) 1 1 := ⟨by decide +kernel, rfl⟩
theorem x_Mo_asksFarm_1 : DC b_Mo_asksFarm 1 (.iload_n 1) 1 2 := ⟨by decide +kernel, rfl⟩
theorem x_Mo_asksFarm_2 : DC b_Mo_asksFarm 2 (.invokevirtual 318) 3 5 := ⟨by decide +kernel, rfl⟩
theorem x_Mo_asksFarm_5 : DC b_Mo_asksFarm 5 (.ifCond .ne 7) 3 8 := ⟨by decide +kernel, rfl⟩
theorem x_Mo_asksFarm_8 : DC b_Mo_asksFarm 8 (.iconst 2) 1 9 := ⟨by decide +kernel, rfl⟩
theorem x_Mo_asksFarm_9 : DC b_Mo_asksFarm 9 (.goto 22) 3 12 := ⟨by decide +kernel, rfl⟩
theorem x_Mo_asksFarm_12 : DC b_Mo_asksFarm 12 (.iload_n 2) 1 13 := ⟨by decide +kernel, rfl⟩
theorem x_Mo_asksFarm_13 : DC b_Mo_asksFarm 13 (.invokestatic 335) 3 16 := ⟨by decide +kernel, rfl⟩
theorem x_Mo_asksFarm_16 : DC b_Mo_asksFarm 16 (.ifCond .eq 10) 3 19 := ⟨by decide +kernel, rfl⟩
theorem x_Mo_asksFarm_19 : DC b_Mo_asksFarm 19 (.iload_n 3) 1 20 := ⟨by decide +kernel, rfl⟩
theorem x_Mo_asksFarm_20 : DC b_Mo_asksFarm 20 (.invokestatic 306) 3 23 := ⟨by decide +kernel, rfl⟩
theorem x_Mo_asksFarm_23 : DC b_Mo_asksFarm 23 (.ifCond .ne 7) 3 26 := ⟨by decide +kernel, rfl⟩
theorem x_Mo_asksFarm_26 : DC b_Mo_asksFarm 26 (.iconst 5) 1 27 := ⟨by decide +kernel, rfl⟩
theorem x_Mo_asksFarm_27 : DC b_Mo_asksFarm 27 (.goto 4) 3 30 := ⟨by decide +kernel, rfl⟩
theorem x_Mo_asksFarm_30 : DC b_Mo_asksFarm 30 (.iconst 0) 1 31 := ⟨by decide +kernel, rfl⟩
theorem x_Mo_asksFarm_31 : DC b_Mo_asksFarm 31 (.ireturn) 1 32 := ⟨by decide +kernel, rfl⟩
def k_Mo_asksFarm_26 (M : Mem) : Res := some (5, M)
theorem z_Mo_asksFarm_26 (C : Cx p s m args meth c G b_Mo_asksFarm 4 "PrairiePoolModel" (some .int)) (hlev : 2 ≤ lev) {r : Int × Mem}  {M : Mem} (h : k_Mo_asksFarm_26 M = some r) : Z p l e lev s m args below meth c G 4 (MQ below (Qm G 1 r) args s 0 0 (Ab G)) M 26 [] [] := by
  unfold k_Mo_asksFarm_26 at h
  refine z_iconst C x_Mo_asksFarm_26 ?_
  refine z_goto (tgt := 31) C x_Mo_asksFarm_27 rfl ?_
  exact z_iret C x_Mo_asksFarm_31 h
def d_Mo_asksFarm (a1 a2 a3 : Int) (M : Mem) : Res := bcall (d_Mo_isFarm a1 M) fun v1 M2 => if w32 v1 = 0 then (some (2, M2)) else (bcall (d_Mo_isYear a2 M2) fun v4 M5 => if w32 v4 = 0 then (k_Mo_asksFarm_26 M5) else (bcall (d_Mo_isDay a3 M5) fun v7 M8 => if w32 v7 = 0 then (k_Mo_asksFarm_26 M8) else (some (0, M8))))
theorem t_Mo_asksFarm (l : Launch) (G : GX) {lev : Nat} (hlev : 2 ≤ lev) {a1 a2 a3 : Int} {M : Mem} {r : Int × Mem} (h : d_Mo_asksFarm a1 a2 a3 M = some r) : Mt l G y_Mo_asksFarm b_Mo_asksFarm 4 (some .int) lev 1 [.ref (G.1 + 111), vi a1, vi a2, vi a3] M r := by
  refine Mt.of (by decide) (i_le rfl) ?_
  intro p e s m args below meth c C
  have C : Cx p s m args meth c G b_Mo_asksFarm 4 "PrairiePoolModel" (some .int) := C
  unfold d_Mo_asksFarm at h
  refine z_sub (lv' := [(0, .ref (G.1 + 111)), (1, vi a1), (2, vi a2), (3, vi a3)]) [0, 1, 2, 3] rfl ?_
  refine z_aload_n C 0 x_Mo_asksFarm_0 rfl ?_
  refine z_iload_n C 1 x_Mo_asksFarm_1 rfl ?_
  obtain ⟨v1, M2, fv1, h⟩ := bcall_e h
  refine z_callVi (k := 111) C x_Mo_asksFarm_2 cv_Mo_318 (t_Mo_isFarm (lev := lev - 1) l G (by omega) fv1) nk_111 ck_111 rfl (by omega) rfl (i_le rfl) rfl ?_
  rcases ite_e h with ⟨c3, h⟩ | ⟨c3, h⟩
  · refine z_if_ne_f (tgt := 12) C x_Mo_asksFarm_5 rfl c3 ?_
    refine z_iconst C x_Mo_asksFarm_8 ?_
    refine z_goto (tgt := 31) C x_Mo_asksFarm_9 rfl ?_
    exact z_iret C x_Mo_asksFarm_31 h
  · refine z_if_ne_t (tgt := 12) C x_Mo_asksFarm_5 rfl c3 ?_
    refine z_iload_n C 2 x_Mo_asksFarm_12 rfl ?_
    obtain ⟨v4, M5, fv4, h⟩ := bcall_e h
    refine z_callSi C x_Mo_asksFarm_13 cs_Mo_335 (t_Mo_isYear (lev := lev - 1) l G (by omega) fv4) (by omega) rfl (i_le rfl) rfl ?_
    rcases ite_e h with ⟨c6, h⟩ | ⟨c6, h⟩
    · refine z_if_eq_t (tgt := 26) C x_Mo_asksFarm_16 rfl c6 ?_
      exact z_sub [] rfl (z_Mo_asksFarm_26 C hlev h)
    · refine z_if_eq_f (tgt := 26) C x_Mo_asksFarm_16 rfl c6 ?_
      refine z_iload_n C 3 x_Mo_asksFarm_19 rfl ?_
      obtain ⟨v7, M8, fv7, h⟩ := bcall_e h
      refine z_callSi C x_Mo_asksFarm_20 cs_Mo_306 (t_Mo_isDay (lev := lev - 1) l G (by omega) fv7) (by omega) rfl (i_le rfl) rfl ?_
      rcases ite_e h with ⟨c9, h⟩ | ⟨c9, h⟩
      · refine z_if_ne_f (tgt := 30) C x_Mo_asksFarm_23 rfl c9 ?_
        exact z_sub [] rfl (z_Mo_asksFarm_26 C hlev h)
      · refine z_if_ne_t (tgt := 30) C x_Mo_asksFarm_23 rfl c9 ?_
        refine z_iconst C x_Mo_asksFarm_30 ?_
        exact z_iret C x_Mo_asksFarm_31 h
theorem x_Mo_pay_0 : DC b_Mo_pay 0 (.aload_n 0) 1 1 := ⟨by decide +kernel, rfl⟩
theorem x_Mo_pay_1 : DC b_Mo_pay 1 (.iload_n 2) 1 2 := ⟨by decide +kernel, rfl⟩
theorem x_Mo_pay_2 : DC b_Mo_pay 2 (.invokevirtual 403) 3 5 := ⟨by decide +kernel, rfl⟩
theorem x_Mo_pay_5 : DC b_Mo_pay 5 (.iconst 0) 1 6 := ⟨by decide +kernel, rfl⟩
theorem x_Mo_pay_6 : DC b_Mo_pay 6 (.istore_n 3) 1 7 := ⟨by decide +kernel, rfl⟩
theorem x_Mo_pay_7 : DC b_Mo_pay 7 (.iload_n 3) 1 8 := ⟨by decide +kernel, rfl⟩
theorem x_Mo_pay_8 : DC b_Mo_pay 8 (.bipush 20) 2 10 := ⟨by decide +kernel, rfl⟩
theorem x_Mo_pay_10 : DC b_Mo_pay 10 (.if_icmp .ge 30) 3 13 := ⟨by decide +kernel, rfl⟩
theorem x_Mo_pay_13 : DC b_Mo_pay 13 (.aload_n 0) 1 14 := ⟨by decide +kernel, rfl⟩
theorem x_Mo_pay_14 : DC b_Mo_pay 14 (.getfield 167) 3 17 := ⟨by decide +kernel, rfl⟩
theorem x_Mo_pay_17 : DC b_Mo_pay 17 (.iload_n 3) 1 18 := ⟨by decide +kernel, rfl⟩
theorem x_Mo_pay_18 : DC b_Mo_pay 18 (.lconst 0) 1 19 := ⟨by decide +kernel, rfl⟩
theorem x_Mo_pay_19 : DC b_Mo_pay 19 (.lastore) 1 20 := ⟨by decide +kernel, rfl⟩
theorem x_Mo_pay_20 : DC b_Mo_pay 20 (.aload_n 0) 1 21 := ⟨by decide +kernel, rfl⟩
theorem x_Mo_pay_21 : DC b_Mo_pay 21 (.getfield 170) 3 24 := ⟨by decide +kernel, rfl⟩
theorem x_Mo_pay_24 : DC b_Mo_pay 24 (.iload_n 3) 1 25 := ⟨by decide +kernel, rfl⟩
theorem x_Mo_pay_25 : DC b_Mo_pay 25 (.lconst 0) 1 26 := ⟨by decide +kernel, rfl⟩
theorem x_Mo_pay_26 : DC b_Mo_pay 26 (.lastore) 1 27 := ⟨by decide +kernel, rfl⟩
theorem x_Mo_pay_27 : DC b_Mo_pay 27 (.aload_n 0) 1 28 := ⟨by decide +kernel, rfl⟩
theorem x_Mo_pay_28 : DC b_Mo_pay 28 (.getfield 173) 3 31 := ⟨by decide +kernel, rfl⟩
theorem x_Mo_pay_31 : DC b_Mo_pay 31 (.iload_n 3) 1 32 := ⟨by decide +kernel, rfl⟩
theorem x_Mo_pay_32 : DC b_Mo_pay 32 (.lconst 0) 1 33 := ⟨by decide +kernel, rfl⟩
theorem x_Mo_pay_33 : DC b_Mo_pay 33 (.lastore) 1 34 := ⟨by decide +kernel, rfl⟩
theorem x_Mo_pay_34 : DC b_Mo_pay 34 (.iinc 3 1) 3 37 := ⟨by decide +kernel, rfl⟩
theorem x_Mo_pay_37 : DC b_Mo_pay 37 (.goto (-30)) 3 40 := ⟨by decide +kernel, rfl⟩
theorem x_Mo_pay_40 : DC b_Mo_pay 40 (.iconst 0) 1 41 := ⟨by decide +kernel, rfl⟩
theorem x_Mo_pay_41 : DC b_Mo_pay 41 (.istore_n 3) 1 42 := ⟨by decide +kernel, rfl⟩
theorem x_Mo_pay_42 : DC b_Mo_pay 42 (.iload_n 3) 1 43 := ⟨by decide +kernel, rfl⟩
theorem x_Mo_pay_43 : DC b_Mo_pay 43 (.bipush 6) 2 45 := ⟨by decide +kernel, rfl⟩
theorem x_Mo_pay_45 : DC b_Mo_pay 45 (.if_icmp .ge 158) 3 48 := ⟨by decide +kernel, rfl⟩
theorem x_Mo_pay_48 : DC b_Mo_pay 48 (.aload_n 0) 1 49 := ⟨by decide +kernel, rfl⟩
theorem x_Mo_pay_49 : DC b_Mo_pay 49 (.iload_n 1) 1 50 := ⟨by decide +kernel, rfl⟩
theorem x_Mo_pay_50 : DC b_Mo_pay 50 (.iload_n 3) 1 51 := ⟨by decide +kernel, rfl⟩
theorem x_Mo_pay_51 : DC b_Mo_pay 51 (.iload_n 2) 1 52 := ⟨by decide +kernel, rfl⟩
theorem x_Mo_pay_52 : DC b_Mo_pay 52 (.invokevirtual 596) 3 55 := ⟨by decide +kernel, rfl⟩
theorem x_Mo_pay_55 : DC b_Mo_pay 55 (.aload_n 0) 1 56 := ⟨by decide +kernel, rfl⟩
theorem x_Mo_pay_56 : DC b_Mo_pay 56 (.iload_n 1) 1 57 := ⟨by decide +kernel, rfl⟩
theorem x_Mo_pay_57 : DC b_Mo_pay 57 (.iload_n 3) 1 58 := ⟨by decide +kernel, rfl⟩
theorem x_Mo_pay_58 : DC b_Mo_pay 58 (.iload_n 2) 1 59 := ⟨by decide +kernel, rfl⟩
theorem x_Mo_pay_59 : DC b_Mo_pay 59 (.invokevirtual 606) 3 62 := ⟨by decide +kernel, rfl⟩
theorem x_Mo_pay_62 : DC b_Mo_pay 62 (.lsub) 1 63 := ⟨by decide +kernel, rfl⟩
theorem x_Mo_pay_63 : DC b_Mo_pay 63 (.lstore 4) 2 65 := ⟨by decide +kernel, rfl⟩
theorem x_Mo_pay_65 : DC b_Mo_pay 65 (.aload_n 0) 1 66 := ⟨by decide +kernel, rfl⟩
theorem x_Mo_pay_66 : DC b_Mo_pay 66 (.bipush 102) 2 68 := ⟨by decide +kernel, rfl⟩
theorem x_Mo_pay_68 : DC b_Mo_pay 68 (.bipush 105) 2 70 := ⟨by decide +kernel, rfl⟩
theorem x_Mo_pay_70 : DC b_Mo_pay 70 (.bipush 114) 2 72 := ⟨by decide +kernel, rfl⟩
theorem x_Mo_pay_72 : DC b_Mo_pay 72 (.bipush 115) 2 74 := ⟨by decide +kernel, rfl⟩
theorem x_Mo_pay_74 : DC b_Mo_pay 74 (.bipush 116) 2 76 := ⟨by decide +kernel, rfl⟩
theorem x_Mo_pay_76 : DC b_Mo_pay 76 (.iconst 0) 1 77 := ⟨by decide +kernel, rfl⟩
theorem x_Mo_pay_77 : DC b_Mo_pay 77 (.invokestatic 350) 3 80 := ⟨by decide +kernel, rfl⟩
theorem x_Mo_pay_80 : DC b_Mo_pay 80 (.iload_n 1) 1 81 := ⟨by decide +kernel, rfl⟩
theorem x_Mo_pay_81 : DC b_Mo_pay 81 (.iload_n 3) 1 82 := ⟨by decide +kernel, rfl⟩
theorem x_Mo_pay_82 : DC b_Mo_pay 82 (.invokevirtual 600) 3 85 := ⟨by decide +kernel, rfl⟩
theorem x_Mo_pay_85 : DC b_Mo_pay 85 (.lstore 6) 2 87 := ⟨by decide +kernel, rfl⟩
theorem x_Mo_pay_87 : DC b_Mo_pay 87 (.aload_n 0) 1 88 := ⟨by decide +kernel, rfl⟩
theorem x_Mo_pay_88 : DC b_Mo_pay 88 (.iload_n 1) 1 89 := ⟨by decide +kernel, rfl⟩
theorem x_Mo_pay_89 : DC b_Mo_pay 89 (.iload_n 3) 1 90 := ⟨by decide +kernel, rfl⟩
theorem x_Mo_pay_90 : DC b_Mo_pay 90 (.iload_n 2) 1 91 := ⟨by decide +kernel, rfl⟩
theorem x_Mo_pay_91 : DC b_Mo_pay 91 (.invokevirtual 609) 3 94 := ⟨by decide +kernel, rfl⟩
theorem x_Mo_pay_94 : DC b_Mo_pay 94 (.pop2) 1 95 := ⟨by decide +kernel, rfl⟩
theorem x_Mo_pay_95 : DC b_Mo_pay 95 (.iconst 0) 1 96 := ⟨by decide +kernel, rfl⟩
theorem x_Mo_pay_96 : DC b_Mo_pay 96 (.istore 8) 2 98 := ⟨by decide +kernel, rfl⟩
theorem x_Mo_pay_98 : DC b_Mo_pay 98 (.iload 8) 2 100 := ⟨by decide +kernel, rfl⟩
theorem x_Mo_pay_100 : DC b_Mo_pay 100 (.bipush 20) 2 102 := ⟨by decide +kernel, rfl⟩
theorem x_Mo_pay_102 : DC b_Mo_pay 102 (.if_icmp .ge 23) 3 105 := ⟨by decide +kernel, rfl⟩
theorem x_Mo_pay_105 : DC b_Mo_pay 105 (.aload_n 0) 1 106 := ⟨by decide +kernel, rfl⟩
theorem x_Mo_pay_106 : DC b_Mo_pay 106 (.getfield 104) 3 109 := ⟨by decide +kernel, rfl⟩
theorem x_Mo_pay_109 : DC b_Mo_pay 109 (.iload 8) 2 111 := ⟨by decide +kernel, rfl⟩
theorem x_Mo_pay_111 : DC b_Mo_pay 111 (.aload_n 0) 1 112 := ⟨by decide +kernel, rfl⟩
theorem x_Mo_pay_112 : DC b_Mo_pay 112 (.getfield 164) 3 115 := ⟨by decide +kernel, rfl⟩
theorem x_Mo_pay_115 : DC b_Mo_pay 115 (.iload 8) 2 117 := ⟨by decide +kernel, rfl⟩
theorem x_Mo_pay_117 : DC b_Mo_pay 117 (.laload) 1 118 := ⟨by decide +kernel, rfl⟩
theorem x_Mo_pay_118 : DC b_Mo_pay 118 (.lastore) 1 119 := ⟨by decide +kernel, rfl⟩
theorem x_Mo_pay_119 : DC b_Mo_pay 119 (.iinc 8 1) 3 122 := ⟨by decide +kernel, rfl⟩
theorem x_Mo_pay_122 : DC b_Mo_pay 122 (.goto (-24)) 3 125 := ⟨by decide +kernel, rfl⟩
theorem x_Mo_pay_125 : DC b_Mo_pay 125 (.aload_n 0) 1 126 := ⟨by decide +kernel, rfl⟩
theorem x_Mo_pay_126 : DC b_Mo_pay 126 (.lload 4) 2 128 := ⟨by decide +kernel, rfl⟩
theorem x_Mo_pay_128 : DC b_Mo_pay 128 (.invokevirtual 374) 3 131 := ⟨by decide +kernel, rfl⟩
theorem x_Mo_pay_131 : DC b_Mo_pay 131 (.iconst 0) 1 132 := ⟨by decide +kernel, rfl⟩
theorem x_Mo_pay_132 : DC b_Mo_pay 132 (.istore 8) 2 134 := ⟨by decide +kernel, rfl⟩
theorem x_Mo_pay_134 : DC b_Mo_pay 134 (.iload 8) 2 136 := ⟨by decide +kernel, rfl⟩
theorem x_Mo_pay_136 : DC b_Mo_pay 136 (.aload_n 0) 1 137 := ⟨by decide +kernel, rfl⟩
theorem x_Mo_pay_137 : DC b_Mo_pay 137 (.getfield 291) 3 140 := ⟨by decide +kernel, rfl⟩
theorem x_Mo_pay_140 : DC b_Mo_pay 140 (.if_icmp .ge 57) 3 143 := ⟨by decide +kernel, rfl⟩
theorem x_Mo_pay_143 : DC b_Mo_pay 143 (.aload_n 0) 1 144 := ⟨by decide +kernel, rfl⟩
theorem x_Mo_pay_144 : DC b_Mo_pay 144 (.getfield 167) 3 147 := ⟨by decide +kernel, rfl⟩
theorem x_Mo_pay_147 : DC b_Mo_pay 147 (.iload 8) 2 149 := ⟨by decide +kernel, rfl⟩
theorem x_Mo_pay_149 : DC b_Mo_pay 149 (.dup2) 1 150 := ⟨by decide +kernel, rfl⟩
theorem x_Mo_pay_150 : DC b_Mo_pay 150 (.laload) 1 151 := ⟨by decide +kernel, rfl⟩
theorem x_Mo_pay_151 : DC b_Mo_pay 151 (.lload 6) 2 153 := ⟨by decide +kernel, rfl⟩
theorem x_Mo_pay_153 : DC b_Mo_pay 153 (.aload_n 0) 1 154 := ⟨by decide +kernel, rfl⟩
theorem x_Mo_pay_154 : DC b_Mo_pay 154 (.getfield 164) 3 157 := ⟨by decide +kernel, rfl⟩
theorem x_Mo_pay_157 : DC b_Mo_pay 157 (.iload 8) 2 159 := ⟨by decide +kernel, rfl⟩
theorem x_Mo_pay_159 : DC b_Mo_pay 159 (.laload) 1 160 := ⟨by decide +kernel, rfl⟩
theorem x_Mo_pay_160 : DC b_Mo_pay 160 (.lmul) 1 161 := ⟨by decide +kernel, rfl⟩
theorem x_Mo_pay_161 : DC b_Mo_pay 161 (.ladd) 1 162 := ⟨by decide +kernel, rfl⟩
theorem x_Mo_pay_162 : DC b_Mo_pay 162 (.lastore) 1 163 := ⟨by decide +kernel, rfl⟩
theorem x_Mo_pay_163 : DC b_Mo_pay 163 (.aload_n 0) 1 164 := ⟨by decide +kernel, rfl⟩
theorem x_Mo_pay_164 : DC b_Mo_pay 164 (.getfield 170) 3 167 := ⟨by decide +kernel, rfl⟩
theorem x_Mo_pay_167 : DC b_Mo_pay 167 (.iload 8) 2 169 := ⟨by decide +kernel, rfl⟩
theorem x_Mo_pay_169 : DC b_Mo_pay 169 (.dup2) 1 170 := ⟨by decide +kernel, rfl⟩
theorem x_Mo_pay_170 : DC b_Mo_pay 170 (.laload) 1 171 := ⟨by decide +kernel, rfl⟩
theorem x_Mo_pay_171 : DC b_Mo_pay 171 (.aload_n 0) 1 172 := ⟨by decide +kernel, rfl⟩
theorem x_Mo_pay_172 : DC b_Mo_pay 172 (.getfield 107) 3 175 := ⟨by decide +kernel, rfl⟩
theorem x_Mo_pay_175 : DC b_Mo_pay 175 (.iload 8) 2 177 := ⟨by decide +kernel, rfl⟩
theorem x_Mo_pay_177 : DC b_Mo_pay 177 (.laload) 1 178 := ⟨by decide +kernel, rfl⟩
theorem x_Mo_pay_178 : DC b_Mo_pay 178 (.lload 6) 2 180 := ⟨by decide +kernel, rfl⟩
theorem x_Mo_pay_180 : DC b_Mo_pay 180 (.aload_n 0) 1 181 := ⟨by decide +kernel, rfl⟩
theorem x_Mo_pay_181 : DC b_Mo_pay 181 (.getfield 164) 3 184 := ⟨by decide +kernel, rfl⟩
theorem x_Mo_pay_184 : DC b_Mo_pay 184 (.iload 8) 2 186 := ⟨by decide +kernel, rfl⟩
theorem x_Mo_pay_186 : DC b_Mo_pay 186 (.laload) 1 187 := ⟨by decide +kernel, rfl⟩
theorem x_Mo_pay_187 : DC b_Mo_pay 187 (.lmul) 1 188 := ⟨by decide +kernel, rfl⟩
theorem x_Mo_pay_188 : DC b_Mo_pay 188 (.lsub) 1 189 := ⟨by decide +kernel, rfl⟩
theorem x_Mo_pay_189 : DC b_Mo_pay 189 (.ladd) 1 190 := ⟨by decide +kernel, rfl⟩
theorem x_Mo_pay_190 : DC b_Mo_pay 190 (.lastore) 1 191 := ⟨by decide +kernel, rfl⟩
theorem x_Mo_pay_191 : DC b_Mo_pay 191 (.iinc 8 1) 3 194 := ⟨by decide +kernel, rfl⟩
theorem x_Mo_pay_194 : DC b_Mo_pay 194 (.goto (-60)) 3 197 := ⟨by decide +kernel, rfl⟩
theorem x_Mo_pay_197 : DC b_Mo_pay 197 (.iinc 3 1) 3 200 := ⟨by decide +kernel, rfl⟩
theorem x_Mo_pay_200 : DC b_Mo_pay 200 (.goto (-158)) 3 203 := ⟨by decide +kernel, rfl⟩
theorem x_Mo_pay_203 : DC b_Mo_pay 203 (.lconst 0) 1 204 := ⟨by decide +kernel, rfl⟩
theorem x_Mo_pay_204 : DC b_Mo_pay 204 (.lstore_n 3) 1 205 := ⟨by decide +kernel, rfl⟩
theorem x_Mo_pay_205 : DC b_Mo_pay 205 (.iconst 0) 1 206 := ⟨by decide +kernel, rfl⟩
theorem x_Mo_pay_206 : DC b_Mo_pay 206 (.istore 5) 2 208 := ⟨by decide +kernel, rfl⟩
theorem x_Mo_pay_208 : DC b_Mo_pay 208 (.iload 5) 2 210 := ⟨by decide +kernel, rfl⟩
theorem x_Mo_pay_210 : DC b_Mo_pay 210 (.bipush 20) 2 212 := ⟨by decide +kernel, rfl⟩
theorem x_Mo_pay_212 : DC b_Mo_pay 212 (.if_icmp .ge 38) 3 215 := ⟨by decide +kernel, rfl⟩
theorem x_Mo_pay_215 : DC b_Mo_pay 215 (.lload_n 3) 1 216 := ⟨by decide +kernel, rfl⟩
theorem x_Mo_pay_216 : DC b_Mo_pay 216 (.aload_n 0) 1 217 := ⟨by decide +kernel, rfl⟩
theorem x_Mo_pay_217 : DC b_Mo_pay 217 (.getfield 170) 3 220 := ⟨by decide +kernel, rfl⟩
theorem x_Mo_pay_220 : DC b_Mo_pay 220 (.iload 5) 2 222 := ⟨by decide +kernel, rfl⟩
theorem x_Mo_pay_222 : DC b_Mo_pay 222 (.laload) 1 223 := ⟨by decide +kernel, rfl⟩
theorem x_Mo_pay_223 : DC b_Mo_pay 223 (.ladd) 1 224 := ⟨by decide +kernel, rfl⟩
theorem x_Mo_pay_224 : DC b_Mo_pay 224 (.lstore_n 3) 1 225 := ⟨by decide +kernel, rfl⟩
theorem x_Mo_pay_225 : DC b_Mo_pay 225 (.aload_n 0) 1 226 := ⟨by decide +kernel, rfl⟩
theorem x_Mo_pay_226 : DC b_Mo_pay 226 (.getfield 104) 3 229 := ⟨by decide +kernel, rfl⟩
theorem x_Mo_pay_229 : DC b_Mo_pay 229 (.iload 5) 2 231 := ⟨by decide +kernel, rfl⟩
theorem x_Mo_pay_231 : DC b_Mo_pay 231 (.lconst 0) 1 232 := ⟨by decide +kernel, rfl⟩
theorem x_Mo_pay_232 : DC b_Mo_pay 232 (.aload_n 0) 1 233 := ⟨by decide +kernel, rfl⟩
theorem x_Mo_pay_233 : DC b_Mo_pay 233 (.getfield 170) 3 236 := ⟨by decide +kernel, rfl⟩
theorem x_Mo_pay_236 : DC b_Mo_pay 236 (.iload 5) 2 238 := ⟨by decide +kernel, rfl⟩
theorem x_Mo_pay_238 : DC b_Mo_pay 238 (.laload) 1 239 := ⟨by decide +kernel, rfl⟩
theorem x_Mo_pay_239 : DC b_Mo_pay 239 (.lneg) 1 240 := ⟨by decide +kernel, rfl⟩
theorem x_Mo_pay_240 : DC b_Mo_pay 240 (.invokestatic 594) 3 243 := ⟨by decide +kernel, rfl⟩
theorem x_Mo_pay_243 : DC b_Mo_pay 243 (.lastore) 1 244 := ⟨by decide +kernel, rfl⟩
theorem x_Mo_pay_244 : DC b_Mo_pay 244 (.iinc 5 1) 3 247 := ⟨by decide +kernel, rfl⟩
theorem x_Mo_pay_247 : DC b_Mo_pay 247 (.goto (-39)) 3 250 := ⟨by decide +kernel, rfl⟩
theorem x_Mo_pay_250 : DC b_Mo_pay 250 (.aload_n 0) 1 251 := ⟨by decide +kernel, rfl⟩
theorem x_Mo_pay_251 : DC b_Mo_pay 251 (.lconst 0) 1 252 := ⟨by decide +kernel, rfl⟩
theorem x_Mo_pay_252 : DC b_Mo_pay 252 (.lload_n 3) 1 253 := ⟨by decide +kernel, rfl⟩
theorem x_Mo_pay_253 : DC b_Mo_pay 253 (.lneg) 1 254 := ⟨by decide +kernel, rfl⟩
theorem x_Mo_pay_254 : DC b_Mo_pay 254 (.invokestatic 594) 3 257 := ⟨by decide +kernel, rfl⟩
theorem x_Mo_pay_257 : DC b_Mo_pay 257 (.putfield 612) 3 260 := ⟨by decide +kernel, rfl⟩
theorem x_Mo_pay_260 : DC b_Mo_pay 260 (.aload_n 0) 1 261 := ⟨by decide +kernel, rfl⟩
theorem x_Mo_pay_261 : DC b_Mo_pay 261 (.aload_n 0) 1 262 := ⟨by decide +kernel, rfl⟩
theorem x_Mo_pay_262 : DC b_Mo_pay 262 (.getfield 612) 3 265 := ⟨by decide +kernel, rfl⟩
theorem x_Mo_pay_265 : DC b_Mo_pay 265 (.aload_n 0) 1 266 := ⟨by decide +kernel, rfl⟩
theorem x_Mo_pay_266 : DC b_Mo_pay 266 (.bipush 115) 2 268 := ⟨by decide +kernel, rfl⟩
theorem x_Mo_pay_268 : DC b_Mo_pay 268 (.bipush 116) 2 270 := ⟨by decide +kernel, rfl⟩
theorem x_Mo_pay_270 : DC b_Mo_pay 270 (.bipush 97) 2 272 := ⟨by decide +kernel, rfl⟩
theorem x_Mo_pay_272 : DC b_Mo_pay 272 (.bipush 110) 2 274 := ⟨by decide +kernel, rfl⟩
theorem x_Mo_pay_274 : DC b_Mo_pay 274 (.bipush 100) 2 276 := ⟨by decide +kernel, rfl⟩
theorem x_Mo_pay_276 : DC b_Mo_pay 276 (.iconst 0) 1 277 := ⟨by decide +kernel, rfl⟩
theorem x_Mo_pay_277 : DC b_Mo_pay 277 (.invokestatic 350) 3 280 := ⟨by decide +kernel, rfl⟩
theorem x_Mo_pay_280 : DC b_Mo_pay 280 (.iload_n 1) 1 281 := ⟨by decide +kernel, rfl⟩
theorem x_Mo_pay_281 : DC b_Mo_pay 281 (.iconst 0) 1 282 := ⟨by decide +kernel, rfl⟩
theorem x_Mo_pay_282 : DC b_Mo_pay 282 (.invokevirtual 600) 3 285 := ⟨by decide +kernel, rfl⟩
theorem x_Mo_pay_285 : DC b_Mo_pay 285 (.lmul) 1 286 := ⟨by decide +kernel, rfl⟩
theorem x_Mo_pay_286 : DC b_Mo_pay 286 (.ldc2_w 326) 3 289 := ⟨by decide +kernel, rfl⟩
theorem x_Mo_pay_289 : DC b_Mo_pay 289 (.ldiv) 1 290 := ⟨by decide +kernel, rfl⟩
theorem x_Mo_pay_290 : DC b_Mo_pay 290 (.putfield 615) 3 293 := ⟨by decide +kernel, rfl⟩
theorem x_Mo_pay_293 : DC b_Mo_pay 293 (.aload_n 0) 1 294 := ⟨by decide +kernel, rfl⟩
theorem x_Mo_pay_294 : DC b_Mo_pay 294 (.aload_n 0) 1 295 := ⟨by decide +kernel, rfl⟩
theorem x_Mo_pay_295 : DC b_Mo_pay 295 (.getfield 612) 3 298 := ⟨by decide +kernel, rfl⟩
theorem x_Mo_pay_298 : DC b_Mo_pay 298 (.aload_n 0) 1 299 := ⟨by decide +kernel, rfl⟩
theorem x_Mo_pay_299 : DC b_Mo_pay 299 (.getfield 615) 3 302 := ⟨by decide +kernel, rfl⟩
theorem x_Mo_pay_302 : DC b_Mo_pay 302 (.lsub) 1 303 := ⟨by decide +kernel, rfl⟩
theorem x_Mo_pay_303 : DC b_Mo_pay 303 (.invokevirtual 374) 3 306 := ⟨by decide +kernel, rfl⟩
theorem x_Mo_pay_306 : DC b_Mo_pay 306 (.iconst 0) 1 307 := ⟨by decide +kernel, rfl⟩
theorem x_Mo_pay_307 : DC b_Mo_pay 307 (.istore 5) 2 309 := ⟨by decide +kernel, rfl⟩
theorem x_Mo_pay_309 : DC b_Mo_pay 309 (.iload 5) 2 311 := ⟨by decide +kernel, rfl⟩
theorem x_Mo_pay_311 : DC b_Mo_pay 311 (.aload_n 0) 1 312 := ⟨by decide +kernel, rfl⟩
theorem x_Mo_pay_312 : DC b_Mo_pay 312 (.getfield 291) 3 315 := ⟨by decide +kernel, rfl⟩
theorem x_Mo_pay_315 : DC b_Mo_pay 315 (.if_icmp .ge 23) 3 318 := ⟨by decide +kernel, rfl⟩
theorem x_Mo_pay_318 : DC b_Mo_pay 318 (.aload_n 0) 1 319 := ⟨by decide +kernel, rfl⟩
theorem x_Mo_pay_319 : DC b_Mo_pay 319 (.getfield 173) 3 322 := ⟨by decide +kernel, rfl⟩
theorem x_Mo_pay_322 : DC b_Mo_pay 322 (.iload 5) 2 324 := ⟨by decide +kernel, rfl⟩
theorem x_Mo_pay_324 : DC b_Mo_pay 324 (.aload_n 0) 1 325 := ⟨by decide +kernel, rfl⟩
theorem x_Mo_pay_325 : DC b_Mo_pay 325 (.getfield 107) 3 328 := ⟨by decide +kernel, rfl⟩
theorem x_Mo_pay_328 : DC b_Mo_pay 328 (.iload 5) 2 330 := ⟨by decide +kernel, rfl⟩
theorem x_Mo_pay_330 : DC b_Mo_pay 330 (.laload) 1 331 := ⟨by decide +kernel, rfl⟩
theorem x_Mo_pay_331 : DC b_Mo_pay 331 (.lastore) 1 332 := ⟨by decide +kernel, rfl⟩
theorem x_Mo_pay_332 : DC b_Mo_pay 332 (.iinc 5 1) 3 335 := ⟨by decide +kernel, rfl⟩
theorem x_Mo_pay_335 : DC b_Mo_pay 335 (.goto (-26)) 3 338 := ⟨by decide +kernel, rfl⟩
theorem x_Mo_pay_338 : DC b_Mo_pay 338 (.return_) 1 339 := ⟨by decide +kernel, rfl⟩
def k_Mo_pay_309 (R309 : Int → Mem → Res) (a5 : Int) (M : Mem) : Res := blet (M 111 5) fun v1 => if w32 a5 < w32 v1 then (chk (0 ≤ w32 a5 ∧ w32 a5 < 20) <| blet (M 144 (ix a5)) fun v4 => chk (0 ≤ w32 a5 ∧ w32 a5 < 20) <| blet (sto M 163 (ix a5) v4) fun M6 => blet (a5 + 1) fun v7 => R309 v7 M6) else (some (0, M))
theorem z_Mo_pay_309 (C : Cx p s m args meth c G b_Mo_pay 9 "PrairiePoolModel" none) (hlev : 8 ≤ lev) {r : Int × Mem} {R309 : Int → Mem → Res} (hR309 : ∀ (a5 : Int) (M : Mem), R309 a5 M = some r → Z p l e lev s m args below meth c G 9 (MQ below (Qm G 0 r) args s 0 0 (Ab G)) M 309 [(0, .ref (G.1 + 111)), (5, vi a5)] []) {a5 : Int} {M : Mem} (h : k_Mo_pay_309 R309 a5 M = some r) : Z p l e lev s m args below meth c G 9 (MQ below (Qm G 0 r) args s 0 0 (Ab G)) M 309 [(0, .ref (G.1 + 111)), (5, vi a5)] [] := by
  unfold k_Mo_pay_309 at h
  refine z_iload C 1 x_Mo_pay_309 rfl ?_
  refine z_aload_n C 0 x_Mo_pay_311 rfl ?_
  obtain ⟨v1, ev1, h⟩ := blet_e h
  refine z_getI (j := 5) C x_Mo_pay_312 nk_111 ck_111 cw_12 (i_lt rfl) rfl rfl fl_Mo_291 ev1 ?_
  rcases ite_e h with ⟨c2, h⟩ | ⟨c2, h⟩
  · refine z_icmp_ge_f (tgt := 338) C x_Mo_pay_315 rfl c2 ?_
    refine z_aload_n C 0 x_Mo_pay_318 rfl ?_
    refine z_getR (j := 76) C x_Mo_pay_319 nk_111 ck_111 cw_12 (i_lt rfl) rfl rf_111_76 rfl fl_Mo_173 ?_
    refine z_iload C 1 x_Mo_pay_322 rfl ?_
    refine z_aload_n C 0 x_Mo_pay_324 rfl ?_
    refine z_getR (j := 41) C x_Mo_pay_325 nk_111 ck_111 cw_12 (i_lt rfl) rfl rf_111_41 rfl fl_Mo_107 ?_
    refine z_iload C 1 x_Mo_pay_328 rfl ?_
    obtain ⟨c3, h⟩ := chk_e h
    obtain ⟨v4, ev4, h⟩ := blet_e h
    refine z_lald C x_Mo_pay_330 nk_144 ck_144 c3 ev4 ?_
    obtain ⟨c5, h⟩ := chk_e h
    obtain ⟨M6, eM6, h⟩ := blet_e h
    refine z_last C x_Mo_pay_331 nk_163 ck_163 c5 eM6 ?_
    obtain ⟨v7, ev7, h⟩ := blet_e h
    refine z_iinc (lv' := [(5, vi v7), (0, .ref (G.1 + 111))]) C 1 ev7 x_Mo_pay_332 rfl (i_lt rfl) rfl ?_
    refine z_goto (tgt := 309) C x_Mo_pay_335 rfl ?_
    exact z_sub [1, 0] rfl (hR309 v7 M6 h)
  · refine z_icmp_ge_t (tgt := 338) C x_Mo_pay_315 rfl c2 ?_
    exact z_vret C x_Mo_pay_338 h
theorem zl_Mo_pay_309 (C : Cx p s m args meth c G b_Mo_pay 9 "PrairiePoolModel" none) (hlev : 8 ≤ lev) {r : Int × Mem}  : ∀ (n : Nat) (a5 : Int) (M : Mem), fix (fun _ _ => none) (k_Mo_pay_309) n a5 M = some r → Z p l e lev s m args below meth c G 9 (MQ below (Qm G 0 r) args s 0 0 (Ab G)) M 309 [(0, .ref (G.1 + 111)), (5, vi a5)] [] := by
  intro n
  induction n with
  | zero => intro a5 M h; exact nomatch (show (none : Res) = some r from h)
  | succ n ih => intro a5 M h; exact z_Mo_pay_309 C hlev ih h
def k_Mo_pay_208 (R208 : Int → Int → Int → Mem → Res) (a1 a3 a5 : Int) (M : Mem) : Res := if w32 a5 < 20 then (chk (0 ≤ w32 a5 ∧ w32 a5 < 20) <| blet (M 162 (ix a5)) fun v3 => blet (a3 + v3) fun v4 => chk (0 ≤ w32 a5 ∧ w32 a5 < 20) <| blet (M 162 (ix a5)) fun v6 => chk (0 ≤ w32 a5 ∧ w32 a5 < 20) <| blet (sto M 143 (ix a5) (mx64 0 (-v6))) fun M8 => blet (a5 + 1) fun v9 => R208 a1 v4 v9 M8) else (blet (sto M 111 77 (mx64 0 (-a3))) fun M10 => blet (M10 111 77) fun v11 => bcall (d_Mo_spelled 115 116 97 110 100 0 M10) fun v12 M13 => bcall (d_Mo_ofYear v12 a1 0 M13) fun v14 M15 => blet (sto M15 111 78 (dv64 (v11 * v14) 1000)) fun M16 => blet (M16 111 77) fun v17 => blet (M16 111 78) fun v18 => bcall (d_Mo_parts (v17 - v18) M16) fun v19 M20 => fix (fun _ _ => none) (k_Mo_pay_309) FU 0 M20)
theorem z_Mo_pay_208 (C : Cx p s m args meth c G b_Mo_pay 9 "PrairiePoolModel" none) (hlev : 8 ≤ lev) {r : Int × Mem} {R208 : Int → Int → Int → Mem → Res} (hR208 : ∀ (a1 a3 a5 : Int) (M : Mem), R208 a1 a3 a5 M = some r → Z p l e lev s m args below meth c G 9 (MQ below (Qm G 0 r) args s 0 0 (Ab G)) M 208 [(0, .ref (G.1 + 111)), (1, vi a1), (3, vl a3), (5, vi a5)] []) {a1 a3 a5 : Int} {M : Mem} (h : k_Mo_pay_208 R208 a1 a3 a5 M = some r) : Z p l e lev s m args below meth c G 9 (MQ below (Qm G 0 r) args s 0 0 (Ab G)) M 208 [(0, .ref (G.1 + 111)), (1, vi a1), (3, vl a3), (5, vi a5)] [] := by
  unfold k_Mo_pay_208 at h
  refine z_iload C 3 x_Mo_pay_208 rfl ?_
  refine z_bipush C rfl x_Mo_pay_210 ?_
  rcases ite_e h with ⟨c1, h⟩ | ⟨c1, h⟩
  · refine z_icmp_ge_f (tgt := 250) C x_Mo_pay_212 rfl c1 ?_
    refine z_lload_n C 2 x_Mo_pay_215 rfl ?_
    refine z_aload_n C 0 x_Mo_pay_216 rfl ?_
    refine z_getR (j := 75) C x_Mo_pay_217 nk_111 ck_111 cw_12 (i_lt rfl) rfl rf_111_75 rfl fl_Mo_170 ?_
    refine z_iload C 3 x_Mo_pay_220 rfl ?_
    obtain ⟨c2, h⟩ := chk_e h
    obtain ⟨v3, ev3, h⟩ := blet_e h
    refine z_lald C x_Mo_pay_222 nk_162 ck_162 c2 ev3 ?_
    refine z_ladd C x_Mo_pay_223 ?_
    obtain ⟨v4, ev4, h⟩ := blet_e h
    refine z_lstore_n (lv' := [(3, vl v4), (0, .ref (G.1 + 111)), (1, vi a1), (5, vi a5)]) C ev4 x_Mo_pay_224 (i_lt rfl) rfl ?_
    refine z_aload_n C 1 x_Mo_pay_225 rfl ?_
    refine z_getR (j := 40) C x_Mo_pay_226 nk_111 ck_111 cw_12 (i_lt rfl) rfl rf_111_40 rfl fl_Mo_104 ?_
    refine z_iload C 3 x_Mo_pay_229 rfl ?_
    refine z_lconst0 C x_Mo_pay_231 ?_
    refine z_aload_n C 1 x_Mo_pay_232 rfl ?_
    refine z_getR (j := 75) C x_Mo_pay_233 nk_111 ck_111 cw_12 (i_lt rfl) rfl rf_111_75 rfl fl_Mo_170 ?_
    refine z_iload C 3 x_Mo_pay_236 rfl ?_
    obtain ⟨c5, h⟩ := chk_e h
    obtain ⟨v6, ev6, h⟩ := blet_e h
    refine z_lald C x_Mo_pay_238 nk_162 ck_162 c5 ev6 ?_
    refine z_lneg C x_Mo_pay_239 ?_
    refine z_mx64 C x_Mo_pay_240 cs_Mo_594 (by omega) (i_le rfl) ?_
    obtain ⟨c7, h⟩ := chk_e h
    obtain ⟨M8, eM8, h⟩ := blet_e h
    refine z_last C x_Mo_pay_243 nk_143 ck_143 c7 eM8 ?_
    obtain ⟨v9, ev9, h⟩ := blet_e h
    refine z_iinc (lv' := [(5, vi v9), (3, vl v4), (0, .ref (G.1 + 111)), (1, vi a1)]) C 3 ev9 x_Mo_pay_244 rfl (i_lt rfl) rfl ?_
    refine z_goto (tgt := 208) C x_Mo_pay_247 rfl ?_
    exact z_sub [2, 3, 1, 0] rfl (hR208 a1 v4 v9 M8 h)
  · refine z_icmp_ge_t (tgt := 250) C x_Mo_pay_212 rfl c1 ?_
    refine z_aload_n C 0 x_Mo_pay_250 rfl ?_
    refine z_lconst0 C x_Mo_pay_251 ?_
    refine z_lload_n C 2 x_Mo_pay_252 rfl ?_
    refine z_lneg C x_Mo_pay_253 ?_
    refine z_mx64 C x_Mo_pay_254 cs_Mo_594 (by omega) (i_le rfl) ?_
    obtain ⟨M10, eM10, h⟩ := blet_e h
    refine z_putL (j := 77) C x_Mo_pay_257 nk_111 ck_111 cw_12 (i_lt rfl) rfl rfl rfl rfl fl_Mo_612 eM10 ?_
    refine z_aload_n C 0 x_Mo_pay_260 rfl ?_
    refine z_aload_n C 0 x_Mo_pay_261 rfl ?_
    obtain ⟨v11, ev11, h⟩ := blet_e h
    refine z_getL (j := 77) C x_Mo_pay_262 nk_111 ck_111 cw_12 (i_lt rfl) rfl rfl fl_Mo_612 ev11 ?_
    refine z_aload_n C 0 x_Mo_pay_265 rfl ?_
    refine z_bipush C rfl x_Mo_pay_266 ?_
    refine z_bipush C rfl x_Mo_pay_268 ?_
    refine z_bipush C rfl x_Mo_pay_270 ?_
    refine z_bipush C rfl x_Mo_pay_272 ?_
    refine z_bipush C rfl x_Mo_pay_274 ?_
    refine z_iconst C x_Mo_pay_276 ?_
    obtain ⟨v12, M13, fv12, h⟩ := bcall_e h
    refine z_callSl C x_Mo_pay_277 cs_Mo_350 (t_Mo_spelled (lev := lev - 1) l G (by omega) fv12) (by omega) rfl (i_le rfl) rfl ?_
    refine z_iload_n C 1 x_Mo_pay_280 rfl ?_
    refine z_iconst C x_Mo_pay_281 ?_
    obtain ⟨v14, M15, fv14, h⟩ := bcall_e h
    refine z_callVl (k := 111) C x_Mo_pay_282 cv_Mo_600 (t_Mo_ofYear (lev := lev - 1) l G (by omega) fv14) nk_111 ck_111 rfl (by omega) rfl (i_le rfl) rfl ?_
    refine z_lmul C x_Mo_pay_285 ?_
    refine z_ldc2 C kl_Mo_326 x_Mo_pay_286 ?_
    refine z_ldiv C (by decide) x_Mo_pay_289 ?_
    obtain ⟨M16, eM16, h⟩ := blet_e h
    refine z_putL (j := 78) C x_Mo_pay_290 nk_111 ck_111 cw_12 (i_lt rfl) rfl rfl rfl rfl fl_Mo_615 eM16 ?_
    refine z_aload_n C 0 x_Mo_pay_293 rfl ?_
    refine z_aload_n C 0 x_Mo_pay_294 rfl ?_
    obtain ⟨v17, ev17, h⟩ := blet_e h
    refine z_getL (j := 77) C x_Mo_pay_295 nk_111 ck_111 cw_12 (i_lt rfl) rfl rfl fl_Mo_612 ev17 ?_
    refine z_aload_n C 0 x_Mo_pay_298 rfl ?_
    obtain ⟨v18, ev18, h⟩ := blet_e h
    refine z_getL (j := 78) C x_Mo_pay_299 nk_111 ck_111 cw_12 (i_lt rfl) rfl rfl fl_Mo_615 ev18 ?_
    refine z_lsub C x_Mo_pay_302 ?_
    obtain ⟨v19, M20, fv19, h⟩ := bcall_e h
    refine z_callVv (k := 111) C x_Mo_pay_303 cv_Mo_374 (t_Mo_parts (lev := lev - 1) l G (by omega) fv19) nk_111 ck_111 rfl (by omega) rfl (i_le rfl) rfl ?_
    refine z_iconst C x_Mo_pay_306 ?_
    refine z_istore (lv' := [(5, vi 0), (0, .ref (G.1 + 111)), (1, vi a1), (3, vl a3)]) C rfl x_Mo_pay_307 (i_lt rfl) rfl ?_
    exact z_sub [1, 0] rfl (zl_Mo_pay_309 C hlev FU 0 M20 h)
theorem zl_Mo_pay_208 (C : Cx p s m args meth c G b_Mo_pay 9 "PrairiePoolModel" none) (hlev : 8 ≤ lev) {r : Int × Mem}  : ∀ (n : Nat) (a1 a3 a5 : Int) (M : Mem), fix (fun _ _ _ _ => none) (k_Mo_pay_208) n a1 a3 a5 M = some r → Z p l e lev s m args below meth c G 9 (MQ below (Qm G 0 r) args s 0 0 (Ab G)) M 208 [(0, .ref (G.1 + 111)), (1, vi a1), (3, vl a3), (5, vi a5)] [] := by
  intro n
  induction n with
  | zero => intro a1 a3 a5 M h; exact nomatch (show (none : Res) = some r from h)
  | succ n ih => intro a1 a3 a5 M h; exact z_Mo_pay_208 C hlev ih h
def k_Mo_pay_134 (R42 : Int → Int → Int → Mem → Res) (R134 : Int → Int → Int → Int → Int → Mem → Res) (a1 a2 a3 a6 a8 : Int) (M : Mem) : Res := blet (M 111 5) fun v1 => if w32 a8 < w32 v1 then (chk (0 ≤ w32 a8 ∧ w32 a8 < 20) <| blet (M 161 (ix a8)) fun v4 => chk (0 ≤ w32 a8 ∧ w32 a8 < 20) <| blet (M 160 (ix a8)) fun v6 => chk (0 ≤ w32 a8 ∧ w32 a8 < 20) <| blet (sto M 161 (ix a8) (v4 + (a6 * v6))) fun M8 => chk (0 ≤ w32 a8 ∧ w32 a8 < 20) <| blet (M8 162 (ix a8)) fun v10 => chk (0 ≤ w32 a8 ∧ w32 a8 < 20) <| blet (M8 144 (ix a8)) fun v12 => chk (0 ≤ w32 a8 ∧ w32 a8 < 20) <| blet (M8 160 (ix a8)) fun v14 => chk (0 ≤ w32 a8 ∧ w32 a8 < 20) <| blet (sto M8 162 (ix a8) (v10 + (v12 - (a6 * v14)))) fun M16 => blet (a8 + 1) fun v17 => R134 a1 a2 a3 a6 v17 M16) else (blet (a3 + 1) fun v18 => R42 a1 a2 v18 M)
theorem z_Mo_pay_134 (C : Cx p s m args meth c G b_Mo_pay 9 "PrairiePoolModel" none) (hlev : 8 ≤ lev) {r : Int × Mem} {R42 : Int → Int → Int → Mem → Res} {R134 : Int → Int → Int → Int → Int → Mem → Res} (hR42 : ∀ (a1 a2 a3 : Int) (M : Mem), R42 a1 a2 a3 M = some r → Z p l e lev s m args below meth c G 9 (MQ below (Qm G 0 r) args s 0 0 (Ab G)) M 42 [(0, .ref (G.1 + 111)), (1, vi a1), (2, vi a2), (3, vi a3)] []) (hR134 : ∀ (a1 a2 a3 a6 a8 : Int) (M : Mem), R134 a1 a2 a3 a6 a8 M = some r → Z p l e lev s m args below meth c G 9 (MQ below (Qm G 0 r) args s 0 0 (Ab G)) M 134 [(0, .ref (G.1 + 111)), (1, vi a1), (2, vi a2), (3, vi a3), (6, vl a6), (8, vi a8)] []) {a1 a2 a3 a6 a8 : Int} {M : Mem} (h : k_Mo_pay_134 R42 R134 a1 a2 a3 a6 a8 M = some r) : Z p l e lev s m args below meth c G 9 (MQ below (Qm G 0 r) args s 0 0 (Ab G)) M 134 [(0, .ref (G.1 + 111)), (1, vi a1), (2, vi a2), (3, vi a3), (6, vl a6), (8, vi a8)] [] := by
  unfold k_Mo_pay_134 at h
  refine z_iload C 5 x_Mo_pay_134 rfl ?_
  refine z_aload_n C 0 x_Mo_pay_136 rfl ?_
  obtain ⟨v1, ev1, h⟩ := blet_e h
  refine z_getI (j := 5) C x_Mo_pay_137 nk_111 ck_111 cw_12 (i_lt rfl) rfl rfl fl_Mo_291 ev1 ?_
  rcases ite_e h with ⟨c2, h⟩ | ⟨c2, h⟩
  · refine z_icmp_ge_f (tgt := 197) C x_Mo_pay_140 rfl c2 ?_
    refine z_aload_n C 0 x_Mo_pay_143 rfl ?_
    refine z_getR (j := 74) C x_Mo_pay_144 nk_111 ck_111 cw_12 (i_lt rfl) rfl rf_111_74 rfl fl_Mo_167 ?_
    refine z_iload C 5 x_Mo_pay_147 rfl ?_
    refine z_dup2 C x_Mo_pay_149 rfl rfl ?_
    obtain ⟨c3, h⟩ := chk_e h
    obtain ⟨v4, ev4, h⟩ := blet_e h
    refine z_lald C x_Mo_pay_150 nk_161 ck_161 c3 ev4 ?_
    refine z_lload C 4 x_Mo_pay_151 rfl ?_
    refine z_aload_n C 0 x_Mo_pay_153 rfl ?_
    refine z_getR (j := 73) C x_Mo_pay_154 nk_111 ck_111 cw_12 (i_lt rfl) rfl rf_111_73 rfl fl_Mo_164 ?_
    refine z_iload C 5 x_Mo_pay_157 rfl ?_
    obtain ⟨c5, h⟩ := chk_e h
    obtain ⟨v6, ev6, h⟩ := blet_e h
    refine z_lald C x_Mo_pay_159 nk_160 ck_160 c5 ev6 ?_
    refine z_lmul C x_Mo_pay_160 ?_
    refine z_ladd C x_Mo_pay_161 ?_
    obtain ⟨c7, h⟩ := chk_e h
    obtain ⟨M8, eM8, h⟩ := blet_e h
    refine z_last C x_Mo_pay_162 nk_161 ck_161 c7 eM8 ?_
    refine z_aload_n C 0 x_Mo_pay_163 rfl ?_
    refine z_getR (j := 75) C x_Mo_pay_164 nk_111 ck_111 cw_12 (i_lt rfl) rfl rf_111_75 rfl fl_Mo_170 ?_
    refine z_iload C 5 x_Mo_pay_167 rfl ?_
    refine z_dup2 C x_Mo_pay_169 rfl rfl ?_
    obtain ⟨c9, h⟩ := chk_e h
    obtain ⟨v10, ev10, h⟩ := blet_e h
    refine z_lald C x_Mo_pay_170 nk_162 ck_162 c9 ev10 ?_
    refine z_aload_n C 0 x_Mo_pay_171 rfl ?_
    refine z_getR (j := 41) C x_Mo_pay_172 nk_111 ck_111 cw_12 (i_lt rfl) rfl rf_111_41 rfl fl_Mo_107 ?_
    refine z_iload C 5 x_Mo_pay_175 rfl ?_
    obtain ⟨c11, h⟩ := chk_e h
    obtain ⟨v12, ev12, h⟩ := blet_e h
    refine z_lald C x_Mo_pay_177 nk_144 ck_144 c11 ev12 ?_
    refine z_lload C 4 x_Mo_pay_178 rfl ?_
    refine z_aload_n C 0 x_Mo_pay_180 rfl ?_
    refine z_getR (j := 73) C x_Mo_pay_181 nk_111 ck_111 cw_12 (i_lt rfl) rfl rf_111_73 rfl fl_Mo_164 ?_
    refine z_iload C 5 x_Mo_pay_184 rfl ?_
    obtain ⟨c13, h⟩ := chk_e h
    obtain ⟨v14, ev14, h⟩ := blet_e h
    refine z_lald C x_Mo_pay_186 nk_160 ck_160 c13 ev14 ?_
    refine z_lmul C x_Mo_pay_187 ?_
    refine z_lsub C x_Mo_pay_188 ?_
    refine z_ladd C x_Mo_pay_189 ?_
    obtain ⟨c15, h⟩ := chk_e h
    obtain ⟨M16, eM16, h⟩ := blet_e h
    refine z_last C x_Mo_pay_190 nk_162 ck_162 c15 eM16 ?_
    obtain ⟨v17, ev17, h⟩ := blet_e h
    refine z_iinc (lv' := [(8, vi v17), (0, .ref (G.1 + 111)), (1, vi a1), (2, vi a2), (3, vi a3), (6, vl a6)]) C 5 ev17 x_Mo_pay_191 rfl (i_lt rfl) rfl ?_
    refine z_goto (tgt := 134) C x_Mo_pay_194 rfl ?_
    exact z_sub [1, 2, 3, 4, 5, 0] rfl (hR134 a1 a2 a3 a6 v17 M16 h)
  · refine z_icmp_ge_t (tgt := 197) C x_Mo_pay_140 rfl c2 ?_
    obtain ⟨v18, ev18, h⟩ := blet_e h
    refine z_iinc (lv' := [(3, vi v18), (0, .ref (G.1 + 111)), (1, vi a1), (2, vi a2), (6, vl a6), (8, vi a8)]) C 3 ev18 x_Mo_pay_197 rfl (i_lt rfl) rfl ?_
    refine z_goto (tgt := 42) C x_Mo_pay_200 rfl ?_
    exact z_sub [1, 2, 3, 0] rfl (hR42 a1 a2 v18 M h)
theorem zl_Mo_pay_134 (C : Cx p s m args meth c G b_Mo_pay 9 "PrairiePoolModel" none) (hlev : 8 ≤ lev) {r : Int × Mem} {R42 : Int → Int → Int → Mem → Res} (hR42 : ∀ (a1 a2 a3 : Int) (M : Mem), R42 a1 a2 a3 M = some r → Z p l e lev s m args below meth c G 9 (MQ below (Qm G 0 r) args s 0 0 (Ab G)) M 42 [(0, .ref (G.1 + 111)), (1, vi a1), (2, vi a2), (3, vi a3)] []) : ∀ (n : Nat) (a1 a2 a3 a6 a8 : Int) (M : Mem), fix (fun _ _ _ _ _ _ => none) (k_Mo_pay_134 R42) n a1 a2 a3 a6 a8 M = some r → Z p l e lev s m args below meth c G 9 (MQ below (Qm G 0 r) args s 0 0 (Ab G)) M 134 [(0, .ref (G.1 + 111)), (1, vi a1), (2, vi a2), (3, vi a3), (6, vl a6), (8, vi a8)] [] := by
  intro n
  induction n with
  | zero => intro a1 a2 a3 a6 a8 M h; exact nomatch (show (none : Res) = some r from h)
  | succ n ih => intro a1 a2 a3 a6 a8 M h; exact z_Mo_pay_134 C hlev hR42 ih h
def k_Mo_pay_98 (R42 : Int → Int → Int → Mem → Res) (R98 : Int → Int → Int → Int → Int → Int → Mem → Res) (a1 a2 a3 a4 a6 a8 : Int) (M : Mem) : Res := if w32 a8 < 20 then (chk (0 ≤ w32 a8 ∧ w32 a8 < 20) <| blet (M 160 (ix a8)) fun v3 => chk (0 ≤ w32 a8 ∧ w32 a8 < 20) <| blet (sto M 143 (ix a8) v3) fun M5 => blet (a8 + 1) fun v6 => R98 a1 a2 a3 a4 a6 v6 M5) else (bcall (d_Mo_parts a4 M) fun v7 M8 => fix (fun _ _ _ _ _ _ => none) (k_Mo_pay_134 R42) FU a1 a2 a3 a6 0 M8)
theorem z_Mo_pay_98 (C : Cx p s m args meth c G b_Mo_pay 9 "PrairiePoolModel" none) (hlev : 8 ≤ lev) {r : Int × Mem} {R42 : Int → Int → Int → Mem → Res} {R98 : Int → Int → Int → Int → Int → Int → Mem → Res} (hR42 : ∀ (a1 a2 a3 : Int) (M : Mem), R42 a1 a2 a3 M = some r → Z p l e lev s m args below meth c G 9 (MQ below (Qm G 0 r) args s 0 0 (Ab G)) M 42 [(0, .ref (G.1 + 111)), (1, vi a1), (2, vi a2), (3, vi a3)] []) (hR98 : ∀ (a1 a2 a3 a4 a6 a8 : Int) (M : Mem), R98 a1 a2 a3 a4 a6 a8 M = some r → Z p l e lev s m args below meth c G 9 (MQ below (Qm G 0 r) args s 0 0 (Ab G)) M 98 [(0, .ref (G.1 + 111)), (1, vi a1), (2, vi a2), (3, vi a3), (4, vl a4), (6, vl a6), (8, vi a8)] []) {a1 a2 a3 a4 a6 a8 : Int} {M : Mem} (h : k_Mo_pay_98 R42 R98 a1 a2 a3 a4 a6 a8 M = some r) : Z p l e lev s m args below meth c G 9 (MQ below (Qm G 0 r) args s 0 0 (Ab G)) M 98 [(0, .ref (G.1 + 111)), (1, vi a1), (2, vi a2), (3, vi a3), (4, vl a4), (6, vl a6), (8, vi a8)] [] := by
  unfold k_Mo_pay_98 at h
  refine z_iload C 6 x_Mo_pay_98 rfl ?_
  refine z_bipush C rfl x_Mo_pay_100 ?_
  rcases ite_e h with ⟨c1, h⟩ | ⟨c1, h⟩
  · refine z_icmp_ge_f (tgt := 125) C x_Mo_pay_102 rfl c1 ?_
    refine z_aload_n C 0 x_Mo_pay_105 rfl ?_
    refine z_getR (j := 40) C x_Mo_pay_106 nk_111 ck_111 cw_12 (i_lt rfl) rfl rf_111_40 rfl fl_Mo_104 ?_
    refine z_iload C 6 x_Mo_pay_109 rfl ?_
    refine z_aload_n C 0 x_Mo_pay_111 rfl ?_
    refine z_getR (j := 73) C x_Mo_pay_112 nk_111 ck_111 cw_12 (i_lt rfl) rfl rf_111_73 rfl fl_Mo_164 ?_
    refine z_iload C 6 x_Mo_pay_115 rfl ?_
    obtain ⟨c2, h⟩ := chk_e h
    obtain ⟨v3, ev3, h⟩ := blet_e h
    refine z_lald C x_Mo_pay_117 nk_160 ck_160 c2 ev3 ?_
    obtain ⟨c4, h⟩ := chk_e h
    obtain ⟨M5, eM5, h⟩ := blet_e h
    refine z_last C x_Mo_pay_118 nk_143 ck_143 c4 eM5 ?_
    obtain ⟨v6, ev6, h⟩ := blet_e h
    refine z_iinc (lv' := [(8, vi v6), (0, .ref (G.1 + 111)), (1, vi a1), (2, vi a2), (3, vi a3), (4, vl a4), (6, vl a6)]) C 6 ev6 x_Mo_pay_119 rfl (i_lt rfl) rfl ?_
    refine z_goto (tgt := 98) C x_Mo_pay_122 rfl ?_
    exact z_sub [1, 2, 3, 4, 5, 6, 0] rfl (hR98 a1 a2 a3 a4 a6 v6 M5 h)
  · refine z_icmp_ge_t (tgt := 125) C x_Mo_pay_102 rfl c1 ?_
    refine z_aload_n C 0 x_Mo_pay_125 rfl ?_
    refine z_lload C 4 x_Mo_pay_126 rfl ?_
    obtain ⟨v7, M8, fv7, h⟩ := bcall_e h
    refine z_callVv (k := 111) C x_Mo_pay_128 cv_Mo_374 (t_Mo_parts (lev := lev - 1) l G (by omega) fv7) nk_111 ck_111 rfl (by omega) rfl (i_le rfl) rfl ?_
    refine z_iconst C x_Mo_pay_131 ?_
    refine z_istore (lv' := [(8, vi 0), (0, .ref (G.1 + 111)), (1, vi a1), (2, vi a2), (3, vi a3), (4, vl a4), (6, vl a6)]) C rfl x_Mo_pay_132 (i_lt rfl) rfl ?_
    exact z_sub [1, 2, 3, 4, 6, 0] rfl (zl_Mo_pay_134 C hlev hR42 FU a1 a2 a3 a6 0 M8 h)
theorem zl_Mo_pay_98 (C : Cx p s m args meth c G b_Mo_pay 9 "PrairiePoolModel" none) (hlev : 8 ≤ lev) {r : Int × Mem} {R42 : Int → Int → Int → Mem → Res} (hR42 : ∀ (a1 a2 a3 : Int) (M : Mem), R42 a1 a2 a3 M = some r → Z p l e lev s m args below meth c G 9 (MQ below (Qm G 0 r) args s 0 0 (Ab G)) M 42 [(0, .ref (G.1 + 111)), (1, vi a1), (2, vi a2), (3, vi a3)] []) : ∀ (n : Nat) (a1 a2 a3 a4 a6 a8 : Int) (M : Mem), fix (fun _ _ _ _ _ _ _ => none) (k_Mo_pay_98 R42) n a1 a2 a3 a4 a6 a8 M = some r → Z p l e lev s m args below meth c G 9 (MQ below (Qm G 0 r) args s 0 0 (Ab G)) M 98 [(0, .ref (G.1 + 111)), (1, vi a1), (2, vi a2), (3, vi a3), (4, vl a4), (6, vl a6), (8, vi a8)] [] := by
  intro n
  induction n with
  | zero => intro a1 a2 a3 a4 a6 a8 M h; exact nomatch (show (none : Res) = some r from h)
  | succ n ih => intro a1 a2 a3 a4 a6 a8 M h; exact z_Mo_pay_98 C hlev hR42 ih h
def k_Mo_pay_42 (R42 : Int → Int → Int → Mem → Res) (a1 a2 a3 : Int) (M : Mem) : Res := if w32 a3 < 6 then (bcall (d_Mo_came a1 a3 a2 M) fun v2 M3 => bcall (d_Mo_kept a1 a3 a2 M3) fun v4 M5 => blet (v2 - v4) fun v6 => bcall (d_Mo_spelled 102 105 114 115 116 0 M5) fun v7 M8 => bcall (d_Mo_ofYear v7 a1 a3 M8) fun v9 M10 => bcall (d_Mo_bring a1 a3 a2 M10) fun v11 M12 => fix (fun _ _ _ _ _ _ _ => none) (k_Mo_pay_98 R42) FU a1 a2 a3 v6 v9 0 M12) else (fix (fun _ _ _ _ => none) (k_Mo_pay_208) FU a1 0 0 M)
theorem z_Mo_pay_42 (C : Cx p s m args meth c G b_Mo_pay 9 "PrairiePoolModel" none) (hlev : 8 ≤ lev) {r : Int × Mem} {R42 : Int → Int → Int → Mem → Res} (hR42 : ∀ (a1 a2 a3 : Int) (M : Mem), R42 a1 a2 a3 M = some r → Z p l e lev s m args below meth c G 9 (MQ below (Qm G 0 r) args s 0 0 (Ab G)) M 42 [(0, .ref (G.1 + 111)), (1, vi a1), (2, vi a2), (3, vi a3)] []) {a1 a2 a3 : Int} {M : Mem} (h : k_Mo_pay_42 R42 a1 a2 a3 M = some r) : Z p l e lev s m args below meth c G 9 (MQ below (Qm G 0 r) args s 0 0 (Ab G)) M 42 [(0, .ref (G.1 + 111)), (1, vi a1), (2, vi a2), (3, vi a3)] [] := by
  unfold k_Mo_pay_42 at h
  refine z_iload_n C 3 x_Mo_pay_42 rfl ?_
  refine z_bipush C rfl x_Mo_pay_43 ?_
  rcases ite_e h with ⟨c1, h⟩ | ⟨c1, h⟩
  · refine z_icmp_ge_f (tgt := 203) C x_Mo_pay_45 rfl c1 ?_
    refine z_aload_n C 0 x_Mo_pay_48 rfl ?_
    refine z_iload_n C 1 x_Mo_pay_49 rfl ?_
    refine z_iload_n C 3 x_Mo_pay_50 rfl ?_
    refine z_iload_n C 2 x_Mo_pay_51 rfl ?_
    obtain ⟨v2, M3, fv2, h⟩ := bcall_e h
    refine z_callVl (k := 111) C x_Mo_pay_52 cv_Mo_596 (t_Mo_came (lev := lev - 1) l G (by omega) fv2) nk_111 ck_111 rfl (by omega) rfl (i_le rfl) rfl ?_
    refine z_aload_n C 0 x_Mo_pay_55 rfl ?_
    refine z_iload_n C 1 x_Mo_pay_56 rfl ?_
    refine z_iload_n C 3 x_Mo_pay_57 rfl ?_
    refine z_iload_n C 2 x_Mo_pay_58 rfl ?_
    obtain ⟨v4, M5, fv4, h⟩ := bcall_e h
    refine z_callVl (k := 111) C x_Mo_pay_59 cv_Mo_606 (t_Mo_kept (lev := lev - 1) l G (by omega) fv4) nk_111 ck_111 rfl (by omega) rfl (i_le rfl) rfl ?_
    refine z_lsub C x_Mo_pay_62 ?_
    obtain ⟨v6, ev6, h⟩ := blet_e h
    refine z_lstore (lv' := [(4, vl v6), (0, .ref (G.1 + 111)), (1, vi a1), (2, vi a2), (3, vi a3)]) C ev6 x_Mo_pay_63 (i_lt rfl) rfl ?_
    refine z_aload_n C 1 x_Mo_pay_65 rfl ?_
    refine z_bipush C rfl x_Mo_pay_66 ?_
    refine z_bipush C rfl x_Mo_pay_68 ?_
    refine z_bipush C rfl x_Mo_pay_70 ?_
    refine z_bipush C rfl x_Mo_pay_72 ?_
    refine z_bipush C rfl x_Mo_pay_74 ?_
    refine z_iconst C x_Mo_pay_76 ?_
    obtain ⟨v7, M8, fv7, h⟩ := bcall_e h
    refine z_callSl C x_Mo_pay_77 cs_Mo_350 (t_Mo_spelled (lev := lev - 1) l G (by omega) fv7) (by omega) rfl (i_le rfl) rfl ?_
    refine z_iload_n C 2 x_Mo_pay_80 rfl ?_
    refine z_iload_n C 4 x_Mo_pay_81 rfl ?_
    obtain ⟨v9, M10, fv9, h⟩ := bcall_e h
    refine z_callVl (k := 111) C x_Mo_pay_82 cv_Mo_600 (t_Mo_ofYear (lev := lev - 1) l G (by omega) fv9) nk_111 ck_111 rfl (by omega) rfl (i_le rfl) rfl ?_
    refine z_lstore (lv' := [(6, vl v9), (4, vl v6), (0, .ref (G.1 + 111)), (1, vi a1), (2, vi a2), (3, vi a3)]) C rfl x_Mo_pay_85 (i_lt rfl) rfl ?_
    refine z_aload_n C 2 x_Mo_pay_87 rfl ?_
    refine z_iload_n C 3 x_Mo_pay_88 rfl ?_
    refine z_iload_n C 5 x_Mo_pay_89 rfl ?_
    refine z_iload_n C 4 x_Mo_pay_90 rfl ?_
    obtain ⟨v11, M12, fv11, h⟩ := bcall_e h
    refine z_callVl (k := 111) C x_Mo_pay_91 cv_Mo_609 (t_Mo_bring (lev := lev - 1) l G (by omega) fv11) nk_111 ck_111 rfl (by omega) rfl (i_le rfl) rfl ?_
    refine z_pop2 C x_Mo_pay_94 ?_
    refine z_iconst C x_Mo_pay_95 ?_
    refine z_istore (lv' := [(8, vi 0), (6, vl v9), (4, vl v6), (0, .ref (G.1 + 111)), (1, vi a1), (2, vi a2), (3, vi a3)]) C rfl x_Mo_pay_96 (i_lt rfl) rfl ?_
    exact z_sub [3, 4, 5, 6, 2, 1, 0] rfl (zl_Mo_pay_98 C hlev hR42 FU a1 a2 a3 v6 v9 0 M12 h)
  · refine z_icmp_ge_t (tgt := 203) C x_Mo_pay_45 rfl c1 ?_
    refine z_lconst0 C x_Mo_pay_203 ?_
    refine z_lstore_n (lv' := [(3, vl 0), (0, .ref (G.1 + 111)), (1, vi a1), (2, vi a2)]) C rfl x_Mo_pay_204 (i_lt rfl) rfl ?_
    refine z_iconst C x_Mo_pay_205 ?_
    refine z_istore (lv' := [(5, vi 0), (3, vl 0), (0, .ref (G.1 + 111)), (1, vi a1), (2, vi a2)]) C rfl x_Mo_pay_206 (i_lt rfl) rfl ?_
    exact z_sub [2, 3, 1, 0] rfl (zl_Mo_pay_208 C hlev FU a1 0 0 M h)
theorem zl_Mo_pay_42 (C : Cx p s m args meth c G b_Mo_pay 9 "PrairiePoolModel" none) (hlev : 8 ≤ lev) {r : Int × Mem}  : ∀ (n : Nat) (a1 a2 a3 : Int) (M : Mem), fix (fun _ _ _ _ => none) (k_Mo_pay_42) n a1 a2 a3 M = some r → Z p l e lev s m args below meth c G 9 (MQ below (Qm G 0 r) args s 0 0 (Ab G)) M 42 [(0, .ref (G.1 + 111)), (1, vi a1), (2, vi a2), (3, vi a3)] [] := by
  intro n
  induction n with
  | zero => intro a1 a2 a3 M h; exact nomatch (show (none : Res) = some r from h)
  | succ n ih => intro a1 a2 a3 M h; exact z_Mo_pay_42 C hlev ih h
def k_Mo_pay_7 (R7 : Int → Int → Int → Mem → Res) (a1 a2 a3 : Int) (M : Mem) : Res := if w32 a3 < 20 then (chk (0 ≤ w32 a3 ∧ w32 a3 < 20) <| blet (sto M 161 (ix a3) 0) fun M3 => chk (0 ≤ w32 a3 ∧ w32 a3 < 20) <| blet (sto M3 162 (ix a3) 0) fun M5 => chk (0 ≤ w32 a3 ∧ w32 a3 < 20) <| blet (sto M5 163 (ix a3) 0) fun M7 => blet (a3 + 1) fun v8 => R7 a1 a2 v8 M7) else (fix (fun _ _ _ _ => none) (k_Mo_pay_42) FU a1 a2 0 M)
theorem z_Mo_pay_7 (C : Cx p s m args meth c G b_Mo_pay 9 "PrairiePoolModel" none) (hlev : 8 ≤ lev) {r : Int × Mem} {R7 : Int → Int → Int → Mem → Res} (hR7 : ∀ (a1 a2 a3 : Int) (M : Mem), R7 a1 a2 a3 M = some r → Z p l e lev s m args below meth c G 9 (MQ below (Qm G 0 r) args s 0 0 (Ab G)) M 7 [(0, .ref (G.1 + 111)), (1, vi a1), (2, vi a2), (3, vi a3)] []) {a1 a2 a3 : Int} {M : Mem} (h : k_Mo_pay_7 R7 a1 a2 a3 M = some r) : Z p l e lev s m args below meth c G 9 (MQ below (Qm G 0 r) args s 0 0 (Ab G)) M 7 [(0, .ref (G.1 + 111)), (1, vi a1), (2, vi a2), (3, vi a3)] [] := by
  unfold k_Mo_pay_7 at h
  refine z_iload_n C 3 x_Mo_pay_7 rfl ?_
  refine z_bipush C rfl x_Mo_pay_8 ?_
  rcases ite_e h with ⟨c1, h⟩ | ⟨c1, h⟩
  · refine z_icmp_ge_f (tgt := 40) C x_Mo_pay_10 rfl c1 ?_
    refine z_aload_n C 0 x_Mo_pay_13 rfl ?_
    refine z_getR (j := 74) C x_Mo_pay_14 nk_111 ck_111 cw_12 (i_lt rfl) rfl rf_111_74 rfl fl_Mo_167 ?_
    refine z_iload_n C 3 x_Mo_pay_17 rfl ?_
    refine z_lconst0 C x_Mo_pay_18 ?_
    obtain ⟨c2, h⟩ := chk_e h
    obtain ⟨M3, eM3, h⟩ := blet_e h
    refine z_last C x_Mo_pay_19 nk_161 ck_161 c2 eM3 ?_
    refine z_aload_n C 0 x_Mo_pay_20 rfl ?_
    refine z_getR (j := 75) C x_Mo_pay_21 nk_111 ck_111 cw_12 (i_lt rfl) rfl rf_111_75 rfl fl_Mo_170 ?_
    refine z_iload_n C 3 x_Mo_pay_24 rfl ?_
    refine z_lconst0 C x_Mo_pay_25 ?_
    obtain ⟨c4, h⟩ := chk_e h
    obtain ⟨M5, eM5, h⟩ := blet_e h
    refine z_last C x_Mo_pay_26 nk_162 ck_162 c4 eM5 ?_
    refine z_aload_n C 0 x_Mo_pay_27 rfl ?_
    refine z_getR (j := 76) C x_Mo_pay_28 nk_111 ck_111 cw_12 (i_lt rfl) rfl rf_111_76 rfl fl_Mo_173 ?_
    refine z_iload_n C 3 x_Mo_pay_31 rfl ?_
    refine z_lconst0 C x_Mo_pay_32 ?_
    obtain ⟨c6, h⟩ := chk_e h
    obtain ⟨M7, eM7, h⟩ := blet_e h
    refine z_last C x_Mo_pay_33 nk_163 ck_163 c6 eM7 ?_
    obtain ⟨v8, ev8, h⟩ := blet_e h
    refine z_iinc (lv' := [(3, vi v8), (0, .ref (G.1 + 111)), (1, vi a1), (2, vi a2)]) C 3 ev8 x_Mo_pay_34 rfl (i_lt rfl) rfl ?_
    refine z_goto (tgt := 7) C x_Mo_pay_37 rfl ?_
    exact z_sub [1, 2, 3, 0] rfl (hR7 a1 a2 v8 M7 h)
  · refine z_icmp_ge_t (tgt := 40) C x_Mo_pay_10 rfl c1 ?_
    refine z_iconst C x_Mo_pay_40 ?_
    refine z_istore_n (lv' := [(3, vi 0), (0, .ref (G.1 + 111)), (1, vi a1), (2, vi a2)]) C rfl x_Mo_pay_41 (i_lt rfl) rfl ?_
    exact z_sub [1, 2, 3, 0] rfl (zl_Mo_pay_42 C hlev FU a1 a2 0 M h)
theorem zl_Mo_pay_7 (C : Cx p s m args meth c G b_Mo_pay 9 "PrairiePoolModel" none) (hlev : 8 ≤ lev) {r : Int × Mem}  : ∀ (n : Nat) (a1 a2 a3 : Int) (M : Mem), fix (fun _ _ _ _ => none) (k_Mo_pay_7) n a1 a2 a3 M = some r → Z p l e lev s m args below meth c G 9 (MQ below (Qm G 0 r) args s 0 0 (Ab G)) M 7 [(0, .ref (G.1 + 111)), (1, vi a1), (2, vi a2), (3, vi a3)] [] := by
  intro n
  induction n with
  | zero => intro a1 a2 a3 M h; exact nomatch (show (none : Res) = some r from h)
  | succ n ih => intro a1 a2 a3 M h; exact z_Mo_pay_7 C hlev ih h
def d_Mo_pay (a1 a2 : Int) (M : Mem) : Res := bcall (d_Mo_play a2 M) fun v1 M2 => fix (fun _ _ _ _ => none) (k_Mo_pay_7) FU a1 a2 0 M2
theorem t_Mo_pay (l : Launch) (G : GX) {lev : Nat} (hlev : 8 ≤ lev) {a1 a2 : Int} {M : Mem} {r : Int × Mem} (h : d_Mo_pay a1 a2 M = some r) : Mt l G y_Mo_pay b_Mo_pay 9 none lev 0 [.ref (G.1 + 111), vi a1, vi a2] M r := by
  refine Mt.of (by decide) (i_le rfl) ?_
  intro p e s m args below meth c C
  have C : Cx p s m args meth c G b_Mo_pay 9 "PrairiePoolModel" none := C
  unfold d_Mo_pay at h
  refine z_sub (lv' := [(0, .ref (G.1 + 111)), (1, vi a1), (2, vi a2)]) [0, 1, 2] rfl ?_
  refine z_aload_n C 0 x_Mo_pay_0 rfl ?_
  refine z_iload_n C 2 x_Mo_pay_1 rfl ?_
  obtain ⟨v1, M2, fv1, h⟩ := bcall_e h
  refine z_callVv (k := 111) C x_Mo_pay_2 cv_Mo_403 (t_Mo_play (lev := lev - 1) l G (by omega) fv1) nk_111 ck_111 rfl (by omega) rfl (i_le rfl) rfl ?_
  refine z_iconst C x_Mo_pay_5 ?_
  refine z_istore_n (lv' := [(3, vi 0), (0, .ref (G.1 + 111)), (1, vi a1), (2, vi a2)]) C rfl x_Mo_pay_6 (i_lt rfl) rfl ?_
  exact z_sub [1, 2, 3, 0] rfl (zl_Mo_pay_7 C hlev FU a1 a2 0 M2 h)
theorem x_Mo_last_0 : DC b_Mo_last 0 (.aload_n 0) 1 1 := ⟨by decide +kernel, rfl⟩
theorem x_Mo_last_1 : DC b_Mo_last 1 (.iconst 0) 1 2 := ⟨by decide +kernel, rfl⟩
theorem x_Mo_last_2 : DC b_Mo_last 2 (.putfield 257) 3 5 := ⟨by decide +kernel, rfl⟩
theorem x_Mo_last_5 : DC b_Mo_last 5 (.aload_n 0) 1 6 := ⟨by decide +kernel, rfl⟩
theorem x_Mo_last_6 : DC b_Mo_last 6 (.aload_n 0) 1 7 := ⟨by decide +kernel, rfl⟩
theorem x_Mo_last_7 : DC b_Mo_last 7 (.iload_n 1) 1 8 := ⟨by decide +kernel, rfl⟩
theorem x_Mo_last_8 : DC b_Mo_last 8 (.iload_n 2) 1 9 := ⟨by decide +kernel, rfl⟩
theorem x_Mo_last_9 : DC b_Mo_last 9 (.iload_n 3) 1 10 := ⟨by decide +kernel, rfl⟩
theorem x_Mo_last_10 : DC b_Mo_last 10 (.invokevirtual 618) 3 13 := ⟨by decide +kernel, rfl⟩
theorem x_Mo_last_13 : DC b_Mo_last 13 (.putfield 260) 3 16 := ⟨by decide +kernel, rfl⟩
theorem x_Mo_last_16 : DC b_Mo_last 16 (.aload_n 0) 1 17 := ⟨by decide +kernel, rfl⟩
theorem x_Mo_last_17 : DC b_Mo_last 17 (.getfield 260) 3 20 := ⟨by decide +kernel, rfl⟩
theorem x_Mo_last_20 : DC b_Mo_last 20 (.ifCond .le 7) 3 23 := ⟨by decide +kernel, rfl⟩
theorem x_Mo_last_23 : DC b_Mo_last 23 (.ldc2_w 289) 3 26 := ⟨by decide +kernel, rfl⟩
theorem x_Mo_last_26 : DC b_Mo_last 26 (.lreturn) 1 27 := ⟨by decide +kernel, rfl⟩
theorem x_Mo_last_27 : DC b_Mo_last 27 (.aload_n 0) 1 28 := ⟨by decide +kernel, rfl⟩
theorem x_Mo_last_28 : DC b_Mo_last 28 (.iload_n 2) 1 29 := ⟨by decide +kernel, rfl⟩
theorem x_Mo_last_29 : DC b_Mo_last 29 (.iload_n 3) 1 30 := ⟨by decide +kernel, rfl⟩
theorem x_Mo_last_30 : DC b_Mo_last 30 (.invokevirtual 621) 3 33 := ⟨by decide +kernel, rfl⟩
theorem x_Mo_last_33 : DC b_Mo_last 33 (.aload_n 0) 1 34 := ⟨by decide +kernel, rfl⟩
theorem x_Mo_last_34 : DC b_Mo_last 34 (.getfield 170) 3 37 := ⟨by decide +kernel, rfl⟩
theorem x_Mo_last_37 : DC b_Mo_last 37 (.iload_n 1) 1 38 := ⟨by decide +kernel, rfl⟩
theorem x_Mo_last_38 : DC b_Mo_last 38 (.laload) 1 39 := ⟨by decide +kernel, rfl⟩
theorem x_Mo_last_39 : DC b_Mo_last 39 (.lreturn) 1 40 := ⟨by decide +kernel, rfl⟩
def d_Mo_last (a1 a2 a3 : Int) (M : Mem) : Res := blet (sto M 111 1 0) fun M1 => bcall (d_Mo_asksFarm a1 a2 a3 M1) fun v2 M3 => blet (sto M3 111 0 v2) fun M4 => blet (M4 111 0) fun v5 => if 0 < w32 v5 then (some ((-1), M4)) else (bcall (d_Mo_pay a2 a3 M4) fun v7 M8 => chk (0 ≤ w32 a1 ∧ w32 a1 < 20) <| blet (M8 162 (ix a1)) fun v10 => some (v10, M8))
theorem t_Mo_last (l : Launch) (G : GX) {lev : Nat} (hlev : 9 ≤ lev) {a1 a2 a3 : Int} {M : Mem} {r : Int × Mem} (h : d_Mo_last a1 a2 a3 M = some r) : Mt l G y_Mo_last b_Mo_last 4 (some .long) lev 2 [.ref (G.1 + 111), vi a1, vi a2, vi a3] M r := by
  refine Mt.of (by decide) (i_le rfl) ?_
  intro p e s m args below meth c C
  have C : Cx p s m args meth c G b_Mo_last 4 "PrairiePoolModel" (some .long) := C
  unfold d_Mo_last at h
  refine z_sub (lv' := [(0, .ref (G.1 + 111)), (1, vi a1), (2, vi a2), (3, vi a3)]) [0, 1, 2, 3] rfl ?_
  refine z_aload_n C 0 x_Mo_last_0 rfl ?_
  refine z_iconst C x_Mo_last_1 ?_
  obtain ⟨M1, eM1, h⟩ := blet_e h
  refine z_putI (j := 1) C x_Mo_last_2 nk_111 ck_111 cw_12 (i_lt rfl) rfl rfl rfl rfl fl_Mo_257 eM1 ?_
  refine z_aload_n C 0 x_Mo_last_5 rfl ?_
  refine z_aload_n C 0 x_Mo_last_6 rfl ?_
  refine z_iload_n C 1 x_Mo_last_7 rfl ?_
  refine z_iload_n C 2 x_Mo_last_8 rfl ?_
  refine z_iload_n C 3 x_Mo_last_9 rfl ?_
  obtain ⟨v2, M3, fv2, h⟩ := bcall_e h
  refine z_callVi (k := 111) C x_Mo_last_10 cv_Mo_618 (t_Mo_asksFarm (lev := lev - 1) l G (by omega) fv2) nk_111 ck_111 rfl (by omega) rfl (i_le rfl) rfl ?_
  obtain ⟨M4, eM4, h⟩ := blet_e h
  refine z_putI (j := 0) C x_Mo_last_13 nk_111 ck_111 cw_12 (i_lt rfl) rfl rfl rfl rfl fl_Mo_260 eM4 ?_
  refine z_aload_n C 0 x_Mo_last_16 rfl ?_
  obtain ⟨v5, ev5, h⟩ := blet_e h
  refine z_getI (j := 0) C x_Mo_last_17 nk_111 ck_111 cw_12 (i_lt rfl) rfl rfl fl_Mo_260 ev5 ?_
  rcases ite_e h with ⟨c6, h⟩ | ⟨c6, h⟩
  · refine z_if_le_f (tgt := 27) C x_Mo_last_20 rfl c6 ?_
    refine z_ldc2 C kl_Mo_289 x_Mo_last_23 ?_
    exact z_lret C x_Mo_last_26 h
  · refine z_if_le_t (tgt := 27) C x_Mo_last_20 rfl c6 ?_
    refine z_aload_n C 0 x_Mo_last_27 rfl ?_
    refine z_iload_n C 2 x_Mo_last_28 rfl ?_
    refine z_iload_n C 3 x_Mo_last_29 rfl ?_
    obtain ⟨v7, M8, fv7, h⟩ := bcall_e h
    refine z_callVv (k := 111) C x_Mo_last_30 cv_Mo_621 (t_Mo_pay (lev := lev - 1) l G (by omega) fv7) nk_111 ck_111 rfl (by omega) rfl (i_le rfl) rfl ?_
    refine z_aload_n C 0 x_Mo_last_33 rfl ?_
    refine z_getR (j := 75) C x_Mo_last_34 nk_111 ck_111 cw_12 (i_lt rfl) rfl rf_111_75 rfl fl_Mo_170 ?_
    refine z_iload_n C 1 x_Mo_last_37 rfl ?_
    obtain ⟨c9, h⟩ := chk_e h
    obtain ⟨v10, ev10, h⟩ := blet_e h
    refine z_lald C x_Mo_last_38 nk_162 ck_162 c9 ev10 ?_
    exact z_lret C x_Mo_last_39 h
theorem x_Mo_first_0 : DC b_Mo_first 0 (.aload_n 0) 1 1 := ⟨by decide +kernel, rfl⟩
theorem x_Mo_first_1 : DC b_Mo_first 1 (.iconst 0) 1 2 := ⟨by decide +kernel, rfl⟩
theorem x_Mo_first_2 : DC b_Mo_first 2 (.putfield 257) 3 5 := ⟨by decide +kernel, rfl⟩
theorem x_Mo_first_5 : DC b_Mo_first 5 (.aload_n 0) 1 6 := ⟨by decide +kernel, rfl⟩
theorem x_Mo_first_6 : DC b_Mo_first 6 (.aload_n 0) 1 7 := ⟨by decide +kernel, rfl⟩
theorem x_Mo_first_7 : DC b_Mo_first 7 (.iload_n 1) 1 8 := ⟨by decide +kernel, rfl⟩
theorem x_Mo_first_8 : DC b_Mo_first 8 (.iload_n 2) 1 9 := ⟨by decide +kernel, rfl⟩
theorem x_Mo_first_9 : DC b_Mo_first 9 (.iload_n 3) 1 10 := ⟨by decide +kernel, rfl⟩
theorem x_Mo_first_10 : DC b_Mo_first 10 (.invokevirtual 618) 3 13 := ⟨by decide +kernel, rfl⟩
theorem x_Mo_first_13 : DC b_Mo_first 13 (.putfield 260) 3 16 := ⟨by decide +kernel, rfl⟩
theorem x_Mo_first_16 : DC b_Mo_first 16 (.aload_n 0) 1 17 := ⟨by decide +kernel, rfl⟩
theorem x_Mo_first_17 : DC b_Mo_first 17 (.getfield 260) 3 20 := ⟨by decide +kernel, rfl⟩
theorem x_Mo_first_20 : DC b_Mo_first 20 (.ifCond .le 7) 3 23 := ⟨by decide +kernel, rfl⟩
theorem x_Mo_first_23 : DC b_Mo_first 23 (.ldc2_w 289) 3 26 := ⟨by decide +kernel, rfl⟩
theorem x_Mo_first_26 : DC b_Mo_first 26 (.lreturn) 1 27 := ⟨by decide +kernel, rfl⟩
theorem x_Mo_first_27 : DC b_Mo_first 27 (.aload_n 0) 1 28 := ⟨by decide +kernel, rfl⟩
theorem x_Mo_first_28 : DC b_Mo_first 28 (.iload_n 2) 1 29 := ⟨by decide +kernel, rfl⟩
theorem x_Mo_first_29 : DC b_Mo_first 29 (.iload_n 3) 1 30 := ⟨by decide +kernel, rfl⟩
theorem x_Mo_first_30 : DC b_Mo_first 30 (.invokevirtual 621) 3 33 := ⟨by decide +kernel, rfl⟩
theorem x_Mo_first_33 : DC b_Mo_first 33 (.aload_n 0) 1 34 := ⟨by decide +kernel, rfl⟩
theorem x_Mo_first_34 : DC b_Mo_first 34 (.getfield 167) 3 37 := ⟨by decide +kernel, rfl⟩
theorem x_Mo_first_37 : DC b_Mo_first 37 (.iload_n 1) 1 38 := ⟨by decide +kernel, rfl⟩
theorem x_Mo_first_38 : DC b_Mo_first 38 (.laload) 1 39 := ⟨by decide +kernel, rfl⟩
theorem x_Mo_first_39 : DC b_Mo_first 39 (.lreturn) 1 40 := ⟨by decide +kernel, rfl⟩
def d_Mo_first (a1 a2 a3 : Int) (M : Mem) : Res := blet (sto M 111 1 0) fun M1 => bcall (d_Mo_asksFarm a1 a2 a3 M1) fun v2 M3 => blet (sto M3 111 0 v2) fun M4 => blet (M4 111 0) fun v5 => if 0 < w32 v5 then (some ((-1), M4)) else (bcall (d_Mo_pay a2 a3 M4) fun v7 M8 => chk (0 ≤ w32 a1 ∧ w32 a1 < 20) <| blet (M8 161 (ix a1)) fun v10 => some (v10, M8))
theorem t_Mo_first (l : Launch) (G : GX) {lev : Nat} (hlev : 9 ≤ lev) {a1 a2 a3 : Int} {M : Mem} {r : Int × Mem} (h : d_Mo_first a1 a2 a3 M = some r) : Mt l G y_Mo_first b_Mo_first 4 (some .long) lev 2 [.ref (G.1 + 111), vi a1, vi a2, vi a3] M r := by
  refine Mt.of (by decide) (i_le rfl) ?_
  intro p e s m args below meth c C
  have C : Cx p s m args meth c G b_Mo_first 4 "PrairiePoolModel" (some .long) := C
  unfold d_Mo_first at h
  refine z_sub (lv' := [(0, .ref (G.1 + 111)), (1, vi a1), (2, vi a2), (3, vi a3)]) [0, 1, 2, 3] rfl ?_
  refine z_aload_n C 0 x_Mo_first_0 rfl ?_
  refine z_iconst C x_Mo_first_1 ?_
  obtain ⟨M1, eM1, h⟩ := blet_e h
  refine z_putI (j := 1) C x_Mo_first_2 nk_111 ck_111 cw_12 (i_lt rfl) rfl rfl rfl rfl fl_Mo_257 eM1 ?_
  refine z_aload_n C 0 x_Mo_first_5 rfl ?_
  refine z_aload_n C 0 x_Mo_first_6 rfl ?_
  refine z_iload_n C 1 x_Mo_first_7 rfl ?_
  refine z_iload_n C 2 x_Mo_first_8 rfl ?_
  refine z_iload_n C 3 x_Mo_first_9 rfl ?_
  obtain ⟨v2, M3, fv2, h⟩ := bcall_e h
  refine z_callVi (k := 111) C x_Mo_first_10 cv_Mo_618 (t_Mo_asksFarm (lev := lev - 1) l G (by omega) fv2) nk_111 ck_111 rfl (by omega) rfl (i_le rfl) rfl ?_
  obtain ⟨M4, eM4, h⟩ := blet_e h
  refine z_putI (j := 0) C x_Mo_first_13 nk_111 ck_111 cw_12 (i_lt rfl) rfl rfl rfl rfl fl_Mo_260 eM4 ?_
  refine z_aload_n C 0 x_Mo_first_16 rfl ?_
  obtain ⟨v5, ev5, h⟩ := blet_e h
  refine z_getI (j := 0) C x_Mo_first_17 nk_111 ck_111 cw_12 (i_lt rfl) rfl rfl fl_Mo_260 ev5 ?_
  rcases ite_e h with ⟨c6, h⟩ | ⟨c6, h⟩
  · refine z_if_le_f (tgt := 27) C x_Mo_first_20 rfl c6 ?_
    refine z_ldc2 C kl_Mo_289 x_Mo_first_23 ?_
    exact z_lret C x_Mo_first_26 h
  · refine z_if_le_t (tgt := 27) C x_Mo_first_20 rfl c6 ?_
    refine z_aload_n C 0 x_Mo_first_27 rfl ?_
    refine z_iload_n C 2 x_Mo_first_28 rfl ?_
    refine z_iload_n C 3 x_Mo_first_29 rfl ?_
    obtain ⟨v7, M8, fv7, h⟩ := bcall_e h
    refine z_callVv (k := 111) C x_Mo_first_30 cv_Mo_621 (t_Mo_pay (lev := lev - 1) l G (by omega) fv7) nk_111 ck_111 rfl (by omega) rfl (i_le rfl) rfl ?_
    refine z_aload_n C 0 x_Mo_first_33 rfl ?_
    refine z_getR (j := 74) C x_Mo_first_34 nk_111 ck_111 cw_12 (i_lt rfl) rfl rf_111_74 rfl fl_Mo_167 ?_
    refine z_iload_n C 1 x_Mo_first_37 rfl ?_
    obtain ⟨c9, h⟩ := chk_e h
    obtain ⟨v10, ev10, h⟩ := blet_e h
    refine z_lald C x_Mo_first_38 nk_161 ck_161 c9 ev10 ?_
    exact z_lret C x_Mo_first_39 h
theorem x_Mo_below_0 : DC b_Mo_below 0 (.aload_n 0) 1 1 := ⟨by decide +kernel, rfl⟩
theorem x_Mo_below_1 : DC b_Mo_below 1 (.iconst 0) 1 2 := ⟨by decide +kernel, rfl⟩
theorem x_Mo_below_2 : DC b_Mo_below 2 (.putfield 257) 3 5 := ⟨by decide +kernel, rfl⟩
theorem x_Mo_below_5 : DC b_Mo_below 5 (.aload_n 0) 1 6 := ⟨by decide +kernel, rfl⟩
theorem x_Mo_below_6 : DC b_Mo_below 6 (.iconst 0) 1 7 := ⟨by decide +kernel, rfl⟩
theorem x_Mo_below_7 : DC b_Mo_below 7 (.putfield 260) 3 10 := ⟨by decide +kernel, rfl⟩
theorem x_Mo_below_10 : DC b_Mo_below 10 (.iload_n 1) 1 11 := ⟨by decide +kernel, rfl⟩
theorem x_Mo_below_11 : DC b_Mo_below 11 (.invokestatic 335) 3 14 := ⟨by decide +kernel, rfl⟩
theorem x_Mo_below_14 : DC b_Mo_below 14 (.ifCond .eq 20) 3 17 := ⟨by decide +kernel, rfl⟩
theorem x_Mo_below_17 : DC b_Mo_below 17 (.iload_n 2) 1 18 := ⟨by decide +kernel, rfl⟩
theorem x_Mo_below_18 : DC b_Mo_below 18 (.i2l) 1 19 := ⟨by decide +kernel, rfl⟩
theorem x_Mo_below_19 : DC b_Mo_below 19 (.lconst 0) 1 20 := ⟨by decide +kernel, rfl⟩
theorem x_Mo_below_20 : DC b_Mo_below 20 (.lconst 1) 1 21 := ⟨by decide +kernel, rfl⟩
theorem x_Mo_below_21 : DC b_Mo_below 21 (.invokestatic 265) 3 24 := ⟨by decide +kernel, rfl⟩
theorem x_Mo_below_24 : DC b_Mo_below 24 (.ifCond .eq 10) 3 27 := ⟨by decide +kernel, rfl⟩
theorem x_Mo_below_27 : DC b_Mo_below 27 (.iload_n 3) 1 28 := ⟨by decide +kernel, rfl⟩
theorem x_Mo_below_28 : DC b_Mo_below 28 (.invokestatic 306) 3 31 := ⟨by decide +kernel, rfl⟩
theorem x_Mo_below_31 : DC b_Mo_below 31 (.ifCond .ne 10) 3 34 := ⟨by decide +kernel, rfl⟩
theorem x_Mo_below_34 : DC b_Mo_below 34 (.aload_n 0) 1 35 := ⟨by decide +kernel, rfl⟩
theorem x_Mo_below_35 : DC b_Mo_below 35 (.iconst 5) 1 36 := ⟨by decide +kernel, rfl⟩
theorem x_Mo_below_36 : DC b_Mo_below 36 (.invokevirtual 297) 3 39 := ⟨by decide +kernel, rfl⟩
theorem x_Mo_below_39 : DC b_Mo_below 39 (.i2l) 1 40 := ⟨by decide +kernel, rfl⟩
theorem x_Mo_below_40 : DC b_Mo_below 40 (.lreturn) 1 41 := ⟨by decide +kernel, rfl⟩
theorem x_Mo_below_41 : DC b_Mo_below 41 (.aload_n 0) 1 42 := ⟨by decide +kernel, rfl⟩
theorem x_Mo_below_42 : DC b_Mo_below 42 (.iload_n 1) 1 43 := ⟨by decide +kernel, rfl⟩
theorem x_Mo_below_43 : DC b_Mo_below 43 (.iload_n 3) 1 44 := ⟨by decide +kernel, rfl⟩
theorem x_Mo_below_44 : DC b_Mo_below 44 (.invokevirtual 621) 3 47 := ⟨by decide +kernel, rfl⟩
theorem x_Mo_below_47 : DC b_Mo_below 47 (.iload_n 2) 1 48 := ⟨by decide +kernel, rfl⟩
theorem x_Mo_below_48 : DC b_Mo_below 48 (.ifCond .ne 10) 3 51 := ⟨by decide +kernel, rfl⟩
theorem x_Mo_below_51 : DC b_Mo_below 51 (.aload_n 0) 1 52 := ⟨by decide +kernel, rfl⟩
theorem x_Mo_below_52 : DC b_Mo_below 52 (.getfield 612) 3 55 := ⟨by decide +kernel, rfl⟩
theorem x_Mo_below_55 : DC b_Mo_below 55 (.goto 7) 3 58 := ⟨by decide +kernel, rfl⟩
theorem x_Mo_below_58 : DC b_Mo_below 58 (.aload_n 0) 1 59 := ⟨by decide +kernel, rfl⟩
theorem x_Mo_below_59 : DC b_Mo_below 59 (.getfield 615) 3 62 := ⟨by decide +kernel, rfl⟩
theorem x_Mo_below_62 : DC b_Mo_below 62 (.lreturn) 1 63 := ⟨by decide +kernel, rfl⟩
def k_Mo_below_34 (M : Mem) : Res := bcall (d_Mo_refuse 5 M) fun v1 M2 => some (w32 v1, M2)
theorem z_Mo_below_34 (C : Cx p s m args meth c G b_Mo_below 4 "PrairiePoolModel" (some .long)) (hlev : 9 ≤ lev) {r : Int × Mem}  {M : Mem} (h : k_Mo_below_34 M = some r) : Z p l e lev s m args below meth c G 4 (MQ below (Qm G 2 r) args s 0 0 (Ab G)) M 34 [(0, .ref (G.1 + 111))] [] := by
  unfold k_Mo_below_34 at h
  refine z_aload_n C 0 x_Mo_below_34 rfl ?_
  refine z_iconst C x_Mo_below_35 ?_
  obtain ⟨v1, M2, fv1, h⟩ := bcall_e h
  refine z_callVi (k := 111) C x_Mo_below_36 cv_Mo_297 (t_Mo_refuse (lev := lev - 1) l G (by omega) fv1) nk_111 ck_111 rfl (by omega) rfl (i_le rfl) rfl ?_
  refine z_i2l C x_Mo_below_39 ?_
  exact z_lret C x_Mo_below_40 h
def d_Mo_below (a1 a2 a3 : Int) (M : Mem) : Res := blet (sto M 111 1 0) fun M1 => blet (sto M1 111 0 0) fun M2 => bcall (d_Mo_isYear a1 M2) fun v3 M4 => if w32 v3 = 0 then (k_Mo_below_34 M4) else (bcall (d_Mo_isIn (w32 a2) 0 1 M4) fun v6 M7 => if w32 v6 = 0 then (k_Mo_below_34 M7) else (bcall (d_Mo_isDay a3 M7) fun v9 M10 => if w32 v9 = 0 then (k_Mo_below_34 M10) else (bcall (d_Mo_pay a1 a3 M10) fun v12 M13 => if w32 a2 = 0 then (blet (M13 111 77) fun v15 => some (v15, M13)) else (blet (M13 111 78) fun v16 => some (v16, M13)))))
theorem t_Mo_below (l : Launch) (G : GX) {lev : Nat} (hlev : 9 ≤ lev) {a1 a2 a3 : Int} {M : Mem} {r : Int × Mem} (h : d_Mo_below a1 a2 a3 M = some r) : Mt l G y_Mo_below b_Mo_below 4 (some .long) lev 2 [.ref (G.1 + 111), vi a1, vi a2, vi a3] M r := by
  refine Mt.of (by decide) (i_le rfl) ?_
  intro p e s m args below meth c C
  have C : Cx p s m args meth c G b_Mo_below 4 "PrairiePoolModel" (some .long) := C
  unfold d_Mo_below at h
  refine z_sub (lv' := [(0, .ref (G.1 + 111)), (1, vi a1), (2, vi a2), (3, vi a3)]) [0, 1, 2, 3] rfl ?_
  refine z_aload_n C 0 x_Mo_below_0 rfl ?_
  refine z_iconst C x_Mo_below_1 ?_
  obtain ⟨M1, eM1, h⟩ := blet_e h
  refine z_putI (j := 1) C x_Mo_below_2 nk_111 ck_111 cw_12 (i_lt rfl) rfl rfl rfl rfl fl_Mo_257 eM1 ?_
  refine z_aload_n C 0 x_Mo_below_5 rfl ?_
  refine z_iconst C x_Mo_below_6 ?_
  obtain ⟨M2, eM2, h⟩ := blet_e h
  refine z_putI (j := 0) C x_Mo_below_7 nk_111 ck_111 cw_12 (i_lt rfl) rfl rfl rfl rfl fl_Mo_260 eM2 ?_
  refine z_iload_n C 1 x_Mo_below_10 rfl ?_
  obtain ⟨v3, M4, fv3, h⟩ := bcall_e h
  refine z_callSi C x_Mo_below_11 cs_Mo_335 (t_Mo_isYear (lev := lev - 1) l G (by omega) fv3) (by omega) rfl (i_le rfl) rfl ?_
  rcases ite_e h with ⟨c5, h⟩ | ⟨c5, h⟩
  · refine z_if_eq_t (tgt := 34) C x_Mo_below_14 rfl c5 ?_
    exact z_sub [0] rfl (z_Mo_below_34 C hlev h)
  · refine z_if_eq_f (tgt := 34) C x_Mo_below_14 rfl c5 ?_
    refine z_iload_n C 2 x_Mo_below_17 rfl ?_
    refine z_i2l C x_Mo_below_18 ?_
    refine z_lconst0 C x_Mo_below_19 ?_
    refine z_lconst1 C x_Mo_below_20 ?_
    obtain ⟨v6, M7, fv6, h⟩ := bcall_e h
    refine z_callSi C x_Mo_below_21 cs_Mo_265 (t_Mo_isIn (lev := lev - 1) l G (by omega) fv6) (by omega) rfl (i_le rfl) rfl ?_
    rcases ite_e h with ⟨c8, h⟩ | ⟨c8, h⟩
    · refine z_if_eq_t (tgt := 34) C x_Mo_below_24 rfl c8 ?_
      exact z_sub [0] rfl (z_Mo_below_34 C hlev h)
    · refine z_if_eq_f (tgt := 34) C x_Mo_below_24 rfl c8 ?_
      refine z_iload_n C 3 x_Mo_below_27 rfl ?_
      obtain ⟨v9, M10, fv9, h⟩ := bcall_e h
      refine z_callSi C x_Mo_below_28 cs_Mo_306 (t_Mo_isDay (lev := lev - 1) l G (by omega) fv9) (by omega) rfl (i_le rfl) rfl ?_
      rcases ite_e h with ⟨c11, h⟩ | ⟨c11, h⟩
      · refine z_if_ne_f (tgt := 41) C x_Mo_below_31 rfl c11 ?_
        exact z_sub [0] rfl (z_Mo_below_34 C hlev h)
      · refine z_if_ne_t (tgt := 41) C x_Mo_below_31 rfl c11 ?_
        refine z_aload_n C 0 x_Mo_below_41 rfl ?_
        refine z_iload_n C 1 x_Mo_below_42 rfl ?_
        refine z_iload_n C 3 x_Mo_below_43 rfl ?_
        obtain ⟨v12, M13, fv12, h⟩ := bcall_e h
        refine z_callVv (k := 111) C x_Mo_below_44 cv_Mo_621 (t_Mo_pay (lev := lev - 1) l G (by omega) fv12) nk_111 ck_111 rfl (by omega) rfl (i_le rfl) rfl ?_
        refine z_iload_n C 2 x_Mo_below_47 rfl ?_
        rcases ite_e h with ⟨c14, h⟩ | ⟨c14, h⟩
        · refine z_if_ne_f (tgt := 58) C x_Mo_below_48 rfl c14 ?_
          refine z_aload_n C 0 x_Mo_below_51 rfl ?_
          obtain ⟨v15, ev15, h⟩ := blet_e h
          refine z_getL (j := 77) C x_Mo_below_52 nk_111 ck_111 cw_12 (i_lt rfl) rfl rfl fl_Mo_612 ev15 ?_
          refine z_goto (tgt := 62) C x_Mo_below_55 rfl ?_
          exact z_lret C x_Mo_below_62 h
        · refine z_if_ne_t (tgt := 58) C x_Mo_below_48 rfl c14 ?_
          refine z_aload_n C 0 x_Mo_below_58 rfl ?_
          obtain ⟨v16, ev16, h⟩ := blet_e h
          refine z_getL (j := 78) C x_Mo_below_59 nk_111 ck_111 cw_12 (i_lt rfl) rfl rfl fl_Mo_615 ev16 ?_
          exact z_lret C x_Mo_below_62 h
theorem x_Mo_owed_0 : DC b_Mo_owed 0 (.aload_n 0) 1 1 := ⟨by decide +kernel, rfl⟩
theorem x_Mo_owed_1 : DC b_Mo_owed 1 (.iconst 0) 1 2 := ⟨by decide +kernel, rfl⟩
theorem x_Mo_owed_2 : DC b_Mo_owed 2 (.putfield 257) 3 5 := ⟨by decide +kernel, rfl⟩
theorem x_Mo_owed_5 : DC b_Mo_owed 5 (.aload_n 0) 1 6 := ⟨by decide +kernel, rfl⟩
theorem x_Mo_owed_6 : DC b_Mo_owed 6 (.aload_n 0) 1 7 := ⟨by decide +kernel, rfl⟩
theorem x_Mo_owed_7 : DC b_Mo_owed 7 (.iload_n 1) 1 8 := ⟨by decide +kernel, rfl⟩
theorem x_Mo_owed_8 : DC b_Mo_owed 8 (.iload_n 2) 1 9 := ⟨by decide +kernel, rfl⟩
theorem x_Mo_owed_9 : DC b_Mo_owed 9 (.iload_n 3) 1 10 := ⟨by decide +kernel, rfl⟩
theorem x_Mo_owed_10 : DC b_Mo_owed 10 (.invokevirtual 618) 3 13 := ⟨by decide +kernel, rfl⟩
theorem x_Mo_owed_13 : DC b_Mo_owed 13 (.putfield 260) 3 16 := ⟨by decide +kernel, rfl⟩
theorem x_Mo_owed_16 : DC b_Mo_owed 16 (.aload_n 0) 1 17 := ⟨by decide +kernel, rfl⟩
theorem x_Mo_owed_17 : DC b_Mo_owed 17 (.getfield 260) 3 20 := ⟨by decide +kernel, rfl⟩
theorem x_Mo_owed_20 : DC b_Mo_owed 20 (.ifCond .le 7) 3 23 := ⟨by decide +kernel, rfl⟩
theorem x_Mo_owed_23 : DC b_Mo_owed 23 (.ldc2_w 289) 3 26 := ⟨by decide +kernel, rfl⟩
theorem x_Mo_owed_26 : DC b_Mo_owed 26 (.lreturn) 1 27 := ⟨by decide +kernel, rfl⟩
theorem x_Mo_owed_27 : DC b_Mo_owed 27 (.aload_n 0) 1 28 := ⟨by decide +kernel, rfl⟩
theorem x_Mo_owed_28 : DC b_Mo_owed 28 (.iload_n 2) 1 29 := ⟨by decide +kernel, rfl⟩
theorem x_Mo_owed_29 : DC b_Mo_owed 29 (.iload_n 3) 1 30 := ⟨by decide +kernel, rfl⟩
theorem x_Mo_owed_30 : DC b_Mo_owed 30 (.invokevirtual 621) 3 33 := ⟨by decide +kernel, rfl⟩
theorem x_Mo_owed_33 : DC b_Mo_owed 33 (.aload_n 0) 1 34 := ⟨by decide +kernel, rfl⟩
theorem x_Mo_owed_34 : DC b_Mo_owed 34 (.getfield 173) 3 37 := ⟨by decide +kernel, rfl⟩
theorem x_Mo_owed_37 : DC b_Mo_owed 37 (.iload_n 1) 1 38 := ⟨by decide +kernel, rfl⟩
theorem x_Mo_owed_38 : DC b_Mo_owed 38 (.laload) 1 39 := ⟨by decide +kernel, rfl⟩
theorem x_Mo_owed_39 : DC b_Mo_owed 39 (.lreturn) 1 40 := ⟨by decide +kernel, rfl⟩
def d_Mo_owed (a1 a2 a3 : Int) (M : Mem) : Res := blet (sto M 111 1 0) fun M1 => bcall (d_Mo_asksFarm a1 a2 a3 M1) fun v2 M3 => blet (sto M3 111 0 v2) fun M4 => blet (M4 111 0) fun v5 => if 0 < w32 v5 then (some ((-1), M4)) else (bcall (d_Mo_pay a2 a3 M4) fun v7 M8 => chk (0 ≤ w32 a1 ∧ w32 a1 < 20) <| blet (M8 163 (ix a1)) fun v10 => some (v10, M8))
theorem t_Mo_owed (l : Launch) (G : GX) {lev : Nat} (hlev : 9 ≤ lev) {a1 a2 a3 : Int} {M : Mem} {r : Int × Mem} (h : d_Mo_owed a1 a2 a3 M = some r) : Mt l G y_Mo_owed b_Mo_owed 4 (some .long) lev 2 [.ref (G.1 + 111), vi a1, vi a2, vi a3] M r := by
  refine Mt.of (by decide) (i_le rfl) ?_
  intro p e s m args below meth c C
  have C : Cx p s m args meth c G b_Mo_owed 4 "PrairiePoolModel" (some .long) := C
  unfold d_Mo_owed at h
  refine z_sub (lv' := [(0, .ref (G.1 + 111)), (1, vi a1), (2, vi a2), (3, vi a3)]) [0, 1, 2, 3] rfl ?_
  refine z_aload_n C 0 x_Mo_owed_0 rfl ?_
  refine z_iconst C x_Mo_owed_1 ?_
  obtain ⟨M1, eM1, h⟩ := blet_e h
  refine z_putI (j := 1) C x_Mo_owed_2 nk_111 ck_111 cw_12 (i_lt rfl) rfl rfl rfl rfl fl_Mo_257 eM1 ?_
  refine z_aload_n C 0 x_Mo_owed_5 rfl ?_
  refine z_aload_n C 0 x_Mo_owed_6 rfl ?_
  refine z_iload_n C 1 x_Mo_owed_7 rfl ?_
  refine z_iload_n C 2 x_Mo_owed_8 rfl ?_
  refine z_iload_n C 3 x_Mo_owed_9 rfl ?_
  obtain ⟨v2, M3, fv2, h⟩ := bcall_e h
  refine z_callVi (k := 111) C x_Mo_owed_10 cv_Mo_618 (t_Mo_asksFarm (lev := lev - 1) l G (by omega) fv2) nk_111 ck_111 rfl (by omega) rfl (i_le rfl) rfl ?_
  obtain ⟨M4, eM4, h⟩ := blet_e h
  refine z_putI (j := 0) C x_Mo_owed_13 nk_111 ck_111 cw_12 (i_lt rfl) rfl rfl rfl rfl fl_Mo_260 eM4 ?_
  refine z_aload_n C 0 x_Mo_owed_16 rfl ?_
  obtain ⟨v5, ev5, h⟩ := blet_e h
  refine z_getI (j := 0) C x_Mo_owed_17 nk_111 ck_111 cw_12 (i_lt rfl) rfl rfl fl_Mo_260 ev5 ?_
  rcases ite_e h with ⟨c6, h⟩ | ⟨c6, h⟩
  · refine z_if_le_f (tgt := 27) C x_Mo_owed_20 rfl c6 ?_
    refine z_ldc2 C kl_Mo_289 x_Mo_owed_23 ?_
    exact z_lret C x_Mo_owed_26 h
  · refine z_if_le_t (tgt := 27) C x_Mo_owed_20 rfl c6 ?_
    refine z_aload_n C 0 x_Mo_owed_27 rfl ?_
    refine z_iload_n C 2 x_Mo_owed_28 rfl ?_
    refine z_iload_n C 3 x_Mo_owed_29 rfl ?_
    obtain ⟨v7, M8, fv7, h⟩ := bcall_e h
    refine z_callVv (k := 111) C x_Mo_owed_30 cv_Mo_621 (t_Mo_pay (lev := lev - 1) l G (by omega) fv7) nk_111 ck_111 rfl (by omega) rfl (i_le rfl) rfl ?_
    refine z_aload_n C 0 x_Mo_owed_33 rfl ?_
    refine z_getR (j := 76) C x_Mo_owed_34 nk_111 ck_111 cw_12 (i_lt rfl) rfl rf_111_76 rfl fl_Mo_173 ?_
    refine z_iload_n C 1 x_Mo_owed_37 rfl ?_
    obtain ⟨c9, h⟩ := chk_e h
    obtain ⟨v10, ev10, h⟩ := blet_e h
    refine z_lald C x_Mo_owed_38 nk_163 ck_163 c9 ev10 ?_
    exact z_lret C x_Mo_owed_39 h
theorem x_Mo_turnOf_0 : DC b_Mo_turnOf 0 (.aload_n 0) 1 1 := ⟨by decide +kernel, rfl⟩
theorem x_Mo_turnOf_1 : DC b_Mo_turnOf 1 (.invokevirtual 344) 3 4 := ⟨by decide +kernel, rfl⟩
theorem x_Mo_turnOf_4 : DC b_Mo_turnOf 4 (.aload_n 0) 1 5 := ⟨by decide +kernel, rfl⟩
theorem x_Mo_turnOf_5 : DC b_Mo_turnOf 5 (.getfield 151) 3 8 := ⟨by decide +kernel, rfl⟩
theorem x_Mo_turnOf_8 : DC b_Mo_turnOf 8 (.iconst 2) 1 9 := ⟨by decide +kernel, rfl⟩
theorem x_Mo_turnOf_9 : DC b_Mo_turnOf 9 (.iload_n 2) 1 10 := ⟨by decide +kernel, rfl⟩
theorem x_Mo_turnOf_10 : DC b_Mo_turnOf 10 (.i2l) 1 11 := ⟨by decide +kernel, rfl⟩
theorem x_Mo_turnOf_11 : DC b_Mo_turnOf 11 (.lastore) 1 12 := ⟨by decide +kernel, rfl⟩
theorem x_Mo_turnOf_12 : DC b_Mo_turnOf 12 (.aload_n 0) 1 13 := ⟨by decide +kernel, rfl⟩
theorem x_Mo_turnOf_13 : DC b_Mo_turnOf 13 (.getfield 151) 3 16 := ⟨by decide +kernel, rfl⟩
theorem x_Mo_turnOf_16 : DC b_Mo_turnOf 16 (.iconst 3) 1 17 := ⟨by decide +kernel, rfl⟩
theorem x_Mo_turnOf_17 : DC b_Mo_turnOf 17 (.iload_n 2) 1 18 := ⟨by decide +kernel, rfl⟩
theorem x_Mo_turnOf_18 : DC b_Mo_turnOf 18 (.bipush 52) 2 20 := ⟨by decide +kernel, rfl⟩
theorem x_Mo_turnOf_20 : DC b_Mo_turnOf 20 (.idiv) 1 21 := ⟨by decide +kernel, rfl⟩
theorem x_Mo_turnOf_21 : DC b_Mo_turnOf 21 (.i2l) 1 22 := ⟨by decide +kernel, rfl⟩
theorem x_Mo_turnOf_22 : DC b_Mo_turnOf 22 (.lastore) 1 23 := ⟨by decide +kernel, rfl⟩
theorem x_Mo_turnOf_23 : DC b_Mo_turnOf 23 (.aload_n 0) 1 24 := ⟨by decide +kernel, rfl⟩
theorem x_Mo_turnOf_24 : DC b_Mo_turnOf 24 (.getfield 151) 3 27 := ⟨by decide +kernel, rfl⟩
theorem x_Mo_turnOf_27 : DC b_Mo_turnOf 27 (.bipush 7) 2 29 := ⟨by decide +kernel, rfl⟩
theorem x_Mo_turnOf_29 : DC b_Mo_turnOf 29 (.aload_n 0) 1 30 := ⟨by decide +kernel, rfl⟩
theorem x_Mo_turnOf_30 : DC b_Mo_turnOf 30 (.getfield 29) 3 33 := ⟨by decide +kernel, rfl⟩
theorem x_Mo_turnOf_33 : DC b_Mo_turnOf 33 (.iload_n 1) 1 34 := ⟨by decide +kernel, rfl⟩
theorem x_Mo_turnOf_34 : DC b_Mo_turnOf 34 (.iaload) 1 35 := ⟨by decide +kernel, rfl⟩
theorem x_Mo_turnOf_35 : DC b_Mo_turnOf 35 (.i2l) 1 36 := ⟨by decide +kernel, rfl⟩
theorem x_Mo_turnOf_36 : DC b_Mo_turnOf 36 (.lastore) 1 37 := ⟨by decide +kernel, rfl⟩
theorem x_Mo_turnOf_37 : DC b_Mo_turnOf 37 (.aload_n 0) 1 38 := ⟨by decide +kernel, rfl⟩
theorem x_Mo_turnOf_38 : DC b_Mo_turnOf 38 (.getfield 151) 3 41 := ⟨by decide +kernel, rfl⟩
theorem x_Mo_turnOf_41 : DC b_Mo_turnOf 41 (.bipush 8) 2 43 := ⟨by decide +kernel, rfl⟩
theorem x_Mo_turnOf_43 : DC b_Mo_turnOf 43 (.aload_n 0) 1 44 := ⟨by decide +kernel, rfl⟩
theorem x_Mo_turnOf_44 : DC b_Mo_turnOf 44 (.getfield 254) 3 47 := ⟨by decide +kernel, rfl⟩
theorem x_Mo_turnOf_47 : DC b_Mo_turnOf 47 (.iload_n 1) 1 48 := ⟨by decide +kernel, rfl⟩
theorem x_Mo_turnOf_48 : DC b_Mo_turnOf 48 (.iaload) 1 49 := ⟨by decide +kernel, rfl⟩
theorem x_Mo_turnOf_49 : DC b_Mo_turnOf 49 (.i2l) 1 50 := ⟨by decide +kernel, rfl⟩
theorem x_Mo_turnOf_50 : DC b_Mo_turnOf 50 (.lastore) 1 51 := ⟨by decide +kernel, rfl⟩
theorem x_Mo_turnOf_51 : DC b_Mo_turnOf 51 (.aload_n 0) 1 52 := ⟨by decide +kernel, rfl⟩
theorem x_Mo_turnOf_52 : DC b_Mo_turnOf 52 (.getfield 151) 3 55 := ⟨by decide +kernel, rfl⟩
theorem x_Mo_turnOf_55 : DC b_Mo_turnOf 55 (.bipush 9) 2 57 := ⟨by decide +kernel, rfl⟩
theorem x_Mo_turnOf_57 : DC b_Mo_turnOf 57 (.iload_n 3) 1 58 := ⟨by decide +kernel, rfl⟩
theorem x_Mo_turnOf_58 : DC b_Mo_turnOf 58 (.i2l) 1 59 := ⟨by decide +kernel, rfl⟩
theorem x_Mo_turnOf_59 : DC b_Mo_turnOf 59 (.lastore) 1 60 := ⟨by decide +kernel, rfl⟩
theorem x_Mo_turnOf_60 : DC b_Mo_turnOf 60 (.aload_n 0) 1 61 := ⟨by decide +kernel, rfl⟩
theorem x_Mo_turnOf_61 : DC b_Mo_turnOf 61 (.bipush 116) 2 63 := ⟨by decide +kernel, rfl⟩
theorem x_Mo_turnOf_63 : DC b_Mo_turnOf 63 (.bipush 117) 2 65 := ⟨by decide +kernel, rfl⟩
theorem x_Mo_turnOf_65 : DC b_Mo_turnOf 65 (.bipush 114) 2 67 := ⟨by decide +kernel, rfl⟩
theorem x_Mo_turnOf_67 : DC b_Mo_turnOf 67 (.bipush 110) 2 69 := ⟨by decide +kernel, rfl⟩
theorem x_Mo_turnOf_69 : DC b_Mo_turnOf 69 (.iconst 0) 1 70 := ⟨by decide +kernel, rfl⟩
theorem x_Mo_turnOf_70 : DC b_Mo_turnOf 70 (.iconst 0) 1 71 := ⟨by decide +kernel, rfl⟩
theorem x_Mo_turnOf_71 : DC b_Mo_turnOf 71 (.invokestatic 350) 3 74 := ⟨by decide +kernel, rfl⟩
theorem x_Mo_turnOf_74 : DC b_Mo_turnOf 74 (.iload_n 2) 1 75 := ⟨by decide +kernel, rfl⟩
theorem x_Mo_turnOf_75 : DC b_Mo_turnOf 75 (.lconst 0) 1 76 := ⟨by decide +kernel, rfl⟩
theorem x_Mo_turnOf_76 : DC b_Mo_turnOf 76 (.invokevirtual 354) 3 79 := ⟨by decide +kernel, rfl⟩
theorem x_Mo_turnOf_79 : DC b_Mo_turnOf 79 (.ldc2_w 358) 3 82 := ⟨by decide +kernel, rfl⟩
theorem x_Mo_turnOf_82 : DC b_Mo_turnOf 82 (.ldc2_w 304) 3 85 := ⟨by decide +kernel, rfl⟩
theorem x_Mo_turnOf_85 : DC b_Mo_turnOf 85 (.invokestatic 360) 3 88 := ⟨by decide +kernel, rfl⟩
theorem x_Mo_turnOf_88 : DC b_Mo_turnOf 88 (.lreturn) 1 89 := ⟨by decide +kernel, rfl⟩
def d_Mo_turnOf (a1 a2 a3 : Int) (M : Mem) : Res := bcall (d_Mo_letNothing M) fun v1 M2 => blet (sto M2 156 2 (w32 a2)) fun M3 => blet (sto M3 156 3 (w32 (dv32 a2 52))) fun M4 => chk (0 ≤ w32 a1 ∧ w32 a1 < 8) <| blet (M4 118 (ix a1)) fun v6 => blet (sto M4 156 7 (w32 v6)) fun M7 => chk (0 ≤ w32 a1 ∧ w32 a1 < 8) <| blet (M7 188 (ix a1)) fun v9 => blet (sto M7 156 8 (w32 v9)) fun M10 => blet (sto M10 156 9 (w32 a3)) fun M11 => bcall (d_Mo_spelled 116 117 114 110 0 0 M11) fun v12 M13 => bcall (d_Mo_told v12 a2 0 M13) fun v14 M15 => bcall (d_Mo_cut1 v14 (-1000000) 1000000 M15) fun v16 M17 => some (v16, M17)
theorem t_Mo_turnOf (l : Launch) (G : GX) {lev : Nat} (hlev : 5 ≤ lev) {a1 a2 a3 : Int} {M : Mem} {r : Int × Mem} (h : d_Mo_turnOf a1 a2 a3 M = some r) : Mt l G y_Mo_turnOf b_Mo_turnOf 4 (some .long) lev 2 [.ref (G.1 + 111), vi a1, vi a2, vi a3] M r := by
  refine Mt.of (by decide) (i_le rfl) ?_
  intro p e s m args below meth c C
  have C : Cx p s m args meth c G b_Mo_turnOf 4 "PrairiePoolModel" (some .long) := C
  unfold d_Mo_turnOf at h
  refine z_sub (lv' := [(0, .ref (G.1 + 111)), (1, vi a1), (2, vi a2), (3, vi a3)]) [0, 1, 2, 3] rfl ?_
  refine z_aload_n C 0 x_Mo_turnOf_0 rfl ?_
  obtain ⟨v1, M2, fv1, h⟩ := bcall_e h
  refine z_callVv (k := 111) C x_Mo_turnOf_1 cv_Mo_344 (t_Mo_letNothing (lev := lev - 1) l G (by omega) fv1) nk_111 ck_111 rfl (by omega) rfl (i_le rfl) rfl ?_
  refine z_aload_n C 0 x_Mo_turnOf_4 rfl ?_
  refine z_getR (j := 68) C x_Mo_turnOf_5 nk_111 ck_111 cw_12 (i_lt rfl) rfl rf_111_68 rfl fl_Mo_151 ?_
  refine z_iconst C x_Mo_turnOf_8 ?_
  refine z_iload_n C 2 x_Mo_turnOf_9 rfl ?_
  refine z_i2l C x_Mo_turnOf_10 ?_
  obtain ⟨M3, eM3, h⟩ := blet_e h
  refine z_last C x_Mo_turnOf_11 nk_156 ck_156 (by decide) eM3 ?_
  refine z_aload_n C 0 x_Mo_turnOf_12 rfl ?_
  refine z_getR (j := 68) C x_Mo_turnOf_13 nk_111 ck_111 cw_12 (i_lt rfl) rfl rf_111_68 rfl fl_Mo_151 ?_
  refine z_iconst C x_Mo_turnOf_16 ?_
  refine z_iload_n C 2 x_Mo_turnOf_17 rfl ?_
  refine z_bipush C rfl x_Mo_turnOf_18 ?_
  refine z_idiv C (by decide) x_Mo_turnOf_20 ?_
  refine z_i2l C x_Mo_turnOf_21 ?_
  obtain ⟨M4, eM4, h⟩ := blet_e h
  refine z_last C x_Mo_turnOf_22 nk_156 ck_156 (by decide) eM4 ?_
  refine z_aload_n C 0 x_Mo_turnOf_23 rfl ?_
  refine z_getR (j := 68) C x_Mo_turnOf_24 nk_111 ck_111 cw_12 (i_lt rfl) rfl rf_111_68 rfl fl_Mo_151 ?_
  refine z_bipush C rfl x_Mo_turnOf_27 ?_
  refine z_aload_n C 0 x_Mo_turnOf_29 rfl ?_
  refine z_getR (j := 14) C x_Mo_turnOf_30 nk_111 ck_111 cw_12 (i_lt rfl) rfl rf_111_14 rfl fl_Mo_29 ?_
  refine z_iload_n C 1 x_Mo_turnOf_33 rfl ?_
  obtain ⟨c5, h⟩ := chk_e h
  obtain ⟨v6, ev6, h⟩ := blet_e h
  refine z_iald C x_Mo_turnOf_34 nk_118 ck_118 c5 ev6 ?_
  refine z_i2l C x_Mo_turnOf_35 ?_
  obtain ⟨M7, eM7, h⟩ := blet_e h
  refine z_last C x_Mo_turnOf_36 nk_156 ck_156 (by decide) eM7 ?_
  refine z_aload_n C 0 x_Mo_turnOf_37 rfl ?_
  refine z_getR (j := 68) C x_Mo_turnOf_38 nk_111 ck_111 cw_12 (i_lt rfl) rfl rf_111_68 rfl fl_Mo_151 ?_
  refine z_bipush C rfl x_Mo_turnOf_41 ?_
  refine z_aload_n C 0 x_Mo_turnOf_43 rfl ?_
  refine z_getR (j := 106) C x_Mo_turnOf_44 nk_111 ck_111 cw_12 (i_lt rfl) rfl rf_111_106 rfl fl_Mo_254 ?_
  refine z_iload_n C 1 x_Mo_turnOf_47 rfl ?_
  obtain ⟨c8, h⟩ := chk_e h
  obtain ⟨v9, ev9, h⟩ := blet_e h
  refine z_iald C x_Mo_turnOf_48 nk_188 ck_188 c8 ev9 ?_
  refine z_i2l C x_Mo_turnOf_49 ?_
  obtain ⟨M10, eM10, h⟩ := blet_e h
  refine z_last C x_Mo_turnOf_50 nk_156 ck_156 (by decide) eM10 ?_
  refine z_aload_n C 0 x_Mo_turnOf_51 rfl ?_
  refine z_getR (j := 68) C x_Mo_turnOf_52 nk_111 ck_111 cw_12 (i_lt rfl) rfl rf_111_68 rfl fl_Mo_151 ?_
  refine z_bipush C rfl x_Mo_turnOf_55 ?_
  refine z_iload_n C 3 x_Mo_turnOf_57 rfl ?_
  refine z_i2l C x_Mo_turnOf_58 ?_
  obtain ⟨M11, eM11, h⟩ := blet_e h
  refine z_last C x_Mo_turnOf_59 nk_156 ck_156 (by decide) eM11 ?_
  refine z_aload_n C 0 x_Mo_turnOf_60 rfl ?_
  refine z_bipush C rfl x_Mo_turnOf_61 ?_
  refine z_bipush C rfl x_Mo_turnOf_63 ?_
  refine z_bipush C rfl x_Mo_turnOf_65 ?_
  refine z_bipush C rfl x_Mo_turnOf_67 ?_
  refine z_iconst C x_Mo_turnOf_69 ?_
  refine z_iconst C x_Mo_turnOf_70 ?_
  obtain ⟨v12, M13, fv12, h⟩ := bcall_e h
  refine z_callSl C x_Mo_turnOf_71 cs_Mo_350 (t_Mo_spelled (lev := lev - 1) l G (by omega) fv12) (by omega) rfl (i_le rfl) rfl ?_
  refine z_iload_n C 2 x_Mo_turnOf_74 rfl ?_
  refine z_lconst0 C x_Mo_turnOf_75 ?_
  obtain ⟨v14, M15, fv14, h⟩ := bcall_e h
  refine z_callVl (k := 111) C x_Mo_turnOf_76 cv_Mo_354 (t_Mo_told (lev := lev - 1) l G (by omega) fv14) nk_111 ck_111 rfl (by omega) rfl (i_le rfl) rfl ?_
  refine z_ldc2 C kl_Mo_358 x_Mo_turnOf_79 ?_
  refine z_ldc2 C kl_Mo_304 x_Mo_turnOf_82 ?_
  obtain ⟨v16, M17, fv16, h⟩ := bcall_e h
  refine z_callSl C x_Mo_turnOf_85 cs_Mo_360 (t_Mo_cut1 (lev := lev - 1) l G (by omega) fv16) (by omega) rfl (i_le rfl) rfl ?_
  exact z_lret C x_Mo_turnOf_88 h
theorem x_Mo_turns_0 : DC b_Mo_turns 0 (.aload_n 0) 1 1 := ⟨by decide +kernel, rfl⟩
theorem x_Mo_turns_1 : DC b_Mo_turns 1 (.iconst 0) 1 2 := ⟨by decide +kernel, rfl⟩
theorem x_Mo_turns_2 : DC b_Mo_turns 2 (.putfield 257) 3 5 := ⟨by decide +kernel, rfl⟩
theorem x_Mo_turns_5 : DC b_Mo_turns 5 (.aload_n 0) 1 6 := ⟨by decide +kernel, rfl⟩
theorem x_Mo_turns_6 : DC b_Mo_turns 6 (.iconst 0) 1 7 := ⟨by decide +kernel, rfl⟩
theorem x_Mo_turns_7 : DC b_Mo_turns 7 (.putfield 260) 3 10 := ⟨by decide +kernel, rfl⟩
theorem x_Mo_turns_10 : DC b_Mo_turns 10 (.aload_n 0) 1 11 := ⟨by decide +kernel, rfl⟩
theorem x_Mo_turns_11 : DC b_Mo_turns 11 (.iload_n 3) 1 12 := ⟨by decide +kernel, rfl⟩
theorem x_Mo_turns_12 : DC b_Mo_turns 12 (.invokevirtual 321) 3 15 := ⟨by decide +kernel, rfl⟩
theorem x_Mo_turns_15 : DC b_Mo_turns 15 (.ifCond .ne 9) 3 18 := ⟨by decide +kernel, rfl⟩
theorem x_Mo_turns_18 : DC b_Mo_turns 18 (.aload_n 0) 1 19 := ⟨by decide +kernel, rfl⟩
theorem x_Mo_turns_19 : DC b_Mo_turns 19 (.iconst 2) 1 20 := ⟨by decide +kernel, rfl⟩
theorem x_Mo_turns_20 : DC b_Mo_turns 20 (.invokevirtual 297) 3 23 := ⟨by decide +kernel, rfl⟩
theorem x_Mo_turns_23 : DC b_Mo_turns 23 (.ireturn) 1 24 := ⟨by decide +kernel, rfl⟩
theorem x_Mo_turns_24 : DC b_Mo_turns 24 (.iload_n 1) 1 25 := ⟨by decide +kernel, rfl⟩
theorem x_Mo_turns_25 : DC b_Mo_turns 25 (.invokestatic 306) 3 28 := ⟨by decide +kernel, rfl⟩
theorem x_Mo_turns_28 : DC b_Mo_turns 28 (.ifCond .eq 15) 3 31 := ⟨by decide +kernel, rfl⟩
theorem x_Mo_turns_31 : DC b_Mo_turns 31 (.iload_n 2) 1 32 := ⟨by decide +kernel, rfl⟩
theorem x_Mo_turns_32 : DC b_Mo_turns 32 (.i2l) 1 33 := ⟨by decide +kernel, rfl⟩
theorem x_Mo_turns_33 : DC b_Mo_turns 33 (.lconst 1) 1 34 := ⟨by decide +kernel, rfl⟩
theorem x_Mo_turns_34 : DC b_Mo_turns 34 (.ldc2_w 624) 3 37 := ⟨by decide +kernel, rfl⟩
theorem x_Mo_turns_37 : DC b_Mo_turns 37 (.invokestatic 265) 3 40 := ⟨by decide +kernel, rfl⟩
theorem x_Mo_turns_40 : DC b_Mo_turns 40 (.ifCond .ne 9) 3 43 := ⟨by decide +kernel, rfl⟩
theorem x_Mo_turns_43 : DC b_Mo_turns 43 (.aload_n 0) 1 44 := ⟨by decide +kernel, rfl⟩
theorem x_Mo_turns_44 : DC b_Mo_turns 44 (.iconst 5) 1 45 := ⟨by decide +kernel, rfl⟩
theorem x_Mo_turns_45 : DC b_Mo_turns 45 (.invokevirtual 297) 3 48 := ⟨by decide +kernel, rfl⟩
theorem x_Mo_turns_48 : DC b_Mo_turns 48 (.ireturn) 1 49 := ⟨by decide +kernel, rfl⟩
theorem x_Mo_turns_49 : DC b_Mo_turns 49 (.aload_n 0) 1 50 := ⟨by decide +kernel, rfl⟩
theorem x_Mo_turns_50 : DC b_Mo_turns 50 (.iload_n 1) 1 51 := ⟨by decide +kernel, rfl⟩
theorem x_Mo_turns_51 : DC b_Mo_turns 51 (.invokevirtual 403) 3 54 := ⟨by decide +kernel, rfl⟩
theorem x_Mo_turns_54 : DC b_Mo_turns 54 (.iconst 0) 1 55 := ⟨by decide +kernel, rfl⟩
theorem x_Mo_turns_55 : DC b_Mo_turns 55 (.istore 4) 2 57 := ⟨by decide +kernel, rfl⟩
theorem x_Mo_turns_57 : DC b_Mo_turns 57 (.iload 4) 2 59 := ⟨by decide +kernel, rfl⟩
theorem x_Mo_turns_59 : DC b_Mo_turns 59 (.bipush 8) 2 61 := ⟨by decide +kernel, rfl⟩
theorem x_Mo_turns_61 : DC b_Mo_turns 61 (.if_icmp .ge 17) 3 64 := ⟨by decide +kernel, rfl⟩
theorem x_Mo_turns_64 : DC b_Mo_turns 64 (.aload_n 0) 1 65 := ⟨by decide +kernel, rfl⟩
theorem x_Mo_turns_65 : DC b_Mo_turns 65 (.getfield 254) 3 68 := ⟨by decide +kernel, rfl⟩
theorem x_Mo_turns_68 : DC b_Mo_turns 68 (.iload 4) 2 70 := ⟨by decide +kernel, rfl⟩
theorem x_Mo_turns_70 : DC b_Mo_turns 70 (.iconst 0) 1 71 := ⟨by decide +kernel, rfl⟩
theorem x_Mo_turns_71 : DC b_Mo_turns 71 (.iastore) 1 72 := ⟨by decide +kernel, rfl⟩
theorem x_Mo_turns_72 : DC b_Mo_turns 72 (.iinc 4 1) 3 75 := ⟨by decide +kernel, rfl⟩
theorem x_Mo_turns_75 : DC b_Mo_turns 75 (.goto (-18)) 3 78 := ⟨by decide +kernel, rfl⟩
theorem x_Mo_turns_78 : DC b_Mo_turns 78 (.iconst 0) 1 79 := ⟨by decide +kernel, rfl⟩
theorem x_Mo_turns_79 : DC b_Mo_turns 79 (.istore 4) 2 81 := ⟨by decide +kernel, rfl⟩
theorem x_Mo_turns_81 : DC b_Mo_turns 81 (.iload 4) 2 83 := ⟨by decide +kernel, rfl⟩
theorem x_Mo_turns_83 : DC b_Mo_turns 83 (.iload_n 2) 1 84 := ⟨by decide +kernel, rfl⟩
theorem x_Mo_turns_84 : DC b_Mo_turns 84 (.if_icmp .ge 119) 3 87 := ⟨by decide +kernel, rfl⟩
theorem x_Mo_turns_87 : DC b_Mo_turns 87 (.iconst (-1)) 1 88 := ⟨by decide +kernel, rfl⟩
theorem x_Mo_turns_88 : DC b_Mo_turns 88 (.istore 5) 2 90 := ⟨by decide +kernel, rfl⟩
theorem x_Mo_turns_90 : DC b_Mo_turns 90 (.lconst 0) 1 91 := ⟨by decide +kernel, rfl⟩
theorem x_Mo_turns_91 : DC b_Mo_turns 91 (.lstore 6) 2 93 := ⟨by decide +kernel, rfl⟩
theorem x_Mo_turns_93 : DC b_Mo_turns 93 (.iconst 0) 1 94 := ⟨by decide +kernel, rfl⟩
theorem x_Mo_turns_94 : DC b_Mo_turns 94 (.istore 8) 2 96 := ⟨by decide +kernel, rfl⟩
theorem x_Mo_turns_96 : DC b_Mo_turns 96 (.iload 8) 2 98 := ⟨by decide +kernel, rfl⟩
theorem x_Mo_turns_98 : DC b_Mo_turns 98 (.aload_n 0) 1 99 := ⟨by decide +kernel, rfl⟩
theorem x_Mo_turns_99 : DC b_Mo_turns 99 (.getfield 294) 3 102 := ⟨by decide +kernel, rfl⟩
theorem x_Mo_turns_102 : DC b_Mo_turns 102 (.if_icmp .ge 76) 3 105 := ⟨by decide +kernel, rfl⟩
theorem x_Mo_turns_105 : DC b_Mo_turns 105 (.iconst 0) 1 106 := ⟨by decide +kernel, rfl⟩
theorem x_Mo_turns_106 : DC b_Mo_turns 106 (.aload_n 0) 1 107 := ⟨by decide +kernel, rfl⟩
theorem x_Mo_turns_107 : DC b_Mo_turns 107 (.iload 8) 2 109 := ⟨by decide +kernel, rfl⟩
theorem x_Mo_turns_109 : DC b_Mo_turns 109 (.invokevirtual 390) 3 112 := ⟨by decide +kernel, rfl⟩
theorem x_Mo_turns_112 : DC b_Mo_turns 112 (.sipush 1000) 3 115 := ⟨by decide +kernel, rfl⟩
theorem x_Mo_turns_115 : DC b_Mo_turns 115 (.aload_n 0) 1 116 := ⟨by decide +kernel, rfl⟩
theorem x_Mo_turns_116 : DC b_Mo_turns 116 (.getfield 254) 3 119 := ⟨by decide +kernel, rfl⟩
theorem x_Mo_turns_119 : DC b_Mo_turns 119 (.iload 8) 2 121 := ⟨by decide +kernel, rfl⟩
theorem x_Mo_turns_121 : DC b_Mo_turns 121 (.iaload) 1 122 := ⟨by decide +kernel, rfl⟩
theorem x_Mo_turns_122 : DC b_Mo_turns 122 (.imul) 1 123 := ⟨by decide +kernel, rfl⟩
theorem x_Mo_turns_123 : DC b_Mo_turns 123 (.isub) 1 124 := ⟨by decide +kernel, rfl⟩
theorem x_Mo_turns_124 : DC b_Mo_turns 124 (.invokestatic 393) 3 127 := ⟨by decide +kernel, rfl⟩
theorem x_Mo_turns_127 : DC b_Mo_turns 127 (.istore 9) 2 129 := ⟨by decide +kernel, rfl⟩
theorem x_Mo_turns_129 : DC b_Mo_turns 129 (.iload 9) 2 131 := ⟨by decide +kernel, rfl⟩
theorem x_Mo_turns_131 : DC b_Mo_turns 131 (.ifCond .ne 6) 3 134 := ⟨by decide +kernel, rfl⟩
theorem x_Mo_turns_134 : DC b_Mo_turns 134 (.goto 38) 3 137 := ⟨by decide +kernel, rfl⟩
theorem x_Mo_turns_137 : DC b_Mo_turns 137 (.aload_n 0) 1 138 := ⟨by decide +kernel, rfl⟩
theorem x_Mo_turns_138 : DC b_Mo_turns 138 (.iload 8) 2 140 := ⟨by decide +kernel, rfl⟩
theorem x_Mo_turns_140 : DC b_Mo_turns 140 (.iload_n 1) 1 141 := ⟨by decide +kernel, rfl⟩
theorem x_Mo_turns_141 : DC b_Mo_turns 141 (.iload 9) 2 143 := ⟨by decide +kernel, rfl⟩
theorem x_Mo_turns_143 : DC b_Mo_turns 143 (.invokevirtual 626) 3 146 := ⟨by decide +kernel, rfl⟩
theorem x_Mo_turns_146 : DC b_Mo_turns 146 (.lstore 10) 2 148 := ⟨by decide +kernel, rfl⟩
theorem x_Mo_turns_148 : DC b_Mo_turns 148 (.iload 5) 2 150 := ⟨by decide +kernel, rfl⟩
theorem x_Mo_turns_150 : DC b_Mo_turns 150 (.ifCond .lt 14) 3 153 := ⟨by decide +kernel, rfl⟩
theorem x_Mo_turns_153 : DC b_Mo_turns 153 (.lload 10) 2 155 := ⟨by decide +kernel, rfl⟩
theorem x_Mo_turns_155 : DC b_Mo_turns 155 (.lload 6) 2 157 := ⟨by decide +kernel, rfl⟩
theorem x_Mo_turns_157 : DC b_Mo_turns 157 (.lcmp) 1 158 := ⟨by decide +kernel, rfl⟩
theorem x_Mo_turns_158 : DC b_Mo_turns 158 (.ifCond .gt 6) 3 161 := ⟨by decide +kernel, rfl⟩
theorem x_Mo_turns_161 : DC b_Mo_turns 161 (.goto 11) 3 164 := ⟨by decide +kernel, rfl⟩
theorem x_Mo_turns_164 : DC b_Mo_turns 164 (.iload 8) 2 166 := ⟨by decide +kernel, rfl⟩
theorem x_Mo_turns_166 : DC b_Mo_turns 166 (.istore 5) 2 168 := ⟨by decide +kernel, rfl⟩
theorem x_Mo_turns_168 : DC b_Mo_turns 168 (.lload 10) 2 170 := ⟨by decide +kernel, rfl⟩
theorem x_Mo_turns_170 : DC b_Mo_turns 170 (.lstore 6) 2 172 := ⟨by decide +kernel, rfl⟩
theorem x_Mo_turns_172 : DC b_Mo_turns 172 (.iinc 8 1) 3 175 := ⟨by decide +kernel, rfl⟩
theorem x_Mo_turns_175 : DC b_Mo_turns 175 (.goto (-79)) 3 178 := ⟨by decide +kernel, rfl⟩
theorem x_Mo_turns_178 : DC b_Mo_turns 178 (.iload 5) 2 180 := ⟨by decide +kernel, rfl⟩
theorem x_Mo_turns_180 : DC b_Mo_turns 180 (.ifCond .ge 6) 3 183 := ⟨by decide +kernel, rfl⟩
theorem x_Mo_turns_183 : DC b_Mo_turns 183 (.goto 20) 3 186 := ⟨by decide +kernel, rfl⟩
theorem x_Mo_turns_186 : DC b_Mo_turns 186 (.aload_n 0) 1 187 := ⟨by decide +kernel, rfl⟩
theorem x_Mo_turns_187 : DC b_Mo_turns 187 (.getfield 254) 3 190 := ⟨by decide +kernel, rfl⟩
theorem x_Mo_turns_190 : DC b_Mo_turns 190 (.iload 5) 2 192 := ⟨by decide +kernel, rfl⟩
theorem x_Mo_turns_192 : DC b_Mo_turns 192 (.dup2) 1 193 := ⟨by decide +kernel, rfl⟩
theorem x_Mo_turns_193 : DC b_Mo_turns 193 (.iaload) 1 194 := ⟨by decide +kernel, rfl⟩
theorem x_Mo_turns_194 : DC b_Mo_turns 194 (.iconst 1) 1 195 := ⟨by decide +kernel, rfl⟩
theorem x_Mo_turns_195 : DC b_Mo_turns 195 (.iadd) 1 196 := ⟨by decide +kernel, rfl⟩
theorem x_Mo_turns_196 : DC b_Mo_turns 196 (.iastore) 1 197 := ⟨by decide +kernel, rfl⟩
theorem x_Mo_turns_197 : DC b_Mo_turns 197 (.iinc 4 1) 3 200 := ⟨by decide +kernel, rfl⟩
theorem x_Mo_turns_200 : DC b_Mo_turns 200 (.goto (-119)) 3 203 := ⟨by decide +kernel, rfl⟩
theorem x_Mo_turns_203 : DC b_Mo_turns 203 (.aload_n 0) 1 204 := ⟨by decide +kernel, rfl⟩
theorem x_Mo_turns_204 : DC b_Mo_turns 204 (.getfield 254) 3 207 := ⟨by decide +kernel, rfl⟩
theorem x_Mo_turns_207 : DC b_Mo_turns 207 (.iload_n 3) 1 208 := ⟨by decide +kernel, rfl⟩
theorem x_Mo_turns_208 : DC b_Mo_turns 208 (.iaload) 1 209 := ⟨by decide +kernel, rfl⟩
theorem x_Mo_turns_209 : DC b_Mo_turns 209 (.ireturn) 1 210 := ⟨by decide +kernel, rfl⟩
def k_Mo_turns_203 (a3 : Int) (M : Mem) : Res := chk (0 ≤ w32 a3 ∧ w32 a3 < 8) <| blet (M 188 (ix a3)) fun v2 => some (v2, M)
theorem z_Mo_turns_203 (C : Cx p s m args meth c G b_Mo_turns 12 "PrairiePoolModel" (some .int)) (hlev : 8 ≤ lev) {r : Int × Mem}  {a3 : Int} {M : Mem} (h : k_Mo_turns_203 a3 M = some r) : Z p l e lev s m args below meth c G 12 (MQ below (Qm G 1 r) args s 0 0 (Ab G)) M 203 [(0, .ref (G.1 + 111)), (3, vi a3)] [] := by
  unfold k_Mo_turns_203 at h
  refine z_aload_n C 0 x_Mo_turns_203 rfl ?_
  refine z_getR (j := 106) C x_Mo_turns_204 nk_111 ck_111 cw_12 (i_lt rfl) rfl rf_111_106 rfl fl_Mo_254 ?_
  refine z_iload_n C 1 x_Mo_turns_207 rfl ?_
  obtain ⟨c1, h⟩ := chk_e h
  obtain ⟨v2, ev2, h⟩ := blet_e h
  refine z_iald C x_Mo_turns_208 nk_188 ck_188 c1 ev2 ?_
  exact z_iret C x_Mo_turns_209 h
def k_Mo_turns_172 (R81 : Int → Int → Int → Int → Mem → Res) (R96 : Int → Int → Int → Int → Int → Int → Int → Mem → Res) (a1 a2 a3 a4 a5 a6 a8 : Int) (M : Mem) : Res := blet (a8 + 1) fun v1 => R96 a1 a2 a3 a4 a5 a6 v1 M
theorem z_Mo_turns_172 (C : Cx p s m args meth c G b_Mo_turns 12 "PrairiePoolModel" (some .int)) (hlev : 8 ≤ lev) {r : Int × Mem} {R81 : Int → Int → Int → Int → Mem → Res} {R96 : Int → Int → Int → Int → Int → Int → Int → Mem → Res} (hR81 : ∀ (a1 a2 a3 a4 : Int) (M : Mem), R81 a1 a2 a3 a4 M = some r → Z p l e lev s m args below meth c G 12 (MQ below (Qm G 1 r) args s 0 0 (Ab G)) M 81 [(0, .ref (G.1 + 111)), (1, vi a1), (2, vi a2), (3, vi a3), (4, vi a4)] []) (hR96 : ∀ (a1 a2 a3 a4 a5 a6 a8 : Int) (M : Mem), R96 a1 a2 a3 a4 a5 a6 a8 M = some r → Z p l e lev s m args below meth c G 12 (MQ below (Qm G 1 r) args s 0 0 (Ab G)) M 96 [(0, .ref (G.1 + 111)), (1, vi a1), (2, vi a2), (3, vi a3), (4, vi a4), (5, vi a5), (6, vl a6), (8, vi a8)] []) {a1 a2 a3 a4 a5 a6 a8 : Int} {M : Mem} (h : k_Mo_turns_172 R81 R96 a1 a2 a3 a4 a5 a6 a8 M = some r) : Z p l e lev s m args below meth c G 12 (MQ below (Qm G 1 r) args s 0 0 (Ab G)) M 172 [(0, .ref (G.1 + 111)), (1, vi a1), (2, vi a2), (3, vi a3), (4, vi a4), (5, vi a5), (6, vl a6), (8, vi a8)] [] := by
  unfold k_Mo_turns_172 at h
  obtain ⟨v1, ev1, h⟩ := blet_e h
  refine z_iinc (lv' := [(8, vi v1), (0, .ref (G.1 + 111)), (1, vi a1), (2, vi a2), (3, vi a3), (4, vi a4), (5, vi a5), (6, vl a6)]) C 7 ev1 x_Mo_turns_172 rfl (i_lt rfl) rfl ?_
  refine z_goto (tgt := 96) C x_Mo_turns_175 rfl ?_
  exact z_sub [1, 2, 3, 4, 5, 6, 7, 0] rfl (hR96 a1 a2 a3 a4 a5 a6 v1 M h)
def k_Mo_turns_164 (R81 : Int → Int → Int → Int → Mem → Res) (R96 : Int → Int → Int → Int → Int → Int → Int → Mem → Res) (a1 a2 a3 a4 a8 a10 : Int) (M : Mem) : Res := k_Mo_turns_172 R81 R96 a1 a2 a3 a4 a8 a10 a8 M
theorem z_Mo_turns_164 (C : Cx p s m args meth c G b_Mo_turns 12 "PrairiePoolModel" (some .int)) (hlev : 8 ≤ lev) {r : Int × Mem} {R81 : Int → Int → Int → Int → Mem → Res} {R96 : Int → Int → Int → Int → Int → Int → Int → Mem → Res} (hR81 : ∀ (a1 a2 a3 a4 : Int) (M : Mem), R81 a1 a2 a3 a4 M = some r → Z p l e lev s m args below meth c G 12 (MQ below (Qm G 1 r) args s 0 0 (Ab G)) M 81 [(0, .ref (G.1 + 111)), (1, vi a1), (2, vi a2), (3, vi a3), (4, vi a4)] []) (hR96 : ∀ (a1 a2 a3 a4 a5 a6 a8 : Int) (M : Mem), R96 a1 a2 a3 a4 a5 a6 a8 M = some r → Z p l e lev s m args below meth c G 12 (MQ below (Qm G 1 r) args s 0 0 (Ab G)) M 96 [(0, .ref (G.1 + 111)), (1, vi a1), (2, vi a2), (3, vi a3), (4, vi a4), (5, vi a5), (6, vl a6), (8, vi a8)] []) {a1 a2 a3 a4 a8 a10 : Int} {M : Mem} (h : k_Mo_turns_164 R81 R96 a1 a2 a3 a4 a8 a10 M = some r) : Z p l e lev s m args below meth c G 12 (MQ below (Qm G 1 r) args s 0 0 (Ab G)) M 164 [(0, .ref (G.1 + 111)), (1, vi a1), (2, vi a2), (3, vi a3), (4, vi a4), (8, vi a8), (10, vl a10)] [] := by
  unfold k_Mo_turns_164 at h
  refine z_iload C 5 x_Mo_turns_164 rfl ?_
  refine z_istore (lv' := [(5, vi a8), (0, .ref (G.1 + 111)), (1, vi a1), (2, vi a2), (3, vi a3), (4, vi a4), (8, vi a8), (10, vl a10)]) C rfl x_Mo_turns_166 (i_lt rfl) rfl ?_
  refine z_lload C 7 x_Mo_turns_168 rfl ?_
  refine z_lstore (lv' := [(6, vl a10), (5, vi a8), (0, .ref (G.1 + 111)), (1, vi a1), (2, vi a2), (3, vi a3), (4, vi a4), (8, vi a8), (10, vl a10)]) C rfl x_Mo_turns_170 (i_lt rfl) rfl ?_
  exact z_sub [2, 3, 4, 5, 6, 1, 0, 7] rfl (z_Mo_turns_172 C hlev hR81 hR96 h)
def k_Mo_turns_96 (R81 : Int → Int → Int → Int → Mem → Res) (R96 : Int → Int → Int → Int → Int → Int → Int → Mem → Res) (a1 a2 a3 a4 a5 a6 a8 : Int) (M : Mem) : Res := blet (M 111 6) fun v1 => if w32 a8 < w32 v1 then (bcall (d_Mo_inElevator a8 M) fun v3 M4 => chk (0 ≤ w32 a8 ∧ w32 a8 < 8) <| blet (M4 188 (ix a8)) fun v6 => blet (mx32 0 (v3 - (1000 * v6))) fun v7 => if w32 v7 = 0 then (k_Mo_turns_172 R81 R96 a1 a2 a3 a4 a5 a6 a8 M4) else (bcall (d_Mo_turnOf a8 a1 v7 M4) fun v9 M10 => if w32 a5 < 0 then (k_Mo_turns_164 R81 R96 a1 a2 a3 a4 a8 v9 M10) else (if w64 a6 < w64 v9 then (k_Mo_turns_164 R81 R96 a1 a2 a3 a4 a8 v9 M10) else (k_Mo_turns_172 R81 R96 a1 a2 a3 a4 a5 a6 a8 M10)))) else (if w32 a5 < 0 then (k_Mo_turns_203 a3 M) else (chk (0 ≤ w32 a5 ∧ w32 a5 < 8) <| blet (M 188 (ix a5)) fun v15 => chk (0 ≤ w32 a5 ∧ w32 a5 < 8) <| blet (sto M 188 (ix a5) (v15 + 1)) fun M17 => blet (a4 + 1) fun v18 => R81 a1 a2 a3 v18 M17))
theorem z_Mo_turns_96 (C : Cx p s m args meth c G b_Mo_turns 12 "PrairiePoolModel" (some .int)) (hlev : 8 ≤ lev) {r : Int × Mem} {R81 : Int → Int → Int → Int → Mem → Res} {R96 : Int → Int → Int → Int → Int → Int → Int → Mem → Res} (hR81 : ∀ (a1 a2 a3 a4 : Int) (M : Mem), R81 a1 a2 a3 a4 M = some r → Z p l e lev s m args below meth c G 12 (MQ below (Qm G 1 r) args s 0 0 (Ab G)) M 81 [(0, .ref (G.1 + 111)), (1, vi a1), (2, vi a2), (3, vi a3), (4, vi a4)] []) (hR96 : ∀ (a1 a2 a3 a4 a5 a6 a8 : Int) (M : Mem), R96 a1 a2 a3 a4 a5 a6 a8 M = some r → Z p l e lev s m args below meth c G 12 (MQ below (Qm G 1 r) args s 0 0 (Ab G)) M 96 [(0, .ref (G.1 + 111)), (1, vi a1), (2, vi a2), (3, vi a3), (4, vi a4), (5, vi a5), (6, vl a6), (8, vi a8)] []) {a1 a2 a3 a4 a5 a6 a8 : Int} {M : Mem} (h : k_Mo_turns_96 R81 R96 a1 a2 a3 a4 a5 a6 a8 M = some r) : Z p l e lev s m args below meth c G 12 (MQ below (Qm G 1 r) args s 0 0 (Ab G)) M 96 [(0, .ref (G.1 + 111)), (1, vi a1), (2, vi a2), (3, vi a3), (4, vi a4), (5, vi a5), (6, vl a6), (8, vi a8)] [] := by
  unfold k_Mo_turns_96 at h
  refine z_iload C 7 x_Mo_turns_96 rfl ?_
  refine z_aload_n C 0 x_Mo_turns_98 rfl ?_
  obtain ⟨v1, ev1, h⟩ := blet_e h
  refine z_getI (j := 6) C x_Mo_turns_99 nk_111 ck_111 cw_12 (i_lt rfl) rfl rfl fl_Mo_294 ev1 ?_
  rcases ite_e h with ⟨c2, h⟩ | ⟨c2, h⟩
  · refine z_icmp_ge_f (tgt := 178) C x_Mo_turns_102 rfl c2 ?_
    refine z_iconst C x_Mo_turns_105 ?_
    refine z_aload_n C 0 x_Mo_turns_106 rfl ?_
    refine z_iload C 7 x_Mo_turns_107 rfl ?_
    obtain ⟨v3, M4, fv3, h⟩ := bcall_e h
    refine z_callVi (k := 111) C x_Mo_turns_109 cv_Mo_390 (t_Mo_inElevator (lev := lev - 1) l G (by omega) fv3) nk_111 ck_111 rfl (by omega) rfl (i_le rfl) rfl ?_
    refine z_sipush C rfl x_Mo_turns_112 ?_
    refine z_aload_n C 0 x_Mo_turns_115 rfl ?_
    refine z_getR (j := 106) C x_Mo_turns_116 nk_111 ck_111 cw_12 (i_lt rfl) rfl rf_111_106 rfl fl_Mo_254 ?_
    refine z_iload C 7 x_Mo_turns_119 rfl ?_
    obtain ⟨c5, h⟩ := chk_e h
    obtain ⟨v6, ev6, h⟩ := blet_e h
    refine z_iald C x_Mo_turns_121 nk_188 ck_188 c5 ev6 ?_
    refine z_imul C x_Mo_turns_122 ?_
    refine z_isub C x_Mo_turns_123 ?_
    refine z_mx32 C x_Mo_turns_124 cs_Mo_393 (by omega) (i_le rfl) ?_
    obtain ⟨v7, ev7, h⟩ := blet_e h
    refine z_istore (lv' := [(9, vi v7), (0, .ref (G.1 + 111)), (1, vi a1), (2, vi a2), (3, vi a3), (4, vi a4), (5, vi a5), (6, vl a6), (8, vi a8)]) C ev7 x_Mo_turns_127 (i_lt rfl) rfl ?_
    refine z_iload C 0 x_Mo_turns_129 rfl ?_
    rcases ite_e h with ⟨c8, h⟩ | ⟨c8, h⟩
    · refine z_if_ne_f (tgt := 137) C x_Mo_turns_131 rfl c8 ?_
      refine z_goto (tgt := 172) C x_Mo_turns_134 rfl ?_
      exact z_sub [1, 2, 3, 4, 5, 6, 7, 8] rfl (z_Mo_turns_172 C hlev hR81 hR96 h)
    · refine z_if_ne_t (tgt := 137) C x_Mo_turns_131 rfl c8 ?_
      refine z_aload_n C 1 x_Mo_turns_137 rfl ?_
      refine z_iload C 8 x_Mo_turns_138 rfl ?_
      refine z_iload_n C 2 x_Mo_turns_140 rfl ?_
      refine z_iload C 0 x_Mo_turns_141 rfl ?_
      obtain ⟨v9, M10, fv9, h⟩ := bcall_e h
      refine z_callVl (k := 111) C x_Mo_turns_143 cv_Mo_626 (t_Mo_turnOf (lev := lev - 1) l G (by omega) fv9) nk_111 ck_111 rfl (by omega) rfl (i_le rfl) rfl ?_
      refine z_lstore (lv' := [(10, vl v9), (9, vi v7), (0, .ref (G.1 + 111)), (1, vi a1), (2, vi a2), (3, vi a3), (4, vi a4), (5, vi a5), (6, vl a6), (8, vi a8)]) C rfl x_Mo_turns_146 (i_lt rfl) rfl ?_
      refine z_iload C 7 x_Mo_turns_148 rfl ?_
      rcases ite_e h with ⟨c11, h⟩ | ⟨c11, h⟩
      · refine z_if_lt_t (tgt := 164) C x_Mo_turns_150 rfl c11 ?_
        exact z_sub [2, 3, 4, 5, 6, 9, 0] rfl (z_Mo_turns_164 C hlev hR81 hR96 h)
      · refine z_if_lt_f (tgt := 164) C x_Mo_turns_150 rfl c11 ?_
        refine z_lload C 0 x_Mo_turns_153 rfl ?_
        refine z_lload C 8 x_Mo_turns_155 rfl ?_
        refine z_lcmp C x_Mo_turns_157 ?_
        rcases ite_e h with ⟨c12, h⟩ | ⟨c12, h⟩
        · refine z_if_gt_t (tgt := 164) C x_Mo_turns_158 rfl (cm_gt.mpr c12) ?_
          exact z_sub [2, 3, 4, 5, 6, 9, 0] rfl (z_Mo_turns_164 C hlev hR81 hR96 h)
        · refine z_if_gt_f (tgt := 164) C x_Mo_turns_158 rfl (fun q => c12 (cm_gt.mp q)) ?_
          refine z_goto (tgt := 172) C x_Mo_turns_161 rfl ?_
          exact z_sub [2, 3, 4, 5, 6, 7, 8, 9] rfl (z_Mo_turns_172 C hlev hR81 hR96 h)
  · refine z_icmp_ge_t (tgt := 178) C x_Mo_turns_102 rfl c2 ?_
    refine z_iload C 5 x_Mo_turns_178 rfl ?_
    rcases ite_e h with ⟨c13, h⟩ | ⟨c13, h⟩
    · refine z_if_ge_f (tgt := 186) C x_Mo_turns_180 rfl c13 ?_
      refine z_goto (tgt := 203) C x_Mo_turns_183 rfl ?_
      exact z_sub [0, 3] rfl (z_Mo_turns_203 C hlev h)
    · refine z_if_ge_t (tgt := 186) C x_Mo_turns_180 rfl c13 ?_
      refine z_aload_n C 0 x_Mo_turns_186 rfl ?_
      refine z_getR (j := 106) C x_Mo_turns_187 nk_111 ck_111 cw_12 (i_lt rfl) rfl rf_111_106 rfl fl_Mo_254 ?_
      refine z_iload C 5 x_Mo_turns_190 rfl ?_
      refine z_dup2 C x_Mo_turns_192 rfl rfl ?_
      obtain ⟨c14, h⟩ := chk_e h
      obtain ⟨v15, ev15, h⟩ := blet_e h
      refine z_iald C x_Mo_turns_193 nk_188 ck_188 c14 ev15 ?_
      refine z_iconst C x_Mo_turns_194 ?_
      refine z_iadd C x_Mo_turns_195 ?_
      obtain ⟨c16, h⟩ := chk_e h
      obtain ⟨M17, eM17, h⟩ := blet_e h
      refine z_iast C x_Mo_turns_196 nk_188 ck_188 c16 eM17 ?_
      obtain ⟨v18, ev18, h⟩ := blet_e h
      refine z_iinc (lv' := [(4, vi v18), (0, .ref (G.1 + 111)), (1, vi a1), (2, vi a2), (3, vi a3), (5, vi a5), (6, vl a6), (8, vi a8)]) C 4 ev18 x_Mo_turns_197 rfl (i_lt rfl) rfl ?_
      refine z_goto (tgt := 81) C x_Mo_turns_200 rfl ?_
      exact z_sub [1, 2, 3, 4, 0] rfl (hR81 a1 a2 a3 v18 M17 h)
theorem zl_Mo_turns_96 (C : Cx p s m args meth c G b_Mo_turns 12 "PrairiePoolModel" (some .int)) (hlev : 8 ≤ lev) {r : Int × Mem} {R81 : Int → Int → Int → Int → Mem → Res} (hR81 : ∀ (a1 a2 a3 a4 : Int) (M : Mem), R81 a1 a2 a3 a4 M = some r → Z p l e lev s m args below meth c G 12 (MQ below (Qm G 1 r) args s 0 0 (Ab G)) M 81 [(0, .ref (G.1 + 111)), (1, vi a1), (2, vi a2), (3, vi a3), (4, vi a4)] []) : ∀ (n : Nat) (a1 a2 a3 a4 a5 a6 a8 : Int) (M : Mem), fix (fun _ _ _ _ _ _ _ _ => none) (k_Mo_turns_96 R81) n a1 a2 a3 a4 a5 a6 a8 M = some r → Z p l e lev s m args below meth c G 12 (MQ below (Qm G 1 r) args s 0 0 (Ab G)) M 96 [(0, .ref (G.1 + 111)), (1, vi a1), (2, vi a2), (3, vi a3), (4, vi a4), (5, vi a5), (6, vl a6), (8, vi a8)] [] := by
  intro n
  induction n with
  | zero => intro a1 a2 a3 a4 a5 a6 a8 M h; exact nomatch (show (none : Res) = some r from h)
  | succ n ih => intro a1 a2 a3 a4 a5 a6 a8 M h; exact z_Mo_turns_96 C hlev hR81 ih h
def k_Mo_turns_81 (R81 : Int → Int → Int → Int → Mem → Res) (a1 a2 a3 a4 : Int) (M : Mem) : Res := if w32 a4 < w32 a2 then (fix (fun _ _ _ _ _ _ _ _ => none) (k_Mo_turns_96 R81) FU a1 a2 a3 a4 (-1) 0 0 M) else (k_Mo_turns_203 a3 M)
theorem z_Mo_turns_81 (C : Cx p s m args meth c G b_Mo_turns 12 "PrairiePoolModel" (some .int)) (hlev : 8 ≤ lev) {r : Int × Mem} {R81 : Int → Int → Int → Int → Mem → Res} (hR81 : ∀ (a1 a2 a3 a4 : Int) (M : Mem), R81 a1 a2 a3 a4 M = some r → Z p l e lev s m args below meth c G 12 (MQ below (Qm G 1 r) args s 0 0 (Ab G)) M 81 [(0, .ref (G.1 + 111)), (1, vi a1), (2, vi a2), (3, vi a3), (4, vi a4)] []) {a1 a2 a3 a4 : Int} {M : Mem} (h : k_Mo_turns_81 R81 a1 a2 a3 a4 M = some r) : Z p l e lev s m args below meth c G 12 (MQ below (Qm G 1 r) args s 0 0 (Ab G)) M 81 [(0, .ref (G.1 + 111)), (1, vi a1), (2, vi a2), (3, vi a3), (4, vi a4)] [] := by
  unfold k_Mo_turns_81 at h
  refine z_iload C 4 x_Mo_turns_81 rfl ?_
  refine z_iload_n C 2 x_Mo_turns_83 rfl ?_
  rcases ite_e h with ⟨c1, h⟩ | ⟨c1, h⟩
  · refine z_icmp_ge_f (tgt := 203) C x_Mo_turns_84 rfl c1 ?_
    refine z_iconst C x_Mo_turns_87 ?_
    refine z_istore (lv' := [(5, vi (-1)), (0, .ref (G.1 + 111)), (1, vi a1), (2, vi a2), (3, vi a3), (4, vi a4)]) C rfl x_Mo_turns_88 (i_lt rfl) rfl ?_
    refine z_lconst0 C x_Mo_turns_90 ?_
    refine z_lstore (lv' := [(6, vl 0), (5, vi (-1)), (0, .ref (G.1 + 111)), (1, vi a1), (2, vi a2), (3, vi a3), (4, vi a4)]) C rfl x_Mo_turns_91 (i_lt rfl) rfl ?_
    refine z_iconst C x_Mo_turns_93 ?_
    refine z_istore (lv' := [(8, vi 0), (6, vl 0), (5, vi (-1)), (0, .ref (G.1 + 111)), (1, vi a1), (2, vi a2), (3, vi a3), (4, vi a4)]) C rfl x_Mo_turns_94 (i_lt rfl) rfl ?_
    exact z_sub [3, 4, 5, 6, 7, 2, 1, 0] rfl (zl_Mo_turns_96 C hlev hR81 FU a1 a2 a3 a4 (-1) 0 0 M h)
  · refine z_icmp_ge_t (tgt := 203) C x_Mo_turns_84 rfl c1 ?_
    exact z_sub [0, 3] rfl (z_Mo_turns_203 C hlev h)
theorem zl_Mo_turns_81 (C : Cx p s m args meth c G b_Mo_turns 12 "PrairiePoolModel" (some .int)) (hlev : 8 ≤ lev) {r : Int × Mem}  : ∀ (n : Nat) (a1 a2 a3 a4 : Int) (M : Mem), fix (fun _ _ _ _ _ => none) (k_Mo_turns_81) n a1 a2 a3 a4 M = some r → Z p l e lev s m args below meth c G 12 (MQ below (Qm G 1 r) args s 0 0 (Ab G)) M 81 [(0, .ref (G.1 + 111)), (1, vi a1), (2, vi a2), (3, vi a3), (4, vi a4)] [] := by
  intro n
  induction n with
  | zero => intro a1 a2 a3 a4 M h; exact nomatch (show (none : Res) = some r from h)
  | succ n ih => intro a1 a2 a3 a4 M h; exact z_Mo_turns_81 C hlev ih h
def k_Mo_turns_57 (R57 : Int → Int → Int → Int → Mem → Res) (a1 a2 a3 a4 : Int) (M : Mem) : Res := if w32 a4 < 8 then (chk (0 ≤ w32 a4 ∧ w32 a4 < 8) <| blet (sto M 188 (ix a4) 0) fun M3 => blet (a4 + 1) fun v4 => R57 a1 a2 a3 v4 M3) else (fix (fun _ _ _ _ _ => none) (k_Mo_turns_81) FU a1 a2 a3 0 M)
theorem z_Mo_turns_57 (C : Cx p s m args meth c G b_Mo_turns 12 "PrairiePoolModel" (some .int)) (hlev : 8 ≤ lev) {r : Int × Mem} {R57 : Int → Int → Int → Int → Mem → Res} (hR57 : ∀ (a1 a2 a3 a4 : Int) (M : Mem), R57 a1 a2 a3 a4 M = some r → Z p l e lev s m args below meth c G 12 (MQ below (Qm G 1 r) args s 0 0 (Ab G)) M 57 [(0, .ref (G.1 + 111)), (1, vi a1), (2, vi a2), (3, vi a3), (4, vi a4)] []) {a1 a2 a3 a4 : Int} {M : Mem} (h : k_Mo_turns_57 R57 a1 a2 a3 a4 M = some r) : Z p l e lev s m args below meth c G 12 (MQ below (Qm G 1 r) args s 0 0 (Ab G)) M 57 [(0, .ref (G.1 + 111)), (1, vi a1), (2, vi a2), (3, vi a3), (4, vi a4)] [] := by
  unfold k_Mo_turns_57 at h
  refine z_iload C 4 x_Mo_turns_57 rfl ?_
  refine z_bipush C rfl x_Mo_turns_59 ?_
  rcases ite_e h with ⟨c1, h⟩ | ⟨c1, h⟩
  · refine z_icmp_ge_f (tgt := 78) C x_Mo_turns_61 rfl c1 ?_
    refine z_aload_n C 0 x_Mo_turns_64 rfl ?_
    refine z_getR (j := 106) C x_Mo_turns_65 nk_111 ck_111 cw_12 (i_lt rfl) rfl rf_111_106 rfl fl_Mo_254 ?_
    refine z_iload C 4 x_Mo_turns_68 rfl ?_
    refine z_iconst C x_Mo_turns_70 ?_
    obtain ⟨c2, h⟩ := chk_e h
    obtain ⟨M3, eM3, h⟩ := blet_e h
    refine z_iast C x_Mo_turns_71 nk_188 ck_188 c2 eM3 ?_
    obtain ⟨v4, ev4, h⟩ := blet_e h
    refine z_iinc (lv' := [(4, vi v4), (0, .ref (G.1 + 111)), (1, vi a1), (2, vi a2), (3, vi a3)]) C 4 ev4 x_Mo_turns_72 rfl (i_lt rfl) rfl ?_
    refine z_goto (tgt := 57) C x_Mo_turns_75 rfl ?_
    exact z_sub [1, 2, 3, 4, 0] rfl (hR57 a1 a2 a3 v4 M3 h)
  · refine z_icmp_ge_t (tgt := 78) C x_Mo_turns_61 rfl c1 ?_
    refine z_iconst C x_Mo_turns_78 ?_
    refine z_istore (lv' := [(4, vi 0), (0, .ref (G.1 + 111)), (1, vi a1), (2, vi a2), (3, vi a3)]) C rfl x_Mo_turns_79 (i_lt rfl) rfl ?_
    exact z_sub [1, 2, 3, 4, 0] rfl (zl_Mo_turns_81 C hlev FU a1 a2 a3 0 M h)
theorem zl_Mo_turns_57 (C : Cx p s m args meth c G b_Mo_turns 12 "PrairiePoolModel" (some .int)) (hlev : 8 ≤ lev) {r : Int × Mem}  : ∀ (n : Nat) (a1 a2 a3 a4 : Int) (M : Mem), fix (fun _ _ _ _ _ => none) (k_Mo_turns_57) n a1 a2 a3 a4 M = some r → Z p l e lev s m args below meth c G 12 (MQ below (Qm G 1 r) args s 0 0 (Ab G)) M 57 [(0, .ref (G.1 + 111)), (1, vi a1), (2, vi a2), (3, vi a3), (4, vi a4)] [] := by
  intro n
  induction n with
  | zero => intro a1 a2 a3 a4 M h; exact nomatch (show (none : Res) = some r from h)
  | succ n ih => intro a1 a2 a3 a4 M h; exact z_Mo_turns_57 C hlev ih h
def k_Mo_turns_43 (M : Mem) : Res := bcall (d_Mo_refuse 5 M) fun v1 M2 => some (v1, M2)
theorem z_Mo_turns_43 (C : Cx p s m args meth c G b_Mo_turns 12 "PrairiePoolModel" (some .int)) (hlev : 8 ≤ lev) {r : Int × Mem}  {M : Mem} (h : k_Mo_turns_43 M = some r) : Z p l e lev s m args below meth c G 12 (MQ below (Qm G 1 r) args s 0 0 (Ab G)) M 43 [(0, .ref (G.1 + 111))] [] := by
  unfold k_Mo_turns_43 at h
  refine z_aload_n C 0 x_Mo_turns_43 rfl ?_
  refine z_iconst C x_Mo_turns_44 ?_
  obtain ⟨v1, M2, fv1, h⟩ := bcall_e h
  refine z_callVi (k := 111) C x_Mo_turns_45 cv_Mo_297 (t_Mo_refuse (lev := lev - 1) l G (by omega) fv1) nk_111 ck_111 rfl (by omega) rfl (i_le rfl) rfl ?_
  exact z_iret C x_Mo_turns_48 h
def d_Mo_turns (a1 a2 a3 : Int) (M : Mem) : Res := blet (sto M 111 1 0) fun M1 => blet (sto M1 111 0 0) fun M2 => bcall (d_Mo_isElevator a3 M2) fun v3 M4 => if w32 v3 = 0 then (bcall (d_Mo_refuse 2 M4) fun v6 M7 => some (v6, M7)) else (bcall (d_Mo_isDay a1 M4) fun v8 M9 => if w32 v8 = 0 then (k_Mo_turns_43 M9) else (bcall (d_Mo_isIn (w32 a2) 1 20 M9) fun v11 M12 => if w32 v11 = 0 then (k_Mo_turns_43 M12) else (bcall (d_Mo_play a1 M12) fun v14 M15 => fix (fun _ _ _ _ _ => none) (k_Mo_turns_57) FU a1 a2 a3 0 M15)))
theorem t_Mo_turns (l : Launch) (G : GX) {lev : Nat} (hlev : 8 ≤ lev) {a1 a2 a3 : Int} {M : Mem} {r : Int × Mem} (h : d_Mo_turns a1 a2 a3 M = some r) : Mt l G y_Mo_turns b_Mo_turns 12 (some .int) lev 1 [.ref (G.1 + 111), vi a1, vi a2, vi a3] M r := by
  refine Mt.of (by decide) (i_le rfl) ?_
  intro p e s m args below meth c C
  have C : Cx p s m args meth c G b_Mo_turns 12 "PrairiePoolModel" (some .int) := C
  unfold d_Mo_turns at h
  refine z_sub (lv' := [(0, .ref (G.1 + 111)), (1, vi a1), (2, vi a2), (3, vi a3)]) [0, 1, 2, 3] rfl ?_
  refine z_aload_n C 0 x_Mo_turns_0 rfl ?_
  refine z_iconst C x_Mo_turns_1 ?_
  obtain ⟨M1, eM1, h⟩ := blet_e h
  refine z_putI (j := 1) C x_Mo_turns_2 nk_111 ck_111 cw_12 (i_lt rfl) rfl rfl rfl rfl fl_Mo_257 eM1 ?_
  refine z_aload_n C 0 x_Mo_turns_5 rfl ?_
  refine z_iconst C x_Mo_turns_6 ?_
  obtain ⟨M2, eM2, h⟩ := blet_e h
  refine z_putI (j := 0) C x_Mo_turns_7 nk_111 ck_111 cw_12 (i_lt rfl) rfl rfl rfl rfl fl_Mo_260 eM2 ?_
  refine z_aload_n C 0 x_Mo_turns_10 rfl ?_
  refine z_iload_n C 3 x_Mo_turns_11 rfl ?_
  obtain ⟨v3, M4, fv3, h⟩ := bcall_e h
  refine z_callVi (k := 111) C x_Mo_turns_12 cv_Mo_321 (t_Mo_isElevator (lev := lev - 1) l G (by omega) fv3) nk_111 ck_111 rfl (by omega) rfl (i_le rfl) rfl ?_
  rcases ite_e h with ⟨c5, h⟩ | ⟨c5, h⟩
  · refine z_if_ne_f (tgt := 24) C x_Mo_turns_15 rfl c5 ?_
    refine z_aload_n C 0 x_Mo_turns_18 rfl ?_
    refine z_iconst C x_Mo_turns_19 ?_
    obtain ⟨v6, M7, fv6, h⟩ := bcall_e h
    refine z_callVi (k := 111) C x_Mo_turns_20 cv_Mo_297 (t_Mo_refuse (lev := lev - 1) l G (by omega) fv6) nk_111 ck_111 rfl (by omega) rfl (i_le rfl) rfl ?_
    exact z_iret C x_Mo_turns_23 h
  · refine z_if_ne_t (tgt := 24) C x_Mo_turns_15 rfl c5 ?_
    refine z_iload_n C 1 x_Mo_turns_24 rfl ?_
    obtain ⟨v8, M9, fv8, h⟩ := bcall_e h
    refine z_callSi C x_Mo_turns_25 cs_Mo_306 (t_Mo_isDay (lev := lev - 1) l G (by omega) fv8) (by omega) rfl (i_le rfl) rfl ?_
    rcases ite_e h with ⟨c10, h⟩ | ⟨c10, h⟩
    · refine z_if_eq_t (tgt := 43) C x_Mo_turns_28 rfl c10 ?_
      exact z_sub [0] rfl (z_Mo_turns_43 C hlev h)
    · refine z_if_eq_f (tgt := 43) C x_Mo_turns_28 rfl c10 ?_
      refine z_iload_n C 2 x_Mo_turns_31 rfl ?_
      refine z_i2l C x_Mo_turns_32 ?_
      refine z_lconst1 C x_Mo_turns_33 ?_
      refine z_ldc2 C kl_Mo_624 x_Mo_turns_34 ?_
      obtain ⟨v11, M12, fv11, h⟩ := bcall_e h
      refine z_callSi C x_Mo_turns_37 cs_Mo_265 (t_Mo_isIn (lev := lev - 1) l G (by omega) fv11) (by omega) rfl (i_le rfl) rfl ?_
      rcases ite_e h with ⟨c13, h⟩ | ⟨c13, h⟩
      · refine z_if_ne_f (tgt := 49) C x_Mo_turns_40 rfl c13 ?_
        exact z_sub [0] rfl (z_Mo_turns_43 C hlev h)
      · refine z_if_ne_t (tgt := 49) C x_Mo_turns_40 rfl c13 ?_
        refine z_aload_n C 0 x_Mo_turns_49 rfl ?_
        refine z_iload_n C 1 x_Mo_turns_50 rfl ?_
        obtain ⟨v14, M15, fv14, h⟩ := bcall_e h
        refine z_callVv (k := 111) C x_Mo_turns_51 cv_Mo_403 (t_Mo_play (lev := lev - 1) l G (by omega) fv14) nk_111 ck_111 rfl (by omega) rfl (i_le rfl) rfl ?_
        refine z_iconst C x_Mo_turns_54 ?_
        refine z_istore (lv' := [(4, vi 0), (0, .ref (G.1 + 111)), (1, vi a1), (2, vi a2), (3, vi a3)]) C rfl x_Mo_turns_55 (i_lt rfl) rfl ?_
        exact z_sub [1, 2, 3, 4, 0] rfl (zl_Mo_turns_57 C hlev FU a1 a2 a3 0 M15 h)
theorem x_Mo_sign_0 : DC b_Mo_sign 0 (.aload_n 0) 1 1 := ⟨by decide +kernel, rfl⟩
theorem x_Mo_sign_1 : DC b_Mo_sign 1 (.iconst 0) 1 2 := ⟨by decide +kernel, rfl⟩
theorem x_Mo_sign_2 : DC b_Mo_sign 2 (.putfield 257) 3 5 := ⟨by decide +kernel, rfl⟩
theorem x_Mo_sign_5 : DC b_Mo_sign 5 (.aload_n 0) 1 6 := ⟨by decide +kernel, rfl⟩
theorem x_Mo_sign_6 : DC b_Mo_sign 6 (.iconst 0) 1 7 := ⟨by decide +kernel, rfl⟩
theorem x_Mo_sign_7 : DC b_Mo_sign 7 (.putfield 260) 3 10 := ⟨by decide +kernel, rfl⟩
theorem x_Mo_sign_10 : DC b_Mo_sign 10 (.aload_n 0) 1 11 := ⟨by decide +kernel, rfl⟩
theorem x_Mo_sign_11 : DC b_Mo_sign 11 (.iload_n 1) 1 12 := ⟨by decide +kernel, rfl⟩
theorem x_Mo_sign_12 : DC b_Mo_sign 12 (.invokevirtual 318) 3 15 := ⟨by decide +kernel, rfl⟩
theorem x_Mo_sign_15 : DC b_Mo_sign 15 (.ifCond .ne 9) 3 18 := ⟨by decide +kernel, rfl⟩
theorem x_Mo_sign_18 : DC b_Mo_sign 18 (.aload_n 0) 1 19 := ⟨by decide +kernel, rfl⟩
theorem x_Mo_sign_19 : DC b_Mo_sign 19 (.iconst 2) 1 20 := ⟨by decide +kernel, rfl⟩
theorem x_Mo_sign_20 : DC b_Mo_sign 20 (.invokevirtual 273) 3 23 := ⟨by decide +kernel, rfl⟩
theorem x_Mo_sign_23 : DC b_Mo_sign 23 (.ireturn) 1 24 := ⟨by decide +kernel, rfl⟩
theorem x_Mo_sign_24 : DC b_Mo_sign 24 (.iload_n 2) 1 25 := ⟨by decide +kernel, rfl⟩
theorem x_Mo_sign_25 : DC b_Mo_sign 25 (.invokestatic 335) 3 28 := ⟨by decide +kernel, rfl⟩
theorem x_Mo_sign_28 : DC b_Mo_sign 28 (.ifCond .eq 16) 3 31 := ⟨by decide +kernel, rfl⟩
theorem x_Mo_sign_31 : DC b_Mo_sign 31 (.iload_n 3) 1 32 := ⟨by decide +kernel, rfl⟩
theorem x_Mo_sign_32 : DC b_Mo_sign 32 (.i2l) 1 33 := ⟨by decide +kernel, rfl⟩
theorem x_Mo_sign_33 : DC b_Mo_sign 33 (.iload_n 2) 1 34 := ⟨by decide +kernel, rfl⟩
theorem x_Mo_sign_34 : DC b_Mo_sign 34 (.i2l) 1 35 := ⟨by decide +kernel, rfl⟩
theorem x_Mo_sign_35 : DC b_Mo_sign 35 (.ldc2_w 269) 3 38 := ⟨by decide +kernel, rfl⟩
theorem x_Mo_sign_38 : DC b_Mo_sign 38 (.invokestatic 265) 3 41 := ⟨by decide +kernel, rfl⟩
theorem x_Mo_sign_41 : DC b_Mo_sign 41 (.ifCond .ne 9) 3 44 := ⟨by decide +kernel, rfl⟩
theorem x_Mo_sign_44 : DC b_Mo_sign 44 (.aload_n 0) 1 45 := ⟨by decide +kernel, rfl⟩
theorem x_Mo_sign_45 : DC b_Mo_sign 45 (.iconst 5) 1 46 := ⟨by decide +kernel, rfl⟩
theorem x_Mo_sign_46 : DC b_Mo_sign 46 (.invokevirtual 273) 3 49 := ⟨by decide +kernel, rfl⟩
theorem x_Mo_sign_49 : DC b_Mo_sign 49 (.ireturn) 1 50 := ⟨by decide +kernel, rfl⟩
theorem x_Mo_sign_50 : DC b_Mo_sign 50 (.aload_n 0) 1 51 := ⟨by decide +kernel, rfl⟩
theorem x_Mo_sign_51 : DC b_Mo_sign 51 (.getfield 176) 3 54 := ⟨by decide +kernel, rfl⟩
theorem x_Mo_sign_54 : DC b_Mo_sign 54 (.iload_n 1) 1 55 := ⟨by decide +kernel, rfl⟩
theorem x_Mo_sign_55 : DC b_Mo_sign 55 (.iload_n 2) 1 56 := ⟨by decide +kernel, rfl⟩
theorem x_Mo_sign_56 : DC b_Mo_sign 56 (.iastore) 1 57 := ⟨by decide +kernel, rfl⟩
theorem x_Mo_sign_57 : DC b_Mo_sign 57 (.aload_n 0) 1 58 := ⟨by decide +kernel, rfl⟩
theorem x_Mo_sign_58 : DC b_Mo_sign 58 (.getfield 179) 3 61 := ⟨by decide +kernel, rfl⟩
theorem x_Mo_sign_61 : DC b_Mo_sign 61 (.iload_n 1) 1 62 := ⟨by decide +kernel, rfl⟩
theorem x_Mo_sign_62 : DC b_Mo_sign 62 (.iload_n 3) 1 63 := ⟨by decide +kernel, rfl⟩
theorem x_Mo_sign_63 : DC b_Mo_sign 63 (.iastore) 1 64 := ⟨by decide +kernel, rfl⟩
theorem x_Mo_sign_64 : DC b_Mo_sign 64 (.iconst 1) 1 65 := ⟨by decide +kernel, rfl⟩
theorem x_Mo_sign_65 : DC b_Mo_sign 65 (.ireturn) 1 66 := ⟨by decide +kernel, rfl⟩
def k_Mo_sign_44 (M : Mem) : Res := bcall (d_Mo_no 5 M) fun v1 M2 => chk (w32 v1 = 0 ∨ w32 v1 = 1) <| some (v1, M2)
theorem z_Mo_sign_44 (C : Cx p s m args meth c G b_Mo_sign 4 "PrairiePoolModel" (some .boolean)) (hlev : 2 ≤ lev) {r : Int × Mem}  {M : Mem} (h : k_Mo_sign_44 M = some r) : Z p l e lev s m args below meth c G 4 (MQ below (Qm G 1 r) args s 0 0 (Ab G)) M 44 [(0, .ref (G.1 + 111))] [] := by
  unfold k_Mo_sign_44 at h
  refine z_aload_n C 0 x_Mo_sign_44 rfl ?_
  refine z_iconst C x_Mo_sign_45 ?_
  obtain ⟨v1, M2, fv1, h⟩ := bcall_e h
  refine z_callVi (k := 111) C x_Mo_sign_46 cv_Mo_273 (t_Mo_no (lev := lev - 1) l G (by omega) fv1) nk_111 ck_111 rfl (by omega) rfl (i_le rfl) rfl ?_
  obtain ⟨c3, h⟩ := chk_e h
  exact z_zret C x_Mo_sign_49 c3 h
def d_Mo_sign (a1 a2 a3 : Int) (M : Mem) : Res := blet (sto M 111 1 0) fun M1 => blet (sto M1 111 0 0) fun M2 => bcall (d_Mo_isFarm a1 M2) fun v3 M4 => if w32 v3 = 0 then (bcall (d_Mo_no 2 M4) fun v6 M7 => chk (w32 v6 = 0 ∨ w32 v6 = 1) <| some (v6, M7)) else (bcall (d_Mo_isYear a2 M4) fun v9 M10 => if w32 v9 = 0 then (k_Mo_sign_44 M10) else (bcall (d_Mo_isIn (w32 a3) (w32 a2) 9 M10) fun v12 M13 => if w32 v12 = 0 then (k_Mo_sign_44 M13) else (chk (0 ≤ w32 a1 ∧ w32 a1 < 20) <| blet (sto M13 164 (ix a1) a2) fun M16 => chk (0 ≤ w32 a1 ∧ w32 a1 < 20) <| blet (sto M16 165 (ix a1) a3) fun M18 => some (1, M18))))
theorem t_Mo_sign (l : Launch) (G : GX) {lev : Nat} (hlev : 2 ≤ lev) {a1 a2 a3 : Int} {M : Mem} {r : Int × Mem} (h : d_Mo_sign a1 a2 a3 M = some r) : Mt l G y_Mo_sign b_Mo_sign 4 (some .boolean) lev 1 [.ref (G.1 + 111), vi a1, vi a2, vi a3] M r := by
  refine Mt.of (by decide) (i_le rfl) ?_
  intro p e s m args below meth c C
  have C : Cx p s m args meth c G b_Mo_sign 4 "PrairiePoolModel" (some .boolean) := C
  unfold d_Mo_sign at h
  refine z_sub (lv' := [(0, .ref (G.1 + 111)), (1, vi a1), (2, vi a2), (3, vi a3)]) [0, 1, 2, 3] rfl ?_
  refine z_aload_n C 0 x_Mo_sign_0 rfl ?_
  refine z_iconst C x_Mo_sign_1 ?_
  obtain ⟨M1, eM1, h⟩ := blet_e h
  refine z_putI (j := 1) C x_Mo_sign_2 nk_111 ck_111 cw_12 (i_lt rfl) rfl rfl rfl rfl fl_Mo_257 eM1 ?_
  refine z_aload_n C 0 x_Mo_sign_5 rfl ?_
  refine z_iconst C x_Mo_sign_6 ?_
  obtain ⟨M2, eM2, h⟩ := blet_e h
  refine z_putI (j := 0) C x_Mo_sign_7 nk_111 ck_111 cw_12 (i_lt rfl) rfl rfl rfl rfl fl_Mo_260 eM2 ?_
  refine z_aload_n C 0 x_Mo_sign_10 rfl ?_
  refine z_iload_n C 1 x_Mo_sign_11 rfl ?_
  obtain ⟨v3, M4, fv3, h⟩ := bcall_e h
  refine z_callVi (k := 111) C x_Mo_sign_12 cv_Mo_318 (t_Mo_isFarm (lev := lev - 1) l G (by omega) fv3) nk_111 ck_111 rfl (by omega) rfl (i_le rfl) rfl ?_
  rcases ite_e h with ⟨c5, h⟩ | ⟨c5, h⟩
  · refine z_if_ne_f (tgt := 24) C x_Mo_sign_15 rfl c5 ?_
    refine z_aload_n C 0 x_Mo_sign_18 rfl ?_
    refine z_iconst C x_Mo_sign_19 ?_
    obtain ⟨v6, M7, fv6, h⟩ := bcall_e h
    refine z_callVi (k := 111) C x_Mo_sign_20 cv_Mo_273 (t_Mo_no (lev := lev - 1) l G (by omega) fv6) nk_111 ck_111 rfl (by omega) rfl (i_le rfl) rfl ?_
    obtain ⟨c8, h⟩ := chk_e h
    exact z_zret C x_Mo_sign_23 c8 h
  · refine z_if_ne_t (tgt := 24) C x_Mo_sign_15 rfl c5 ?_
    refine z_iload_n C 2 x_Mo_sign_24 rfl ?_
    obtain ⟨v9, M10, fv9, h⟩ := bcall_e h
    refine z_callSi C x_Mo_sign_25 cs_Mo_335 (t_Mo_isYear (lev := lev - 1) l G (by omega) fv9) (by omega) rfl (i_le rfl) rfl ?_
    rcases ite_e h with ⟨c11, h⟩ | ⟨c11, h⟩
    · refine z_if_eq_t (tgt := 44) C x_Mo_sign_28 rfl c11 ?_
      exact z_sub [0] rfl (z_Mo_sign_44 C hlev h)
    · refine z_if_eq_f (tgt := 44) C x_Mo_sign_28 rfl c11 ?_
      refine z_iload_n C 3 x_Mo_sign_31 rfl ?_
      refine z_i2l C x_Mo_sign_32 ?_
      refine z_iload_n C 2 x_Mo_sign_33 rfl ?_
      refine z_i2l C x_Mo_sign_34 ?_
      refine z_ldc2 C kl_Mo_269 x_Mo_sign_35 ?_
      obtain ⟨v12, M13, fv12, h⟩ := bcall_e h
      refine z_callSi C x_Mo_sign_38 cs_Mo_265 (t_Mo_isIn (lev := lev - 1) l G (by omega) fv12) (by omega) rfl (i_le rfl) rfl ?_
      rcases ite_e h with ⟨c14, h⟩ | ⟨c14, h⟩
      · refine z_if_ne_f (tgt := 50) C x_Mo_sign_41 rfl c14 ?_
        exact z_sub [0] rfl (z_Mo_sign_44 C hlev h)
      · refine z_if_ne_t (tgt := 50) C x_Mo_sign_41 rfl c14 ?_
        refine z_aload_n C 0 x_Mo_sign_50 rfl ?_
        refine z_getR (j := 79) C x_Mo_sign_51 nk_111 ck_111 cw_12 (i_lt rfl) rfl rf_111_79 rfl fl_Mo_176 ?_
        refine z_iload_n C 1 x_Mo_sign_54 rfl ?_
        refine z_iload_n C 2 x_Mo_sign_55 rfl ?_
        obtain ⟨c15, h⟩ := chk_e h
        obtain ⟨M16, eM16, h⟩ := blet_e h
        refine z_iast C x_Mo_sign_56 nk_164 ck_164 c15 eM16 ?_
        refine z_aload_n C 0 x_Mo_sign_57 rfl ?_
        refine z_getR (j := 80) C x_Mo_sign_58 nk_111 ck_111 cw_12 (i_lt rfl) rfl rf_111_80 rfl fl_Mo_179 ?_
        refine z_iload_n C 1 x_Mo_sign_61 rfl ?_
        refine z_iload_n C 3 x_Mo_sign_62 rfl ?_
        obtain ⟨c17, h⟩ := chk_e h
        obtain ⟨M18, eM18, h⟩ := blet_e h
        refine z_iast C x_Mo_sign_63 nk_165 ck_165 c17 eM18 ?_
        refine z_iconst C x_Mo_sign_64 ?_
        exact z_zret C x_Mo_sign_65 (by decide) h
theorem x_Mo_let_0 : DC b_Mo_let 0 (.aload_n 0) 1 1 := ⟨by decide +kernel, rfl⟩
theorem x_Mo_let_1 : DC b_Mo_let 1 (.iconst 0) 1 2 := ⟨by decide +kernel, rfl⟩
theorem x_Mo_let_2 : DC b_Mo_let 2 (.putfield 257) 3 5 := ⟨by decide +kernel, rfl⟩
theorem x_Mo_let_5 : DC b_Mo_let 5 (.aload_n 0) 1 6 := ⟨by decide +kernel, rfl⟩
theorem x_Mo_let_6 : DC b_Mo_let 6 (.iconst 0) 1 7 := ⟨by decide +kernel, rfl⟩
theorem x_Mo_let_7 : DC b_Mo_let 7 (.putfield 260) 3 10 := ⟨by decide +kernel, rfl⟩
theorem x_Mo_let_10 : DC b_Mo_let 10 (.aload_n 0) 1 11 := ⟨by decide +kernel, rfl⟩
theorem x_Mo_let_11 : DC b_Mo_let 11 (.iload_n 1) 1 12 := ⟨by decide +kernel, rfl⟩
theorem x_Mo_let_12 : DC b_Mo_let 12 (.invokevirtual 318) 3 15 := ⟨by decide +kernel, rfl⟩
theorem x_Mo_let_15 : DC b_Mo_let 15 (.ifCond .ne 9) 3 18 := ⟨by decide +kernel, rfl⟩
theorem x_Mo_let_18 : DC b_Mo_let 18 (.aload_n 0) 1 19 := ⟨by decide +kernel, rfl⟩
theorem x_Mo_let_19 : DC b_Mo_let 19 (.iconst 2) 1 20 := ⟨by decide +kernel, rfl⟩
theorem x_Mo_let_20 : DC b_Mo_let 20 (.invokevirtual 273) 3 23 := ⟨by decide +kernel, rfl⟩
theorem x_Mo_let_23 : DC b_Mo_let 23 (.ireturn) 1 24 := ⟨by decide +kernel, rfl⟩
theorem x_Mo_let_24 : DC b_Mo_let 24 (.iload_n 2) 1 25 := ⟨by decide +kernel, rfl⟩
theorem x_Mo_let_25 : DC b_Mo_let 25 (.invokestatic 335) 3 28 := ⟨by decide +kernel, rfl⟩
theorem x_Mo_let_28 : DC b_Mo_let 28 (.ifCond .ne 9) 3 31 := ⟨by decide +kernel, rfl⟩
theorem x_Mo_let_31 : DC b_Mo_let 31 (.aload_n 0) 1 32 := ⟨by decide +kernel, rfl⟩
theorem x_Mo_let_32 : DC b_Mo_let 32 (.iconst 5) 1 33 := ⟨by decide +kernel, rfl⟩
theorem x_Mo_let_33 : DC b_Mo_let 33 (.invokevirtual 273) 3 36 := ⟨by decide +kernel, rfl⟩
theorem x_Mo_let_36 : DC b_Mo_let 36 (.ireturn) 1 37 := ⟨by decide +kernel, rfl⟩
theorem x_Mo_let_37 : DC b_Mo_let 37 (.aload_n 0) 1 38 := ⟨by decide +kernel, rfl⟩
theorem x_Mo_let_38 : DC b_Mo_let 38 (.getfield 200) 3 41 := ⟨by decide +kernel, rfl⟩
theorem x_Mo_let_41 : DC b_Mo_let 41 (.bipush 10) 2 43 := ⟨by decide +kernel, rfl⟩
theorem x_Mo_let_43 : DC b_Mo_let 43 (.iload_n 1) 1 44 := ⟨by decide +kernel, rfl⟩
theorem x_Mo_let_44 : DC b_Mo_let 44 (.imul) 1 45 := ⟨by decide +kernel, rfl⟩
theorem x_Mo_let_45 : DC b_Mo_let 45 (.iload_n 2) 1 46 := ⟨by decide +kernel, rfl⟩
theorem x_Mo_let_46 : DC b_Mo_let 46 (.iadd) 1 47 := ⟨by decide +kernel, rfl⟩
theorem x_Mo_let_47 : DC b_Mo_let 47 (.iload_n 3) 1 48 := ⟨by decide +kernel, rfl⟩
theorem x_Mo_let_48 : DC b_Mo_let 48 (.bastore) 1 49 := ⟨by decide +kernel, rfl⟩
theorem x_Mo_let_49 : DC b_Mo_let 49 (.iconst 1) 1 50 := ⟨by decide +kernel, rfl⟩
theorem x_Mo_let_50 : DC b_Mo_let 50 (.ireturn) 1 51 := ⟨by decide +kernel, rfl⟩
def d_Mo_let (a1 a2 a3 : Int) (M : Mem) : Res := blet (sto M 111 1 0) fun M1 => blet (sto M1 111 0 0) fun M2 => bcall (d_Mo_isFarm a1 M2) fun v3 M4 => if w32 v3 = 0 then (bcall (d_Mo_no 2 M4) fun v6 M7 => chk (w32 v6 = 0 ∨ w32 v6 = 1) <| some (v6, M7)) else (bcall (d_Mo_isYear a2 M4) fun v9 M10 => if w32 v9 = 0 then (bcall (d_Mo_no 5 M10) fun v12 M13 => chk (w32 v12 = 0 ∨ w32 v12 = 1) <| some (v12, M13)) else (chk (0 ≤ w32 ((10 * a1) + a2) ∧ w32 ((10 * a1) + a2) < 200) <| blet (sto M10 172 (ix ((10 * a1) + a2)) a3) fun M16 => some (1, M16)))
theorem t_Mo_let (l : Launch) (G : GX) {lev : Nat} (hlev : 2 ≤ lev) {a1 a2 a3 : Int} {M : Mem} {r : Int × Mem} (h : d_Mo_let a1 a2 a3 M = some r) : Mt l G y_Mo_let b_Mo_let 4 (some .boolean) lev 1 [.ref (G.1 + 111), vi a1, vi a2, vi a3] M r := by
  refine Mt.of (by decide) (i_le rfl) ?_
  intro p e s m args below meth c C
  have C : Cx p s m args meth c G b_Mo_let 4 "PrairiePoolModel" (some .boolean) := C
  unfold d_Mo_let at h
  refine z_sub (lv' := [(0, .ref (G.1 + 111)), (1, vi a1), (2, vi a2), (3, vi a3)]) [0, 1, 2, 3] rfl ?_
  refine z_aload_n C 0 x_Mo_let_0 rfl ?_
  refine z_iconst C x_Mo_let_1 ?_
  obtain ⟨M1, eM1, h⟩ := blet_e h
  refine z_putI (j := 1) C x_Mo_let_2 nk_111 ck_111 cw_12 (i_lt rfl) rfl rfl rfl rfl fl_Mo_257 eM1 ?_
  refine z_aload_n C 0 x_Mo_let_5 rfl ?_
  refine z_iconst C x_Mo_let_6 ?_
  obtain ⟨M2, eM2, h⟩ := blet_e h
  refine z_putI (j := 0) C x_Mo_let_7 nk_111 ck_111 cw_12 (i_lt rfl) rfl rfl rfl rfl fl_Mo_260 eM2 ?_
  refine z_aload_n C 0 x_Mo_let_10 rfl ?_
  refine z_iload_n C 1 x_Mo_let_11 rfl ?_
  obtain ⟨v3, M4, fv3, h⟩ := bcall_e h
  refine z_callVi (k := 111) C x_Mo_let_12 cv_Mo_318 (t_Mo_isFarm (lev := lev - 1) l G (by omega) fv3) nk_111 ck_111 rfl (by omega) rfl (i_le rfl) rfl ?_
  rcases ite_e h with ⟨c5, h⟩ | ⟨c5, h⟩
  · refine z_if_ne_f (tgt := 24) C x_Mo_let_15 rfl c5 ?_
    refine z_aload_n C 0 x_Mo_let_18 rfl ?_
    refine z_iconst C x_Mo_let_19 ?_
    obtain ⟨v6, M7, fv6, h⟩ := bcall_e h
    refine z_callVi (k := 111) C x_Mo_let_20 cv_Mo_273 (t_Mo_no (lev := lev - 1) l G (by omega) fv6) nk_111 ck_111 rfl (by omega) rfl (i_le rfl) rfl ?_
    obtain ⟨c8, h⟩ := chk_e h
    exact z_zret C x_Mo_let_23 c8 h
  · refine z_if_ne_t (tgt := 24) C x_Mo_let_15 rfl c5 ?_
    refine z_iload_n C 2 x_Mo_let_24 rfl ?_
    obtain ⟨v9, M10, fv9, h⟩ := bcall_e h
    refine z_callSi C x_Mo_let_25 cs_Mo_335 (t_Mo_isYear (lev := lev - 1) l G (by omega) fv9) (by omega) rfl (i_le rfl) rfl ?_
    rcases ite_e h with ⟨c11, h⟩ | ⟨c11, h⟩
    · refine z_if_ne_f (tgt := 37) C x_Mo_let_28 rfl c11 ?_
      refine z_aload_n C 0 x_Mo_let_31 rfl ?_
      refine z_iconst C x_Mo_let_32 ?_
      obtain ⟨v12, M13, fv12, h⟩ := bcall_e h
      refine z_callVi (k := 111) C x_Mo_let_33 cv_Mo_273 (t_Mo_no (lev := lev - 1) l G (by omega) fv12) nk_111 ck_111 rfl (by omega) rfl (i_le rfl) rfl ?_
      obtain ⟨c14, h⟩ := chk_e h
      exact z_zret C x_Mo_let_36 c14 h
    · refine z_if_ne_t (tgt := 37) C x_Mo_let_28 rfl c11 ?_
      refine z_aload_n C 0 x_Mo_let_37 rfl ?_
      refine z_getR (j := 87) C x_Mo_let_38 nk_111 ck_111 cw_12 (i_lt rfl) rfl rf_111_87 rfl fl_Mo_200 ?_
      refine z_bipush C rfl x_Mo_let_41 ?_
      refine z_iload_n C 1 x_Mo_let_43 rfl ?_
      refine z_imul C x_Mo_let_44 ?_
      refine z_iload_n C 2 x_Mo_let_45 rfl ?_
      refine z_iadd C x_Mo_let_46 ?_
      refine z_iload_n C 3 x_Mo_let_47 rfl ?_
      obtain ⟨c15, h⟩ := chk_e h
      obtain ⟨M16, eM16, h⟩ := blet_e h
      refine z_zast C x_Mo_let_48 nk_172 ck_172 c15 eM16 ?_
      refine z_iconst C x_Mo_let_49 ?_
      exact z_zret C x_Mo_let_50 (by decide) h
theorem x_Mo_outside_0 : DC b_Mo_outside 0 (.aload_n 0) 1 1 := ⟨by decide +kernel, rfl⟩
theorem x_Mo_outside_1 : DC b_Mo_outside 1 (.iconst 0) 1 2 := ⟨by decide +kernel, rfl⟩
theorem x_Mo_outside_2 : DC b_Mo_outside 2 (.putfield 257) 3 5 := ⟨by decide +kernel, rfl⟩
theorem x_Mo_outside_5 : DC b_Mo_outside 5 (.aload_n 0) 1 6 := ⟨by decide +kernel, rfl⟩
theorem x_Mo_outside_6 : DC b_Mo_outside 6 (.iconst 0) 1 7 := ⟨by decide +kernel, rfl⟩
theorem x_Mo_outside_7 : DC b_Mo_outside 7 (.putfield 260) 3 10 := ⟨by decide +kernel, rfl⟩
theorem x_Mo_outside_10 : DC b_Mo_outside 10 (.aload_n 0) 1 11 := ⟨by decide +kernel, rfl⟩
theorem x_Mo_outside_11 : DC b_Mo_outside 11 (.iload_n 1) 1 12 := ⟨by decide +kernel, rfl⟩
theorem x_Mo_outside_12 : DC b_Mo_outside 12 (.invokevirtual 318) 3 15 := ⟨by decide +kernel, rfl⟩
theorem x_Mo_outside_15 : DC b_Mo_outside 15 (.ifCond .ne 9) 3 18 := ⟨by decide +kernel, rfl⟩
theorem x_Mo_outside_18 : DC b_Mo_outside 18 (.aload_n 0) 1 19 := ⟨by decide +kernel, rfl⟩
theorem x_Mo_outside_19 : DC b_Mo_outside 19 (.iconst 2) 1 20 := ⟨by decide +kernel, rfl⟩
theorem x_Mo_outside_20 : DC b_Mo_outside 20 (.invokevirtual 297) 3 23 := ⟨by decide +kernel, rfl⟩
theorem x_Mo_outside_23 : DC b_Mo_outside 23 (.ireturn) 1 24 := ⟨by decide +kernel, rfl⟩
theorem x_Mo_outside_24 : DC b_Mo_outside 24 (.iload_n 2) 1 25 := ⟨by decide +kernel, rfl⟩
theorem x_Mo_outside_25 : DC b_Mo_outside 25 (.invokestatic 306) 3 28 := ⟨by decide +kernel, rfl⟩
theorem x_Mo_outside_28 : DC b_Mo_outside 28 (.ifCond .eq 28) 3 31 := ⟨by decide +kernel, rfl⟩
theorem x_Mo_outside_31 : DC b_Mo_outside 31 (.iload_n 3) 1 32 := ⟨by decide +kernel, rfl⟩
theorem x_Mo_outside_32 : DC b_Mo_outside 32 (.i2l) 1 33 := ⟨by decide +kernel, rfl⟩
theorem x_Mo_outside_33 : DC b_Mo_outside 33 (.lconst 1) 1 34 := ⟨by decide +kernel, rfl⟩
theorem x_Mo_outside_34 : DC b_Mo_outside 34 (.ldc2_w 324) 3 37 := ⟨by decide +kernel, rfl⟩
theorem x_Mo_outside_37 : DC b_Mo_outside 37 (.invokestatic 265) 3 40 := ⟨by decide +kernel, rfl⟩
theorem x_Mo_outside_40 : DC b_Mo_outside 40 (.ifCond .eq 16) 3 43 := ⟨by decide +kernel, rfl⟩
theorem x_Mo_outside_43 : DC b_Mo_outside 43 (.iload 4) 2 45 := ⟨by decide +kernel, rfl⟩
theorem x_Mo_outside_45 : DC b_Mo_outside 45 (.i2l) 1 46 := ⟨by decide +kernel, rfl⟩
theorem x_Mo_outside_46 : DC b_Mo_outside 46 (.lconst 0) 1 47 := ⟨by decide +kernel, rfl⟩
theorem x_Mo_outside_47 : DC b_Mo_outside 47 (.ldc2_w 326) 3 50 := ⟨by decide +kernel, rfl⟩
theorem x_Mo_outside_50 : DC b_Mo_outside 50 (.invokestatic 265) 3 53 := ⟨by decide +kernel, rfl⟩
theorem x_Mo_outside_53 : DC b_Mo_outside 53 (.ifCond .ne 9) 3 56 := ⟨by decide +kernel, rfl⟩
theorem x_Mo_outside_56 : DC b_Mo_outside 56 (.aload_n 0) 1 57 := ⟨by decide +kernel, rfl⟩
theorem x_Mo_outside_57 : DC b_Mo_outside 57 (.iconst 5) 1 58 := ⟨by decide +kernel, rfl⟩
theorem x_Mo_outside_58 : DC b_Mo_outside 58 (.invokevirtual 297) 3 61 := ⟨by decide +kernel, rfl⟩
theorem x_Mo_outside_61 : DC b_Mo_outside 61 (.ireturn) 1 62 := ⟨by decide +kernel, rfl⟩
theorem x_Mo_outside_62 : DC b_Mo_outside 62 (.aload_n 0) 1 63 := ⟨by decide +kernel, rfl⟩
theorem x_Mo_outside_63 : DC b_Mo_outside 63 (.getfield 629) 3 66 := ⟨by decide +kernel, rfl⟩
theorem x_Mo_outside_66 : DC b_Mo_outside 66 (.bipush 60) 2 68 := ⟨by decide +kernel, rfl⟩
theorem x_Mo_outside_68 : DC b_Mo_outside 68 (.if_icmp .ne 10) 3 71 := ⟨by decide +kernel, rfl⟩
theorem x_Mo_outside_71 : DC b_Mo_outside 71 (.aload_n 0) 1 72 := ⟨by decide +kernel, rfl⟩
theorem x_Mo_outside_72 : DC b_Mo_outside 72 (.bipush 7) 2 74 := ⟨by decide +kernel, rfl⟩
theorem x_Mo_outside_74 : DC b_Mo_outside 74 (.invokevirtual 297) 3 77 := ⟨by decide +kernel, rfl⟩
theorem x_Mo_outside_77 : DC b_Mo_outside 77 (.ireturn) 1 78 := ⟨by decide +kernel, rfl⟩
theorem x_Mo_outside_78 : DC b_Mo_outside 78 (.aload_n 0) 1 79 := ⟨by decide +kernel, rfl⟩
theorem x_Mo_outside_79 : DC b_Mo_outside 79 (.getfield 185) 3 82 := ⟨by decide +kernel, rfl⟩
theorem x_Mo_outside_82 : DC b_Mo_outside 82 (.aload_n 0) 1 83 := ⟨by decide +kernel, rfl⟩
theorem x_Mo_outside_83 : DC b_Mo_outside 83 (.getfield 629) 3 86 := ⟨by decide +kernel, rfl⟩
theorem x_Mo_outside_86 : DC b_Mo_outside 86 (.iload_n 1) 1 87 := ⟨by decide +kernel, rfl⟩
theorem x_Mo_outside_87 : DC b_Mo_outside 87 (.iastore) 1 88 := ⟨by decide +kernel, rfl⟩
theorem x_Mo_outside_88 : DC b_Mo_outside 88 (.aload_n 0) 1 89 := ⟨by decide +kernel, rfl⟩
theorem x_Mo_outside_89 : DC b_Mo_outside 89 (.getfield 188) 3 92 := ⟨by decide +kernel, rfl⟩
theorem x_Mo_outside_92 : DC b_Mo_outside 92 (.aload_n 0) 1 93 := ⟨by decide +kernel, rfl⟩
theorem x_Mo_outside_93 : DC b_Mo_outside 93 (.getfield 629) 3 96 := ⟨by decide +kernel, rfl⟩
theorem x_Mo_outside_96 : DC b_Mo_outside 96 (.iload_n 2) 1 97 := ⟨by decide +kernel, rfl⟩
theorem x_Mo_outside_97 : DC b_Mo_outside 97 (.iastore) 1 98 := ⟨by decide +kernel, rfl⟩
theorem x_Mo_outside_98 : DC b_Mo_outside 98 (.aload_n 0) 1 99 := ⟨by decide +kernel, rfl⟩
theorem x_Mo_outside_99 : DC b_Mo_outside 99 (.getfield 191) 3 102 := ⟨by decide +kernel, rfl⟩
theorem x_Mo_outside_102 : DC b_Mo_outside 102 (.aload_n 0) 1 103 := ⟨by decide +kernel, rfl⟩
theorem x_Mo_outside_103 : DC b_Mo_outside 103 (.getfield 629) 3 106 := ⟨by decide +kernel, rfl⟩
theorem x_Mo_outside_106 : DC b_Mo_outside 106 (.iload_n 3) 1 107 := ⟨by decide +kernel, rfl⟩
theorem x_Mo_outside_107 : DC b_Mo_outside 107 (.iastore) 1 108 := ⟨by decide +kernel, rfl⟩
theorem x_Mo_outside_108 : DC b_Mo_outside 108 (.aload_n 0) 1 109 := ⟨by decide +kernel, rfl⟩
theorem x_Mo_outside_109 : DC b_Mo_outside 109 (.getfield 194) 3 112 := ⟨by decide +kernel, rfl⟩
theorem x_Mo_outside_112 : DC b_Mo_outside 112 (.aload_n 0) 1 113 := ⟨by decide +kernel, rfl⟩
theorem x_Mo_outside_113 : DC b_Mo_outside 113 (.getfield 629) 3 116 := ⟨by decide +kernel, rfl⟩
theorem x_Mo_outside_116 : DC b_Mo_outside 116 (.iload 4) 2 118 := ⟨by decide +kernel, rfl⟩
theorem x_Mo_outside_118 : DC b_Mo_outside 118 (.iastore) 1 119 := ⟨by decide +kernel, rfl⟩
theorem x_Mo_outside_119 : DC b_Mo_outside 119 (.aload_n 0) 1 120 := ⟨by decide +kernel, rfl⟩
theorem x_Mo_outside_120 : DC b_Mo_outside 120 (.dup) 1 121 := ⟨by decide +kernel, rfl⟩
theorem x_Mo_outside_121 : DC b_Mo_outside 121 (.getfield 629) 3 124 := ⟨by decide +kernel, rfl⟩
theorem x_Mo_outside_124 : DC b_Mo_outside 124 (.iconst 1) 1 125 := ⟨by decide +kernel, rfl⟩
theorem x_Mo_outside_125 : DC b_Mo_outside 125 (.iadd) 1 126 := ⟨by decide +kernel, rfl⟩
theorem x_Mo_outside_126 : DC b_Mo_outside 126 (.putfield 629) 3 129 := ⟨by decide +kernel, rfl⟩
theorem x_Mo_outside_129 : DC b_Mo_outside 129 (.aload_n 0) 1 130 := ⟨by decide +kernel, rfl⟩
theorem x_Mo_outside_130 : DC b_Mo_outside 130 (.getfield 629) 3 133 := ⟨by decide +kernel, rfl⟩
theorem x_Mo_outside_133 : DC b_Mo_outside 133 (.iconst 1) 1 134 := ⟨by decide +kernel, rfl⟩
theorem x_Mo_outside_134 : DC b_Mo_outside 134 (.isub) 1 135 := ⟨by decide +kernel, rfl⟩
theorem x_Mo_outside_135 : DC b_Mo_outside 135 (.ireturn) 1 136 := ⟨by decide +kernel, rfl⟩
def k_Mo_outside_56 (M : Mem) : Res := bcall (d_Mo_refuse 5 M) fun v1 M2 => some (v1, M2)
theorem z_Mo_outside_56 (C : Cx p s m args meth c G b_Mo_outside 5 "PrairiePoolModel" (some .int)) (hlev : 2 ≤ lev) {r : Int × Mem}  {M : Mem} (h : k_Mo_outside_56 M = some r) : Z p l e lev s m args below meth c G 5 (MQ below (Qm G 1 r) args s 0 0 (Ab G)) M 56 [(0, .ref (G.1 + 111))] [] := by
  unfold k_Mo_outside_56 at h
  refine z_aload_n C 0 x_Mo_outside_56 rfl ?_
  refine z_iconst C x_Mo_outside_57 ?_
  obtain ⟨v1, M2, fv1, h⟩ := bcall_e h
  refine z_callVi (k := 111) C x_Mo_outside_58 cv_Mo_297 (t_Mo_refuse (lev := lev - 1) l G (by omega) fv1) nk_111 ck_111 rfl (by omega) rfl (i_le rfl) rfl ?_
  exact z_iret C x_Mo_outside_61 h
def d_Mo_outside (a1 a2 a3 a4 : Int) (M : Mem) : Res := blet (sto M 111 1 0) fun M1 => blet (sto M1 111 0 0) fun M2 => bcall (d_Mo_isFarm a1 M2) fun v3 M4 => if w32 v3 = 0 then (bcall (d_Mo_refuse 2 M4) fun v6 M7 => some (v6, M7)) else (bcall (d_Mo_isDay a2 M4) fun v8 M9 => if w32 v8 = 0 then (k_Mo_outside_56 M9) else (bcall (d_Mo_isIn (w32 a3) 1 10000 M9) fun v11 M12 => if w32 v11 = 0 then (k_Mo_outside_56 M12) else (bcall (d_Mo_isIn (w32 a4) 0 1000 M12) fun v14 M15 => if w32 v14 = 0 then (k_Mo_outside_56 M15) else (blet (M15 111 88) fun v17 => if w32 v17 = 60 then (bcall (d_Mo_refuse 7 M15) fun v19 M20 => some (v19, M20)) else (blet (M15 111 88) fun v21 => chk (0 ≤ w32 v21 ∧ w32 v21 < 60) <| blet (sto M15 167 (ix v21) a1) fun M23 => blet (M23 111 88) fun v24 => chk (0 ≤ w32 v24 ∧ w32 v24 < 60) <| blet (sto M23 168 (ix v24) a2) fun M26 => blet (M26 111 88) fun v27 => chk (0 ≤ w32 v27 ∧ w32 v27 < 60) <| blet (sto M26 169 (ix v27) a3) fun M29 => blet (M29 111 88) fun v30 => chk (0 ≤ w32 v30 ∧ w32 v30 < 60) <| blet (sto M29 170 (ix v30) a4) fun M32 => blet (M32 111 88) fun v33 => blet (sto M32 111 88 (v33 + 1)) fun M34 => blet (M34 111 88) fun v35 => some (v35 - 1, M34))))))
theorem t_Mo_outside (l : Launch) (G : GX) {lev : Nat} (hlev : 2 ≤ lev) {a1 a2 a3 a4 : Int} {M : Mem} {r : Int × Mem} (h : d_Mo_outside a1 a2 a3 a4 M = some r) : Mt l G y_Mo_outside b_Mo_outside 5 (some .int) lev 1 [.ref (G.1 + 111), vi a1, vi a2, vi a3, vi a4] M r := by
  refine Mt.of (by decide) (i_le rfl) ?_
  intro p e s m args below meth c C
  have C : Cx p s m args meth c G b_Mo_outside 5 "PrairiePoolModel" (some .int) := C
  unfold d_Mo_outside at h
  refine z_sub (lv' := [(0, .ref (G.1 + 111)), (1, vi a1), (2, vi a2), (3, vi a3), (4, vi a4)]) [0, 1, 2, 3, 4] rfl ?_
  refine z_aload_n C 0 x_Mo_outside_0 rfl ?_
  refine z_iconst C x_Mo_outside_1 ?_
  obtain ⟨M1, eM1, h⟩ := blet_e h
  refine z_putI (j := 1) C x_Mo_outside_2 nk_111 ck_111 cw_12 (i_lt rfl) rfl rfl rfl rfl fl_Mo_257 eM1 ?_
  refine z_aload_n C 0 x_Mo_outside_5 rfl ?_
  refine z_iconst C x_Mo_outside_6 ?_
  obtain ⟨M2, eM2, h⟩ := blet_e h
  refine z_putI (j := 0) C x_Mo_outside_7 nk_111 ck_111 cw_12 (i_lt rfl) rfl rfl rfl rfl fl_Mo_260 eM2 ?_
  refine z_aload_n C 0 x_Mo_outside_10 rfl ?_
  refine z_iload_n C 1 x_Mo_outside_11 rfl ?_
  obtain ⟨v3, M4, fv3, h⟩ := bcall_e h
  refine z_callVi (k := 111) C x_Mo_outside_12 cv_Mo_318 (t_Mo_isFarm (lev := lev - 1) l G (by omega) fv3) nk_111 ck_111 rfl (by omega) rfl (i_le rfl) rfl ?_
  rcases ite_e h with ⟨c5, h⟩ | ⟨c5, h⟩
  · refine z_if_ne_f (tgt := 24) C x_Mo_outside_15 rfl c5 ?_
    refine z_aload_n C 0 x_Mo_outside_18 rfl ?_
    refine z_iconst C x_Mo_outside_19 ?_
    obtain ⟨v6, M7, fv6, h⟩ := bcall_e h
    refine z_callVi (k := 111) C x_Mo_outside_20 cv_Mo_297 (t_Mo_refuse (lev := lev - 1) l G (by omega) fv6) nk_111 ck_111 rfl (by omega) rfl (i_le rfl) rfl ?_
    exact z_iret C x_Mo_outside_23 h
  · refine z_if_ne_t (tgt := 24) C x_Mo_outside_15 rfl c5 ?_
    refine z_iload_n C 2 x_Mo_outside_24 rfl ?_
    obtain ⟨v8, M9, fv8, h⟩ := bcall_e h
    refine z_callSi C x_Mo_outside_25 cs_Mo_306 (t_Mo_isDay (lev := lev - 1) l G (by omega) fv8) (by omega) rfl (i_le rfl) rfl ?_
    rcases ite_e h with ⟨c10, h⟩ | ⟨c10, h⟩
    · refine z_if_eq_t (tgt := 56) C x_Mo_outside_28 rfl c10 ?_
      exact z_sub [0] rfl (z_Mo_outside_56 C hlev h)
    · refine z_if_eq_f (tgt := 56) C x_Mo_outside_28 rfl c10 ?_
      refine z_iload_n C 3 x_Mo_outside_31 rfl ?_
      refine z_i2l C x_Mo_outside_32 ?_
      refine z_lconst1 C x_Mo_outside_33 ?_
      refine z_ldc2 C kl_Mo_324 x_Mo_outside_34 ?_
      obtain ⟨v11, M12, fv11, h⟩ := bcall_e h
      refine z_callSi C x_Mo_outside_37 cs_Mo_265 (t_Mo_isIn (lev := lev - 1) l G (by omega) fv11) (by omega) rfl (i_le rfl) rfl ?_
      rcases ite_e h with ⟨c13, h⟩ | ⟨c13, h⟩
      · refine z_if_eq_t (tgt := 56) C x_Mo_outside_40 rfl c13 ?_
        exact z_sub [0] rfl (z_Mo_outside_56 C hlev h)
      · refine z_if_eq_f (tgt := 56) C x_Mo_outside_40 rfl c13 ?_
        refine z_iload C 4 x_Mo_outside_43 rfl ?_
        refine z_i2l C x_Mo_outside_45 ?_
        refine z_lconst0 C x_Mo_outside_46 ?_
        refine z_ldc2 C kl_Mo_326 x_Mo_outside_47 ?_
        obtain ⟨v14, M15, fv14, h⟩ := bcall_e h
        refine z_callSi C x_Mo_outside_50 cs_Mo_265 (t_Mo_isIn (lev := lev - 1) l G (by omega) fv14) (by omega) rfl (i_le rfl) rfl ?_
        rcases ite_e h with ⟨c16, h⟩ | ⟨c16, h⟩
        · refine z_if_ne_f (tgt := 62) C x_Mo_outside_53 rfl c16 ?_
          exact z_sub [0] rfl (z_Mo_outside_56 C hlev h)
        · refine z_if_ne_t (tgt := 62) C x_Mo_outside_53 rfl c16 ?_
          refine z_aload_n C 0 x_Mo_outside_62 rfl ?_
          obtain ⟨v17, ev17, h⟩ := blet_e h
          refine z_getI (j := 88) C x_Mo_outside_63 nk_111 ck_111 cw_12 (i_lt rfl) rfl rfl fl_Mo_629 ev17 ?_
          refine z_bipush C rfl x_Mo_outside_66 ?_
          rcases ite_e h with ⟨c18, h⟩ | ⟨c18, h⟩
          · refine z_icmp_ne_f (tgt := 78) C x_Mo_outside_68 rfl c18 ?_
            refine z_aload_n C 0 x_Mo_outside_71 rfl ?_
            refine z_bipush C rfl x_Mo_outside_72 ?_
            obtain ⟨v19, M20, fv19, h⟩ := bcall_e h
            refine z_callVi (k := 111) C x_Mo_outside_74 cv_Mo_297 (t_Mo_refuse (lev := lev - 1) l G (by omega) fv19) nk_111 ck_111 rfl (by omega) rfl (i_le rfl) rfl ?_
            exact z_iret C x_Mo_outside_77 h
          · refine z_icmp_ne_t (tgt := 78) C x_Mo_outside_68 rfl c18 ?_
            refine z_aload_n C 0 x_Mo_outside_78 rfl ?_
            refine z_getR (j := 82) C x_Mo_outside_79 nk_111 ck_111 cw_12 (i_lt rfl) rfl rf_111_82 rfl fl_Mo_185 ?_
            refine z_aload_n C 0 x_Mo_outside_82 rfl ?_
            obtain ⟨v21, ev21, h⟩ := blet_e h
            refine z_getI (j := 88) C x_Mo_outside_83 nk_111 ck_111 cw_12 (i_lt rfl) rfl rfl fl_Mo_629 ev21 ?_
            refine z_iload_n C 1 x_Mo_outside_86 rfl ?_
            obtain ⟨c22, h⟩ := chk_e h
            obtain ⟨M23, eM23, h⟩ := blet_e h
            refine z_iast C x_Mo_outside_87 nk_167 ck_167 c22 eM23 ?_
            refine z_aload_n C 0 x_Mo_outside_88 rfl ?_
            refine z_getR (j := 83) C x_Mo_outside_89 nk_111 ck_111 cw_12 (i_lt rfl) rfl rf_111_83 rfl fl_Mo_188 ?_
            refine z_aload_n C 0 x_Mo_outside_92 rfl ?_
            obtain ⟨v24, ev24, h⟩ := blet_e h
            refine z_getI (j := 88) C x_Mo_outside_93 nk_111 ck_111 cw_12 (i_lt rfl) rfl rfl fl_Mo_629 ev24 ?_
            refine z_iload_n C 2 x_Mo_outside_96 rfl ?_
            obtain ⟨c25, h⟩ := chk_e h
            obtain ⟨M26, eM26, h⟩ := blet_e h
            refine z_iast C x_Mo_outside_97 nk_168 ck_168 c25 eM26 ?_
            refine z_aload_n C 0 x_Mo_outside_98 rfl ?_
            refine z_getR (j := 84) C x_Mo_outside_99 nk_111 ck_111 cw_12 (i_lt rfl) rfl rf_111_84 rfl fl_Mo_191 ?_
            refine z_aload_n C 0 x_Mo_outside_102 rfl ?_
            obtain ⟨v27, ev27, h⟩ := blet_e h
            refine z_getI (j := 88) C x_Mo_outside_103 nk_111 ck_111 cw_12 (i_lt rfl) rfl rfl fl_Mo_629 ev27 ?_
            refine z_iload_n C 3 x_Mo_outside_106 rfl ?_
            obtain ⟨c28, h⟩ := chk_e h
            obtain ⟨M29, eM29, h⟩ := blet_e h
            refine z_iast C x_Mo_outside_107 nk_169 ck_169 c28 eM29 ?_
            refine z_aload_n C 0 x_Mo_outside_108 rfl ?_
            refine z_getR (j := 85) C x_Mo_outside_109 nk_111 ck_111 cw_12 (i_lt rfl) rfl rf_111_85 rfl fl_Mo_194 ?_
            refine z_aload_n C 0 x_Mo_outside_112 rfl ?_
            obtain ⟨v30, ev30, h⟩ := blet_e h
            refine z_getI (j := 88) C x_Mo_outside_113 nk_111 ck_111 cw_12 (i_lt rfl) rfl rfl fl_Mo_629 ev30 ?_
            refine z_iload C 4 x_Mo_outside_116 rfl ?_
            obtain ⟨c31, h⟩ := chk_e h
            obtain ⟨M32, eM32, h⟩ := blet_e h
            refine z_iast C x_Mo_outside_118 nk_170 ck_170 c31 eM32 ?_
            refine z_aload_n C 0 x_Mo_outside_119 rfl ?_
            refine z_dup C x_Mo_outside_120 rfl ?_
            obtain ⟨v33, ev33, h⟩ := blet_e h
            refine z_getI (j := 88) C x_Mo_outside_121 nk_111 ck_111 cw_12 (i_lt rfl) rfl rfl fl_Mo_629 ev33 ?_
            refine z_iconst C x_Mo_outside_124 ?_
            refine z_iadd C x_Mo_outside_125 ?_
            obtain ⟨M34, eM34, h⟩ := blet_e h
            refine z_putI (j := 88) C x_Mo_outside_126 nk_111 ck_111 cw_12 (i_lt rfl) rfl rfl rfl rfl fl_Mo_629 eM34 ?_
            refine z_aload_n C 0 x_Mo_outside_129 rfl ?_
            obtain ⟨v35, ev35, h⟩ := blet_e h
            refine z_getI (j := 88) C x_Mo_outside_130 nk_111 ck_111 cw_12 (i_lt rfl) rfl rfl fl_Mo_629 ev35 ?_
            refine z_iconst C x_Mo_outside_133 ?_
            refine z_isub C x_Mo_outside_134 ?_
            exact z_iret C x_Mo_outside_135 h
theorem x_Mo_breachOf_0 : DC b_Mo_breachOf 0 (.aload_n 0) 1 1 := ⟨by decide +kernel, rfl⟩
theorem x_Mo_breachOf_1 : DC b_Mo_breachOf 1 (.getfield 185) 3 4 := ⟨by decide +kernel, rfl⟩
theorem x_Mo_breachOf_4 : DC b_Mo_breachOf 4 (.iload_n 1) 1 5 := ⟨by decide +kernel, rfl⟩
theorem x_Mo_breachOf_5 : DC b_Mo_breachOf 5 (.iaload) 1 6 := ⟨by decide +kernel, rfl⟩
theorem x_Mo_breachOf_6 : DC b_Mo_breachOf 6 (.istore_n 2) 1 7 := ⟨by decide +kernel, rfl⟩
theorem x_Mo_breachOf_7 : DC b_Mo_breachOf 7 (.aload_n 0) 1 8 := ⟨by decide +kernel, rfl⟩
theorem x_Mo_breachOf_8 : DC b_Mo_breachOf 8 (.getfield 188) 3 11 := ⟨by decide +kernel, rfl⟩
theorem x_Mo_breachOf_11 : DC b_Mo_breachOf 11 (.iload_n 1) 1 12 := ⟨by decide +kernel, rfl⟩
theorem x_Mo_breachOf_12 : DC b_Mo_breachOf 12 (.iaload) 1 13 := ⟨by decide +kernel, rfl⟩
theorem x_Mo_breachOf_13 : DC b_Mo_breachOf 13 (.bipush 52) 2 15 := ⟨by decide +kernel, rfl⟩
theorem x_Mo_breachOf_15 : DC b_Mo_breachOf 15 (.idiv) 1 16 := ⟨by decide +kernel, rfl⟩
theorem x_Mo_breachOf_16 : DC b_Mo_breachOf 16 (.istore_n 3) 1 17 := ⟨by decide +kernel, rfl⟩
theorem x_Mo_breachOf_17 : DC b_Mo_breachOf 17 (.aload_n 0) 1 18 := ⟨by decide +kernel, rfl⟩
theorem x_Mo_breachOf_18 : DC b_Mo_breachOf 18 (.getfield 176) 3 21 := ⟨by decide +kernel, rfl⟩
theorem x_Mo_breachOf_21 : DC b_Mo_breachOf 21 (.iload_n 2) 1 22 := ⟨by decide +kernel, rfl⟩
theorem x_Mo_breachOf_22 : DC b_Mo_breachOf 22 (.iaload) 1 23 := ⟨by decide +kernel, rfl⟩
theorem x_Mo_breachOf_23 : DC b_Mo_breachOf 23 (.ifCond .lt 39) 3 26 := ⟨by decide +kernel, rfl⟩
theorem x_Mo_breachOf_26 : DC b_Mo_breachOf 26 (.iload_n 3) 1 27 := ⟨by decide +kernel, rfl⟩
theorem x_Mo_breachOf_27 : DC b_Mo_breachOf 27 (.i2l) 1 28 := ⟨by decide +kernel, rfl⟩
theorem x_Mo_breachOf_28 : DC b_Mo_breachOf 28 (.aload_n 0) 1 29 := ⟨by decide +kernel, rfl⟩
theorem x_Mo_breachOf_29 : DC b_Mo_breachOf 29 (.getfield 176) 3 32 := ⟨by decide +kernel, rfl⟩
theorem x_Mo_breachOf_32 : DC b_Mo_breachOf 32 (.iload_n 2) 1 33 := ⟨by decide +kernel, rfl⟩
theorem x_Mo_breachOf_33 : DC b_Mo_breachOf 33 (.iaload) 1 34 := ⟨by decide +kernel, rfl⟩
theorem x_Mo_breachOf_34 : DC b_Mo_breachOf 34 (.i2l) 1 35 := ⟨by decide +kernel, rfl⟩
theorem x_Mo_breachOf_35 : DC b_Mo_breachOf 35 (.aload_n 0) 1 36 := ⟨by decide +kernel, rfl⟩
theorem x_Mo_breachOf_36 : DC b_Mo_breachOf 36 (.getfield 179) 3 39 := ⟨by decide +kernel, rfl⟩
theorem x_Mo_breachOf_39 : DC b_Mo_breachOf 39 (.iload_n 2) 1 40 := ⟨by decide +kernel, rfl⟩
theorem x_Mo_breachOf_40 : DC b_Mo_breachOf 40 (.iaload) 1 41 := ⟨by decide +kernel, rfl⟩
theorem x_Mo_breachOf_41 : DC b_Mo_breachOf 41 (.i2l) 1 42 := ⟨by decide +kernel, rfl⟩
theorem x_Mo_breachOf_42 : DC b_Mo_breachOf 42 (.invokestatic 265) 3 45 := ⟨by decide +kernel, rfl⟩
theorem x_Mo_breachOf_45 : DC b_Mo_breachOf 45 (.ifCond .eq 17) 3 48 := ⟨by decide +kernel, rfl⟩
theorem x_Mo_breachOf_48 : DC b_Mo_breachOf 48 (.aload_n 0) 1 49 := ⟨by decide +kernel, rfl⟩
theorem x_Mo_breachOf_49 : DC b_Mo_breachOf 49 (.getfield 200) 3 52 := ⟨by decide +kernel, rfl⟩
theorem x_Mo_breachOf_52 : DC b_Mo_breachOf 52 (.bipush 10) 2 54 := ⟨by decide +kernel, rfl⟩
theorem x_Mo_breachOf_54 : DC b_Mo_breachOf 54 (.iload_n 2) 1 55 := ⟨by decide +kernel, rfl⟩
theorem x_Mo_breachOf_55 : DC b_Mo_breachOf 55 (.imul) 1 56 := ⟨by decide +kernel, rfl⟩
theorem x_Mo_breachOf_56 : DC b_Mo_breachOf 56 (.iload_n 3) 1 57 := ⟨by decide +kernel, rfl⟩
theorem x_Mo_breachOf_57 : DC b_Mo_breachOf 57 (.iadd) 1 58 := ⟨by decide +kernel, rfl⟩
theorem x_Mo_breachOf_58 : DC b_Mo_breachOf 58 (.baload) 1 59 := ⟨by decide +kernel, rfl⟩
theorem x_Mo_breachOf_59 : DC b_Mo_breachOf 59 (.ifCond .eq 5) 3 62 := ⟨by decide +kernel, rfl⟩
theorem x_Mo_breachOf_62 : DC b_Mo_breachOf 62 (.lconst 0) 1 63 := ⟨by decide +kernel, rfl⟩
theorem x_Mo_breachOf_63 : DC b_Mo_breachOf 63 (.lreturn) 1 64 := ⟨by decide +kernel, rfl⟩
theorem x_Mo_breachOf_64 : DC b_Mo_breachOf 64 (.aload_n 0) 1 65 := ⟨by decide +kernel, rfl⟩
theorem x_Mo_breachOf_65 : DC b_Mo_breachOf 65 (.invokevirtual 344) 3 68 := ⟨by decide +kernel, rfl⟩
theorem x_Mo_breachOf_68 : DC b_Mo_breachOf 68 (.aload_n 0) 1 69 := ⟨by decide +kernel, rfl⟩
theorem x_Mo_breachOf_69 : DC b_Mo_breachOf 69 (.getfield 151) 3 72 := ⟨by decide +kernel, rfl⟩
theorem x_Mo_breachOf_72 : DC b_Mo_breachOf 72 (.iconst 2) 1 73 := ⟨by decide +kernel, rfl⟩
theorem x_Mo_breachOf_73 : DC b_Mo_breachOf 73 (.aload_n 0) 1 74 := ⟨by decide +kernel, rfl⟩
theorem x_Mo_breachOf_74 : DC b_Mo_breachOf 74 (.getfield 188) 3 77 := ⟨by decide +kernel, rfl⟩
theorem x_Mo_breachOf_77 : DC b_Mo_breachOf 77 (.iload_n 1) 1 78 := ⟨by decide +kernel, rfl⟩
theorem x_Mo_breachOf_78 : DC b_Mo_breachOf 78 (.iaload) 1 79 := ⟨by decide +kernel, rfl⟩
theorem x_Mo_breachOf_79 : DC b_Mo_breachOf 79 (.i2l) 1 80 := ⟨by decide +kernel, rfl⟩
theorem x_Mo_breachOf_80 : DC b_Mo_breachOf 80 (.lastore) 1 81 := ⟨by decide +kernel, rfl⟩
theorem x_Mo_breachOf_81 : DC b_Mo_breachOf 81 (.aload_n 0) 1 82 := ⟨by decide +kernel, rfl⟩
theorem x_Mo_breachOf_82 : DC b_Mo_breachOf 82 (.getfield 151) 3 85 := ⟨by decide +kernel, rfl⟩
theorem x_Mo_breachOf_85 : DC b_Mo_breachOf 85 (.iconst 3) 1 86 := ⟨by decide +kernel, rfl⟩
theorem x_Mo_breachOf_86 : DC b_Mo_breachOf 86 (.iload_n 3) 1 87 := ⟨by decide +kernel, rfl⟩
theorem x_Mo_breachOf_87 : DC b_Mo_breachOf 87 (.i2l) 1 88 := ⟨by decide +kernel, rfl⟩
theorem x_Mo_breachOf_88 : DC b_Mo_breachOf 88 (.lastore) 1 89 := ⟨by decide +kernel, rfl⟩
theorem x_Mo_breachOf_89 : DC b_Mo_breachOf 89 (.aload_n 0) 1 90 := ⟨by decide +kernel, rfl⟩
theorem x_Mo_breachOf_90 : DC b_Mo_breachOf 90 (.getfield 151) 3 93 := ⟨by decide +kernel, rfl⟩
theorem x_Mo_breachOf_93 : DC b_Mo_breachOf 93 (.iconst 4) 1 94 := ⟨by decide +kernel, rfl⟩
theorem x_Mo_breachOf_94 : DC b_Mo_breachOf 94 (.aload_n 0) 1 95 := ⟨by decide +kernel, rfl⟩
theorem x_Mo_breachOf_95 : DC b_Mo_breachOf 95 (.getfield 191) 3 98 := ⟨by decide +kernel, rfl⟩
theorem x_Mo_breachOf_98 : DC b_Mo_breachOf 98 (.iload_n 1) 1 99 := ⟨by decide +kernel, rfl⟩
theorem x_Mo_breachOf_99 : DC b_Mo_breachOf 99 (.iaload) 1 100 := ⟨by decide +kernel, rfl⟩
theorem x_Mo_breachOf_100 : DC b_Mo_breachOf 100 (.i2l) 1 101 := ⟨by decide +kernel, rfl⟩
theorem x_Mo_breachOf_101 : DC b_Mo_breachOf 101 (.lastore) 1 102 := ⟨by decide +kernel, rfl⟩
theorem x_Mo_breachOf_102 : DC b_Mo_breachOf 102 (.aload_n 0) 1 103 := ⟨by decide +kernel, rfl⟩
theorem x_Mo_breachOf_103 : DC b_Mo_breachOf 103 (.getfield 151) 3 106 := ⟨by decide +kernel, rfl⟩
theorem x_Mo_breachOf_106 : DC b_Mo_breachOf 106 (.iconst 5) 1 107 := ⟨by decide +kernel, rfl⟩
theorem x_Mo_breachOf_107 : DC b_Mo_breachOf 107 (.aload_n 0) 1 108 := ⟨by decide +kernel, rfl⟩
theorem x_Mo_breachOf_108 : DC b_Mo_breachOf 108 (.getfield 23) 3 111 := ⟨by decide +kernel, rfl⟩
theorem x_Mo_breachOf_111 : DC b_Mo_breachOf 111 (.iload_n 2) 1 112 := ⟨by decide +kernel, rfl⟩
theorem x_Mo_breachOf_112 : DC b_Mo_breachOf 112 (.iaload) 1 113 := ⟨by decide +kernel, rfl⟩
theorem x_Mo_breachOf_113 : DC b_Mo_breachOf 113 (.i2l) 1 114 := ⟨by decide +kernel, rfl⟩
theorem x_Mo_breachOf_114 : DC b_Mo_breachOf 114 (.lastore) 1 115 := ⟨by decide +kernel, rfl⟩
theorem x_Mo_breachOf_115 : DC b_Mo_breachOf 115 (.aload_n 0) 1 116 := ⟨by decide +kernel, rfl⟩
theorem x_Mo_breachOf_116 : DC b_Mo_breachOf 116 (.getfield 151) 3 119 := ⟨by decide +kernel, rfl⟩
theorem x_Mo_breachOf_119 : DC b_Mo_breachOf 119 (.bipush 6) 2 121 := ⟨by decide +kernel, rfl⟩
theorem x_Mo_breachOf_121 : DC b_Mo_breachOf 121 (.aload_n 0) 1 122 := ⟨by decide +kernel, rfl⟩
theorem x_Mo_breachOf_122 : DC b_Mo_breachOf 122 (.getfield 26) 3 125 := ⟨by decide +kernel, rfl⟩
theorem x_Mo_breachOf_125 : DC b_Mo_breachOf 125 (.iload_n 2) 1 126 := ⟨by decide +kernel, rfl⟩
theorem x_Mo_breachOf_126 : DC b_Mo_breachOf 126 (.iaload) 1 127 := ⟨by decide +kernel, rfl⟩
theorem x_Mo_breachOf_127 : DC b_Mo_breachOf 127 (.i2l) 1 128 := ⟨by decide +kernel, rfl⟩
theorem x_Mo_breachOf_128 : DC b_Mo_breachOf 128 (.lastore) 1 129 := ⟨by decide +kernel, rfl⟩
theorem x_Mo_breachOf_129 : DC b_Mo_breachOf 129 (.aload_n 0) 1 130 := ⟨by decide +kernel, rfl⟩
theorem x_Mo_breachOf_130 : DC b_Mo_breachOf 130 (.getfield 151) 3 133 := ⟨by decide +kernel, rfl⟩
theorem x_Mo_breachOf_133 : DC b_Mo_breachOf 133 (.bipush 7) 2 135 := ⟨by decide +kernel, rfl⟩
theorem x_Mo_breachOf_135 : DC b_Mo_breachOf 135 (.aload_n 0) 1 136 := ⟨by decide +kernel, rfl⟩
theorem x_Mo_breachOf_136 : DC b_Mo_breachOf 136 (.getfield 20) 3 139 := ⟨by decide +kernel, rfl⟩
theorem x_Mo_breachOf_139 : DC b_Mo_breachOf 139 (.iload_n 2) 1 140 := ⟨by decide +kernel, rfl⟩
theorem x_Mo_breachOf_140 : DC b_Mo_breachOf 140 (.iaload) 1 141 := ⟨by decide +kernel, rfl⟩
theorem x_Mo_breachOf_141 : DC b_Mo_breachOf 141 (.i2l) 1 142 := ⟨by decide +kernel, rfl⟩
theorem x_Mo_breachOf_142 : DC b_Mo_breachOf 142 (.lastore) 1 143 := ⟨by decide +kernel, rfl⟩
theorem x_Mo_breachOf_143 : DC b_Mo_breachOf 143 (.aload_n 0) 1 144 := ⟨by decide +kernel, rfl⟩
theorem x_Mo_breachOf_144 : DC b_Mo_breachOf 144 (.getfield 151) 3 147 := ⟨by decide +kernel, rfl⟩
theorem x_Mo_breachOf_147 : DC b_Mo_breachOf 147 (.bipush 10) 2 149 := ⟨by decide +kernel, rfl⟩
theorem x_Mo_breachOf_149 : DC b_Mo_breachOf 149 (.aload_n 0) 1 150 := ⟨by decide +kernel, rfl⟩
theorem x_Mo_breachOf_150 : DC b_Mo_breachOf 150 (.getfield 194) 3 153 := ⟨by decide +kernel, rfl⟩
theorem x_Mo_breachOf_153 : DC b_Mo_breachOf 153 (.iload_n 1) 1 154 := ⟨by decide +kernel, rfl⟩
theorem x_Mo_breachOf_154 : DC b_Mo_breachOf 154 (.iaload) 1 155 := ⟨by decide +kernel, rfl⟩
theorem x_Mo_breachOf_155 : DC b_Mo_breachOf 155 (.i2l) 1 156 := ⟨by decide +kernel, rfl⟩
theorem x_Mo_breachOf_156 : DC b_Mo_breachOf 156 (.lastore) 1 157 := ⟨by decide +kernel, rfl⟩
theorem x_Mo_breachOf_157 : DC b_Mo_breachOf 157 (.aload_n 0) 1 158 := ⟨by decide +kernel, rfl⟩
theorem x_Mo_breachOf_158 : DC b_Mo_breachOf 158 (.bipush 98) 2 160 := ⟨by decide +kernel, rfl⟩
theorem x_Mo_breachOf_160 : DC b_Mo_breachOf 160 (.bipush 114) 2 162 := ⟨by decide +kernel, rfl⟩
theorem x_Mo_breachOf_162 : DC b_Mo_breachOf 162 (.bipush 101) 2 164 := ⟨by decide +kernel, rfl⟩
theorem x_Mo_breachOf_164 : DC b_Mo_breachOf 164 (.bipush 97) 2 166 := ⟨by decide +kernel, rfl⟩
theorem x_Mo_breachOf_166 : DC b_Mo_breachOf 166 (.bipush 99) 2 168 := ⟨by decide +kernel, rfl⟩
theorem x_Mo_breachOf_168 : DC b_Mo_breachOf 168 (.bipush 104) 2 170 := ⟨by decide +kernel, rfl⟩
theorem x_Mo_breachOf_170 : DC b_Mo_breachOf 170 (.invokestatic 350) 3 173 := ⟨by decide +kernel, rfl⟩
theorem x_Mo_breachOf_173 : DC b_Mo_breachOf 173 (.aload_n 0) 1 174 := ⟨by decide +kernel, rfl⟩
theorem x_Mo_breachOf_174 : DC b_Mo_breachOf 174 (.getfield 188) 3 177 := ⟨by decide +kernel, rfl⟩
theorem x_Mo_breachOf_177 : DC b_Mo_breachOf 177 (.iload_n 1) 1 178 := ⟨by decide +kernel, rfl⟩
theorem x_Mo_breachOf_178 : DC b_Mo_breachOf 178 (.iaload) 1 179 := ⟨by decide +kernel, rfl⟩
theorem x_Mo_breachOf_179 : DC b_Mo_breachOf 179 (.lconst 0) 1 180 := ⟨by decide +kernel, rfl⟩
theorem x_Mo_breachOf_180 : DC b_Mo_breachOf 180 (.invokevirtual 354) 3 183 := ⟨by decide +kernel, rfl⟩
theorem x_Mo_breachOf_183 : DC b_Mo_breachOf 183 (.lconst 0) 1 184 := ⟨by decide +kernel, rfl⟩
theorem x_Mo_breachOf_184 : DC b_Mo_breachOf 184 (.ldc2_w 326) 3 187 := ⟨by decide +kernel, rfl⟩
theorem x_Mo_breachOf_187 : DC b_Mo_breachOf 187 (.invokestatic 360) 3 190 := ⟨by decide +kernel, rfl⟩
theorem x_Mo_breachOf_190 : DC b_Mo_breachOf 190 (.lreturn) 1 191 := ⟨by decide +kernel, rfl⟩
def d_Mo_breachOf (a1 : Int) (M : Mem) : Res := chk (0 ≤ w32 a1 ∧ w32 a1 < 60) <| blet (M 167 (ix a1)) fun v2 => chk (0 ≤ w32 a1 ∧ w32 a1 < 60) <| blet (M 168 (ix a1)) fun v4 => blet (dv32 v4 52) fun v5 => chk (0 ≤ w32 v2 ∧ w32 v2 < 20) <| blet (M 164 (ix v2)) fun v7 => if w32 v7 < 0 then (some (0, M)) else (chk (0 ≤ w32 v2 ∧ w32 v2 < 20) <| blet (M 164 (ix v2)) fun v10 => chk (0 ≤ w32 v2 ∧ w32 v2 < 20) <| blet (M 165 (ix v2)) fun v12 => bcall (d_Mo_isIn (w32 v5) (w32 v10) (w32 v12) M) fun v13 M14 => if w32 v13 = 0 then (some (0, M14)) else (chk (0 ≤ w32 ((10 * v2) + v5) ∧ w32 ((10 * v2) + v5) < 200) <| blet (M14 172 (ix ((10 * v2) + v5)) % 2) fun v17 => if w32 v17 = 0 then (bcall (d_Mo_letNothing M14) fun v19 M20 => chk (0 ≤ w32 a1 ∧ w32 a1 < 60) <| blet (M20 168 (ix a1)) fun v22 => blet (sto M20 156 2 (w32 v22)) fun M23 => blet (sto M23 156 3 (w32 v5)) fun M24 => chk (0 ≤ w32 a1 ∧ w32 a1 < 60) <| blet (M24 169 (ix a1)) fun v26 => blet (sto M24 156 4 (w32 v26)) fun M27 => chk (0 ≤ w32 v2 ∧ w32 v2 < 20) <| blet (M27 116 (ix v2)) fun v29 => blet (sto M27 156 5 (w32 v29)) fun M30 => chk (0 ≤ w32 v2 ∧ w32 v2 < 20) <| blet (M30 117 (ix v2)) fun v32 => blet (sto M30 156 6 (w32 v32)) fun M33 => chk (0 ≤ w32 v2 ∧ w32 v2 < 20) <| blet (M33 115 (ix v2)) fun v35 => blet (sto M33 156 7 (w32 v35)) fun M36 => chk (0 ≤ w32 a1 ∧ w32 a1 < 60) <| blet (M36 170 (ix a1)) fun v38 => blet (sto M36 156 10 (w32 v38)) fun M39 => bcall (d_Mo_spelled 98 114 101 97 99 104 M39) fun v40 M41 => chk (0 ≤ w32 a1 ∧ w32 a1 < 60) <| blet (M41 168 (ix a1)) fun v43 => bcall (d_Mo_told v40 v43 0 M41) fun v44 M45 => bcall (d_Mo_cut1 v44 0 1000 M45) fun v46 M47 => some (v46, M47)) else (some (0, M14))))
theorem t_Mo_breachOf (l : Launch) (G : GX) {lev : Nat} (hlev : 5 ≤ lev) {a1 : Int} {M : Mem} {r : Int × Mem} (h : d_Mo_breachOf a1 M = some r) : Mt l G y_Mo_breachOf b_Mo_breachOf 4 (some .long) lev 2 [.ref (G.1 + 111), vi a1] M r := by
  refine Mt.of (by decide) (i_le rfl) ?_
  intro p e s m args below meth c C
  have C : Cx p s m args meth c G b_Mo_breachOf 4 "PrairiePoolModel" (some .long) := C
  unfold d_Mo_breachOf at h
  refine z_sub (lv' := [(0, .ref (G.1 + 111)), (1, vi a1)]) [0, 1] rfl ?_
  refine z_aload_n C 0 x_Mo_breachOf_0 rfl ?_
  refine z_getR (j := 82) C x_Mo_breachOf_1 nk_111 ck_111 cw_12 (i_lt rfl) rfl rf_111_82 rfl fl_Mo_185 ?_
  refine z_iload_n C 1 x_Mo_breachOf_4 rfl ?_
  obtain ⟨c1, h⟩ := chk_e h
  obtain ⟨v2, ev2, h⟩ := blet_e h
  refine z_iald C x_Mo_breachOf_5 nk_167 ck_167 c1 ev2 ?_
  refine z_istore_n (lv' := [(2, vi v2), (0, .ref (G.1 + 111)), (1, vi a1)]) C rfl x_Mo_breachOf_6 (i_lt rfl) rfl ?_
  refine z_aload_n C 1 x_Mo_breachOf_7 rfl ?_
  refine z_getR (j := 83) C x_Mo_breachOf_8 nk_111 ck_111 cw_12 (i_lt rfl) rfl rf_111_83 rfl fl_Mo_188 ?_
  refine z_iload_n C 2 x_Mo_breachOf_11 rfl ?_
  obtain ⟨c3, h⟩ := chk_e h
  obtain ⟨v4, ev4, h⟩ := blet_e h
  refine z_iald C x_Mo_breachOf_12 nk_168 ck_168 c3 ev4 ?_
  refine z_bipush C rfl x_Mo_breachOf_13 ?_
  refine z_idiv C (by decide) x_Mo_breachOf_15 ?_
  obtain ⟨v5, ev5, h⟩ := blet_e h
  refine z_istore_n (lv' := [(3, vi v5), (2, vi v2), (0, .ref (G.1 + 111)), (1, vi a1)]) C ev5 x_Mo_breachOf_16 (i_lt rfl) rfl ?_
  refine z_aload_n C 2 x_Mo_breachOf_17 rfl ?_
  refine z_getR (j := 79) C x_Mo_breachOf_18 nk_111 ck_111 cw_12 (i_lt rfl) rfl rf_111_79 rfl fl_Mo_176 ?_
  refine z_iload_n C 1 x_Mo_breachOf_21 rfl ?_
  obtain ⟨c6, h⟩ := chk_e h
  obtain ⟨v7, ev7, h⟩ := blet_e h
  refine z_iald C x_Mo_breachOf_22 nk_164 ck_164 c6 ev7 ?_
  rcases ite_e h with ⟨c8, h⟩ | ⟨c8, h⟩
  · refine z_if_lt_t (tgt := 62) C x_Mo_breachOf_23 rfl c8 ?_
    refine z_lconst0 C x_Mo_breachOf_62 ?_
    exact z_lret C x_Mo_breachOf_63 h
  · refine z_if_lt_f (tgt := 62) C x_Mo_breachOf_23 rfl c8 ?_
    refine z_iload_n C 0 x_Mo_breachOf_26 rfl ?_
    refine z_i2l C x_Mo_breachOf_27 ?_
    refine z_aload_n C 2 x_Mo_breachOf_28 rfl ?_
    refine z_getR (j := 79) C x_Mo_breachOf_29 nk_111 ck_111 cw_12 (i_lt rfl) rfl rf_111_79 rfl fl_Mo_176 ?_
    refine z_iload_n C 1 x_Mo_breachOf_32 rfl ?_
    obtain ⟨c9, h⟩ := chk_e h
    obtain ⟨v10, ev10, h⟩ := blet_e h
    refine z_iald C x_Mo_breachOf_33 nk_164 ck_164 c9 ev10 ?_
    refine z_i2l C x_Mo_breachOf_34 ?_
    refine z_aload_n C 2 x_Mo_breachOf_35 rfl ?_
    refine z_getR (j := 80) C x_Mo_breachOf_36 nk_111 ck_111 cw_12 (i_lt rfl) rfl rf_111_80 rfl fl_Mo_179 ?_
    refine z_iload_n C 1 x_Mo_breachOf_39 rfl ?_
    obtain ⟨c11, h⟩ := chk_e h
    obtain ⟨v12, ev12, h⟩ := blet_e h
    refine z_iald C x_Mo_breachOf_40 nk_165 ck_165 c11 ev12 ?_
    refine z_i2l C x_Mo_breachOf_41 ?_
    obtain ⟨v13, M14, fv13, h⟩ := bcall_e h
    refine z_callSi C x_Mo_breachOf_42 cs_Mo_265 (t_Mo_isIn (lev := lev - 1) l G (by omega) fv13) (by omega) rfl (i_le rfl) rfl ?_
    rcases ite_e h with ⟨c15, h⟩ | ⟨c15, h⟩
    · refine z_if_eq_t (tgt := 62) C x_Mo_breachOf_45 rfl c15 ?_
      refine z_lconst0 C x_Mo_breachOf_62 ?_
      exact z_lret C x_Mo_breachOf_63 h
    · refine z_if_eq_f (tgt := 62) C x_Mo_breachOf_45 rfl c15 ?_
      refine z_aload_n C 2 x_Mo_breachOf_48 rfl ?_
      refine z_getR (j := 87) C x_Mo_breachOf_49 nk_111 ck_111 cw_12 (i_lt rfl) rfl rf_111_87 rfl fl_Mo_200 ?_
      refine z_bipush C rfl x_Mo_breachOf_52 ?_
      refine z_iload_n C 1 x_Mo_breachOf_54 rfl ?_
      refine z_imul C x_Mo_breachOf_55 ?_
      refine z_iload_n C 0 x_Mo_breachOf_56 rfl ?_
      refine z_iadd C x_Mo_breachOf_57 ?_
      obtain ⟨c16, h⟩ := chk_e h
      obtain ⟨v17, ev17, h⟩ := blet_e h
      refine z_zald C x_Mo_breachOf_58 nk_172 ck_172 c16 ev17 ?_
      rcases ite_e h with ⟨c18, h⟩ | ⟨c18, h⟩
      · refine z_if_eq_t (tgt := 64) C x_Mo_breachOf_59 rfl c18 ?_
        refine z_aload_n C 2 x_Mo_breachOf_64 rfl ?_
        obtain ⟨v19, M20, fv19, h⟩ := bcall_e h
        refine z_callVv (k := 111) C x_Mo_breachOf_65 cv_Mo_344 (t_Mo_letNothing (lev := lev - 1) l G (by omega) fv19) nk_111 ck_111 rfl (by omega) rfl (i_le rfl) rfl ?_
        refine z_aload_n C 2 x_Mo_breachOf_68 rfl ?_
        refine z_getR (j := 68) C x_Mo_breachOf_69 nk_111 ck_111 cw_12 (i_lt rfl) rfl rf_111_68 rfl fl_Mo_151 ?_
        refine z_iconst C x_Mo_breachOf_72 ?_
        refine z_aload_n C 2 x_Mo_breachOf_73 rfl ?_
        refine z_getR (j := 83) C x_Mo_breachOf_74 nk_111 ck_111 cw_12 (i_lt rfl) rfl rf_111_83 rfl fl_Mo_188 ?_
        refine z_iload_n C 3 x_Mo_breachOf_77 rfl ?_
        obtain ⟨c21, h⟩ := chk_e h
        obtain ⟨v22, ev22, h⟩ := blet_e h
        refine z_iald C x_Mo_breachOf_78 nk_168 ck_168 c21 ev22 ?_
        refine z_i2l C x_Mo_breachOf_79 ?_
        obtain ⟨M23, eM23, h⟩ := blet_e h
        refine z_last C x_Mo_breachOf_80 nk_156 ck_156 (by decide) eM23 ?_
        refine z_aload_n C 2 x_Mo_breachOf_81 rfl ?_
        refine z_getR (j := 68) C x_Mo_breachOf_82 nk_111 ck_111 cw_12 (i_lt rfl) rfl rf_111_68 rfl fl_Mo_151 ?_
        refine z_iconst C x_Mo_breachOf_85 ?_
        refine z_iload_n C 0 x_Mo_breachOf_86 rfl ?_
        refine z_i2l C x_Mo_breachOf_87 ?_
        obtain ⟨M24, eM24, h⟩ := blet_e h
        refine z_last C x_Mo_breachOf_88 nk_156 ck_156 (by decide) eM24 ?_
        refine z_aload_n C 2 x_Mo_breachOf_89 rfl ?_
        refine z_getR (j := 68) C x_Mo_breachOf_90 nk_111 ck_111 cw_12 (i_lt rfl) rfl rf_111_68 rfl fl_Mo_151 ?_
        refine z_iconst C x_Mo_breachOf_93 ?_
        refine z_aload_n C 2 x_Mo_breachOf_94 rfl ?_
        refine z_getR (j := 84) C x_Mo_breachOf_95 nk_111 ck_111 cw_12 (i_lt rfl) rfl rf_111_84 rfl fl_Mo_191 ?_
        refine z_iload_n C 3 x_Mo_breachOf_98 rfl ?_
        obtain ⟨c25, h⟩ := chk_e h
        obtain ⟨v26, ev26, h⟩ := blet_e h
        refine z_iald C x_Mo_breachOf_99 nk_169 ck_169 c25 ev26 ?_
        refine z_i2l C x_Mo_breachOf_100 ?_
        obtain ⟨M27, eM27, h⟩ := blet_e h
        refine z_last C x_Mo_breachOf_101 nk_156 ck_156 (by decide) eM27 ?_
        refine z_aload_n C 2 x_Mo_breachOf_102 rfl ?_
        refine z_getR (j := 68) C x_Mo_breachOf_103 nk_111 ck_111 cw_12 (i_lt rfl) rfl rf_111_68 rfl fl_Mo_151 ?_
        refine z_iconst C x_Mo_breachOf_106 ?_
        refine z_aload_n C 2 x_Mo_breachOf_107 rfl ?_
        refine z_getR (j := 12) C x_Mo_breachOf_108 nk_111 ck_111 cw_12 (i_lt rfl) rfl rf_111_12 rfl fl_Mo_23 ?_
        refine z_iload_n C 1 x_Mo_breachOf_111 rfl ?_
        obtain ⟨c28, h⟩ := chk_e h
        obtain ⟨v29, ev29, h⟩ := blet_e h
        refine z_iald C x_Mo_breachOf_112 nk_116 ck_116 c28 ev29 ?_
        refine z_i2l C x_Mo_breachOf_113 ?_
        obtain ⟨M30, eM30, h⟩ := blet_e h
        refine z_last C x_Mo_breachOf_114 nk_156 ck_156 (by decide) eM30 ?_
        refine z_aload_n C 2 x_Mo_breachOf_115 rfl ?_
        refine z_getR (j := 68) C x_Mo_breachOf_116 nk_111 ck_111 cw_12 (i_lt rfl) rfl rf_111_68 rfl fl_Mo_151 ?_
        refine z_bipush C rfl x_Mo_breachOf_119 ?_
        refine z_aload_n C 2 x_Mo_breachOf_121 rfl ?_
        refine z_getR (j := 13) C x_Mo_breachOf_122 nk_111 ck_111 cw_12 (i_lt rfl) rfl rf_111_13 rfl fl_Mo_26 ?_
        refine z_iload_n C 1 x_Mo_breachOf_125 rfl ?_
        obtain ⟨c31, h⟩ := chk_e h
        obtain ⟨v32, ev32, h⟩ := blet_e h
        refine z_iald C x_Mo_breachOf_126 nk_117 ck_117 c31 ev32 ?_
        refine z_i2l C x_Mo_breachOf_127 ?_
        obtain ⟨M33, eM33, h⟩ := blet_e h
        refine z_last C x_Mo_breachOf_128 nk_156 ck_156 (by decide) eM33 ?_
        refine z_aload_n C 2 x_Mo_breachOf_129 rfl ?_
        refine z_getR (j := 68) C x_Mo_breachOf_130 nk_111 ck_111 cw_12 (i_lt rfl) rfl rf_111_68 rfl fl_Mo_151 ?_
        refine z_bipush C rfl x_Mo_breachOf_133 ?_
        refine z_aload_n C 2 x_Mo_breachOf_135 rfl ?_
        refine z_getR (j := 11) C x_Mo_breachOf_136 nk_111 ck_111 cw_12 (i_lt rfl) rfl rf_111_11 rfl fl_Mo_20 ?_
        refine z_iload_n C 1 x_Mo_breachOf_139 rfl ?_
        obtain ⟨c34, h⟩ := chk_e h
        obtain ⟨v35, ev35, h⟩ := blet_e h
        refine z_iald C x_Mo_breachOf_140 nk_115 ck_115 c34 ev35 ?_
        refine z_i2l C x_Mo_breachOf_141 ?_
        obtain ⟨M36, eM36, h⟩ := blet_e h
        refine z_last C x_Mo_breachOf_142 nk_156 ck_156 (by decide) eM36 ?_
        refine z_aload_n C 2 x_Mo_breachOf_143 rfl ?_
        refine z_getR (j := 68) C x_Mo_breachOf_144 nk_111 ck_111 cw_12 (i_lt rfl) rfl rf_111_68 rfl fl_Mo_151 ?_
        refine z_bipush C rfl x_Mo_breachOf_147 ?_
        refine z_aload_n C 2 x_Mo_breachOf_149 rfl ?_
        refine z_getR (j := 85) C x_Mo_breachOf_150 nk_111 ck_111 cw_12 (i_lt rfl) rfl rf_111_85 rfl fl_Mo_194 ?_
        refine z_iload_n C 3 x_Mo_breachOf_153 rfl ?_
        obtain ⟨c37, h⟩ := chk_e h
        obtain ⟨v38, ev38, h⟩ := blet_e h
        refine z_iald C x_Mo_breachOf_154 nk_170 ck_170 c37 ev38 ?_
        refine z_i2l C x_Mo_breachOf_155 ?_
        obtain ⟨M39, eM39, h⟩ := blet_e h
        refine z_last C x_Mo_breachOf_156 nk_156 ck_156 (by decide) eM39 ?_
        refine z_aload_n C 2 x_Mo_breachOf_157 rfl ?_
        refine z_bipush C rfl x_Mo_breachOf_158 ?_
        refine z_bipush C rfl x_Mo_breachOf_160 ?_
        refine z_bipush C rfl x_Mo_breachOf_162 ?_
        refine z_bipush C rfl x_Mo_breachOf_164 ?_
        refine z_bipush C rfl x_Mo_breachOf_166 ?_
        refine z_bipush C rfl x_Mo_breachOf_168 ?_
        obtain ⟨v40, M41, fv40, h⟩ := bcall_e h
        refine z_callSl C x_Mo_breachOf_170 cs_Mo_350 (t_Mo_spelled (lev := lev - 1) l G (by omega) fv40) (by omega) rfl (i_le rfl) rfl ?_
        refine z_aload_n C 2 x_Mo_breachOf_173 rfl ?_
        refine z_getR (j := 83) C x_Mo_breachOf_174 nk_111 ck_111 cw_12 (i_lt rfl) rfl rf_111_83 rfl fl_Mo_188 ?_
        refine z_iload_n C 3 x_Mo_breachOf_177 rfl ?_
        obtain ⟨c42, h⟩ := chk_e h
        obtain ⟨v43, ev43, h⟩ := blet_e h
        refine z_iald C x_Mo_breachOf_178 nk_168 ck_168 c42 ev43 ?_
        refine z_lconst0 C x_Mo_breachOf_179 ?_
        obtain ⟨v44, M45, fv44, h⟩ := bcall_e h
        refine z_callVl (k := 111) C x_Mo_breachOf_180 cv_Mo_354 (t_Mo_told (lev := lev - 1) l G (by omega) fv44) nk_111 ck_111 rfl (by omega) rfl (i_le rfl) rfl ?_
        refine z_lconst0 C x_Mo_breachOf_183 ?_
        refine z_ldc2 C kl_Mo_326 x_Mo_breachOf_184 ?_
        obtain ⟨v46, M47, fv46, h⟩ := bcall_e h
        refine z_callSl C x_Mo_breachOf_187 cs_Mo_360 (t_Mo_cut1 (lev := lev - 1) l G (by omega) fv46) (by omega) rfl (i_le rfl) rfl ?_
        exact z_lret C x_Mo_breachOf_190 h
      · refine z_if_eq_f (tgt := 64) C x_Mo_breachOf_59 rfl c18 ?_
        refine z_lconst0 C x_Mo_breachOf_62 ?_
        exact z_lret C x_Mo_breachOf_63 h
end
