section
variable {p : Program} {l : Launch} {e : Env} {lev : Nat} {s : State} {m : MethodId} {args : Array Value} {below : List Frame} {meth : Method} {c : Code} {G : GX}
theorem x_Mo_send_0 : DC b_Mo_send 0 (.aload_n 0) 1 1 := ⟨by decide +kernel, rfl⟩
theorem x_Mo_send_1 : DC b_Mo_send 1 (.iconst 0) 1 2 := ⟨by decide +kernel, rfl⟩
theorem x_Mo_send_2 : DC b_Mo_send 2 (.putfield 257) 3 5 := ⟨by decide +kernel, rfl⟩
theorem x_Mo_send_5 : DC b_Mo_send 5 (.aload_n 0) 1 6 := ⟨by decide +kernel, rfl⟩
theorem x_Mo_send_6 : DC b_Mo_send 6 (.aload_n 0) 1 7 := ⟨by decide +kernel, rfl⟩
theorem x_Mo_send_7 : DC b_Mo_send 7 (.iload_n 1) 1 8 := ⟨by decide +kernel, rfl⟩
theorem x_Mo_send_8 : DC b_Mo_send 8 (.iload_n 2) 1 9 := ⟨by decide +kernel, rfl⟩
theorem x_Mo_send_9 : DC b_Mo_send 9 (.iload_n 3) 1 10 := ⟨by decide +kernel, rfl⟩
theorem x_Mo_send_10 : DC b_Mo_send 10 (.iload 4) 2 12 := ⟨by decide +kernel, rfl⟩
theorem x_Mo_send_12 : DC b_Mo_send 12 (.iload 5) 2 14 := ⟨by decide +kernel, rfl⟩
theorem x_Mo_send_14 : DC b_Mo_send 14 (.invokevirtual 673) 3 17 := ⟨by decide +kernel, rfl⟩
theorem x_Mo_send_17 : DC b_Mo_send 17 (.putfield 260) 3 20 := ⟨by decide +kernel, rfl⟩
theorem x_Mo_send_20 : DC b_Mo_send 20 (.aload_n 0) 1 21 := ⟨by decide +kernel, rfl⟩
theorem x_Mo_send_21 : DC b_Mo_send 21 (.getfield 260) 3 24 := ⟨by decide +kernel, rfl⟩
theorem x_Mo_send_24 : DC b_Mo_send 24 (.ifCond .le 5) 3 27 := ⟨by decide +kernel, rfl⟩
theorem x_Mo_send_27 : DC b_Mo_send 27 (.iconst (-1)) 1 28 := ⟨by decide +kernel, rfl⟩
theorem x_Mo_send_28 : DC b_Mo_send 28 (.ireturn) 1 29 := ⟨by decide +kernel, rfl⟩
theorem x_Mo_send_29 : DC b_Mo_send 29 (.iconst 0) 1 30 := ⟨by decide +kernel, rfl⟩
theorem x_Mo_send_30 : DC b_Mo_send 30 (.istore 6) 2 32 := ⟨by decide +kernel, rfl⟩
theorem x_Mo_send_32 : DC b_Mo_send 32 (.iconst 0) 1 33 := ⟨by decide +kernel, rfl⟩
theorem x_Mo_send_33 : DC b_Mo_send 33 (.istore 7) 2 35 := ⟨by decide +kernel, rfl⟩
theorem x_Mo_send_35 : DC b_Mo_send 35 (.iload 7) 2 37 := ⟨by decide +kernel, rfl⟩
theorem x_Mo_send_37 : DC b_Mo_send 37 (.iload_n 2) 1 38 := ⟨by decide +kernel, rfl⟩
theorem x_Mo_send_38 : DC b_Mo_send 38 (.if_icmp .ge 24) 3 41 := ⟨by decide +kernel, rfl⟩
theorem x_Mo_send_41 : DC b_Mo_send 41 (.aload_n 0) 1 42 := ⟨by decide +kernel, rfl⟩
theorem x_Mo_send_42 : DC b_Mo_send 42 (.getfield 236) 3 45 := ⟨by decide +kernel, rfl⟩
theorem x_Mo_send_45 : DC b_Mo_send 45 (.iload 7) 2 47 := ⟨by decide +kernel, rfl⟩
theorem x_Mo_send_47 : DC b_Mo_send 47 (.aload_n 0) 1 48 := ⟨by decide +kernel, rfl⟩
theorem x_Mo_send_48 : DC b_Mo_send 48 (.iload_n 1) 1 49 := ⟨by decide +kernel, rfl⟩
theorem x_Mo_send_49 : DC b_Mo_send 49 (.iload 7) 2 51 := ⟨by decide +kernel, rfl⟩
theorem x_Mo_send_51 : DC b_Mo_send 51 (.invokevirtual 658) 3 54 := ⟨by decide +kernel, rfl⟩
theorem x_Mo_send_54 : DC b_Mo_send 54 (.l2i) 1 55 := ⟨by decide +kernel, rfl⟩
theorem x_Mo_send_55 : DC b_Mo_send 55 (.iastore) 1 56 := ⟨by decide +kernel, rfl⟩
theorem x_Mo_send_56 : DC b_Mo_send 56 (.iinc 7 1) 3 59 := ⟨by decide +kernel, rfl⟩
theorem x_Mo_send_59 : DC b_Mo_send 59 (.goto (-24)) 3 62 := ⟨by decide +kernel, rfl⟩
theorem x_Mo_send_62 : DC b_Mo_send 62 (.iconst 0) 1 63 := ⟨by decide +kernel, rfl⟩
theorem x_Mo_send_63 : DC b_Mo_send 63 (.istore 7) 2 65 := ⟨by decide +kernel, rfl⟩
theorem x_Mo_send_65 : DC b_Mo_send 65 (.iload 7) 2 67 := ⟨by decide +kernel, rfl⟩
theorem x_Mo_send_67 : DC b_Mo_send 67 (.iload 4) 2 69 := ⟨by decide +kernel, rfl⟩
theorem x_Mo_send_69 : DC b_Mo_send 69 (.if_icmp .ge 36) 3 72 := ⟨by decide +kernel, rfl⟩
theorem x_Mo_send_72 : DC b_Mo_send 72 (.aload_n 0) 1 73 := ⟨by decide +kernel, rfl⟩
theorem x_Mo_send_73 : DC b_Mo_send 73 (.getfield 239) 3 76 := ⟨by decide +kernel, rfl⟩
theorem x_Mo_send_76 : DC b_Mo_send 76 (.iload 7) 2 78 := ⟨by decide +kernel, rfl⟩
theorem x_Mo_send_78 : DC b_Mo_send 78 (.aload_n 0) 1 79 := ⟨by decide +kernel, rfl⟩
theorem x_Mo_send_79 : DC b_Mo_send 79 (.iload_n 3) 1 80 := ⟨by decide +kernel, rfl⟩
theorem x_Mo_send_80 : DC b_Mo_send 80 (.iload 7) 2 82 := ⟨by decide +kernel, rfl⟩
theorem x_Mo_send_82 : DC b_Mo_send 82 (.invokevirtual 658) 3 85 := ⟨by decide +kernel, rfl⟩
theorem x_Mo_send_85 : DC b_Mo_send 85 (.l2i) 1 86 := ⟨by decide +kernel, rfl⟩
theorem x_Mo_send_86 : DC b_Mo_send 86 (.iastore) 1 87 := ⟨by decide +kernel, rfl⟩
theorem x_Mo_send_87 : DC b_Mo_send 87 (.iload 6) 2 89 := ⟨by decide +kernel, rfl⟩
theorem x_Mo_send_89 : DC b_Mo_send 89 (.aload_n 0) 1 90 := ⟨by decide +kernel, rfl⟩
theorem x_Mo_send_90 : DC b_Mo_send 90 (.getfield 239) 3 93 := ⟨by decide +kernel, rfl⟩
theorem x_Mo_send_93 : DC b_Mo_send 93 (.iload 7) 2 95 := ⟨by decide +kernel, rfl⟩
theorem x_Mo_send_95 : DC b_Mo_send 95 (.iaload) 1 96 := ⟨by decide +kernel, rfl⟩
theorem x_Mo_send_96 : DC b_Mo_send 96 (.iadd) 1 97 := ⟨by decide +kernel, rfl⟩
theorem x_Mo_send_97 : DC b_Mo_send 97 (.istore 6) 2 99 := ⟨by decide +kernel, rfl⟩
theorem x_Mo_send_99 : DC b_Mo_send 99 (.iinc 7 1) 3 102 := ⟨by decide +kernel, rfl⟩
theorem x_Mo_send_102 : DC b_Mo_send 102 (.goto (-37)) 3 105 := ⟨by decide +kernel, rfl⟩
theorem x_Mo_send_105 : DC b_Mo_send 105 (.iconst 0) 1 106 := ⟨by decide +kernel, rfl⟩
theorem x_Mo_send_106 : DC b_Mo_send 106 (.istore 7) 2 108 := ⟨by decide +kernel, rfl⟩
theorem x_Mo_send_108 : DC b_Mo_send 108 (.iload 7) 2 110 := ⟨by decide +kernel, rfl⟩
theorem x_Mo_send_110 : DC b_Mo_send 110 (.iload_n 2) 1 111 := ⟨by decide +kernel, rfl⟩
theorem x_Mo_send_111 : DC b_Mo_send 111 (.iload 4) 2 113 := ⟨by decide +kernel, rfl⟩
theorem x_Mo_send_113 : DC b_Mo_send 113 (.imul) 1 114 := ⟨by decide +kernel, rfl⟩
theorem x_Mo_send_114 : DC b_Mo_send 114 (.if_icmp .ge 33) 3 117 := ⟨by decide +kernel, rfl⟩
theorem x_Mo_send_117 : DC b_Mo_send 117 (.aload_n 0) 1 118 := ⟨by decide +kernel, rfl⟩
theorem x_Mo_send_118 : DC b_Mo_send 118 (.getfield 242) 3 121 := ⟨by decide +kernel, rfl⟩
theorem x_Mo_send_121 : DC b_Mo_send 121 (.iload 7) 2 123 := ⟨by decide +kernel, rfl⟩
theorem x_Mo_send_123 : DC b_Mo_send 123 (.aload_n 0) 1 124 := ⟨by decide +kernel, rfl⟩
theorem x_Mo_send_124 : DC b_Mo_send 124 (.iload 5) 2 126 := ⟨by decide +kernel, rfl⟩
theorem x_Mo_send_126 : DC b_Mo_send 126 (.iload 7) 2 128 := ⟨by decide +kernel, rfl⟩
theorem x_Mo_send_128 : DC b_Mo_send 128 (.invokevirtual 658) 3 131 := ⟨by decide +kernel, rfl⟩
theorem x_Mo_send_131 : DC b_Mo_send 131 (.l2i) 1 132 := ⟨by decide +kernel, rfl⟩
theorem x_Mo_send_132 : DC b_Mo_send 132 (.iastore) 1 133 := ⟨by decide +kernel, rfl⟩
theorem x_Mo_send_133 : DC b_Mo_send 133 (.aload_n 0) 1 134 := ⟨by decide +kernel, rfl⟩
theorem x_Mo_send_134 : DC b_Mo_send 134 (.getfield 245) 3 137 := ⟨by decide +kernel, rfl⟩
theorem x_Mo_send_137 : DC b_Mo_send 137 (.iload 7) 2 139 := ⟨by decide +kernel, rfl⟩
theorem x_Mo_send_139 : DC b_Mo_send 139 (.iconst 0) 1 140 := ⟨by decide +kernel, rfl⟩
theorem x_Mo_send_140 : DC b_Mo_send 140 (.iastore) 1 141 := ⟨by decide +kernel, rfl⟩
theorem x_Mo_send_141 : DC b_Mo_send 141 (.iinc 7 1) 3 144 := ⟨by decide +kernel, rfl⟩
theorem x_Mo_send_144 : DC b_Mo_send 144 (.goto (-36)) 3 147 := ⟨by decide +kernel, rfl⟩
theorem x_Mo_send_147 : DC b_Mo_send 147 (.iconst 0) 1 148 := ⟨by decide +kernel, rfl⟩
theorem x_Mo_send_148 : DC b_Mo_send 148 (.istore 7) 2 150 := ⟨by decide +kernel, rfl⟩
theorem x_Mo_send_150 : DC b_Mo_send 150 (.iconst 0) 1 151 := ⟨by decide +kernel, rfl⟩
theorem x_Mo_send_151 : DC b_Mo_send 151 (.istore 8) 2 153 := ⟨by decide +kernel, rfl⟩
theorem x_Mo_send_153 : DC b_Mo_send 153 (.iload 8) 2 155 := ⟨by decide +kernel, rfl⟩
theorem x_Mo_send_155 : DC b_Mo_send 155 (.iload 6) 2 157 := ⟨by decide +kernel, rfl⟩
theorem x_Mo_send_157 : DC b_Mo_send 157 (.if_icmp .ge 21) 3 160 := ⟨by decide +kernel, rfl⟩
theorem x_Mo_send_160 : DC b_Mo_send 160 (.iload 7) 2 162 := ⟨by decide +kernel, rfl⟩
theorem x_Mo_send_162 : DC b_Mo_send 162 (.aload_n 0) 1 163 := ⟨by decide +kernel, rfl⟩
theorem x_Mo_send_163 : DC b_Mo_send 163 (.iload_n 2) 1 164 := ⟨by decide +kernel, rfl⟩
theorem x_Mo_send_164 : DC b_Mo_send 164 (.iload 4) 2 166 := ⟨by decide +kernel, rfl⟩
theorem x_Mo_send_166 : DC b_Mo_send 166 (.invokevirtual 677) 3 169 := ⟨by decide +kernel, rfl⟩
theorem x_Mo_send_169 : DC b_Mo_send 169 (.iadd) 1 170 := ⟨by decide +kernel, rfl⟩
theorem x_Mo_send_170 : DC b_Mo_send 170 (.istore 7) 2 172 := ⟨by decide +kernel, rfl⟩
theorem x_Mo_send_172 : DC b_Mo_send 172 (.iinc 8 1) 3 175 := ⟨by decide +kernel, rfl⟩
theorem x_Mo_send_175 : DC b_Mo_send 175 (.goto (-22)) 3 178 := ⟨by decide +kernel, rfl⟩
theorem x_Mo_send_178 : DC b_Mo_send 178 (.iload 7) 2 180 := ⟨by decide +kernel, rfl⟩
theorem x_Mo_send_180 : DC b_Mo_send 180 (.ireturn) 1 181 := ⟨by decide +kernel, rfl⟩
def k_Mo_send_153 (R153 : Int → Int → Int → Int → Int → Mem → Res) (a2 a4 a6 a7 a8 : Int) (M : Mem) : Res := if w32 a8 < w32 a6 then (bcall (d_Mo_bushel a2 a4 M) fun v2 M3 => blet (a7 + v2) fun v4 => blet (a8 + 1) fun v5 => R153 a2 a4 a6 v4 v5 M3) else (some (a7, M))
theorem z_Mo_send_153 (C : Cx p s m args meth c G b_Mo_send 9 "PrairiePoolModel" (some .int)) (hlev : 2 ≤ lev) {r : Int × Mem} {R153 : Int → Int → Int → Int → Int → Mem → Res} (hR153 : ∀ (a2 a4 a6 a7 a8 : Int) (M : Mem), R153 a2 a4 a6 a7 a8 M = some r → Z p l e lev s m args below meth c G 9 (MQ below (Qm G 1 r) args s 0 0 (Ab G)) M 153 [(0, .ref (G.1 + 111)), (2, vi a2), (4, vi a4), (6, vi a6), (7, vi a7), (8, vi a8)] []) {a2 a4 a6 a7 a8 : Int} {M : Mem} (h : k_Mo_send_153 R153 a2 a4 a6 a7 a8 M = some r) : Z p l e lev s m args below meth c G 9 (MQ below (Qm G 1 r) args s 0 0 (Ab G)) M 153 [(0, .ref (G.1 + 111)), (2, vi a2), (4, vi a4), (6, vi a6), (7, vi a7), (8, vi a8)] [] := by
  unfold k_Mo_send_153 at h
  refine z_iload C 5 x_Mo_send_153 rfl ?_
  refine z_iload C 3 x_Mo_send_155 rfl ?_
  rcases ite_e h with ⟨c1, h⟩ | ⟨c1, h⟩
  · refine z_icmp_ge_f (tgt := 178) C x_Mo_send_157 rfl c1 ?_
    refine z_iload C 4 x_Mo_send_160 rfl ?_
    refine z_aload_n C 0 x_Mo_send_162 rfl ?_
    refine z_iload_n C 1 x_Mo_send_163 rfl ?_
    refine z_iload C 2 x_Mo_send_164 rfl ?_
    obtain ⟨v2, M3, fv2, h⟩ := bcall_e h
    refine z_callVi (k := 111) C x_Mo_send_166 cv_Mo_677 (t_Mo_bushel (lev := lev - 1) l G (by omega) fv2) nk_111 ck_111 rfl (by omega) rfl (i_le rfl) rfl ?_
    refine z_iadd C x_Mo_send_169 ?_
    obtain ⟨v4, ev4, h⟩ := blet_e h
    refine z_istore (lv' := [(7, vi v4), (0, .ref (G.1 + 111)), (2, vi a2), (4, vi a4), (6, vi a6), (8, vi a8)]) C ev4 x_Mo_send_170 (i_lt rfl) rfl ?_
    obtain ⟨v5, ev5, h⟩ := blet_e h
    refine z_iinc (lv' := [(8, vi v5), (7, vi v4), (0, .ref (G.1 + 111)), (2, vi a2), (4, vi a4), (6, vi a6)]) C 5 ev5 x_Mo_send_172 rfl (i_lt rfl) rfl ?_
    refine z_goto (tgt := 153) C x_Mo_send_175 rfl ?_
    exact z_sub [2, 3, 4, 5, 1, 0] rfl (hR153 a2 a4 a6 v4 v5 M3 h)
  · refine z_icmp_ge_t (tgt := 178) C x_Mo_send_157 rfl c1 ?_
    refine z_iload C 4 x_Mo_send_178 rfl ?_
    exact z_iret C x_Mo_send_180 h
theorem zl_Mo_send_153 (C : Cx p s m args meth c G b_Mo_send 9 "PrairiePoolModel" (some .int)) (hlev : 2 ≤ lev) {r : Int × Mem}  : ∀ (n : Nat) (a2 a4 a6 a7 a8 : Int) (M : Mem), fix (fun _ _ _ _ _ _ => none) (k_Mo_send_153) n a2 a4 a6 a7 a8 M = some r → Z p l e lev s m args below meth c G 9 (MQ below (Qm G 1 r) args s 0 0 (Ab G)) M 153 [(0, .ref (G.1 + 111)), (2, vi a2), (4, vi a4), (6, vi a6), (7, vi a7), (8, vi a8)] [] := by
  intro n
  induction n with
  | zero => intro a2 a4 a6 a7 a8 M h; exact nomatch (show (none : Res) = some r from h)
  | succ n ih => intro a2 a4 a6 a7 a8 M h; exact z_Mo_send_153 C hlev ih h
def k_Mo_send_108 (R108 : Int → Int → Int → Int → Int → Mem → Res) (a2 a4 a5 a6 a7 : Int) (M : Mem) : Res := if w32 a7 < w32 (a2 * a4) then (bcall (d_Mo_numberOf a5 a7 M) fun v2 M3 => chk (0 ≤ w32 a7 ∧ w32 a7 < 20) <| blet (sto M3 184 (ix a7) v2) fun M5 => chk (0 ≤ w32 a7 ∧ w32 a7 < 20) <| blet (sto M5 185 (ix a7) 0) fun M7 => blet (a7 + 1) fun v8 => R108 a2 a4 a5 a6 v8 M7) else (fix (fun _ _ _ _ _ _ => none) (k_Mo_send_153) FU a2 a4 a6 0 0 M)
theorem z_Mo_send_108 (C : Cx p s m args meth c G b_Mo_send 9 "PrairiePoolModel" (some .int)) (hlev : 2 ≤ lev) {r : Int × Mem} {R108 : Int → Int → Int → Int → Int → Mem → Res} (hR108 : ∀ (a2 a4 a5 a6 a7 : Int) (M : Mem), R108 a2 a4 a5 a6 a7 M = some r → Z p l e lev s m args below meth c G 9 (MQ below (Qm G 1 r) args s 0 0 (Ab G)) M 108 [(0, .ref (G.1 + 111)), (2, vi a2), (4, vi a4), (5, vi a5), (6, vi a6), (7, vi a7)] []) {a2 a4 a5 a6 a7 : Int} {M : Mem} (h : k_Mo_send_108 R108 a2 a4 a5 a6 a7 M = some r) : Z p l e lev s m args below meth c G 9 (MQ below (Qm G 1 r) args s 0 0 (Ab G)) M 108 [(0, .ref (G.1 + 111)), (2, vi a2), (4, vi a4), (5, vi a5), (6, vi a6), (7, vi a7)] [] := by
  unfold k_Mo_send_108 at h
  refine z_iload C 5 x_Mo_send_108 rfl ?_
  refine z_iload_n C 1 x_Mo_send_110 rfl ?_
  refine z_iload C 2 x_Mo_send_111 rfl ?_
  refine z_imul C x_Mo_send_113 ?_
  rcases ite_e h with ⟨c1, h⟩ | ⟨c1, h⟩
  · refine z_icmp_ge_f (tgt := 147) C x_Mo_send_114 rfl c1 ?_
    refine z_aload_n C 0 x_Mo_send_117 rfl ?_
    refine z_getR (j := 102) C x_Mo_send_118 nk_111 ck_111 cw_12 (i_lt rfl) rfl rf_111_102 rfl fl_Mo_242 ?_
    refine z_iload C 5 x_Mo_send_121 rfl ?_
    refine z_aload_n C 0 x_Mo_send_123 rfl ?_
    refine z_iload C 3 x_Mo_send_124 rfl ?_
    refine z_iload C 5 x_Mo_send_126 rfl ?_
    obtain ⟨v2, M3, fv2, h⟩ := bcall_e h
    refine z_callVl (k := 111) C x_Mo_send_128 cv_Mo_658 (t_Mo_numberOf (lev := lev - 1) l G (by omega) fv2) nk_111 ck_111 rfl (by omega) rfl (i_le rfl) rfl ?_
    refine z_l2i C x_Mo_send_131 ?_
    obtain ⟨c4, h⟩ := chk_e h
    obtain ⟨M5, eM5, h⟩ := blet_e h
    refine z_iast C x_Mo_send_132 nk_184 ck_184 c4 eM5 ?_
    refine z_aload_n C 0 x_Mo_send_133 rfl ?_
    refine z_getR (j := 103) C x_Mo_send_134 nk_111 ck_111 cw_12 (i_lt rfl) rfl rf_111_103 rfl fl_Mo_245 ?_
    refine z_iload C 5 x_Mo_send_137 rfl ?_
    refine z_iconst C x_Mo_send_139 ?_
    obtain ⟨c6, h⟩ := chk_e h
    obtain ⟨M7, eM7, h⟩ := blet_e h
    refine z_iast C x_Mo_send_140 nk_185 ck_185 c6 eM7 ?_
    obtain ⟨v8, ev8, h⟩ := blet_e h
    refine z_iinc (lv' := [(7, vi v8), (0, .ref (G.1 + 111)), (2, vi a2), (4, vi a4), (5, vi a5), (6, vi a6)]) C 5 ev8 x_Mo_send_141 rfl (i_lt rfl) rfl ?_
    refine z_goto (tgt := 108) C x_Mo_send_144 rfl ?_
    exact z_sub [1, 2, 3, 4, 5, 0] rfl (hR108 a2 a4 a5 a6 v8 M7 h)
  · refine z_icmp_ge_t (tgt := 147) C x_Mo_send_114 rfl c1 ?_
    refine z_iconst C x_Mo_send_147 ?_
    refine z_istore (lv' := [(7, vi 0), (0, .ref (G.1 + 111)), (2, vi a2), (4, vi a4), (5, vi a5), (6, vi a6)]) C rfl x_Mo_send_148 (i_lt rfl) rfl ?_
    refine z_iconst C x_Mo_send_150 ?_
    refine z_istore (lv' := [(8, vi 0), (7, vi 0), (0, .ref (G.1 + 111)), (2, vi a2), (4, vi a4), (5, vi a5), (6, vi a6)]) C rfl x_Mo_send_151 (i_lt rfl) rfl ?_
    exact z_sub [2, 3, 4, 6, 1, 0] rfl (zl_Mo_send_153 C hlev FU a2 a4 a6 0 0 M h)
theorem zl_Mo_send_108 (C : Cx p s m args meth c G b_Mo_send 9 "PrairiePoolModel" (some .int)) (hlev : 2 ≤ lev) {r : Int × Mem}  : ∀ (n : Nat) (a2 a4 a5 a6 a7 : Int) (M : Mem), fix (fun _ _ _ _ _ _ => none) (k_Mo_send_108) n a2 a4 a5 a6 a7 M = some r → Z p l e lev s m args below meth c G 9 (MQ below (Qm G 1 r) args s 0 0 (Ab G)) M 108 [(0, .ref (G.1 + 111)), (2, vi a2), (4, vi a4), (5, vi a5), (6, vi a6), (7, vi a7)] [] := by
  intro n
  induction n with
  | zero => intro a2 a4 a5 a6 a7 M h; exact nomatch (show (none : Res) = some r from h)
  | succ n ih => intro a2 a4 a5 a6 a7 M h; exact z_Mo_send_108 C hlev ih h
def k_Mo_send_65 (R65 : Int → Int → Int → Int → Int → Int → Mem → Res) (a2 a3 a4 a5 a6 a7 : Int) (M : Mem) : Res := if w32 a7 < w32 a4 then (bcall (d_Mo_numberOf a3 a7 M) fun v2 M3 => chk (0 ≤ w32 a7 ∧ w32 a7 < 4) <| blet (sto M3 183 (ix a7) v2) fun M5 => chk (0 ≤ w32 a7 ∧ w32 a7 < 4) <| blet (M5 183 (ix a7)) fun v7 => blet (a6 + v7) fun v8 => blet (a7 + 1) fun v9 => R65 a2 a3 a4 a5 v8 v9 M5) else (fix (fun _ _ _ _ _ _ => none) (k_Mo_send_108) FU a2 a4 a5 a6 0 M)
theorem z_Mo_send_65 (C : Cx p s m args meth c G b_Mo_send 9 "PrairiePoolModel" (some .int)) (hlev : 2 ≤ lev) {r : Int × Mem} {R65 : Int → Int → Int → Int → Int → Int → Mem → Res} (hR65 : ∀ (a2 a3 a4 a5 a6 a7 : Int) (M : Mem), R65 a2 a3 a4 a5 a6 a7 M = some r → Z p l e lev s m args below meth c G 9 (MQ below (Qm G 1 r) args s 0 0 (Ab G)) M 65 [(0, .ref (G.1 + 111)), (2, vi a2), (3, vi a3), (4, vi a4), (5, vi a5), (6, vi a6), (7, vi a7)] []) {a2 a3 a4 a5 a6 a7 : Int} {M : Mem} (h : k_Mo_send_65 R65 a2 a3 a4 a5 a6 a7 M = some r) : Z p l e lev s m args below meth c G 9 (MQ below (Qm G 1 r) args s 0 0 (Ab G)) M 65 [(0, .ref (G.1 + 111)), (2, vi a2), (3, vi a3), (4, vi a4), (5, vi a5), (6, vi a6), (7, vi a7)] [] := by
  unfold k_Mo_send_65 at h
  refine z_iload C 6 x_Mo_send_65 rfl ?_
  refine z_iload C 3 x_Mo_send_67 rfl ?_
  rcases ite_e h with ⟨c1, h⟩ | ⟨c1, h⟩
  · refine z_icmp_ge_f (tgt := 105) C x_Mo_send_69 rfl c1 ?_
    refine z_aload_n C 0 x_Mo_send_72 rfl ?_
    refine z_getR (j := 101) C x_Mo_send_73 nk_111 ck_111 cw_12 (i_lt rfl) rfl rf_111_101 rfl fl_Mo_239 ?_
    refine z_iload C 6 x_Mo_send_76 rfl ?_
    refine z_aload_n C 0 x_Mo_send_78 rfl ?_
    refine z_iload_n C 2 x_Mo_send_79 rfl ?_
    refine z_iload C 6 x_Mo_send_80 rfl ?_
    obtain ⟨v2, M3, fv2, h⟩ := bcall_e h
    refine z_callVl (k := 111) C x_Mo_send_82 cv_Mo_658 (t_Mo_numberOf (lev := lev - 1) l G (by omega) fv2) nk_111 ck_111 rfl (by omega) rfl (i_le rfl) rfl ?_
    refine z_l2i C x_Mo_send_85 ?_
    obtain ⟨c4, h⟩ := chk_e h
    obtain ⟨M5, eM5, h⟩ := blet_e h
    refine z_iast C x_Mo_send_86 nk_183 ck_183 c4 eM5 ?_
    refine z_iload C 5 x_Mo_send_87 rfl ?_
    refine z_aload_n C 0 x_Mo_send_89 rfl ?_
    refine z_getR (j := 101) C x_Mo_send_90 nk_111 ck_111 cw_12 (i_lt rfl) rfl rf_111_101 rfl fl_Mo_239 ?_
    refine z_iload C 6 x_Mo_send_93 rfl ?_
    obtain ⟨c6, h⟩ := chk_e h
    obtain ⟨v7, ev7, h⟩ := blet_e h
    refine z_iald C x_Mo_send_95 nk_183 ck_183 c6 ev7 ?_
    refine z_iadd C x_Mo_send_96 ?_
    obtain ⟨v8, ev8, h⟩ := blet_e h
    refine z_istore (lv' := [(6, vi v8), (0, .ref (G.1 + 111)), (2, vi a2), (3, vi a3), (4, vi a4), (5, vi a5), (7, vi a7)]) C ev8 x_Mo_send_97 (i_lt rfl) rfl ?_
    obtain ⟨v9, ev9, h⟩ := blet_e h
    refine z_iinc (lv' := [(7, vi v9), (6, vi v8), (0, .ref (G.1 + 111)), (2, vi a2), (3, vi a3), (4, vi a4), (5, vi a5)]) C 6 ev9 x_Mo_send_99 rfl (i_lt rfl) rfl ?_
    refine z_goto (tgt := 65) C x_Mo_send_102 rfl ?_
    exact z_sub [2, 3, 4, 5, 6, 1, 0] rfl (hR65 a2 a3 a4 a5 v8 v9 M5 h)
  · refine z_icmp_ge_t (tgt := 105) C x_Mo_send_69 rfl c1 ?_
    refine z_iconst C x_Mo_send_105 ?_
    refine z_istore (lv' := [(7, vi 0), (0, .ref (G.1 + 111)), (2, vi a2), (3, vi a3), (4, vi a4), (5, vi a5), (6, vi a6)]) C rfl x_Mo_send_106 (i_lt rfl) rfl ?_
    exact z_sub [1, 2, 4, 5, 6, 0] rfl (zl_Mo_send_108 C hlev FU a2 a4 a5 a6 0 M h)
theorem zl_Mo_send_65 (C : Cx p s m args meth c G b_Mo_send 9 "PrairiePoolModel" (some .int)) (hlev : 2 ≤ lev) {r : Int × Mem}  : ∀ (n : Nat) (a2 a3 a4 a5 a6 a7 : Int) (M : Mem), fix (fun _ _ _ _ _ _ _ => none) (k_Mo_send_65) n a2 a3 a4 a5 a6 a7 M = some r → Z p l e lev s m args below meth c G 9 (MQ below (Qm G 1 r) args s 0 0 (Ab G)) M 65 [(0, .ref (G.1 + 111)), (2, vi a2), (3, vi a3), (4, vi a4), (5, vi a5), (6, vi a6), (7, vi a7)] [] := by
  intro n
  induction n with
  | zero => intro a2 a3 a4 a5 a6 a7 M h; exact nomatch (show (none : Res) = some r from h)
  | succ n ih => intro a2 a3 a4 a5 a6 a7 M h; exact z_Mo_send_65 C hlev ih h
def k_Mo_send_35 (R35 : Int → Int → Int → Int → Int → Int → Int → Mem → Res) (a1 a2 a3 a4 a5 a6 a7 : Int) (M : Mem) : Res := if w32 a7 < w32 a2 then (bcall (d_Mo_numberOf a1 a7 M) fun v2 M3 => chk (0 ≤ w32 a7 ∧ w32 a7 < 5) <| blet (sto M3 182 (ix a7) v2) fun M5 => blet (a7 + 1) fun v6 => R35 a1 a2 a3 a4 a5 a6 v6 M5) else (fix (fun _ _ _ _ _ _ _ => none) (k_Mo_send_65) FU a2 a3 a4 a5 a6 0 M)
theorem z_Mo_send_35 (C : Cx p s m args meth c G b_Mo_send 9 "PrairiePoolModel" (some .int)) (hlev : 2 ≤ lev) {r : Int × Mem} {R35 : Int → Int → Int → Int → Int → Int → Int → Mem → Res} (hR35 : ∀ (a1 a2 a3 a4 a5 a6 a7 : Int) (M : Mem), R35 a1 a2 a3 a4 a5 a6 a7 M = some r → Z p l e lev s m args below meth c G 9 (MQ below (Qm G 1 r) args s 0 0 (Ab G)) M 35 [(0, .ref (G.1 + 111)), (1, vi a1), (2, vi a2), (3, vi a3), (4, vi a4), (5, vi a5), (6, vi a6), (7, vi a7)] []) {a1 a2 a3 a4 a5 a6 a7 : Int} {M : Mem} (h : k_Mo_send_35 R35 a1 a2 a3 a4 a5 a6 a7 M = some r) : Z p l e lev s m args below meth c G 9 (MQ below (Qm G 1 r) args s 0 0 (Ab G)) M 35 [(0, .ref (G.1 + 111)), (1, vi a1), (2, vi a2), (3, vi a3), (4, vi a4), (5, vi a5), (6, vi a6), (7, vi a7)] [] := by
  unfold k_Mo_send_35 at h
  refine z_iload C 7 x_Mo_send_35 rfl ?_
  refine z_iload_n C 2 x_Mo_send_37 rfl ?_
  rcases ite_e h with ⟨c1, h⟩ | ⟨c1, h⟩
  · refine z_icmp_ge_f (tgt := 62) C x_Mo_send_38 rfl c1 ?_
    refine z_aload_n C 0 x_Mo_send_41 rfl ?_
    refine z_getR (j := 100) C x_Mo_send_42 nk_111 ck_111 cw_12 (i_lt rfl) rfl rf_111_100 rfl fl_Mo_236 ?_
    refine z_iload C 7 x_Mo_send_45 rfl ?_
    refine z_aload_n C 0 x_Mo_send_47 rfl ?_
    refine z_iload_n C 1 x_Mo_send_48 rfl ?_
    refine z_iload C 7 x_Mo_send_49 rfl ?_
    obtain ⟨v2, M3, fv2, h⟩ := bcall_e h
    refine z_callVl (k := 111) C x_Mo_send_51 cv_Mo_658 (t_Mo_numberOf (lev := lev - 1) l G (by omega) fv2) nk_111 ck_111 rfl (by omega) rfl (i_le rfl) rfl ?_
    refine z_l2i C x_Mo_send_54 ?_
    obtain ⟨c4, h⟩ := chk_e h
    obtain ⟨M5, eM5, h⟩ := blet_e h
    refine z_iast C x_Mo_send_55 nk_182 ck_182 c4 eM5 ?_
    obtain ⟨v6, ev6, h⟩ := blet_e h
    refine z_iinc (lv' := [(7, vi v6), (0, .ref (G.1 + 111)), (1, vi a1), (2, vi a2), (3, vi a3), (4, vi a4), (5, vi a5), (6, vi a6)]) C 7 ev6 x_Mo_send_56 rfl (i_lt rfl) rfl ?_
    refine z_goto (tgt := 35) C x_Mo_send_59 rfl ?_
    exact z_sub [1, 2, 3, 4, 5, 6, 7, 0] rfl (hR35 a1 a2 a3 a4 a5 a6 v6 M5 h)
  · refine z_icmp_ge_t (tgt := 62) C x_Mo_send_38 rfl c1 ?_
    refine z_iconst C x_Mo_send_62 ?_
    refine z_istore (lv' := [(7, vi 0), (0, .ref (G.1 + 111)), (1, vi a1), (2, vi a2), (3, vi a3), (4, vi a4), (5, vi a5), (6, vi a6)]) C rfl x_Mo_send_63 (i_lt rfl) rfl ?_
    exact z_sub [1, 3, 4, 5, 6, 7, 0] rfl (zl_Mo_send_65 C hlev FU a2 a3 a4 a5 a6 0 M h)
theorem zl_Mo_send_35 (C : Cx p s m args meth c G b_Mo_send 9 "PrairiePoolModel" (some .int)) (hlev : 2 ≤ lev) {r : Int × Mem}  : ∀ (n : Nat) (a1 a2 a3 a4 a5 a6 a7 : Int) (M : Mem), fix (fun _ _ _ _ _ _ _ _ => none) (k_Mo_send_35) n a1 a2 a3 a4 a5 a6 a7 M = some r → Z p l e lev s m args below meth c G 9 (MQ below (Qm G 1 r) args s 0 0 (Ab G)) M 35 [(0, .ref (G.1 + 111)), (1, vi a1), (2, vi a2), (3, vi a3), (4, vi a4), (5, vi a5), (6, vi a6), (7, vi a7)] [] := by
  intro n
  induction n with
  | zero => intro a1 a2 a3 a4 a5 a6 a7 M h; exact nomatch (show (none : Res) = some r from h)
  | succ n ih => intro a1 a2 a3 a4 a5 a6 a7 M h; exact z_Mo_send_35 C hlev ih h
def d_Mo_send (a1 a2 a3 a4 a5 : Int) (M : Mem) : Res := blet (sto M 111 1 0) fun M1 => bcall (d_Mo_asksSend a1 a2 a3 a4 a5 M1) fun v2 M3 => blet (sto M3 111 0 v2) fun M4 => blet (M4 111 0) fun v5 => if 0 < w32 v5 then (some ((-1), M4)) else (fix (fun _ _ _ _ _ _ _ _ => none) (k_Mo_send_35) FU a1 a2 a3 a4 a5 0 0 M4)
theorem t_Mo_send (l : Launch) (G : GX) {lev : Nat} (hlev : 2 ≤ lev) {a1 a2 a3 a4 a5 : Int} {M : Mem} {r : Int × Mem} (h : d_Mo_send a1 a2 a3 a4 a5 M = some r) : Mt l G y_Mo_send b_Mo_send 9 (some .int) lev 1 [.ref (G.1 + 111), vi a1, vi a2, vi a3, vi a4, vi a5] M r := by
  refine Mt.of (by decide) (i_le rfl) ?_
  intro p e s m args below meth c C
  have C : Cx p s m args meth c G b_Mo_send 9 "PrairiePoolModel" (some .int) := C
  unfold d_Mo_send at h
  refine z_sub (lv' := [(0, .ref (G.1 + 111)), (1, vi a1), (2, vi a2), (3, vi a3), (4, vi a4), (5, vi a5)]) [0, 1, 2, 3, 4, 5] rfl ?_
  refine z_aload_n C 0 x_Mo_send_0 rfl ?_
  refine z_iconst C x_Mo_send_1 ?_
  obtain ⟨M1, eM1, h⟩ := blet_e h
  refine z_putI (j := 1) C x_Mo_send_2 nk_111 ck_111 cw_12 (i_lt rfl) rfl rfl rfl rfl fl_Mo_257 eM1 ?_
  refine z_aload_n C 0 x_Mo_send_5 rfl ?_
  refine z_aload_n C 0 x_Mo_send_6 rfl ?_
  refine z_iload_n C 1 x_Mo_send_7 rfl ?_
  refine z_iload_n C 2 x_Mo_send_8 rfl ?_
  refine z_iload_n C 3 x_Mo_send_9 rfl ?_
  refine z_iload C 4 x_Mo_send_10 rfl ?_
  refine z_iload C 5 x_Mo_send_12 rfl ?_
  obtain ⟨v2, M3, fv2, h⟩ := bcall_e h
  refine z_callVi (k := 111) C x_Mo_send_14 cv_Mo_673 (t_Mo_asksSend (lev := lev - 1) l G (by omega) fv2) nk_111 ck_111 rfl (by omega) rfl (i_le rfl) rfl ?_
  obtain ⟨M4, eM4, h⟩ := blet_e h
  refine z_putI (j := 0) C x_Mo_send_17 nk_111 ck_111 cw_12 (i_lt rfl) rfl rfl rfl rfl fl_Mo_260 eM4 ?_
  refine z_aload_n C 0 x_Mo_send_20 rfl ?_
  obtain ⟨v5, ev5, h⟩ := blet_e h
  refine z_getI (j := 0) C x_Mo_send_21 nk_111 ck_111 cw_12 (i_lt rfl) rfl rfl fl_Mo_260 ev5 ?_
  rcases ite_e h with ⟨c6, h⟩ | ⟨c6, h⟩
  · refine z_if_le_f (tgt := 29) C x_Mo_send_24 rfl c6 ?_
    refine z_iconst C x_Mo_send_27 ?_
    exact z_iret C x_Mo_send_28 h
  · refine z_if_le_t (tgt := 29) C x_Mo_send_24 rfl c6 ?_
    refine z_iconst C x_Mo_send_29 ?_
    refine z_istore (lv' := [(6, vi 0), (0, .ref (G.1 + 111)), (1, vi a1), (2, vi a2), (3, vi a3), (4, vi a4), (5, vi a5)]) C rfl x_Mo_send_30 (i_lt rfl) rfl ?_
    refine z_iconst C x_Mo_send_32 ?_
    refine z_istore (lv' := [(7, vi 0), (6, vi 0), (0, .ref (G.1 + 111)), (1, vi a1), (2, vi a2), (3, vi a3), (4, vi a4), (5, vi a5)]) C rfl x_Mo_send_33 (i_lt rfl) rfl ?_
    exact z_sub [2, 3, 4, 5, 6, 7, 1, 0] rfl (zl_Mo_send_35 C hlev FU a1 a2 a3 a4 a5 0 0 M4 h)
end
