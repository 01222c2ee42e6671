/-! rows for the String constants, the static rows, the Texts; calls by what they answer -/
theorem nk_0 : 0 < NC := by decide
theorem nk_1 : 1 < NC := by decide
theorem nk_2 : 2 < NC := by decide
theorem nk_3 : 3 < NC := by decide
theorem nk_4 : 4 < NC := by decide
theorem nk_5 : 5 < NC := by decide
theorem nk_6 : 6 < NC := by decide
theorem nk_7 : 7 < NC := by decide
theorem nk_8 : 8 < NC := by decide
theorem nk_9 : 9 < NC := by decide
theorem nk_10 : 10 < NC := by decide
theorem nk_11 : 11 < NC := by decide
theorem nk_12 : 12 < NC := by decide
theorem nk_13 : 13 < NC := by decide
theorem nk_14 : 14 < NC := by decide
theorem nk_15 : 15 < NC := by decide
theorem nk_16 : 16 < NC := by decide
theorem nk_17 : 17 < NC := by decide
theorem nk_18 : 18 < NC := by decide
theorem nk_19 : 19 < NC := by decide
theorem nk_20 : 20 < NC := by decide
theorem nk_21 : 21 < NC := by decide
theorem nk_22 : 22 < NC := by decide
theorem nk_23 : 23 < NC := by decide
theorem nk_24 : 24 < NC := by decide
theorem nk_25 : 25 < NC := by decide
theorem nk_26 : 26 < NC := by decide
theorem nk_27 : 27 < NC := by decide
theorem nk_28 : 28 < NC := by decide
theorem nk_29 : 29 < NC := by decide
theorem nk_30 : 30 < NC := by decide
theorem nk_31 : 31 < NC := by decide
theorem nk_32 : 32 < NC := by decide
theorem nk_33 : 33 < NC := by decide
theorem nk_34 : 34 < NC := by decide
theorem nk_35 : 35 < NC := by decide
theorem nk_36 : 36 < NC := by decide
theorem nk_37 : 37 < NC := by decide
theorem nk_38 : 38 < NC := by decide
theorem nk_39 : 39 < NC := by decide
theorem nk_40 : 40 < NC := by decide
theorem nk_41 : 41 < NC := by decide
theorem nk_42 : 42 < NC := by decide
theorem nk_43 : 43 < NC := by decide
theorem nk_44 : 44 < NC := by decide
theorem nk_45 : 45 < NC := by decide
theorem nk_46 : 46 < NC := by decide
theorem nk_47 : 47 < NC := by decide
theorem nk_48 : 48 < NC := by decide
theorem nk_49 : 49 < NC := by decide
theorem nk_50 : 50 < NC := by decide
theorem nk_51 : 51 < NC := by decide
theorem nk_52 : 52 < NC := by decide
theorem nk_53 : 53 < NC := by decide
theorem nk_54 : 54 < NC := by decide
theorem nk_55 : 55 < NC := by decide
theorem nk_56 : 56 < NC := by decide
theorem nk_57 : 57 < NC := by decide
theorem nk_58 : 58 < NC := by decide
theorem nk_59 : 59 < NC := by decide
theorem nk_60 : 60 < NC := by decide
theorem nk_61 : 61 < NC := by decide
theorem nk_62 : 62 < NC := by decide
theorem nk_63 : 63 < NC := by decide
theorem nk_64 : 64 < NC := by decide
theorem nk_65 : 65 < NC := by decide
theorem nk_66 : 66 < NC := by decide
theorem nk_67 : 67 < NC := by decide
theorem nk_68 : 68 < NC := by decide
theorem nk_69 : 69 < NC := by decide
theorem nk_70 : 70 < NC := by decide
theorem nk_71 : 71 < NC := by decide
theorem nk_72 : 72 < NC := by decide
theorem nk_73 : 73 < NC := by decide
theorem nk_74 : 74 < NC := by decide
theorem nk_75 : 75 < NC := by decide
theorem nk_76 : 76 < NC := by decide
theorem nk_77 : 77 < NC := by decide
theorem nk_78 : 78 < NC := by decide
theorem nk_79 : 79 < NC := by decide
theorem nk_80 : 80 < NC := by decide
theorem nk_81 : 81 < NC := by decide
theorem nk_82 : 82 < NC := by decide
theorem nk_83 : 83 < NC := by decide
theorem nk_84 : 84 < NC := by decide
theorem nk_85 : 85 < NC := by decide
theorem nk_86 : 86 < NC := by decide
theorem nk_87 : 87 < NC := by decide
theorem nk_88 : 88 < NC := by decide
theorem nk_89 : 89 < NC := by decide
theorem nk_90 : 90 < NC := by decide
theorem nk_91 : 91 < NC := by decide
theorem nk_92 : 92 < NC := by decide
theorem nk_93 : 93 < NC := by decide
theorem nk_94 : 94 < NC := by decide
theorem nk_95 : 95 < NC := by decide
theorem nk_96 : 96 < NC := by decide
theorem nk_97 : 97 < NC := by decide
theorem nk_98 : 98 < NC := by decide
theorem nk_99 : 99 < NC := by decide
theorem nk_100 : 100 < NC := by decide
theorem nk_101 : 101 < NC := by decide
theorem nk_102 : 102 < NC := by decide
theorem nk_103 : 103 < NC := by decide
theorem nk_104 : 104 < NC := by decide
theorem nk_105 : 105 < NC := by decide
theorem nk_106 : 106 < NC := by decide
theorem nk_107 : 107 < NC := by decide
theorem nk_108 : 108 < NC := by decide
theorem nk_109 : 109 < NC := by decide
theorem nk_110 : 110 < NC := by decide
theorem nk_111 : 111 < NC := by decide
theorem nk_112 : 112 < NC := by decide
theorem nk_113 : 113 < NC := by decide
theorem nk_114 : 114 < NC := by decide
theorem nk_115 : 115 < NC := by decide
theorem nk_116 : 116 < NC := by decide
theorem nk_117 : 117 < NC := by decide
theorem nk_118 : 118 < NC := by decide
theorem nk_119 : 119 < NC := by decide
theorem nk_120 : 120 < NC := by decide
theorem nk_121 : 121 < NC := by decide
theorem nk_122 : 122 < NC := by decide
theorem nk_123 : 123 < NC := by decide
theorem nk_124 : 124 < NC := by decide
theorem nk_125 : 125 < NC := by decide
theorem nk_126 : 126 < NC := by decide
theorem nk_127 : 127 < NC := by decide
theorem nk_128 : 128 < NC := by decide
theorem nk_129 : 129 < NC := by decide
theorem nk_130 : 130 < NC := by decide
theorem nk_131 : 131 < NC := by decide
theorem nk_132 : 132 < NC := by decide
theorem nk_133 : 133 < NC := by decide
theorem nk_134 : 134 < NC := by decide
theorem nk_135 : 135 < NC := by decide
theorem nk_136 : 136 < NC := by decide
theorem nk_137 : 137 < NC := by decide
theorem nk_138 : 138 < NC := by decide
theorem nk_139 : 139 < NC := by decide
theorem nk_140 : 140 < NC := by decide
theorem nk_141 : 141 < NC := by decide
theorem nk_142 : 142 < NC := by decide
theorem nk_143 : 143 < NC := by decide
theorem nk_144 : 144 < NC := by decide
theorem nk_145 : 145 < NC := by decide
theorem nk_146 : 146 < NC := by decide
theorem nk_147 : 147 < NC := by decide
theorem nk_148 : 148 < NC := by decide
theorem nk_149 : 149 < NC := by decide
theorem nk_150 : 150 < NC := by decide
theorem nk_151 : 151 < NC := by decide
theorem nk_152 : 152 < NC := by decide
theorem nk_153 : 153 < NC := by decide
theorem nk_154 : 154 < NC := by decide
theorem nk_155 : 155 < NC := by decide
theorem nk_156 : 156 < NC := by decide
theorem nk_157 : 157 < NC := by decide
theorem nk_158 : 158 < NC := by decide
theorem nk_159 : 159 < NC := by decide
theorem nk_160 : 160 < NC := by decide
theorem nk_161 : 161 < NC := by decide
theorem nk_162 : 162 < NC := by decide
theorem nk_163 : 163 < NC := by decide
theorem nk_164 : 164 < NC := by decide
theorem nk_165 : 165 < NC := by decide
theorem nk_166 : 166 < NC := by decide
theorem nk_167 : 167 < NC := by decide
theorem nk_168 : 168 < NC := by decide
theorem nk_169 : 169 < NC := by decide
theorem nk_170 : 170 < NC := by decide
theorem nk_171 : 171 < NC := by decide
theorem nk_172 : 172 < NC := by decide
theorem nk_173 : 173 < NC := by decide
theorem nk_174 : 174 < NC := by decide
theorem nk_175 : 175 < NC := by decide
theorem nk_176 : 176 < NC := by decide
theorem nk_177 : 177 < NC := by decide
theorem nk_178 : 178 < NC := by decide
theorem nk_179 : 179 < NC := by decide
theorem nk_180 : 180 < NC := by decide
theorem nk_181 : 181 < NC := by decide
theorem nk_182 : 182 < NC := by decide
theorem nk_183 : 183 < NC := by decide
theorem nk_184 : 184 < NC := by decide
theorem nk_185 : 185 < NC := by decide
theorem nk_186 : 186 < NC := by decide
theorem nk_187 : 187 < NC := by decide
theorem nk_188 : 188 < NC := by decide
theorem i_lt {a b : Nat} (h : Nat.blt a b = true) : a < b := Nat.le_of_ble_eq_true h
def IsText (K : Nat) : Prop := K + 3 < NC ∧ ck K = (0, 8, 6) ∧ ck (K + 1) = (1, 0, 500) ∧ ck (K + 2) = (1, 0, 10) ∧ ck (K + 3) = (1, 0, 7) ∧ rf K 3 = K + 1 ∧ rf K 4 = K + 2 ∧ rf K 5 = K + 3
theorem IsText.k0 {K : Nat} (h : IsText K) : K < NC := by have := h.1; omega
theorem IsText.k1 {K : Nat} (h : IsText K) : K + 1 < NC := by have := h.1; omega
theorem IsText.k2 {K : Nat} (h : IsText K) : K + 2 < NC := by have := h.1; omega
theorem IsText.k3 {K : Nat} (h : IsText K) : K + 3 < NC := h.1
theorem IsText.c0 {K : Nat} (h : IsText K) : ck K = (0, 8, 6) := h.2.1
theorem IsText.c1 {K : Nat} (h : IsText K) : ck (K + 1) = (1, 0, 500) := h.2.2.1
theorem IsText.c2 {K : Nat} (h : IsText K) : ck (K + 2) = (1, 0, 10) := h.2.2.2.1
theorem IsText.c3 {K : Nat} (h : IsText K) : ck (K + 3) = (1, 0, 7) := h.2.2.2.2.1
theorem IsText.r3 {K : Nat} (h : IsText K) : rf K 3 = K + 1 := h.2.2.2.2.2.1
theorem IsText.r4 {K : Nat} (h : IsText K) : rf K 4 = K + 2 := h.2.2.2.2.2.2.1
theorem IsText.r5 {K : Nat} (h : IsText K) : rf K 5 = K + 3 := h.2.2.2.2.2.2.2
theorem it_57 : IsText 57 := by unfold IsText; decide
theorem it_all : ∀ j, j < 4 → IsText (39 + 4 * j) ∧ rf 33 j = 39 + 4 * j := by unfold IsText; decide
theorem it_tx {i : Int} (h : 0 ≤ w32 i ∧ w32 i < 4) : IsText (39 + 4 * ix i) := (it_all (ix i) (by unfold ix; omega)).1
def sti (i j : Nat) : Int := (stat.getD i ("", [])).2.getD j 0
theorem cm_lt {x y : Int} : w32 (cm64 x y) < 0 ↔ w64 x < w64 y := by
  unfold cm64; by_cases h : w64 x < w64 y
  · rw [if_pos h]; exact ⟨fun _ => h, fun _ => by decide⟩
  · rw [if_neg h]; refine ⟨fun q => ?_, fun q => absurd q h⟩
    split at q <;> exact absurd q (by decide)
theorem cm_gt {x y : Int} : 0 < w32 (cm64 x y) ↔ w64 y < w64 x := by
  unfold cm64; by_cases h : w64 x < w64 y
  · rw [if_pos h]; exact ⟨fun q => absurd q (by decide), fun q => by omega⟩
  · rw [if_neg h]; by_cases h2 : w64 x = w64 y
    · rw [if_pos h2]; exact ⟨fun q => absurd q (by decide), fun q => by omega⟩
    · rw [if_neg h2]; exact ⟨fun _ => by omega, fun _ => by decide⟩
theorem cm_eqz {x y : Int} : w32 (cm64 x y) = 0 ↔ w64 x = w64 y := by
  unfold cm64; by_cases h : w64 x < w64 y
  · rw [if_pos h]; exact ⟨fun q => absurd q (by decide), fun q => by omega⟩
  · rw [if_neg h]; by_cases h2 : w64 x = w64 y
    · rw [if_pos h2]; exact ⟨fun _ => h2, fun _ => by decide⟩
    · rw [if_neg h2]; exact ⟨fun q => absurd q (by decide), fun q => absurd q h2⟩
section ZX
variable {p : Program} {l : Launch} {e : Env} {lev : Nat} {R : Room} {cl sl : Nat} {PP : Heap → Prop} {s : State} {m : MethodId} {args : Array Value} {below : List Frame} {meth : Method} {c : Code} {G : GX} {nL : Nat} {Q : State → Prop} {M : Mem} {pc pc' : Nat} {lv lv' : List (Nat × Value)} {st : List Value} {cc : ByteArray} {own : String} {rt : Option FieldType}

theorem z_aaldT (C : Cx p s m args meth c G cc nL own rt) {i : Int} (d : DC cc pc .aaload 1 pc') (hi : 0 ≤ w32 i ∧ w32 i < 4) (k2 : Z p l e lev s m args below meth c G nL Q M pc' lv (.ref (G.1 + (39 + 4 * ix i)) :: st)) : Z p l e lev s m args below meth c G nL Q M pc lv (vi i :: .ref (G.1 + 33) :: st) := by
  refine z_aald C d nk_33 ck_33 hi ?_
  rw [(it_all (ix i) (by unfold ix; omega)).2]
  exact k2
theorem z_ldcS (C : Cx p s m args meth c G cc nL own rt) {i index : Nat} (hi : i < 4) (hx0 : own = "PrairiePool$Parser" ∧ (strs.getD i (0, "")).1 = index) (d : DC cc pc (.ldc index) 2 pc') (k : Z p l e lev s m args below meth c G nL Q M pc' lv (.ref (G.2.2.2.1 i) :: st)) : Z p l e lev s m args below meth c G nL Q M pc lv st := by
  intro H locs ls hP hS hl
  obtain ⟨hx, hb, hml, hown, hts, hlk, hrt, hK⟩ := C
  obtain ⟨d, rfl⟩ := d
  obtain ⟨rfl, rfl⟩ := hx0
  exact va_ldcS hx hb hown (hK.2.2.1 i hi) d (k H locs ls hP hS hl)
theorem z_getX (C : Cx p s m args meth c G cc nL own rt) {i index : Nat} (d : DC cc pc (.getstatic index) 3 pc') (hi : i < 3) (hlink : Cond.fieldLink own index "PrairiePool$Asker" (stat.getD i ("", [])).1 "[I" ∈ TB) (k : Z p l e lev s m args below meth c G nL Q M pc' lv (.ref (G.2.2.2.2.2 i) :: st)) : Z p l e lev s m args below meth c G nL Q M pc lv st := by
  intro H locs ls hP hS hl
  obtain ⟨hx, hb, hml, hown, hts, hlk, hrt, hK⟩ := C
  obtain ⟨d, rfl⟩ := d
  exact va_gets hx hb (hK.2.2.2.2.1 i hi).1 hS hown (hts _ hlink) (fun _ h => h) d (k H locs ls hP hS hl)
theorem z_ialdX (C : Cx p s m args meth c G cc nL own rt) {a : Nat} {i : Int} (d : DC cc pc .iaload 1 pc') (ha : a < 3) (hi : 0 ≤ w32 i ∧ w32 i < 7) {x : Int} (hv : x = sti a (ix i)) (k : Z p l e lev s m args below meth c G nL Q M pc' lv (vi x :: st)) : Z p l e lev s m args below meth c G nL Q M pc lv (vi i :: .ref (G.2.2.2.2.2 a) :: st) := by
  subst hv
  intro H locs ls hP hS hl
  obtain ⟨hx, hb, hml, hown, hts, hlk, hrt, hK⟩ := C
  obtain ⟨d, rfl⟩ := d
  refine va_ti hx hb (hK.2.2.2.2.1 a ha).2 hS (i := Int32.ofInt i) ?_ (v := vi (sti a (ix i))) ?_ d (k H locs ls hP hS hl)
  · unfold vp_in; rw [i32_lt0, i32_nat]; unfold ix; omega
  · show vi _ = vi _; rw [i32_nat]; rfl
theorem z_callX (C : Cx p s m args meth c G cc nL own rt) {idx n np lev' t i : Nat} {y : MethodName} {b : ByteArray} {r : Option FieldType} {As stk : List Value} {v : Int} {M' : Mem} (d : DC cc pc (.invokevirtual idx) 3 pc') (cw : CV own idx y b n r np) (hi : i < 4) (hy : y.cls = "java/lang/String") (hM : Mt l G y b n r lev' t (.ref (G.2.2.2.1 i) :: As) M (v, M')) (hlev : lev' + 1 ≤ lev) (hnp : As.length = np) (hst : (st.map fun v => v.category).sum ≤ 8) (hstk : stk = As.reverse ++ .ref (G.2.2.2.1 i) :: st)
    (kk : Z p l e lev s m args below meth c G nL Q M' pc' lv ((rv t v).toList ++ st)) : Z p l e lev s m args below meth c G nL Q M pc lv stk := by
  subst hstk
  intro H locs ls hP hS hl
  obtain ⟨hx, hb, hml, hown, hts, hlk, hrt, hK⟩ := C
  obtain ⟨d, rfl⟩ := d
  obtain ⟨w1, w2, w3, w4, w5, w6, w7⟩ := cw
  obtain ⟨cell, q1, q2, q3, q4⟩ := (hK.2.2.2.1.1 i hi).1
  have q1 : H[G.2.2.2.1 i]? = some cell := by
    rw [hS.2.1 _ (Array.getElem?_eq_some_iff.mp q1).1 q4]; exact q1
  refine z_run (va_runV (As := As) (rest := st) (C := y.cls) (b := G.2.2.2.1 i) ⟨hx, hb, hml, hown, hts⟩ hM ⟨callB_of np hts (tb_in w4) rfl rfl rfl (hts _ w5) (hts _ w1) w7 (rm_ok hlev w6), hts _ w2, hts _ w3⟩ ⟨pm_blind, ⟨cell, q1, q2, by rw [hy]; exact q3⟩, pm_pre hK hP hS⟩ rfl hnp hl.1 rfl (lv_room hst) d ⟨Nat.zero_le _, Nat.zero_le _⟩) hS hl kk
theorem z_callVv (C : Cx p s m args meth c G cc nL own rt) {idx n np lev' k ci nf : Nat} {y : MethodName} {b : ByteArray} {r : Option FieldType} {T : u_T} {As stk : List Value} {v : Int} {M' : Mem} (d : DC cc pc (.invokevirtual idx) 3 pc') (cw : CV own idx y b n r np) (hM : Mt l G y b n r lev' 0 (.ref (G.1 + k) :: As) M (v, M')) (hk : k < NC) (hc : ck k = (0, ci, nf)) (hcl : cls[ci]? = some (y.cls, T, nf)) (hlev : lev' + 1 ≤ lev) (hnp : As.length = np) (hst : (st.map fun v => v.category).sum ≤ 8) (hstk : stk = As.reverse ++ .ref (G.1 + k) :: st) (kk : Z p l e lev s m args below meth c G nL Q M' pc' lv st) : Z p l e lev s m args below meth c G nL Q M pc lv stk := z_callV C d cw hM hk hc hcl hlev hnp hst hstk kk
theorem z_callSv (C : Cx p s m args meth c G cc nL own rt) {idx n np lev' : Nat} {y : MethodName} {b : ByteArray} {r : Option FieldType} {As stk : List Value} {v : Int} {M' : Mem} (d : DC cc pc (.invokestatic idx) 3 pc') (cw : CS own idx y b n r np) (hM : Mt l G y b n r lev' 0 As M (v, M')) (hlev : lev' + 1 ≤ lev) (hnp : As.length = np) (hst : (st.map fun v => v.category).sum ≤ 8) (hstk : stk = As.reverse ++ st) (kk : Z p l e lev s m args below meth c G nL Q M' pc' lv st) : Z p l e lev s m args below meth c G nL Q M pc lv stk := z_callS C d cw hM hlev hnp hst hstk kk
theorem z_callVi (C : Cx p s m args meth c G cc nL own rt) {idx n np lev' k ci nf : Nat} {y : MethodName} {b : ByteArray} {r : Option FieldType} {T : u_T} {As stk : List Value} {v : Int} {M' : Mem} (d : DC cc pc (.invokevirtual idx) 3 pc') (cw : CV own idx y b n r np) (hM : Mt l G y b n r lev' 1 (.ref (G.1 + k) :: As) M (v, M')) (hk : k < NC) (hc : ck k = (0, ci, nf)) (hcl : cls[ci]? = some (y.cls, T, nf)) (hlev : lev' + 1 ≤ lev) (hnp : As.length = np) (hst : (st.map fun v => v.category).sum ≤ 8) (hstk : stk = As.reverse ++ .ref (G.1 + k) :: st) (kk : Z p l e lev s m args below meth c G nL Q M' pc' lv (vi v :: st)) : Z p l e lev s m args below meth c G nL Q M pc lv stk := z_callV C d cw hM hk hc hcl hlev hnp hst hstk kk
theorem z_callSi (C : Cx p s m args meth c G cc nL own rt) {idx n np lev' : Nat} {y : MethodName} {b : ByteArray} {r : Option FieldType} {As stk : List Value} {v : Int} {M' : Mem} (d : DC cc pc (.invokestatic idx) 3 pc') (cw : CS own idx y b n r np) (hM : Mt l G y b n r lev' 1 As M (v, M')) (hlev : lev' + 1 ≤ lev) (hnp : As.length = np) (hst : (st.map fun v => v.category).sum ≤ 8) (hstk : stk = As.reverse ++ st) (kk : Z p l e lev s m args below meth c G nL Q M' pc' lv (vi v :: st)) : Z p l e lev s m args below meth c G nL Q M pc lv stk := z_callS C d cw hM hlev hnp hst hstk kk
theorem z_callVl (C : Cx p s m args meth c G cc nL own rt) {idx n np lev' k ci nf : Nat} {y : MethodName} {b : ByteArray} {r : Option FieldType} {T : u_T} {As stk : List Value} {v : Int} {M' : Mem} (d : DC cc pc (.invokevirtual idx) 3 pc') (cw : CV own idx y b n r np) (hM : Mt l G y b n r lev' 2 (.ref (G.1 + k) :: As) M (v, M')) (hk : k < NC) (hc : ck k = (0, ci, nf)) (hcl : cls[ci]? = some (y.cls, T, nf)) (hlev : lev' + 1 ≤ lev) (hnp : As.length = np) (hst : (st.map fun v => v.category).sum ≤ 8) (hstk : stk = As.reverse ++ .ref (G.1 + k) :: st) (kk : Z p l e lev s m args below meth c G nL Q M' pc' lv (vl v :: st)) : Z p l e lev s m args below meth c G nL Q M pc lv stk := z_callV C d cw hM hk hc hcl hlev hnp hst hstk kk
theorem z_callSl (C : Cx p s m args meth c G cc nL own rt) {idx n np lev' : Nat} {y : MethodName} {b : ByteArray} {r : Option FieldType} {As stk : List Value} {v : Int} {M' : Mem} (d : DC cc pc (.invokestatic idx) 3 pc') (cw : CS own idx y b n r np) (hM : Mt l G y b n r lev' 2 As M (v, M')) (hlev : lev' + 1 ≤ lev) (hnp : As.length = np) (hst : (st.map fun v => v.category).sum ≤ 8) (hstk : stk = As.reverse ++ st) (kk : Z p l e lev s m args below meth c G nL Q M' pc' lv (vl v :: st)) : Z p l e lev s m args below meth c G nL Q M pc lv stk := z_callS C d cw hM hlev hnp hst hstk kk
theorem z_callNi (C : Cx p s m args meth c G cc nL own rt) {idx n lev' : Nat} {b : ByteArray} {r : Option FieldType} {As stk : List Value} {v : Int} {M' : Mem} (d : DC cc pc (.invokestatic idx) 3 pc') (cw : CN own idx b n r) (hM : Mt l G y_PP_isIn b n r lev' 1 As M (v, M')) (hlev : lev' + 1 ≤ lev) (hnp : As.length = 3) (hst : (st.map fun v => v.category).sum ≤ 8) (hstk : stk = As.reverse ++ st) (kk : Z p l e lev s m args below meth c G nL Q M' pc' lv (vi v :: st)) : Z p l e lev s m args below meth c G nL Q M pc lv stk := z_callN C d cw hM hlev hnp hst hstk kk
theorem z_callXi (C : Cx p s m args meth c G cc nL own rt) {idx n np lev' i : Nat} {y : MethodName} {b : ByteArray} {r : Option FieldType} {As stk : List Value} {v : Int} {M' : Mem} (d : DC cc pc (.invokevirtual idx) 3 pc') (cw : CV own idx y b n r np) (hi : i < 4) (hM : Mt l G y b n r lev' 1 (.ref (G.2.2.2.1 i) :: As) M (v, M')) (hlev : lev' + 1 ≤ lev) (hnp : As.length = np) (hst : (st.map fun v => v.category).sum ≤ 8) (hstk : stk = As.reverse ++ .ref (G.2.2.2.1 i) :: st) (kk : Z p l e lev s m args below meth c G nL Q M' pc' lv (vi v :: st)) (hy : y.cls = "java/lang/String" := by rfl) : Z p l e lev s m args below meth c G nL Q M pc lv stk := z_callX C d cw hi hy hM hlev hnp hst hstk kk
theorem z_pop (C : Cx p s m args meth c G cc nL own rt) {x : Int} (d : DC cc pc .pop 1 pc') (k : Z p l e lev s m args below meth c G nL Q M pc' lv st) : Z p l e lev s m args below meth c G nL Q M pc lv (vi x :: st) := by
  intro H locs ls hP hS hl
  obtain ⟨hx, hb, hml, hown, hts, hlk, hrt, hK⟩ := C
  obtain ⟨d, rfl⟩ := d
  exact lv_pop hx hb d rfl (k H locs ls hP hS hl)
def mx32 (x y : Int) : Int := if w32 x < w32 y then y else x
theorem z_mx32 (C : Cx p s m args meth c G cc nL own rt) {idx : Nat} {x y : Int} (d : DC cc pc (.invokestatic idx) 3 pc') (cw : CS own idx y_Ma_max1 b_Ma_max1 2 (some .int) 2) (hlev : 1 ≤ lev) (hst : (st.map fun v => v.category).sum ≤ 8) (k : Z p l e lev s m args below meth c G nL Q M pc' lv (vi (mx32 x y) :: st)) : Z p l e lev s m args below meth c G nL Q M pc lv (vi y :: vi x :: st) := by
  intro H locs ls hP hS hl
  obtain ⟨hx, hb, hml, hown, hts, hlk, hrt, hK⟩ := C
  obtain ⟨d, rfl⟩ := d
  obtain ⟨w1, w2, w4, w5, w6, w7⟩ := cw
  have h64 : 64 ≤ (rmL lev).locals := by unfold rmL; dsimp only; omega
  refine va_mmax hx hb (by rw [hml]; exact hl.1.symm) hown (hts _ w1) (hts _ w2) (hts _ w5) (hts _ w4) hlev (by omega) (Nat.zero_le _) (Nat.zero_le _) d ?_
  have q := k H locs ls hP hS hl
  unfold mx32 at q
  simp only [i32_lt]
  by_cases hh : w32 x < w32 y
  · rw [if_pos hh] at q ⊢; exact q
  · rw [if_neg hh] at q ⊢; exact q
def mn32 (x y : Int) : Int := if w32 y < w32 x then y else x
theorem z_mn32 (C : Cx p s m args meth c G cc nL own rt) {idx : Nat} {x y : Int} (d : DC cc pc (.invokestatic idx) 3 pc') (cw : CS own idx y_Ma_min1 b_Ma_min1 2 (some .int) 2) (hlev : 1 ≤ lev) (hst : (st.map fun v => v.category).sum ≤ 8) (k : Z p l e lev s m args below meth c G nL Q M pc' lv (vi (mn32 x y) :: st)) : Z p l e lev s m args below meth c G nL Q M pc lv (vi y :: vi x :: st) := by
  intro H locs ls hP hS hl
  obtain ⟨hx, hb, hml, hown, hts, hlk, hrt, hK⟩ := C
  obtain ⟨d, rfl⟩ := d
  obtain ⟨w1, w2, w4, w5, w6, w7⟩ := cw
  have h64 : 64 ≤ (rmL lev).locals := by unfold rmL; dsimp only; omega
  refine va_mmin hx hb (by rw [hml]; exact hl.1.symm) hown (hts _ w1) (hts _ w2) (hts _ w5) (hts _ w4) hlev (by omega) (Nat.zero_le _) (Nat.zero_le _) d ?_
  have q := k H locs ls hP hS hl
  unfold mn32 at q
  simp only [i32_lt]
  by_cases hh : w32 y < w32 x
  · rw [if_pos hh] at q ⊢; exact q
  · rw [if_neg hh] at q ⊢; exact q
def mx64 (x y : Int) : Int := if w64 y < w64 x then x else y
theorem z_mx64 (C : Cx p s m args meth c G cc nL own rt) {idx : Nat} {x y : Int} (d : DC cc pc (.invokestatic idx) 3 pc') (cw : CS own idx y_Ma_max0 b_Ma_max0 4 (some .long) 2) (hlev : 1 ≤ lev) (hst : (st.map fun v => v.category).sum ≤ 8) (k : Z p l e lev s m args below meth c G nL Q M pc' lv (vl (mx64 x y) :: st)) : Z p l e lev s m args below meth c G nL Q M pc lv (vl y :: vl x :: st) := by
  intro H locs ls hP hS hl
  obtain ⟨hx, hb, hml, hown, hts, hlk, hrt, hK⟩ := C
  obtain ⟨d, rfl⟩ := d
  obtain ⟨w1, w2, w4, w5, w6, w7⟩ := cw
  have h64 : 64 ≤ (rmL lev).locals := by unfold rmL; dsimp only; omega
  refine va_mmax_long hx hb (by rw [hml]; exact hl.1.symm) hown (hts _ w1) (hts _ w2) (hts _ w5) (hts _ w4) hlev (by omega) (Nat.zero_le _) (Nat.zero_le _) d ?_
  have q := k H locs ls hP hS hl
  unfold mx64 at q
  simp only [i64_lt]
  by_cases hh : w64 y < w64 x
  · rw [if_pos hh] at q ⊢; exact q
  · rw [if_neg hh] at q ⊢; exact q
def mn64 (x y : Int) : Int := if w64 y < w64 x then y else x
theorem z_mn64 (C : Cx p s m args meth c G cc nL own rt) {idx : Nat} {x y : Int} (d : DC cc pc (.invokestatic idx) 3 pc') (cw : CS own idx y_Ma_min0 b_Ma_min0 4 (some .long) 2) (hlev : 1 ≤ lev) (hst : (st.map fun v => v.category).sum ≤ 8) (k : Z p l e lev s m args below meth c G nL Q M pc' lv (vl (mn64 x y) :: st)) : Z p l e lev s m args below meth c G nL Q M pc lv (vl y :: vl x :: st) := by
  intro H locs ls hP hS hl
  obtain ⟨hx, hb, hml, hown, hts, hlk, hrt, hK⟩ := C
  obtain ⟨d, rfl⟩ := d
  obtain ⟨w1, w2, w4, w5, w6, w7⟩ := cw
  have h64 : 64 ≤ (rmL lev).locals := by unfold rmL; dsimp only; omega
  refine va_mmin_long hx hb (by rw [hml]; exact hl.1.symm) hown (hts _ w1) (hts _ w2) (hts _ w5) (hts _ w4) hlev (by omega) (Nat.zero_le _) (Nat.zero_le _) d ?_
  have q := k H locs ls hP hS hl
  unfold mn64 at q
  simp only [i64_lt]
  by_cases hh : w64 y < w64 x
  · rw [if_pos hh] at q ⊢; exact q
  · rw [if_neg hh] at q ⊢; exact q
end ZX
