/-! rows over the String constants; their own members by the generator -/
section ZS
variable {p : Program} {l : Launch} {e : Env} {lev : Nat} {R : Room} {cl sl : Nat} {PP : Heap → Prop} {s : State} {m : MethodId} {args : Array Value} {below : List Frame} {meth : Method} {c : Code} {G : GX} {nL : Nat} {Q : State → Prop} {M : Mem} {pc pc' : Nat} {lv lv' : List (Nat × Value)} {st : List Value} {cc : ByteArray} {own : String} {rt : Option FieldType}

def sbt (i j : Nat) : Int := ((strsB.getD i []).getD j 0).toInt
theorem z_getSv (C : Cx p s m args meth c G cc nL own rt) {i index : Nat} (d : DC cc pc (.getfield index) 3 pc') (hi : i < 4) (hlink : Cond.fieldLink own index "java/lang/String" "value" "[B" ∈ TB) (k : Z p l e lev s m args below meth c G nL Q M pc' lv (.ref (G.2.2.2.2.1 i) :: st)) : Z p l e lev s m args below meth c G nL Q M pc lv (.ref (G.2.2.2.1 i) :: st) := by
  intro H locs ls hP hS hl
  obtain ⟨hx, hb, hml, hown, hts, hlk, hrt, hK⟩ := C
  obtain ⟨d, rfl⟩ := d
  exact vk_getf hx hb (hK.2.2.2.1.1 i hi).2.2.1 hS hown (hts _ hlink) (fun _ h => h) d (k H locs ls hP hS hl)
theorem z_getSc (C : Cx p s m args meth c G cc nL own rt) {i index : Nat} (d : DC cc pc (.getfield index) 3 pc') (hi : i < 4) (hlink : Cond.fieldLink own index "java/lang/String" "coder" "B" ∈ TB) (k : Z p l e lev s m args below meth c G nL Q M pc' lv (vi 0 :: st)) : Z p l e lev s m args below meth c G nL Q M pc lv (.ref (G.2.2.2.1 i) :: st) := by
  intro H locs ls hP hS hl
  obtain ⟨hx, hb, hml, hown, hts, hlk, hrt, hK⟩ := C
  obtain ⟨d, rfl⟩ := d
  exact vk_getf hx hb (hK.2.2.2.1.1 i hi).2.1 hS hown (hts _ hlink) (fun _ h => h) d (k H locs ls hP hS hl)
theorem z_getCS (C : Cx p s m args meth c G cc nL own rt) {index : Nat} (d : DC cc pc (.getstatic index) 3 pc') (hlink : Cond.fieldLink own index "java/lang/String" "COMPACT_STRINGS" "Z" ∈ TB) (k : Z p l e lev s m args below meth c G nL Q M pc' lv (vi 1 :: st)) : Z p l e lev s m args below meth c G nL Q M pc lv st := by
  intro H locs ls hP hS hl
  obtain ⟨hx, hb, hml, hown, hts, hlk, hrt, hK⟩ := C
  obtain ⟨d, rfl⟩ := d
  exact va_gets hx hb hK.2.2.2.2.2.1 hS hown (hts _ hlink) (fun _ h => h) d (k H locs ls hP hS hl)
def isRefV (v : Value) : Prop := v = .null ∨ ∃ t : Nat, v = .ref t
theorem z_getFm (C : Cx p s m args meth c G cc nL own rt) {index : Nat} (d : DC cc pc (.getstatic index) 3 pc') (hlink : Cond.fieldLink own index "jdk/internal/util/Preconditions" "SIOOBE_FORMATTER" "Ljava/util/function/BiFunction;" ∈ TB) (k : ∀ fv : Value, isRefV fv → Z p l e lev s m args below meth c G nL Q M pc' lv (fv :: st)) : Z p l e lev s m args below meth c G nL Q M pc lv st := by
  intro H locs ls hP hS hl
  obtain ⟨hx, hb, hml, hown, hts, hlk, hrt, hK⟩ := C
  obtain ⟨d, rfl⟩ := d
  rcases hK.2.2.2.2.2.2.1 with h | ⟨t, h⟩
  · exact va_gets hx hb h hS hown (hts _ hlink) (fun _ h => h) d (k .null (Or.inl rfl) H locs ls hP hS hl)
  · exact va_gets hx hb h hS hown (hts _ hlink) (fun _ h => h) d (k (.ref t) (Or.inr ⟨t, rfl⟩) H locs ls hP hS hl)
theorem z_alenS (C : Cx p s m args meth c G cc nL own rt) {i : Nat} (d : DC cc pc .arraylength 1 pc') (hi : i < 4) (k : Z p l e lev s m args below meth c G nL Q M pc' lv (vi (strsL.getD i 0 : Nat) :: st)) : Z p l e lev s m args below meth c G nL Q M pc lv (.ref (G.2.2.2.2.1 i) :: st) := by
  intro H locs ls hP hS hl
  obtain ⟨hx, hb, hml, hown, hts, hlk, hrt, hK⟩ := C
  obtain ⟨d, rfl⟩ := d
  exact va_tlen hx hb (hK.2.2.2.1.1 i hi).2.2.2 hS rfl d (k H locs ls hP hS hl)
theorem z_baldS (C : Cx p s m args meth c G cc nL own rt) {i : Nat} {j : Int} (d : DC cc pc .baload 1 pc') (hi : i < 4) (hj : 0 ≤ w32 j ∧ w32 j < ((strsL.getD i 0 : Nat) : Int)) {x : Int} (hv : x = sbt i (ix j)) (k : Z p l e lev s m args below meth c G nL Q M pc' lv (vi x :: st)) : Z p l e lev s m args below meth c G nL Q M pc lv (vi j :: .ref (G.2.2.2.2.1 i) :: st) := by
  subst hv
  intro H locs ls hP hS hl
  obtain ⟨hx, hb, hml, hown, hts, hlk, hrt, hK⟩ := C
  obtain ⟨d, rfl⟩ := d
  refine va_tb hx hb (hK.2.2.2.1.1 i hi).2.2.2 hS (i := Int32.ofInt j) ?_ (v := vi (sbt i (ix j))) ?_ d (k H locs ls hP hS hl)
  · unfold vp_in; rw [i32_lt0, i32_nat]; unfold ix; omega
  · unfold vi sbt; rw [i32_nat, Int32.ofInt_toInt]
theorem nar_c {x : Int} (h : 0 ≤ x ∧ x < 65536) : narrow .char (vi x) = vi x := by
  have e : (Int32.ofInt x).toUInt32 % 65536 = (Int32.ofInt x).toUInt32 := by
    apply UInt32.toNat_inj.mp
    rw [UInt32.toNat_mod]
    have : (Int32.ofInt x).toUInt32.toNat = x.toNat := by
      show (BitVec.ofInt 32 x).toNat = _
      rw [BitVec.toNat_ofInt]; omega
    rw [this]
    show x.toNat % 65536 = x.toNat
    omega
  unfold vi
  show Value.int ((Int32.ofInt x).toUInt32 % 65536).toInt32 = _
  rw [e]; rfl
theorem z_cret (C : Cx p s m args meth c G cc nL own (some .char)) {x : Int} {r : Int × Mem} (d : DC cc pc .ireturn 1 pc') (hc : 0 ≤ x ∧ x < 65536) (h : (some (x, M) : Res) = some r) : Z p l e lev s m args below meth c G nL (MQ below (Qm G 1 r) args s 0 0 (Ab G)) M pc lv [vi x] := by
  cases h
  intro H locs ls hP hS hl
  obtain ⟨hx, hb, hml, hown, hts, hlk, hrt, hK⟩ := C
  exact W.zret hx hb hrt (nar_c hc) (fun t ht hW => ⟨rfl, by rw [ht]; exact hP, hS.F ht⟩) hS.2.2 d.1 hlk
end ZS
section
variable {p : Program} {l : Launch} {e : Env} {lev : Nat} {s : State} {m : MethodId} {args : Array Value} {below : List Frame} {meth : Method} {c : Code} {G : GX}

theorem x_St_coder_0 : DC b_St_coder 0 (.getstatic 38) 3 3 := ⟨by decide +kernel, rfl⟩
theorem x_St_coder_3 : DC b_St_coder 3 (.ifCond .eq 10) 3 6 := ⟨by decide +kernel, rfl⟩
theorem x_St_coder_6 : DC b_St_coder 6 (.aload_n 0) 1 7 := ⟨by decide +kernel, rfl⟩
theorem x_St_coder_7 : DC b_St_coder 7 (.getfield 15) 3 10 := ⟨by decide +kernel, rfl⟩
theorem x_St_coder_10 : DC b_St_coder 10 (.goto 4) 3 13 := ⟨by decide +kernel, rfl⟩
theorem x_St_coder_13 : DC b_St_coder 13 (.iconst 1) 1 14 := ⟨by decide +kernel, rfl⟩
theorem x_St_coder_14 : DC b_St_coder 14 (.ireturn) 1 15 := ⟨by decide +kernel, rfl⟩
def d_St_coder (i0 : Nat) (M : Mem) : Res := if (1 : Int) = 0 then (some (1, M)) else (some (0, M))
theorem t_St_coder (l : Launch) (G : GX) {lev : Nat} (hlev : 0 ≤ lev) {i0 : Nat} (hi0 : i0 < 4) {M : Mem} {r : Int × Mem} (h : d_St_coder i0 M = some r) : Mt l G y_St_coder b_St_coder 1 (some .byte) lev 1 [.ref (G.2.2.2.1 i0)] M r := by
  refine Mt.of (by decide) (i_le rfl) ?_
  intro p e s m args below meth c C
  have C : Cx p s m args meth c G b_St_coder 1 "java/lang/String" (some .byte) := C
  unfold d_St_coder at h
  refine z_sub (lv' := [(0, .ref (G.2.2.2.1 i0))]) [0] rfl ?_
  refine z_getCS C x_St_coder_0 fl_St_38 ?_
  rcases ite_e h with ⟨c1, h⟩ | ⟨c1, h⟩
  · refine z_if_eq_t (tgt := 13) C x_St_coder_3 rfl c1 ?_
    refine z_iconst C x_St_coder_13 ?_
    exact z_bret C x_St_coder_14 (by decide) h
  · refine z_if_eq_f (tgt := 13) C x_St_coder_3 rfl c1 ?_
    refine z_aload_n C 0 x_St_coder_6 rfl ?_
    refine z_getSc C x_St_coder_7 hi0 fl_St_15 ?_
    refine z_goto (tgt := 14) C x_St_coder_10 rfl ?_
    exact z_bret C x_St_coder_14 (by decide) h
theorem x_St_length_0 : DC b_St_length 0 (.aload_n 0) 1 1 := ⟨by decide +kernel, rfl⟩
theorem x_St_length_1 : DC b_St_length 1 (.getfield 9) 3 4 := ⟨by decide +kernel, rfl⟩
theorem x_St_length_4 : DC b_St_length 4 (.arraylength) 1 5 := ⟨by decide +kernel, rfl⟩
theorem x_St_length_5 : DC b_St_length 5 (.aload_n 0) 1 6 := ⟨by decide +kernel, rfl⟩
theorem x_St_length_6 : DC b_St_length 6 (.invokevirtual 335) 3 9 := ⟨by decide +kernel, rfl⟩
theorem x_St_length_9 : DC b_St_length 9 (.ishr) 1 10 := ⟨by decide +kernel, rfl⟩
theorem x_St_length_10 : DC b_St_length 10 (.ireturn) 1 11 := ⟨by decide +kernel, rfl⟩
def d_St_length (i0 : Nat) (M : Mem) : Res := bcall (d_St_coder i0 M) fun v1 M2 => some (sr32 ((strsL.getD i0 0 : Nat)) v1, M2)
theorem t_St_length (l : Launch) (G : GX) {lev : Nat} (hlev : 1 ≤ lev) {i0 : Nat} (hi0 : i0 < 4) {M : Mem} {r : Int × Mem} (h : d_St_length i0 M = some r) : Mt l G y_St_length b_St_length 1 (some .int) lev 1 [.ref (G.2.2.2.1 i0)] M r := by
  refine Mt.of (by decide) (i_le rfl) ?_
  intro p e s m args below meth c C
  have C : Cx p s m args meth c G b_St_length 1 "java/lang/String" (some .int) := C
  unfold d_St_length at h
  refine z_sub (lv' := [(0, .ref (G.2.2.2.1 i0))]) [0] rfl ?_
  refine z_aload_n C 0 x_St_length_0 rfl ?_
  refine z_getSv C x_St_length_1 hi0 fl_St_9 ?_
  refine z_alenS C x_St_length_4 hi0 ?_
  refine z_aload_n C 0 x_St_length_5 rfl ?_
  obtain ⟨v1, M2, fv1, h⟩ := bcall_e h
  refine z_callXi (i := i0) C x_St_length_6 cv_St_335 hi0 (t_St_coder (lev := lev - 1) l G (by omega) hi0 fv1) (by omega) rfl (i_le rfl) rfl ?_
  refine z_ishr C x_St_length_9 ?_
  exact z_iret C x_St_length_10 h
theorem x_St_isLatin1_0 : DC b_St_isLatin1 0 (.getstatic 38) 3 3 := ⟨by decide +kernel, rfl⟩
theorem x_St_isLatin1_3 : DC b_St_isLatin1 3 (.ifCond .eq 14) 3 6 := ⟨by decide +kernel, rfl⟩
theorem x_St_isLatin1_6 : DC b_St_isLatin1 6 (.aload_n 0) 1 7 := ⟨by decide +kernel, rfl⟩
theorem x_St_isLatin1_7 : DC b_St_isLatin1 7 (.getfield 15) 3 10 := ⟨by decide +kernel, rfl⟩
theorem x_St_isLatin1_10 : DC b_St_isLatin1 10 (.ifCond .ne 7) 3 13 := ⟨by decide +kernel, rfl⟩
theorem x_St_isLatin1_13 : DC b_St_isLatin1 13 (.iconst 1) 1 14 := ⟨by decide +kernel, rfl⟩
theorem x_St_isLatin1_14 : DC b_St_isLatin1 14 (.goto 4) 3 17 := ⟨by decide +kernel, rfl⟩
theorem x_St_isLatin1_17 : DC b_St_isLatin1 17 (.iconst 0) 1 18 := ⟨by decide +kernel, rfl⟩
theorem x_St_isLatin1_18 : DC b_St_isLatin1 18 (.ireturn) 1 19 := ⟨by decide +kernel, rfl⟩
def d_St_isLatin1 (i0 : Nat) (M : Mem) : Res := if (1 : Int) = 0 then (some (0, M)) else (if (0 : Int) = 0 then (some (1, M)) else (some (0, M)))
theorem t_St_isLatin1 (l : Launch) (G : GX) {lev : Nat} (hlev : 0 ≤ lev) {i0 : Nat} (hi0 : i0 < 4) {M : Mem} {r : Int × Mem} (h : d_St_isLatin1 i0 M = some r) : Mt l G y_St_isLatin1 b_St_isLatin1 1 (some .boolean) lev 1 [.ref (G.2.2.2.1 i0)] M r := by
  refine Mt.of (by decide) (i_le rfl) ?_
  intro p e s m args below meth c C
  have C : Cx p s m args meth c G b_St_isLatin1 1 "java/lang/String" (some .boolean) := C
  unfold d_St_isLatin1 at h
  refine z_sub (lv' := [(0, .ref (G.2.2.2.1 i0))]) [0] rfl ?_
  refine z_getCS C x_St_isLatin1_0 fl_St_38 ?_
  rcases ite_e h with ⟨c1, h⟩ | ⟨c1, h⟩
  · refine z_if_eq_t (tgt := 17) C x_St_isLatin1_3 rfl c1 ?_
    refine z_iconst C x_St_isLatin1_17 ?_
    exact z_zret C x_St_isLatin1_18 (by decide) h
  · refine z_if_eq_f (tgt := 17) C x_St_isLatin1_3 rfl c1 ?_
    refine z_aload_n C 0 x_St_isLatin1_6 rfl ?_
    refine z_getSc C x_St_isLatin1_7 hi0 fl_St_15 ?_
    rcases ite_e h with ⟨c2, h⟩ | ⟨c2, h⟩
    · refine z_if_ne_f (tgt := 17) C x_St_isLatin1_10 rfl c2 ?_
      refine z_iconst C x_St_isLatin1_13 ?_
      refine z_goto (tgt := 18) C x_St_isLatin1_14 rfl ?_
      exact z_zret C x_St_isLatin1_18 (by decide) h
    · refine z_if_ne_t (tgt := 17) C x_St_isLatin1_10 rfl c2 ?_
      refine z_iconst C x_St_isLatin1_17 ?_
      exact z_zret C x_St_isLatin1_18 (by decide) h
theorem x_Pc_checkIndex_0 : DC b_Pc_checkIndex 0 (.iload_n 0) 1 1 := ⟨by decide +kernel, rfl⟩
theorem x_Pc_checkIndex_1 : DC b_Pc_checkIndex 1 (.ifCond .lt 8) 3 4 := ⟨by decide +kernel, rfl⟩
theorem x_Pc_checkIndex_4 : DC b_Pc_checkIndex 4 (.iload_n 0) 1 5 := ⟨by decide +kernel, rfl⟩
theorem x_Pc_checkIndex_5 : DC b_Pc_checkIndex 5 (.iload_n 1) 1 6 := ⟨by decide +kernel, rfl⟩
theorem x_Pc_checkIndex_6 : DC b_Pc_checkIndex 6 (.if_icmp .lt 10) 3 9 := ⟨by decide +kernel, rfl⟩
theorem x_Pc_checkIndex_9 : DC b_Pc_checkIndex 9 (.aload_n 2) 1 10 := ⟨by decide +kernel, rfl⟩
theorem x_Pc_checkIndex_10 : DC b_Pc_checkIndex 10 (.iload_n 0) 1 11 := ⟨by decide +kernel, rfl⟩
theorem x_Pc_checkIndex_11 : DC b_Pc_checkIndex 11 (.iload_n 1) 1 12 := ⟨by decide +kernel, rfl⟩
theorem x_Pc_checkIndex_12 : DC b_Pc_checkIndex 12 (.invokestatic 95) 3 15 := ⟨by decide +kernel, rfl⟩
theorem x_Pc_checkIndex_15 : DC b_Pc_checkIndex 15 (.athrow) 1 16 := ⟨by decide +kernel, rfl⟩
theorem x_Pc_checkIndex_16 : DC b_Pc_checkIndex 16 (.iload_n 0) 1 17 := ⟨by decide +kernel, rfl⟩
theorem x_Pc_checkIndex_17 : DC b_Pc_checkIndex 17 (.ireturn) 1 18 := ⟨by decide +kernel, rfl⟩
def k_Pc_checkIndex_9 (a0 a1 : Int) (M : Mem) : Res := none
theorem z_Pc_checkIndex_9 (C : Cx p s m args meth c G b_Pc_checkIndex 3 "jdk/internal/util/Preconditions" (some .int)) (hlev : 0 ≤ lev) {fv : Value} (hfv : isRefV fv) {r : Int × Mem}  {a0 a1 : Int} {M : Mem} (h : k_Pc_checkIndex_9 a0 a1 M = some r) : Z p l e lev s m args below meth c G 3 (MQ below (Qm G 1 r) args s 0 0 (Ab G)) M 9 [(0, vi a0), (1, vi a1), (2, fv)] [] := by
  unfold k_Pc_checkIndex_9 at h
  exact nomatch (show (none : Res) = some r from h)
def d_Pc_checkIndex (a0 a1 : Int) (M : Mem) : Res := if w32 a0 < 0 then (k_Pc_checkIndex_9 a0 a1 M) else (if w32 a0 < w32 a1 then (some (a0, M)) else (k_Pc_checkIndex_9 a0 a1 M))
theorem t_Pc_checkIndex (l : Launch) (G : GX) {lev : Nat} (hlev : 0 ≤ lev) {fv : Value} (hfv : isRefV fv) {a0 a1 : Int} {M : Mem} {r : Int × Mem} (h : d_Pc_checkIndex a0 a1 M = some r) : Mt l G y_Pc_checkIndex b_Pc_checkIndex 3 (some .int) lev 1 [vi a0, vi a1, fv] M r := by
  refine Mt.of (by decide) (by rcases hfv with rfl | ⟨t, rfl⟩ <;> exact i_le rfl) ?_
  intro p e s m args below meth c C
  have C : Cx p s m args meth c G b_Pc_checkIndex 3 "jdk/internal/util/Preconditions" (some .int) := C
  unfold d_Pc_checkIndex at h
  refine z_sub (lv' := [(0, vi a0), (1, vi a1), (2, fv)]) [0, 1, 2] rfl ?_
  refine z_iload_n C 0 x_Pc_checkIndex_0 rfl ?_
  rcases ite_e h with ⟨c1, h⟩ | ⟨c1, h⟩
  · refine z_if_lt_t (tgt := 9) C x_Pc_checkIndex_1 rfl c1 ?_
    exact z_sub [0, 1, 2] rfl (z_Pc_checkIndex_9 C hlev hfv h)
  · refine z_if_lt_f (tgt := 9) C x_Pc_checkIndex_1 rfl c1 ?_
    refine z_iload_n C 0 x_Pc_checkIndex_4 rfl ?_
    refine z_iload_n C 1 x_Pc_checkIndex_5 rfl ?_
    rcases ite_e h with ⟨c2, h⟩ | ⟨c2, h⟩
    · refine z_icmp_lt_t (tgt := 16) C x_Pc_checkIndex_6 rfl c2 ?_
      refine z_iload_n C 0 x_Pc_checkIndex_16 rfl ?_
      exact z_iret C x_Pc_checkIndex_17 h
    · refine z_icmp_lt_f (tgt := 16) C x_Pc_checkIndex_6 rfl c2 ?_
      exact z_sub [0, 1, 2] rfl (z_Pc_checkIndex_9 C hlev hfv h)
theorem x_St_checkIndex_0 : DC b_St_checkIndex 0 (.iload_n 0) 1 1 := ⟨by decide +kernel, rfl⟩
theorem x_St_checkIndex_1 : DC b_St_checkIndex 1 (.iload_n 1) 1 2 := ⟨by decide +kernel, rfl⟩
theorem x_St_checkIndex_2 : DC b_St_checkIndex 2 (.getstatic 1053) 3 5 := ⟨by decide +kernel, rfl⟩
theorem x_St_checkIndex_5 : DC b_St_checkIndex 5 (.invokestatic 1059) 3 8 := ⟨by decide +kernel, rfl⟩
theorem x_St_checkIndex_8 : DC b_St_checkIndex 8 (.pop) 1 9 := ⟨by decide +kernel, rfl⟩
theorem x_St_checkIndex_9 : DC b_St_checkIndex 9 (.return_) 1 10 := ⟨by decide +kernel, rfl⟩
def d_St_checkIndex (a0 a1 : Int) (M : Mem) : Res := bcall (d_Pc_checkIndex a0 a1 M) fun v1 M2 => some (0, M2)
theorem t_St_checkIndex (l : Launch) (G : GX) {lev : Nat} (hlev : 1 ≤ lev) {a0 a1 : Int} {M : Mem} {r : Int × Mem} (h : d_St_checkIndex a0 a1 M = some r) : Mt l G y_St_checkIndex b_St_checkIndex 2 none lev 0 [vi a0, vi a1] M r := by
  refine Mt.of (by decide) (i_le rfl) ?_
  intro p e s m args below meth c C
  have C : Cx p s m args meth c G b_St_checkIndex 2 "java/lang/String" none := C
  unfold d_St_checkIndex at h
  refine z_sub (lv' := [(0, vi a0), (1, vi a1)]) [0, 1] rfl ?_
  refine z_iload_n C 0 x_St_checkIndex_0 rfl ?_
  refine z_iload_n C 1 x_St_checkIndex_1 rfl ?_
  refine z_getFm C x_St_checkIndex_2 fl_St_1053 (fun fv hfv => ?_)
  obtain ⟨v1, M2, fv1, h⟩ := bcall_e h
  refine z_callSi C x_St_checkIndex_5 cs_St_1059 (t_Pc_checkIndex (lev := lev - 1) l G (by omega) hfv fv1) (by omega) rfl (i_le rfl) rfl ?_
  refine z_pop C x_St_checkIndex_8 ?_
  exact z_vret C x_St_checkIndex_9 h
theorem x_SL_charAt_0 : DC b_SL_charAt 0 (.iload_n 1) 1 1 := ⟨by decide +kernel, rfl⟩
theorem x_SL_charAt_1 : DC b_SL_charAt 1 (.aload_n 0) 1 2 := ⟨by decide +kernel, rfl⟩
theorem x_SL_charAt_2 : DC b_SL_charAt 2 (.arraylength) 1 3 := ⟨by decide +kernel, rfl⟩
theorem x_SL_charAt_3 : DC b_SL_charAt 3 (.invokestatic 9) 3 6 := ⟨by decide +kernel, rfl⟩
theorem x_SL_charAt_6 : DC b_SL_charAt 6 (.aload_n 0) 1 7 := ⟨by decide +kernel, rfl⟩
theorem x_SL_charAt_7 : DC b_SL_charAt 7 (.iload_n 1) 1 8 := ⟨by decide +kernel, rfl⟩
theorem x_SL_charAt_8 : DC b_SL_charAt 8 (.baload) 1 9 := ⟨by decide +kernel, rfl⟩
theorem x_SL_charAt_9 : DC b_SL_charAt 9 (.sipush 255) 3 12 := ⟨by decide +kernel, rfl⟩
theorem x_SL_charAt_12 : DC b_SL_charAt 12 (.iand) 1 13 := ⟨by decide +kernel, rfl⟩
theorem x_SL_charAt_13 : DC b_SL_charAt 13 (.i2c) 1 14 := ⟨by decide +kernel, rfl⟩
theorem x_SL_charAt_14 : DC b_SL_charAt 14 (.ireturn) 1 15 := ⟨by decide +kernel, rfl⟩
def d_SL_charAt (i0 : Nat) (a1 : Int) (M : Mem) : Res := bcall (d_St_checkIndex a1 ((strsL.getD i0 0 : Nat)) M) fun v1 M2 => chk (0 ≤ w32 a1 ∧ w32 a1 < (strsL.getD i0 0 : Nat)) <| blet (sbt i0 (ix a1)) fun v4 => chk (0 ≤ (ch16 (an32 v4 255)) ∧ (ch16 (an32 v4 255)) < 65536) <| some (ch16 (an32 v4 255), M2)
theorem t_SL_charAt (l : Launch) (G : GX) {lev : Nat} (hlev : 2 ≤ lev) {i0 : Nat} (hi0 : i0 < 4) {a1 : Int} {M : Mem} {r : Int × Mem} (h : d_SL_charAt i0 a1 M = some r) : Mt l G y_SL_charAt b_SL_charAt 2 (some .char) lev 1 [.ref (G.2.2.2.2.1 i0), vi a1] M r := by
  refine Mt.of (by decide) (i_le rfl) ?_
  intro p e s m args below meth c C
  have C : Cx p s m args meth c G b_SL_charAt 2 "java/lang/StringLatin1" (some .char) := C
  unfold d_SL_charAt at h
  refine z_sub (lv' := [(0, .ref (G.2.2.2.2.1 i0)), (1, vi a1)]) [0, 1] rfl ?_
  refine z_iload_n C 1 x_SL_charAt_0 rfl ?_
  refine z_aload_n C 0 x_SL_charAt_1 rfl ?_
  refine z_alenS C x_SL_charAt_2 hi0 ?_
  obtain ⟨v1, M2, fv1, h⟩ := bcall_e h
  refine z_callSv C x_SL_charAt_3 cs_SL_9 (t_St_checkIndex (lev := lev - 1) l G (by omega) fv1) (by omega) rfl (i_le rfl) rfl ?_
  refine z_aload_n C 0 x_SL_charAt_6 rfl ?_
  refine z_iload_n C 1 x_SL_charAt_7 rfl ?_
  obtain ⟨c3, h⟩ := chk_e h
  obtain ⟨v4, ev4, h⟩ := blet_e h
  refine z_baldS C x_SL_charAt_8 hi0 c3 ev4 ?_
  refine z_sipush C rfl x_SL_charAt_9 ?_
  refine z_iand C x_SL_charAt_12 ?_
  refine z_i2c C x_SL_charAt_13 ?_
  obtain ⟨c5, h⟩ := chk_e h
  exact z_cret C x_SL_charAt_14 c5 h
theorem x_St_charAt_0 : DC b_St_charAt 0 (.aload_n 0) 1 1 := ⟨by decide +kernel, rfl⟩
theorem x_St_charAt_1 : DC b_St_charAt 1 (.invokevirtual 492) 3 4 := ⟨by decide +kernel, rfl⟩
theorem x_St_charAt_4 : DC b_St_charAt 4 (.ifCond .eq 12) 3 7 := ⟨by decide +kernel, rfl⟩
theorem x_St_charAt_7 : DC b_St_charAt 7 (.aload_n 0) 1 8 := ⟨by decide +kernel, rfl⟩
theorem x_St_charAt_8 : DC b_St_charAt 8 (.getfield 9) 3 11 := ⟨by decide +kernel, rfl⟩
theorem x_St_charAt_11 : DC b_St_charAt 11 (.iload_n 1) 1 12 := ⟨by decide +kernel, rfl⟩
theorem x_St_charAt_12 : DC b_St_charAt 12 (.invokestatic 495) 3 15 := ⟨by decide +kernel, rfl⟩
theorem x_St_charAt_15 : DC b_St_charAt 15 (.ireturn) 1 16 := ⟨by decide +kernel, rfl⟩
theorem x_St_charAt_16 : DC b_St_charAt 16 (.aload_n 0) 1 17 := ⟨by decide +kernel, rfl⟩
theorem x_St_charAt_17 : DC b_St_charAt 17 (.getfield 9) 3 20 := ⟨by decide +kernel, rfl⟩
theorem x_St_charAt_20 : DC b_St_charAt 20 (.iload_n 1) 1 21 := ⟨by decide +kernel, rfl⟩
theorem x_St_charAt_21 : DC b_St_charAt 21 (.invokestatic 498) 3 24 := ⟨by decide +kernel, rfl⟩
theorem x_St_charAt_24 : DC b_St_charAt 24 (.ireturn) 1 25 := ⟨by decide +kernel, rfl⟩
def d_St_charAt (i0 : Nat) (a1 : Int) (M : Mem) : Res := bcall (d_St_isLatin1 i0 M) fun v1 M2 => if w32 v1 = 0 then (none) else (bcall (d_SL_charAt i0 a1 M2) fun v4 M5 => chk (0 ≤ v4 ∧ v4 < 65536) <| some (v4, M5))
theorem t_St_charAt (l : Launch) (G : GX) {lev : Nat} (hlev : 3 ≤ lev) {i0 : Nat} (hi0 : i0 < 4) {a1 : Int} {M : Mem} {r : Int × Mem} (h : d_St_charAt i0 a1 M = some r) : Mt l G y_St_charAt b_St_charAt 2 (some .char) lev 1 [.ref (G.2.2.2.1 i0), vi a1] M r := by
  refine Mt.of (by decide) (i_le rfl) ?_
  intro p e s m args below meth c C
  have C : Cx p s m args meth c G b_St_charAt 2 "java/lang/String" (some .char) := C
  unfold d_St_charAt at h
  refine z_sub (lv' := [(0, .ref (G.2.2.2.1 i0)), (1, vi a1)]) [0, 1] rfl ?_
  refine z_aload_n C 0 x_St_charAt_0 rfl ?_
  obtain ⟨v1, M2, fv1, h⟩ := bcall_e h
  refine z_callXi (i := i0) C x_St_charAt_1 cv_St_492 hi0 (t_St_isLatin1 (lev := lev - 1) l G (by omega) hi0 fv1) (by omega) rfl (i_le rfl) rfl ?_
  rcases ite_e h with ⟨c3, h⟩ | ⟨c3, h⟩
  · refine z_if_eq_t (tgt := 16) C x_St_charAt_4 rfl c3 ?_
    exact nomatch (show (none : Res) = some r from h)
  · refine z_if_eq_f (tgt := 16) C x_St_charAt_4 rfl c3 ?_
    refine z_aload_n C 0 x_St_charAt_7 rfl ?_
    refine z_getSv C x_St_charAt_8 hi0 fl_St_9 ?_
    refine z_iload_n C 1 x_St_charAt_11 rfl ?_
    obtain ⟨v4, M5, fv4, h⟩ := bcall_e h
    refine z_callSi C x_St_charAt_12 cs_St_495 (t_SL_charAt (lev := lev - 1) l G (by omega) hi0 fv4) (by omega) rfl (i_le rfl) rfl ?_
    obtain ⟨c6, h⟩ := chk_e h
    exact z_cret C x_St_charAt_15 c6 h
theorem x_SL_canEncode_0 : DC b_SL_canEncode 0 (.iload_n 0) 1 1 := ⟨by decide +kernel, rfl⟩
theorem x_SL_canEncode_1 : DC b_SL_canEncode 1 (.ifCond .lt 14) 3 4 := ⟨by decide +kernel, rfl⟩
theorem x_SL_canEncode_4 : DC b_SL_canEncode 4 (.iload_n 0) 1 5 := ⟨by decide +kernel, rfl⟩
theorem x_SL_canEncode_5 : DC b_SL_canEncode 5 (.sipush 255) 3 8 := ⟨by decide +kernel, rfl⟩
theorem x_SL_canEncode_8 : DC b_SL_canEncode 8 (.if_icmp .gt 7) 3 11 := ⟨by decide +kernel, rfl⟩
theorem x_SL_canEncode_11 : DC b_SL_canEncode 11 (.iconst 1) 1 12 := ⟨by decide +kernel, rfl⟩
theorem x_SL_canEncode_12 : DC b_SL_canEncode 12 (.goto 4) 3 15 := ⟨by decide +kernel, rfl⟩
theorem x_SL_canEncode_15 : DC b_SL_canEncode 15 (.iconst 0) 1 16 := ⟨by decide +kernel, rfl⟩
theorem x_SL_canEncode_16 : DC b_SL_canEncode 16 (.ireturn) 1 17 := ⟨by decide +kernel, rfl⟩
def d_SL_canEncode (a0 : Int) (M : Mem) : Res := if w32 a0 < 0 then (some (0, M)) else (if 255 < w32 a0 then (some (0, M)) else (some (1, M)))
theorem t_SL_canEncode (l : Launch) (G : GX) {lev : Nat} (hlev : 0 ≤ lev) {a0 : Int} {M : Mem} {r : Int × Mem} (h : d_SL_canEncode a0 M = some r) : Mt l G y_SL_canEncode b_SL_canEncode 1 (some .boolean) lev 1 [vi a0] M r := by
  refine Mt.of (by decide) (i_le rfl) ?_
  intro p e s m args below meth c C
  have C : Cx p s m args meth c G b_SL_canEncode 1 "java/lang/StringLatin1" (some .boolean) := C
  unfold d_SL_canEncode at h
  refine z_sub (lv' := [(0, vi a0)]) [0] rfl ?_
  refine z_iload_n C 0 x_SL_canEncode_0 rfl ?_
  rcases ite_e h with ⟨c1, h⟩ | ⟨c1, h⟩
  · refine z_if_lt_t (tgt := 15) C x_SL_canEncode_1 rfl c1 ?_
    refine z_iconst C x_SL_canEncode_15 ?_
    exact z_zret C x_SL_canEncode_16 (by decide) h
  · refine z_if_lt_f (tgt := 15) C x_SL_canEncode_1 rfl c1 ?_
    refine z_iload_n C 0 x_SL_canEncode_4 rfl ?_
    refine z_sipush C rfl x_SL_canEncode_5 ?_
    rcases ite_e h with ⟨c2, h⟩ | ⟨c2, h⟩
    · refine z_icmp_gt_t (tgt := 15) C x_SL_canEncode_8 rfl c2 ?_
      refine z_iconst C x_SL_canEncode_15 ?_
      exact z_zret C x_SL_canEncode_16 (by decide) h
    · refine z_icmp_gt_f (tgt := 15) C x_SL_canEncode_8 rfl c2 ?_
      refine z_iconst C x_SL_canEncode_11 ?_
      refine z_goto (tgt := 16) C x_SL_canEncode_12 rfl ?_
      exact z_zret C x_SL_canEncode_16 (by decide) h
theorem x_SL_indexOfChar_0 : DC b_SL_indexOfChar 0 (.iload_n 1) 1 1 := ⟨by decide +kernel, rfl⟩
theorem x_SL_indexOfChar_1 : DC b_SL_indexOfChar 1 (.i2b) 1 2 := ⟨by decide +kernel, rfl⟩
theorem x_SL_indexOfChar_2 : DC b_SL_indexOfChar 2 (.istore 4) 2 4 := ⟨by decide +kernel, rfl⟩
theorem x_SL_indexOfChar_4 : DC b_SL_indexOfChar 4 (.iload_n 2) 1 5 := ⟨by decide +kernel, rfl⟩
theorem x_SL_indexOfChar_5 : DC b_SL_indexOfChar 5 (.istore 5) 2 7 := ⟨by decide +kernel, rfl⟩
theorem x_SL_indexOfChar_7 : DC b_SL_indexOfChar 7 (.iload 5) 2 9 := ⟨by decide +kernel, rfl⟩
theorem x_SL_indexOfChar_9 : DC b_SL_indexOfChar 9 (.iload_n 3) 1 10 := ⟨by decide +kernel, rfl⟩
theorem x_SL_indexOfChar_10 : DC b_SL_indexOfChar 10 (.if_icmp .ge 21) 3 13 := ⟨by decide +kernel, rfl⟩
theorem x_SL_indexOfChar_13 : DC b_SL_indexOfChar 13 (.aload_n 0) 1 14 := ⟨by decide +kernel, rfl⟩
theorem x_SL_indexOfChar_14 : DC b_SL_indexOfChar 14 (.iload 5) 2 16 := ⟨by decide +kernel, rfl⟩
theorem x_SL_indexOfChar_16 : DC b_SL_indexOfChar 16 (.baload) 1 17 := ⟨by decide +kernel, rfl⟩
theorem x_SL_indexOfChar_17 : DC b_SL_indexOfChar 17 (.iload 4) 2 19 := ⟨by decide +kernel, rfl⟩
theorem x_SL_indexOfChar_19 : DC b_SL_indexOfChar 19 (.if_icmp .ne 6) 3 22 := ⟨by decide +kernel, rfl⟩
theorem x_SL_indexOfChar_22 : DC b_SL_indexOfChar 22 (.iload 5) 2 24 := ⟨by decide +kernel, rfl⟩
theorem x_SL_indexOfChar_24 : DC b_SL_indexOfChar 24 (.ireturn) 1 25 := ⟨by decide +kernel, rfl⟩
theorem x_SL_indexOfChar_25 : DC b_SL_indexOfChar 25 (.iinc 5 1) 3 28 := ⟨by decide +kernel, rfl⟩
theorem x_SL_indexOfChar_28 : DC b_SL_indexOfChar 28 (.goto (-21)) 3 31 := ⟨by decide +kernel, rfl⟩
theorem x_SL_indexOfChar_31 : DC b_SL_indexOfChar 31 (.iconst (-1)) 1 32 := ⟨by decide +kernel, rfl⟩
theorem x_SL_indexOfChar_32 : DC b_SL_indexOfChar 32 (.ireturn) 1 33 := ⟨by decide +kernel, rfl⟩
def k_SL_indexOfChar_7 (i0 : Nat) (R7 : Int → Int → Int → Mem → Res) (a3 a4 a5 : Int) (M : Mem) : Res := if w32 a5 < w32 a3 then (chk (0 ≤ w32 a5 ∧ w32 a5 < (strsL.getD i0 0 : Nat)) <| blet (sbt i0 (ix a5)) fun v3 => if w32 v3 = w32 a4 then (some (a5, M)) else (blet (a5 + 1) fun v5 => R7 a3 a4 v5 M)) else (some ((-1), M))
theorem z_SL_indexOfChar_7 (C : Cx p s m args meth c G b_SL_indexOfChar 6 "java/lang/StringLatin1" (some .int)) (hlev : 0 ≤ lev) {i0 : Nat} (hi0 : i0 < 4) {r : Int × Mem} {R7 : Int → Int → Int → Mem → Res} (hR7 : ∀ (a3 a4 a5 : Int) (M : Mem), R7 a3 a4 a5 M = some r → Z p l e lev s m args below meth c G 6 (MQ below (Qm G 1 r) args s 0 0 (Ab G)) M 7 [(0, .ref (G.2.2.2.2.1 i0)), (3, vi a3), (4, vi a4), (5, vi a5)] []) {a3 a4 a5 : Int} {M : Mem} (h : k_SL_indexOfChar_7 i0 R7 a3 a4 a5 M = some r) : Z p l e lev s m args below meth c G 6 (MQ below (Qm G 1 r) args s 0 0 (Ab G)) M 7 [(0, .ref (G.2.2.2.2.1 i0)), (3, vi a3), (4, vi a4), (5, vi a5)] [] := by
  unfold k_SL_indexOfChar_7 at h
  refine z_iload C 3 x_SL_indexOfChar_7 rfl ?_
  refine z_iload_n C 1 x_SL_indexOfChar_9 rfl ?_
  rcases ite_e h with ⟨c1, h⟩ | ⟨c1, h⟩
  · refine z_icmp_ge_f (tgt := 31) C x_SL_indexOfChar_10 rfl c1 ?_
    refine z_aload_n C 0 x_SL_indexOfChar_13 rfl ?_
    refine z_iload C 3 x_SL_indexOfChar_14 rfl ?_
    obtain ⟨c2, h⟩ := chk_e h
    obtain ⟨v3, ev3, h⟩ := blet_e h
    refine z_baldS C x_SL_indexOfChar_16 hi0 c2 ev3 ?_
    refine z_iload C 2 x_SL_indexOfChar_17 rfl ?_
    rcases ite_e h with ⟨c4, h⟩ | ⟨c4, h⟩
    · refine z_icmp_ne_f (tgt := 25) C x_SL_indexOfChar_19 rfl c4 ?_
      refine z_iload C 3 x_SL_indexOfChar_22 rfl ?_
      exact z_iret C x_SL_indexOfChar_24 h
    · refine z_icmp_ne_t (tgt := 25) C x_SL_indexOfChar_19 rfl c4 ?_
      obtain ⟨v5, ev5, h⟩ := blet_e h
      refine z_iinc (lv' := [(5, vi v5), (0, .ref (G.2.2.2.2.1 i0)), (3, vi a3), (4, vi a4)]) C 3 ev5 x_SL_indexOfChar_25 rfl (i_lt rfl) rfl ?_
      refine z_goto (tgt := 7) C x_SL_indexOfChar_28 rfl ?_
      exact z_sub [1, 2, 3, 0] rfl (hR7 a3 a4 v5 M h)
  · refine z_icmp_ge_t (tgt := 31) C x_SL_indexOfChar_10 rfl c1 ?_
    refine z_iconst C x_SL_indexOfChar_31 ?_
    exact z_iret C x_SL_indexOfChar_32 h
theorem zl_SL_indexOfChar_7 (C : Cx p s m args meth c G b_SL_indexOfChar 6 "java/lang/StringLatin1" (some .int)) (hlev : 0 ≤ lev) {i0 : Nat} (hi0 : i0 < 4) {r : Int × Mem}  : ∀ (n : Nat) (a3 a4 a5 : Int) (M : Mem), fix (fun _ _ _ _ => none) (k_SL_indexOfChar_7 i0) n a3 a4 a5 M = some r → Z p l e lev s m args below meth c G 6 (MQ below (Qm G 1 r) args s 0 0 (Ab G)) M 7 [(0, .ref (G.2.2.2.2.1 i0)), (3, vi a3), (4, vi a4), (5, vi a5)] [] := by
  intro n
  induction n with
  | zero => intro a3 a4 a5 M h; exact nomatch (show (none : Res) = some r from h)
  | succ n ih => intro a3 a4 a5 M h; exact z_SL_indexOfChar_7 C hlev hi0 ih h
def d_SL_indexOfChar (i0 : Nat) (a1 a2 a3 : Int) (M : Mem) : Res := blet (w8 a1) fun v1 => fix (fun _ _ _ _ => none) (k_SL_indexOfChar_7 i0) FU a3 v1 a2 M
theorem t_SL_indexOfChar (l : Launch) (G : GX) {lev : Nat} (hlev : 0 ≤ lev) {i0 : Nat} (hi0 : i0 < 4) {a1 a2 a3 : Int} {M : Mem} {r : Int × Mem} (h : d_SL_indexOfChar i0 a1 a2 a3 M = some r) : Mt l G y_SL_indexOfChar b_SL_indexOfChar 6 (some .int) lev 1 [.ref (G.2.2.2.2.1 i0), vi a1, vi a2, vi a3] M r := by
  refine Mt.of (by decide) (i_le rfl) ?_
  intro p e s m args below meth c C
  have C : Cx p s m args meth c G b_SL_indexOfChar 6 "java/lang/StringLatin1" (some .int) := C
  unfold d_SL_indexOfChar at h
  refine z_sub (lv' := [(0, .ref (G.2.2.2.2.1 i0)), (1, vi a1), (2, vi a2), (3, vi a3)]) [0, 1, 2, 3] rfl ?_
  refine z_iload_n C 1 x_SL_indexOfChar_0 rfl ?_
  refine z_i2b C x_SL_indexOfChar_1 ?_
  obtain ⟨v1, ev1, h⟩ := blet_e h
  refine z_istore (lv' := [(4, vi v1), (0, .ref (G.2.2.2.2.1 i0)), (1, vi a1), (2, vi a2), (3, vi a3)]) C ev1 x_SL_indexOfChar_2 (i_lt rfl) rfl ?_
  refine z_iload_n C 3 x_SL_indexOfChar_4 rfl ?_
  refine z_istore (lv' := [(5, vi a2), (4, vi v1), (0, .ref (G.2.2.2.2.1 i0)), (1, vi a1), (2, vi a2), (3, vi a3)]) C rfl x_SL_indexOfChar_5 (i_lt rfl) rfl ?_
  exact z_sub [2, 5, 1, 0] rfl (zl_SL_indexOfChar_7 C hlev hi0 FU a3 v1 a2 M h)
theorem x_SL_indexOf_0 : DC b_SL_indexOf 0 (.iload_n 1) 1 1 := ⟨by decide +kernel, rfl⟩
theorem x_SL_indexOf_1 : DC b_SL_indexOf 1 (.invokestatic 88) 3 4 := ⟨by decide +kernel, rfl⟩
theorem x_SL_indexOf_4 : DC b_SL_indexOf 4 (.ifCond .ne 5) 3 7 := ⟨by decide +kernel, rfl⟩
theorem x_SL_indexOf_7 : DC b_SL_indexOf 7 (.iconst (-1)) 1 8 := ⟨by decide +kernel, rfl⟩
theorem x_SL_indexOf_8 : DC b_SL_indexOf 8 (.ireturn) 1 9 := ⟨by decide +kernel, rfl⟩
theorem x_SL_indexOf_9 : DC b_SL_indexOf 9 (.iload_n 2) 1 10 := ⟨by decide +kernel, rfl⟩
theorem x_SL_indexOf_10 : DC b_SL_indexOf 10 (.iconst 0) 1 11 := ⟨by decide +kernel, rfl⟩
theorem x_SL_indexOf_11 : DC b_SL_indexOf 11 (.invokestatic 92) 3 14 := ⟨by decide +kernel, rfl⟩
theorem x_SL_indexOf_14 : DC b_SL_indexOf 14 (.istore_n 2) 1 15 := ⟨by decide +kernel, rfl⟩
theorem x_SL_indexOf_15 : DC b_SL_indexOf 15 (.iload_n 3) 1 16 := ⟨by decide +kernel, rfl⟩
theorem x_SL_indexOf_16 : DC b_SL_indexOf 16 (.aload_n 0) 1 17 := ⟨by decide +kernel, rfl⟩
theorem x_SL_indexOf_17 : DC b_SL_indexOf 17 (.arraylength) 1 18 := ⟨by decide +kernel, rfl⟩
theorem x_SL_indexOf_18 : DC b_SL_indexOf 18 (.invokestatic 38) 3 21 := ⟨by decide +kernel, rfl⟩
theorem x_SL_indexOf_21 : DC b_SL_indexOf 21 (.istore_n 3) 1 22 := ⟨by decide +kernel, rfl⟩
theorem x_SL_indexOf_22 : DC b_SL_indexOf 22 (.iload_n 2) 1 23 := ⟨by decide +kernel, rfl⟩
theorem x_SL_indexOf_23 : DC b_SL_indexOf 23 (.iload_n 3) 1 24 := ⟨by decide +kernel, rfl⟩
theorem x_SL_indexOf_24 : DC b_SL_indexOf 24 (.if_icmp .lt 5) 3 27 := ⟨by decide +kernel, rfl⟩
theorem x_SL_indexOf_27 : DC b_SL_indexOf 27 (.iconst (-1)) 1 28 := ⟨by decide +kernel, rfl⟩
theorem x_SL_indexOf_28 : DC b_SL_indexOf 28 (.ireturn) 1 29 := ⟨by decide +kernel, rfl⟩
theorem x_SL_indexOf_29 : DC b_SL_indexOf 29 (.aload_n 0) 1 30 := ⟨by decide +kernel, rfl⟩
theorem x_SL_indexOf_30 : DC b_SL_indexOf 30 (.iload_n 1) 1 31 := ⟨by decide +kernel, rfl⟩
theorem x_SL_indexOf_31 : DC b_SL_indexOf 31 (.iload_n 2) 1 32 := ⟨by decide +kernel, rfl⟩
theorem x_SL_indexOf_32 : DC b_SL_indexOf 32 (.iload_n 3) 1 33 := ⟨by decide +kernel, rfl⟩
theorem x_SL_indexOf_33 : DC b_SL_indexOf 33 (.invokestatic 95) 3 36 := ⟨by decide +kernel, rfl⟩
theorem x_SL_indexOf_36 : DC b_SL_indexOf 36 (.ireturn) 1 37 := ⟨by decide +kernel, rfl⟩
def d_SL_indexOf (i0 : Nat) (a1 a2 a3 : Int) (M : Mem) : Res := bcall (d_SL_canEncode a1 M) fun v1 M2 => if w32 v1 = 0 then (some ((-1), M2)) else (blet (mx32 a2 0) fun v4 => blet (mn32 a3 ((strsL.getD i0 0 : Nat))) fun v5 => if w32 v4 < w32 v5 then (bcall (d_SL_indexOfChar i0 a1 v4 v5 M2) fun v7 M8 => some (v7, M8)) else (some ((-1), M2)))
theorem t_SL_indexOf (l : Launch) (G : GX) {lev : Nat} (hlev : 1 ≤ lev) {i0 : Nat} (hi0 : i0 < 4) {a1 a2 a3 : Int} {M : Mem} {r : Int × Mem} (h : d_SL_indexOf i0 a1 a2 a3 M = some r) : Mt l G y_SL_indexOf b_SL_indexOf 4 (some .int) lev 1 [.ref (G.2.2.2.2.1 i0), vi a1, vi a2, vi a3] M r := by
  refine Mt.of (by decide) (i_le rfl) ?_
  intro p e s m args below meth c C
  have C : Cx p s m args meth c G b_SL_indexOf 4 "java/lang/StringLatin1" (some .int) := C
  unfold d_SL_indexOf at h
  refine z_sub (lv' := [(0, .ref (G.2.2.2.2.1 i0)), (1, vi a1), (2, vi a2), (3, vi a3)]) [0, 1, 2, 3] rfl ?_
  refine z_iload_n C 1 x_SL_indexOf_0 rfl ?_
  obtain ⟨v1, M2, fv1, h⟩ := bcall_e h
  refine z_callSi C x_SL_indexOf_1 cs_SL_88 (t_SL_canEncode (lev := lev - 1) l G (by omega) fv1) (by omega) rfl (i_le rfl) rfl ?_
  rcases ite_e h with ⟨c3, h⟩ | ⟨c3, h⟩
  · refine z_if_ne_f (tgt := 9) C x_SL_indexOf_4 rfl c3 ?_
    refine z_iconst C x_SL_indexOf_7 ?_
    exact z_iret C x_SL_indexOf_8 h
  · refine z_if_ne_t (tgt := 9) C x_SL_indexOf_4 rfl c3 ?_
    refine z_iload_n C 2 x_SL_indexOf_9 rfl ?_
    refine z_iconst C x_SL_indexOf_10 ?_
    refine z_mx32 C x_SL_indexOf_11 cs_SL_92 (by omega) (i_le rfl) ?_
    obtain ⟨v4, ev4, h⟩ := blet_e h
    refine z_istore_n (lv' := [(2, vi v4), (0, .ref (G.2.2.2.2.1 i0)), (1, vi a1), (3, vi a3)]) C ev4 x_SL_indexOf_14 (i_lt rfl) rfl ?_
    refine z_iload_n C 3 x_SL_indexOf_15 rfl ?_
    refine z_aload_n C 1 x_SL_indexOf_16 rfl ?_
    refine z_alenS C x_SL_indexOf_17 hi0 ?_
    refine z_mn32 C x_SL_indexOf_18 cs_SL_38 (by omega) (i_le rfl) ?_
    obtain ⟨v5, ev5, h⟩ := blet_e h
    refine z_istore_n (lv' := [(3, vi v5), (2, vi v4), (0, .ref (G.2.2.2.2.1 i0)), (1, vi a1)]) C ev5 x_SL_indexOf_21 (i_lt rfl) rfl ?_
    refine z_iload_n C 1 x_SL_indexOf_22 rfl ?_
    refine z_iload_n C 0 x_SL_indexOf_23 rfl ?_
    rcases ite_e h with ⟨c6, h⟩ | ⟨c6, h⟩
    · refine z_icmp_lt_t (tgt := 29) C x_SL_indexOf_24 rfl c6 ?_
      refine z_aload_n C 2 x_SL_indexOf_29 rfl ?_
      refine z_iload_n C 3 x_SL_indexOf_30 rfl ?_
      refine z_iload_n C 1 x_SL_indexOf_31 rfl ?_
      refine z_iload_n C 0 x_SL_indexOf_32 rfl ?_
      obtain ⟨v7, M8, fv7, h⟩ := bcall_e h
      refine z_callSi C x_SL_indexOf_33 cs_SL_95 (t_SL_indexOfChar (lev := lev - 1) l G (by omega) hi0 fv7) (by omega) rfl (i_le rfl) rfl ?_
      exact z_iret C x_SL_indexOf_36 h
    · refine z_icmp_lt_f (tgt := 29) C x_SL_indexOf_24 rfl c6 ?_
      refine z_iconst C x_SL_indexOf_27 ?_
      exact z_iret C x_SL_indexOf_28 h
theorem x_St_indexOf1_0 : DC b_St_indexOf1 0 (.aload_n 0) 1 1 := ⟨by decide +kernel, rfl⟩
theorem x_St_indexOf1_1 : DC b_St_indexOf1 1 (.invokevirtual 492) 3 4 := ⟨by decide +kernel, rfl⟩
theorem x_St_indexOf1_4 : DC b_St_indexOf1 4 (.ifCond .eq 19) 3 7 := ⟨by decide +kernel, rfl⟩
theorem x_St_indexOf1_7 : DC b_St_indexOf1 7 (.aload_n 0) 1 8 := ⟨by decide +kernel, rfl⟩
theorem x_St_indexOf1_8 : DC b_St_indexOf1 8 (.getfield 9) 3 11 := ⟨by decide +kernel, rfl⟩
theorem x_St_indexOf1_11 : DC b_St_indexOf1 11 (.iload_n 1) 1 12 := ⟨by decide +kernel, rfl⟩
theorem x_St_indexOf1_12 : DC b_St_indexOf1 12 (.iload_n 2) 1 13 := ⟨by decide +kernel, rfl⟩
theorem x_St_indexOf1_13 : DC b_St_indexOf1 13 (.aload_n 0) 1 14 := ⟨by decide +kernel, rfl⟩
theorem x_St_indexOf1_14 : DC b_St_indexOf1 14 (.invokevirtual 505) 3 17 := ⟨by decide +kernel, rfl⟩
theorem x_St_indexOf1_17 : DC b_St_indexOf1 17 (.invokestatic 637) 3 20 := ⟨by decide +kernel, rfl⟩
theorem x_St_indexOf1_20 : DC b_St_indexOf1 20 (.goto 16) 3 23 := ⟨by decide +kernel, rfl⟩
theorem x_St_indexOf1_23 : DC b_St_indexOf1 23 (.aload_n 0) 1 24 := ⟨by decide +kernel, rfl⟩
theorem x_St_indexOf1_24 : DC b_St_indexOf1 24 (.getfield 9) 3 27 := ⟨by decide +kernel, rfl⟩
theorem x_St_indexOf1_27 : DC b_St_indexOf1 27 (.iload_n 1) 1 28 := ⟨by decide +kernel, rfl⟩
theorem x_St_indexOf1_28 : DC b_St_indexOf1 28 (.iload_n 2) 1 29 := ⟨by decide +kernel, rfl⟩
theorem x_St_indexOf1_29 : DC b_St_indexOf1 29 (.aload_n 0) 1 30 := ⟨by decide +kernel, rfl⟩
theorem x_St_indexOf1_30 : DC b_St_indexOf1 30 (.invokevirtual 505) 3 33 := ⟨by decide +kernel, rfl⟩
theorem x_St_indexOf1_33 : DC b_St_indexOf1 33 (.invokestatic 640) 3 36 := ⟨by decide +kernel, rfl⟩
theorem x_St_indexOf1_36 : DC b_St_indexOf1 36 (.ireturn) 1 37 := ⟨by decide +kernel, rfl⟩
def d_St_indexOf1 (i0 : Nat) (a1 a2 : Int) (M : Mem) : Res := bcall (d_St_isLatin1 i0 M) fun v1 M2 => if w32 v1 = 0 then (none) else (bcall (d_St_length i0 M2) fun v4 M5 => bcall (d_SL_indexOf i0 a1 a2 v4 M5) fun v6 M7 => some (v6, M7))
theorem t_St_indexOf1 (l : Launch) (G : GX) {lev : Nat} (hlev : 2 ≤ lev) {i0 : Nat} (hi0 : i0 < 4) {a1 a2 : Int} {M : Mem} {r : Int × Mem} (h : d_St_indexOf1 i0 a1 a2 M = some r) : Mt l G y_St_indexOf1 b_St_indexOf1 3 (some .int) lev 1 [.ref (G.2.2.2.1 i0), vi a1, vi a2] M r := by
  refine Mt.of (by decide) (i_le rfl) ?_
  intro p e s m args below meth c C
  have C : Cx p s m args meth c G b_St_indexOf1 3 "java/lang/String" (some .int) := C
  unfold d_St_indexOf1 at h
  refine z_sub (lv' := [(0, .ref (G.2.2.2.1 i0)), (1, vi a1), (2, vi a2)]) [0, 1, 2] rfl ?_
  refine z_aload_n C 0 x_St_indexOf1_0 rfl ?_
  obtain ⟨v1, M2, fv1, h⟩ := bcall_e h
  refine z_callXi (i := i0) C x_St_indexOf1_1 cv_St_492 hi0 (t_St_isLatin1 (lev := lev - 1) l G (by omega) hi0 fv1) (by omega) rfl (i_le rfl) rfl ?_
  rcases ite_e h with ⟨c3, h⟩ | ⟨c3, h⟩
  · refine z_if_eq_t (tgt := 23) C x_St_indexOf1_4 rfl c3 ?_
    exact nomatch (show (none : Res) = some r from h)
  · refine z_if_eq_f (tgt := 23) C x_St_indexOf1_4 rfl c3 ?_
    refine z_aload_n C 0 x_St_indexOf1_7 rfl ?_
    refine z_getSv C x_St_indexOf1_8 hi0 fl_St_9 ?_
    refine z_iload_n C 1 x_St_indexOf1_11 rfl ?_
    refine z_iload_n C 2 x_St_indexOf1_12 rfl ?_
    refine z_aload_n C 0 x_St_indexOf1_13 rfl ?_
    obtain ⟨v4, M5, fv4, h⟩ := bcall_e h
    refine z_callXi (i := i0) C x_St_indexOf1_14 cv_St_505 hi0 (t_St_length (lev := lev - 1) l G (by omega) hi0 fv4) (by omega) rfl (i_le rfl) rfl ?_
    obtain ⟨v6, M7, fv6, h⟩ := bcall_e h
    refine z_callSi C x_St_indexOf1_17 cs_St_637 (t_SL_indexOf (lev := lev - 1) l G (by omega) hi0 fv6) (by omega) rfl (i_le rfl) rfl ?_
    refine z_goto (tgt := 36) C x_St_indexOf1_20 rfl ?_
    exact z_iret C x_St_indexOf1_36 h
theorem x_St_indexOf0_0 : DC b_St_indexOf0 0 (.aload_n 0) 1 1 := ⟨by decide +kernel, rfl⟩
theorem x_St_indexOf0_1 : DC b_St_indexOf0 1 (.iload_n 1) 1 2 := ⟨by decide +kernel, rfl⟩
theorem x_St_indexOf0_2 : DC b_St_indexOf0 2 (.iconst 0) 1 3 := ⟨by decide +kernel, rfl⟩
theorem x_St_indexOf0_3 : DC b_St_indexOf0 3 (.invokevirtual 633) 3 6 := ⟨by decide +kernel, rfl⟩
theorem x_St_indexOf0_6 : DC b_St_indexOf0 6 (.ireturn) 1 7 := ⟨by decide +kernel, rfl⟩
def d_St_indexOf0 (i0 : Nat) (a1 : Int) (M : Mem) : Res := bcall (d_St_indexOf1 i0 a1 0 M) fun v1 M2 => some (v1, M2)
theorem t_St_indexOf0 (l : Launch) (G : GX) {lev : Nat} (hlev : 3 ≤ lev) {i0 : Nat} (hi0 : i0 < 4) {a1 : Int} {M : Mem} {r : Int × Mem} (h : d_St_indexOf0 i0 a1 M = some r) : Mt l G y_St_indexOf0 b_St_indexOf0 2 (some .int) lev 1 [.ref (G.2.2.2.1 i0), vi a1] M r := by
  refine Mt.of (by decide) (i_le rfl) ?_
  intro p e s m args below meth c C
  have C : Cx p s m args meth c G b_St_indexOf0 2 "java/lang/String" (some .int) := C
  unfold d_St_indexOf0 at h
  refine z_sub (lv' := [(0, .ref (G.2.2.2.1 i0)), (1, vi a1)]) [0, 1] rfl ?_
  refine z_aload_n C 0 x_St_indexOf0_0 rfl ?_
  refine z_iload_n C 1 x_St_indexOf0_1 rfl ?_
  refine z_iconst C x_St_indexOf0_2 ?_
  obtain ⟨v1, M2, fv1, h⟩ := bcall_e h
  refine z_callXi (i := i0) C x_St_indexOf0_3 cv_St_633 hi0 (t_St_indexOf1 (lev := lev - 1) l G (by omega) hi0 fv1) (by omega) rfl (i_le rfl) rfl ?_
  exact z_iret C x_St_indexOf0_6 h
end
