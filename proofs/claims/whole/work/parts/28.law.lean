/-! the law: rows in its own room, its cases, its loop -/
/-! THE CLAIM OUT OF ONE WALK OF THE LAW'S BODY. Your part is whole_start (and what it stands on); all else here is the same for every law, but numbers. -/
def R_law : String := "PrairiePoolLaw"
def lw_P (b : Addr) (xs : List Int32) (args : Array Value) (s : State) : Prop := args = #[.ref b] ∧ s.IntsAt b xs ∧ xs.length ≤ 4096 ∧ (Jvm.Cond.and given_1 narrow_1).before args s = true
def lw_Q (_ : Array Value) (s : State) (o : Outcome) (t : State) : Prop := o = .returned (some (.int 1)) ∧ Framed s o t [] 600000 7302250
def lw_Z (below : List Frame) (a : Array Value) (s : State) : State → Prop := fun t => ∃ o, t.status = .running ∧ Ended t below o ∧ lw_Q a s o t
/-- the law's own end, with 1 on the stack, nothing written that was there before, its room as the claim has it -/
theorem lw_ret {p : Program} {l : Launch} {e : Env} {s : State} {m : MethodId} {below : List Frame} {meth : Method} {c : Code} {b : Nat} (hx : p.tables.exec = Jvm.exec) (hb : c.code = code) (hr : meth.sig.returnType = ret) (hlocks : meth.locks = false) {pc : Nat} {H : Heap} {ls : Array Slot} (hdg : decode code pc = .ok (.ireturn, 1)) : W p l e room_1 s m #[Value.ref b] below meth c H [] 600000 7302250 (lw_Z below #[Value.ref b] s) (F0 m pc ls [.int 1]) := by
  intro T hT X
  obtain ⟨fs, hret, hrun, hended, hW, hframe⟩ := X.leave (v := some (.int 1)) (hlocks := hlocks) (fun h => by rw [hr] at h; cases h)
  have hmeth' : T.vm.method? m = some meth := X.method'
  refine ⟨T.setFrames fs, ?_, .returned (some (.int 1)), hrun, hended, rfl, ⟨_, rfl⟩, hW, hframe⟩
  jvm_step X.here [X.here.top, hx, hb, hdg, hmeth', hr, ret, narrow_b1]
  (try refine ⟨rfl, ?_⟩); (try refine ⟨rfl, ?_⟩)
  first | (intro acts; rw [hret _ acts rfl rfl rfl]) | rw [hret _ _ rfl rfl rfl]
  exact Steps.refl _
/-- what holds at the law's entry: the machine, the code, the tables' words (any of lw_tbl by 'hts w (by decide +kernel)'), the script of L ints xs at the cell b, what the Statement gives of the start (any of its parts by flat_of_before) -/
def lw_At (p : Program) (s : State) (m : MethodId) (meth : Method) (c : Code) (b L : Nat) (xs : Nat → Int32) : Prop :=
  p.tables.exec = Jvm.exec ∧ c.code = code ∧ meth.sig.returnType = ret ∧ c.maxLocals = 4 ∧ s.vm.findClass R_law = some m.cls ∧ (∀ w ∈ lw_tbl, w.before #[Value.ref b] s = true) ∧ va_X b L xs s s.heap ∧ b < s.heap.size ∧ meth.locks = false ∧ (Jvm.Cond.and given_1 narrow_1).before #[Value.ref b] s = true

section ZL
variable {p : Program} {l : Launch} {e : Env} {lev : Nat} {R : Room} {cl sl : Nat} {PP : Heap → Prop} {s : State} {m : MethodId} {args : Array Value} {below : List Frame} {meth : Method} {c : Code} {G : GX} {nL : Nat} {Q : State → Prop} {M : Mem} {pc pc' : Nat} {lv lv' : List (Nat × Value)} {st : List Value} {cc : ByteArray} {own : String} {rt : Option FieldType}

theorem zl_sld (C : Cx p s m args meth c G cc nL own rt) {b L : Nat} {xs : Nat → Int32} {i x : Int} (hX : va_X b L xs s s.heap) (hb0 : b < G.1 ∧ G.1 = s.heap.size) (d : DC cc pc .iaload 1 pc') (hi : 0 ≤ w32 i ∧ w32 i < (L : Int)) (hv : x = (fun j => (xs j).toInt) (ix i)) (k : Z0 p l e R cl sl s m args below meth c G nL Q PP pc' lv (vi x :: st)) : Z0 p l e R cl sl s m args below meth c G nL Q PP pc lv (vi i :: .ref b :: st) := by
  subst hv
  intro H locs ls hP hS hl
  obtain ⟨hx, hb, hml, hown, hts, hlk, hrt, hK⟩ := C
  obtain ⟨d, rfl⟩ := d
  refine va_sld hx hb hX (by omega) (fun q : G.1 ≤ b => by omega) hS (i := Int32.ofInt i) (by unfold vp_in; rw [i32_lt0, i32_nat]; unfold ix; omega) d ?_
  have q := k H locs ls hP hS hl
  rw [i32_nat]
  simp only [vi, Int32.ofInt_toInt] at q
  exact q
theorem zl_slen (C : Cx p s m args meth c G cc nL own rt) {b L : Nat} {xs : Nat → Int32} (hX : va_X b L xs s s.heap) (hb0 : b < G.1 ∧ G.1 = s.heap.size) (d : DC cc pc .arraylength 1 pc') (k : Z0 p l e R cl sl s m args below meth c G nL Q PP pc' lv (vi (L : Int) :: st)) : Z0 p l e R cl sl s m args below meth c G nL Q PP pc lv (.ref b :: st) := by
  intro H locs ls hP hS hl
  obtain ⟨hx, hb, hml, hown, hts, hlk, hrt, hK⟩ := C
  obtain ⟨d, rfl⟩ := d
  exact va_slen hx hb hX (by omega) (fun q : G.1 ≤ b => by omega) hS d (k H locs ls hP hS hl)
theorem zl_ret {b : Nat} (C : Cx p s m #[Value.ref b] meth c G code nL own ret) {r : Int × Mem} (hr1 : G.1 = s.heap.size ∧ r.1 = 1) (d : DC code pc .ireturn 1 pc') (h : (some (1, M) : Res) = some r) : Z0 p l e room_1 189 39158 s m #[Value.ref b] below meth c G nL (lw_Z below #[Value.ref b] s) PP pc lv [vi 1] := by
  intro H locs ls hP hS hl
  obtain ⟨hx, hb, hml, hown, hts, hlk, hrt, hK⟩ := C
  refine va_forget (fun q hq => by rw [← hr1.1]; exact hS.2.2 q hq) ?_
  refine W.widen (k := 600000) (n := 7302250) (by decide) (by decide) ?_
  exact lw_ret hx hb hrt hlk d.1
theorem zl_run {t : Nat} {v : Int} {M' : Mem} {a : Array Value} {rest stk : List Value} {H : Heap} {locs : List Loc} {ls : Array Slot} (hr : va_Run p l e R s m args below meth c H locs cl sl 0 0 (F0 m pc ls stk) rest (Qm G t (v, M') a) (Ab G)) (hS : va_S (Ab G) s.heap H locs) (hl : lv_has ls nL lv)
    (kk : Z0 p l e R cl sl s m args below meth c G nL Q (Pic G M') (pc + 3) lv ((rv t v).toList ++ rest)) : W p l e R s m args below meth c H locs cl sl Q (F0 m pc ls stk) := by
  intro T hT X
  obtain ⟨v1, st₀, t1, T', L, h0, X', hL, e1, e2, ⟨hv, hP1, hz, hk⟩, step⟩ := hr T hT X
  cases hv
  rw [h0] at hz hk
  obtain ⟨t2, a1, b1⟩ := kk T'.heap (locs ++ L) ls (by rw [e1]; exact hP1) ⟨Nat.le_trans hS.1 (by rw [e1]; exact hz), fun q h1 h2 => by rw [e1, hk q (Nat.lt_of_lt_of_le h1 hS.1) h2]; exact hS.2.1 q h1 h2, fun q hq => by
      rcases List.mem_append.mp hq with h | h
      · exact hS.2.2 q h
      · exact hL q h⟩ hl T' rfl X'
  exact ⟨t2, step t2 a1, b1⟩
theorem zl_callVv (C : Cx p s m args meth c G cc nL own rt) {idx n np lev' k ci nf : Nat} {y : MethodName} {b : ByteArray} {r : Option FieldType} {T : u_T} {As stk : List Value} {v : Int} {M' : Mem} (d : DC cc pc (.invokevirtual idx) 3 pc') (cw : CV own idx y b n r np) (hM : Mt l G y b n r lev' 0 (.ref (G.1 + k) :: As) M (v, M')) (hk : k < NC) (hc : ck k = (0, ci, nf)) (hcl : cls[ci]? = some (y.cls, T, nf)) (hlev : lev' ≤ 1000) (hnp : As.length = np) (hst : (st.map fun v => v.category).sum ≤ 8) (hstk : stk = As.reverse ++ .ref (G.1 + k) :: st)
    (kk : Z0 p l e room_1 189 39158 s m args below meth c G nL Q (Pic G M') pc' lv st) : Z0 p l e room_1 189 39158 s m args below meth c G nL Q (Pic G M) pc lv stk := by
  subst hstk
  intro H locs ls hP hS hl
  obtain ⟨hx, hb, hml, hown, hts, hlk, hrt, hK⟩ := C
  obtain ⟨d, rfl⟩ := d
  obtain ⟨w1, w2, w3, w4, w5, w6, w7⟩ := cw
  obtain ⟨cell, q1, q2, q3, q4⟩ := (hP k hk).obj hc
  have hfc : s.vm.findClass y.cls = some (G.2.1.1 ci) := (hK.1.1 ci _ hcl).2.1
  have hRR : (rmL lev').frames + 1 ≤ room_1.frames ∧ 8 + (n + 11) + (rmL lev').locals ≤ room_1.locals := by unfold rmL room_1; dsimp only; omega
  exact zl_run (va_runV (As := As) (rest := st) (C := y.cls) (b := G.1 + k) ⟨hx, hb, hml, hown, hts⟩ hM ⟨callB_of np hts (tb_in w4) rfl rfl rfl (hts _ w5) (hts _ w1) w7 hRR, hts _ w2, hts _ w3⟩ ⟨pm_blind, ⟨cell, q1, by rw [q3]; rfl, by rw [q2]; exact hfc⟩, pm_pre hK hP hS⟩ rfl hnp hl.1 rfl (lv_room hst) d ⟨by unfold room_1; decide, by unfold room_1; decide⟩) hS hl kk
theorem zl_callVi (C : Cx p s m args meth c G cc nL own rt) {idx n np lev' k ci nf : Nat} {y : MethodName} {b : ByteArray} {r : Option FieldType} {T : u_T} {As stk : List Value} {v : Int} {M' : Mem} (d : DC cc pc (.invokevirtual idx) 3 pc') (cw : CV own idx y b n r np) (hM : Mt l G y b n r lev' 1 (.ref (G.1 + k) :: As) M (v, M')) (hk : k < NC) (hc : ck k = (0, ci, nf)) (hcl : cls[ci]? = some (y.cls, T, nf)) (hlev : lev' ≤ 1000) (hnp : As.length = np) (hst : (st.map fun v => v.category).sum ≤ 8) (hstk : stk = As.reverse ++ .ref (G.1 + k) :: st)
    (kk : Z0 p l e room_1 189 39158 s m args below meth c G nL Q (Pic G M') pc' lv (vi v :: st)) : Z0 p l e room_1 189 39158 s m args below meth c G nL Q (Pic G M) pc lv stk := by
  subst hstk
  intro H locs ls hP hS hl
  obtain ⟨hx, hb, hml, hown, hts, hlk, hrt, hK⟩ := C
  obtain ⟨d, rfl⟩ := d
  obtain ⟨w1, w2, w3, w4, w5, w6, w7⟩ := cw
  obtain ⟨cell, q1, q2, q3, q4⟩ := (hP k hk).obj hc
  have hfc : s.vm.findClass y.cls = some (G.2.1.1 ci) := (hK.1.1 ci _ hcl).2.1
  have hRR : (rmL lev').frames + 1 ≤ room_1.frames ∧ 8 + (n + 11) + (rmL lev').locals ≤ room_1.locals := by unfold rmL room_1; dsimp only; omega
  exact zl_run (va_runV (As := As) (rest := st) (C := y.cls) (b := G.1 + k) ⟨hx, hb, hml, hown, hts⟩ hM ⟨callB_of np hts (tb_in w4) rfl rfl rfl (hts _ w5) (hts _ w1) w7 hRR, hts _ w2, hts _ w3⟩ ⟨pm_blind, ⟨cell, q1, by rw [q3]; rfl, by rw [q2]; exact hfc⟩, pm_pre hK hP hS⟩ rfl hnp hl.1 rfl (lv_room hst) d ⟨by unfold room_1; decide, by unfold room_1; decide⟩) hS hl kk
theorem zl_callVl (C : Cx p s m args meth c G cc nL own rt) {idx n np lev' k ci nf : Nat} {y : MethodName} {b : ByteArray} {r : Option FieldType} {T : u_T} {As stk : List Value} {v : Int} {M' : Mem} (d : DC cc pc (.invokevirtual idx) 3 pc') (cw : CV own idx y b n r np) (hM : Mt l G y b n r lev' 2 (.ref (G.1 + k) :: As) M (v, M')) (hk : k < NC) (hc : ck k = (0, ci, nf)) (hcl : cls[ci]? = some (y.cls, T, nf)) (hlev : lev' ≤ 1000) (hnp : As.length = np) (hst : (st.map fun v => v.category).sum ≤ 8) (hstk : stk = As.reverse ++ .ref (G.1 + k) :: st)
    (kk : Z0 p l e room_1 189 39158 s m args below meth c G nL Q (Pic G M') pc' lv (vl v :: st)) : Z0 p l e room_1 189 39158 s m args below meth c G nL Q (Pic G M) pc lv stk := by
  subst hstk
  intro H locs ls hP hS hl
  obtain ⟨hx, hb, hml, hown, hts, hlk, hrt, hK⟩ := C
  obtain ⟨d, rfl⟩ := d
  obtain ⟨w1, w2, w3, w4, w5, w6, w7⟩ := cw
  obtain ⟨cell, q1, q2, q3, q4⟩ := (hP k hk).obj hc
  have hfc : s.vm.findClass y.cls = some (G.2.1.1 ci) := (hK.1.1 ci _ hcl).2.1
  have hRR : (rmL lev').frames + 1 ≤ room_1.frames ∧ 8 + (n + 11) + (rmL lev').locals ≤ room_1.locals := by unfold rmL room_1; dsimp only; omega
  exact zl_run (va_runV (As := As) (rest := st) (C := y.cls) (b := G.1 + k) ⟨hx, hb, hml, hown, hts⟩ hM ⟨callB_of np hts (tb_in w4) rfl rfl rfl (hts _ w5) (hts _ w1) w7 hRR, hts _ w2, hts _ w3⟩ ⟨pm_blind, ⟨cell, q1, by rw [q3]; rfl, by rw [q2]; exact hfc⟩, pm_pre hK hP hS⟩ rfl hnp hl.1 rfl (lv_room hst) d ⟨by unfold room_1; decide, by unfold room_1; decide⟩) hS hl kk
end ZL
section
variable {p : Program} {l : Launch} {e : Env} {s : State} {m : MethodId} {below : List Frame} {meth : Method} {c : Code} {G : GX} {b : Nat}
def k_Lw_law_2054 (L : Nat) (sx : Nat → Int) (R18 : Int → Mem → Res) (a3 : Int) (M : Mem) : Res := blet (a3 + 8) fun v1 => R18 v1 M
theorem z_Lw_law_2054 (C : Cx p s m #[Value.ref b] meth c G b_Lw_law 4 "PrairiePoolLaw" ret) {L : Nat} {xs : Nat → Int32} (hX : va_X b L xs s s.heap) (hb0 : b < G.1 ∧ G.1 = s.heap.size) {r : Int × Mem} (hr1 : G.1 = s.heap.size ∧ r.1 = 1) {R18 : Int → Mem → Res} (hR18 : ∀ (a3 : Int) (M : Mem), R18 a3 M = some r → Z0 p l e room_1 189 39158 s m #[Value.ref b] below meth c G 4 (lw_Z below #[Value.ref b] s) (Pic G M) 18 [(0, .ref b), (1, .ref (G.1 + 0)), (2, .ref (G.1 + 111)), (3, vi a3)] []) {a3 : Int} {M : Mem} (h : k_Lw_law_2054 L (fun j => (xs j).toInt) R18 a3 M = some r) : Z0 p l e room_1 189 39158 s m #[Value.ref b] below meth c G 4 (lw_Z below #[Value.ref b] s) (Pic G M) 2054 [(0, .ref b), (1, .ref (G.1 + 0)), (2, .ref (G.1 + 111)), (3, vi a3)] [] := by
  unfold k_Lw_law_2054 at h
  obtain ⟨v1, ev1, h⟩ := blet_e h
  refine z_iinc (lv' := [(3, vi v1), (0, .ref b), (1, .ref (G.1 + 0)), (2, .ref (G.1 + 111))]) C 3 ev1 x_Lw_law_2054 rfl (i_lt rfl) rfl ?_
  refine z_goto (tgt := 18) C x_Lw_law_2057 rfl ?_
  exact z_sub [1, 2, 3, 0] rfl (hR18 v1 M h)
def k_Lw_law_1991 (L : Nat) (sx : Nat → Int) (R18 : Int → Mem → Res) (a3 : Int) (M : Mem) : Res := chk (0 ≤ w32 (a3 + 1) ∧ w32 (a3 + 1) < (L : Int)) <| blet (sx (ix (a3 + 1))) fun v2 => chk (0 ≤ w32 (a3 + 2) ∧ w32 (a3 + 2) < (L : Int)) <| blet (sx (ix (a3 + 2))) fun v4 => chk (0 ≤ w32 (a3 + 3) ∧ w32 (a3 + 3) < (L : Int)) <| blet (sx (ix (a3 + 3))) fun v6 => chk (0 ≤ w32 (a3 + 4) ∧ w32 (a3 + 4) < (L : Int)) <| blet (sx (ix (a3 + 4))) fun v8 => chk (0 ≤ w32 (a3 + 5) ∧ w32 (a3 + 5) < (L : Int)) <| blet (sx (ix (a3 + 5))) fun v10 => bcall (d_PP_send v2 v4 v6 v8 v10 M) fun v11 M12 => chk (0 ≤ w32 (a3 + 1) ∧ w32 (a3 + 1) < (L : Int)) <| blet (sx (ix (a3 + 1))) fun v14 => chk (0 ≤ w32 (a3 + 2) ∧ w32 (a3 + 2) < (L : Int)) <| blet (sx (ix (a3 + 2))) fun v16 => chk (0 ≤ w32 (a3 + 3) ∧ w32 (a3 + 3) < (L : Int)) <| blet (sx (ix (a3 + 3))) fun v18 => chk (0 ≤ w32 (a3 + 4) ∧ w32 (a3 + 4) < (L : Int)) <| blet (sx (ix (a3 + 4))) fun v20 => chk (0 ≤ w32 (a3 + 5) ∧ w32 (a3 + 5) < (L : Int)) <| blet (sx (ix (a3 + 5))) fun v22 => bcall (d_Mo_send v14 v16 v18 v20 v22 M12) fun v23 M24 => if w32 v11 = w32 v23 then (k_Lw_law_2054 L sx R18 a3 M24) else (some (0, M24))
theorem z_Lw_law_1991 (C : Cx p s m #[Value.ref b] meth c G b_Lw_law 4 "PrairiePoolLaw" ret) {L : Nat} {xs : Nat → Int32} (hX : va_X b L xs s s.heap) (hb0 : b < G.1 ∧ G.1 = s.heap.size) {r : Int × Mem} (hr1 : G.1 = s.heap.size ∧ r.1 = 1) {R18 : Int → Mem → Res} (hR18 : ∀ (a3 : Int) (M : Mem), R18 a3 M = some r → Z0 p l e room_1 189 39158 s m #[Value.ref b] below meth c G 4 (lw_Z below #[Value.ref b] s) (Pic G M) 18 [(0, .ref b), (1, .ref (G.1 + 0)), (2, .ref (G.1 + 111)), (3, vi a3)] []) {a3 : Int} {M : Mem} (h : k_Lw_law_1991 L (fun j => (xs j).toInt) R18 a3 M = some r) : Z0 p l e room_1 189 39158 s m #[Value.ref b] below meth c G 4 (lw_Z below #[Value.ref b] s) (Pic G M) 1991 [(0, .ref b), (1, .ref (G.1 + 0)), (2, .ref (G.1 + 111)), (3, vi a3)] [] := by
  unfold k_Lw_law_1991 at h
  refine z_aload_n C 1 x_Lw_law_1991 rfl ?_
  refine z_aload_n C 0 x_Lw_law_1992 rfl ?_
  refine z_iload_n C 3 x_Lw_law_1993 rfl ?_
  refine z_iconst C x_Lw_law_1994 ?_
  refine z_iadd C x_Lw_law_1995 ?_
  obtain ⟨c1, h⟩ := chk_e h
  obtain ⟨v2, ev2, h⟩ := blet_e h
  refine zl_sld C hX hb0 x_Lw_law_1996 c1 ev2 ?_
  refine z_aload_n C 0 x_Lw_law_1997 rfl ?_
  refine z_iload_n C 3 x_Lw_law_1998 rfl ?_
  refine z_iconst C x_Lw_law_1999 ?_
  refine z_iadd C x_Lw_law_2000 ?_
  obtain ⟨c3, h⟩ := chk_e h
  obtain ⟨v4, ev4, h⟩ := blet_e h
  refine zl_sld C hX hb0 x_Lw_law_2001 c3 ev4 ?_
  refine z_aload_n C 0 x_Lw_law_2002 rfl ?_
  refine z_iload_n C 3 x_Lw_law_2003 rfl ?_
  refine z_iconst C x_Lw_law_2004 ?_
  refine z_iadd C x_Lw_law_2005 ?_
  obtain ⟨c5, h⟩ := chk_e h
  obtain ⟨v6, ev6, h⟩ := blet_e h
  refine zl_sld C hX hb0 x_Lw_law_2006 c5 ev6 ?_
  refine z_aload_n C 0 x_Lw_law_2007 rfl ?_
  refine z_iload_n C 3 x_Lw_law_2008 rfl ?_
  refine z_iconst C x_Lw_law_2009 ?_
  refine z_iadd C x_Lw_law_2010 ?_
  obtain ⟨c7, h⟩ := chk_e h
  obtain ⟨v8, ev8, h⟩ := blet_e h
  refine zl_sld C hX hb0 x_Lw_law_2011 c7 ev8 ?_
  refine z_aload_n C 0 x_Lw_law_2012 rfl ?_
  refine z_iload_n C 3 x_Lw_law_2013 rfl ?_
  refine z_iconst C x_Lw_law_2014 ?_
  refine z_iadd C x_Lw_law_2015 ?_
  obtain ⟨c9, h⟩ := chk_e h
  obtain ⟨v10, ev10, h⟩ := blet_e h
  refine zl_sld C hX hb0 x_Lw_law_2016 c9 ev10 ?_
  obtain ⟨v11, M12, fv11, h⟩ := bcall_e h
  refine zl_callVi (k := 0) C x_Lw_law_2017 cv_Lw_188 (t_PP_send (lev := 500) l G (by decide) fv11) nk_0 ck_0 rfl (by decide) rfl (i_le rfl) rfl ?_
  refine z_aload_n C 2 x_Lw_law_2020 rfl ?_
  refine z_aload_n C 0 x_Lw_law_2021 rfl ?_
  refine z_iload_n C 3 x_Lw_law_2022 rfl ?_
  refine z_iconst C x_Lw_law_2023 ?_
  refine z_iadd C x_Lw_law_2024 ?_
  obtain ⟨c13, h⟩ := chk_e h
  obtain ⟨v14, ev14, h⟩ := blet_e h
  refine zl_sld C hX hb0 x_Lw_law_2025 c13 ev14 ?_
  refine z_aload_n C 0 x_Lw_law_2026 rfl ?_
  refine z_iload_n C 3 x_Lw_law_2027 rfl ?_
  refine z_iconst C x_Lw_law_2028 ?_
  refine z_iadd C x_Lw_law_2029 ?_
  obtain ⟨c15, h⟩ := chk_e h
  obtain ⟨v16, ev16, h⟩ := blet_e h
  refine zl_sld C hX hb0 x_Lw_law_2030 c15 ev16 ?_
  refine z_aload_n C 0 x_Lw_law_2031 rfl ?_
  refine z_iload_n C 3 x_Lw_law_2032 rfl ?_
  refine z_iconst C x_Lw_law_2033 ?_
  refine z_iadd C x_Lw_law_2034 ?_
  obtain ⟨c17, h⟩ := chk_e h
  obtain ⟨v18, ev18, h⟩ := blet_e h
  refine zl_sld C hX hb0 x_Lw_law_2035 c17 ev18 ?_
  refine z_aload_n C 0 x_Lw_law_2036 rfl ?_
  refine z_iload_n C 3 x_Lw_law_2037 rfl ?_
  refine z_iconst C x_Lw_law_2038 ?_
  refine z_iadd C x_Lw_law_2039 ?_
  obtain ⟨c19, h⟩ := chk_e h
  obtain ⟨v20, ev20, h⟩ := blet_e h
  refine zl_sld C hX hb0 x_Lw_law_2040 c19 ev20 ?_
  refine z_aload_n C 0 x_Lw_law_2041 rfl ?_
  refine z_iload_n C 3 x_Lw_law_2042 rfl ?_
  refine z_iconst C x_Lw_law_2043 ?_
  refine z_iadd C x_Lw_law_2044 ?_
  obtain ⟨c21, h⟩ := chk_e h
  obtain ⟨v22, ev22, h⟩ := blet_e h
  refine zl_sld C hX hb0 x_Lw_law_2045 c21 ev22 ?_
  obtain ⟨v23, M24, fv23, h⟩ := bcall_e h
  refine zl_callVi (k := 111) C x_Lw_law_2046 cv_Lw_191 (t_Mo_send (lev := 500) l G (by decide) fv23) nk_111 ck_111 rfl (by decide) rfl (i_le rfl) rfl ?_
  rcases ite_e h with ⟨c25, h⟩ | ⟨c25, h⟩
  · refine z_icmp_eq_t (tgt := 2054) C x_Lw_law_2049 rfl c25 ?_
    exact z_sub [0, 1, 2, 3] rfl (z_Lw_law_2054 C hX hb0 hr1 hR18 h)
  · refine z_icmp_eq_f (tgt := 2054) C x_Lw_law_2049 rfl c25 ?_
    refine z_iconst C x_Lw_law_2052 ?_
    exact absurd hr1.2 (by cases h; show ¬ ((0 : Int) = 1); decide)
def k_Lw_law_1968 (L : Nat) (sx : Nat → Int) (R18 : Int → Mem → Res) (a3 : Int) (M : Mem) : Res := chk (0 ≤ w32 (a3 + 1) ∧ w32 (a3 + 1) < (L : Int)) <| blet (sx (ix (a3 + 1))) fun v2 => bcall (d_PP_turned v2 M) fun v3 M4 => chk (0 ≤ w32 (a3 + 1) ∧ w32 (a3 + 1) < (L : Int)) <| blet (sx (ix (a3 + 1))) fun v6 => bcall (d_Mo_turned v6 M4) fun v7 M8 => if w32 v3 = w32 v7 then (k_Lw_law_2054 L sx R18 a3 M8) else (some (0, M8))
theorem z_Lw_law_1968 (C : Cx p s m #[Value.ref b] meth c G b_Lw_law 4 "PrairiePoolLaw" ret) {L : Nat} {xs : Nat → Int32} (hX : va_X b L xs s s.heap) (hb0 : b < G.1 ∧ G.1 = s.heap.size) {r : Int × Mem} (hr1 : G.1 = s.heap.size ∧ r.1 = 1) {R18 : Int → Mem → Res} (hR18 : ∀ (a3 : Int) (M : Mem), R18 a3 M = some r → Z0 p l e room_1 189 39158 s m #[Value.ref b] below meth c G 4 (lw_Z below #[Value.ref b] s) (Pic G M) 18 [(0, .ref b), (1, .ref (G.1 + 0)), (2, .ref (G.1 + 111)), (3, vi a3)] []) {a3 : Int} {M : Mem} (h : k_Lw_law_1968 L (fun j => (xs j).toInt) R18 a3 M = some r) : Z0 p l e room_1 189 39158 s m #[Value.ref b] below meth c G 4 (lw_Z below #[Value.ref b] s) (Pic G M) 1968 [(0, .ref b), (1, .ref (G.1 + 0)), (2, .ref (G.1 + 111)), (3, vi a3)] [] := by
  unfold k_Lw_law_1968 at h
  refine z_aload_n C 1 x_Lw_law_1968 rfl ?_
  refine z_aload_n C 0 x_Lw_law_1969 rfl ?_
  refine z_iload_n C 3 x_Lw_law_1970 rfl ?_
  refine z_iconst C x_Lw_law_1971 ?_
  refine z_iadd C x_Lw_law_1972 ?_
  obtain ⟨c1, h⟩ := chk_e h
  obtain ⟨v2, ev2, h⟩ := blet_e h
  refine zl_sld C hX hb0 x_Lw_law_1973 c1 ev2 ?_
  obtain ⟨v3, M4, fv3, h⟩ := bcall_e h
  refine zl_callVi (k := 0) C x_Lw_law_1974 cv_Lw_184 (t_PP_turned (lev := 500) l G (by decide) fv3) nk_0 ck_0 rfl (by decide) rfl (i_le rfl) rfl ?_
  refine z_aload_n C 2 x_Lw_law_1977 rfl ?_
  refine z_aload_n C 0 x_Lw_law_1978 rfl ?_
  refine z_iload_n C 3 x_Lw_law_1979 rfl ?_
  refine z_iconst C x_Lw_law_1980 ?_
  refine z_iadd C x_Lw_law_1981 ?_
  obtain ⟨c5, h⟩ := chk_e h
  obtain ⟨v6, ev6, h⟩ := blet_e h
  refine zl_sld C hX hb0 x_Lw_law_1982 c5 ev6 ?_
  obtain ⟨v7, M8, fv7, h⟩ := bcall_e h
  refine zl_callVi (k := 111) C x_Lw_law_1983 cv_Lw_187 (t_Mo_turned (lev := 500) l G (by decide) fv7) nk_111 ck_111 rfl (by decide) rfl (i_le rfl) rfl ?_
  rcases ite_e h with ⟨c9, h⟩ | ⟨c9, h⟩
  · refine z_icmp_eq_t (tgt := 2054) C x_Lw_law_1986 rfl c9 ?_
    exact z_sub [0, 1, 2, 3] rfl (z_Lw_law_2054 C hX hb0 hr1 hR18 h)
  · refine z_icmp_eq_f (tgt := 2054) C x_Lw_law_1986 rfl c9 ?_
    refine z_iconst C x_Lw_law_1989 ?_
    exact absurd hr1.2 (by cases h; show ¬ ((0 : Int) = 1); decide)
def k_Lw_law_1925 (L : Nat) (sx : Nat → Int) (R18 : Int → Mem → Res) (a3 : Int) (M : Mem) : Res := chk (0 ≤ w32 (a3 + 1) ∧ w32 (a3 + 1) < (L : Int)) <| blet (sx (ix (a3 + 1))) fun v2 => chk (0 ≤ w32 (a3 + 2) ∧ w32 (a3 + 2) < (L : Int)) <| blet (sx (ix (a3 + 2))) fun v4 => chk (0 ≤ w32 (a3 + 3) ∧ w32 (a3 + 3) < (L : Int)) <| blet (sx (ix (a3 + 3))) fun v6 => bcall (d_PP_warm v2 v4 v6 M) fun v7 M8 => chk (0 ≤ w32 (a3 + 1) ∧ w32 (a3 + 1) < (L : Int)) <| blet (sx (ix (a3 + 1))) fun v10 => chk (0 ≤ w32 (a3 + 2) ∧ w32 (a3 + 2) < (L : Int)) <| blet (sx (ix (a3 + 2))) fun v12 => chk (0 ≤ w32 (a3 + 3) ∧ w32 (a3 + 3) < (L : Int)) <| blet (sx (ix (a3 + 3))) fun v14 => bcall (d_Mo_warm v10 v12 v14 M8) fun v15 M16 => if w32 v7 = w32 v15 then (k_Lw_law_2054 L sx R18 a3 M16) else (some (0, M16))
theorem z_Lw_law_1925 (C : Cx p s m #[Value.ref b] meth c G b_Lw_law 4 "PrairiePoolLaw" ret) {L : Nat} {xs : Nat → Int32} (hX : va_X b L xs s s.heap) (hb0 : b < G.1 ∧ G.1 = s.heap.size) {r : Int × Mem} (hr1 : G.1 = s.heap.size ∧ r.1 = 1) {R18 : Int → Mem → Res} (hR18 : ∀ (a3 : Int) (M : Mem), R18 a3 M = some r → Z0 p l e room_1 189 39158 s m #[Value.ref b] below meth c G 4 (lw_Z below #[Value.ref b] s) (Pic G M) 18 [(0, .ref b), (1, .ref (G.1 + 0)), (2, .ref (G.1 + 111)), (3, vi a3)] []) {a3 : Int} {M : Mem} (h : k_Lw_law_1925 L (fun j => (xs j).toInt) R18 a3 M = some r) : Z0 p l e room_1 189 39158 s m #[Value.ref b] below meth c G 4 (lw_Z below #[Value.ref b] s) (Pic G M) 1925 [(0, .ref b), (1, .ref (G.1 + 0)), (2, .ref (G.1 + 111)), (3, vi a3)] [] := by
  unfold k_Lw_law_1925 at h
  refine z_aload_n C 1 x_Lw_law_1925 rfl ?_
  refine z_aload_n C 0 x_Lw_law_1926 rfl ?_
  refine z_iload_n C 3 x_Lw_law_1927 rfl ?_
  refine z_iconst C x_Lw_law_1928 ?_
  refine z_iadd C x_Lw_law_1929 ?_
  obtain ⟨c1, h⟩ := chk_e h
  obtain ⟨v2, ev2, h⟩ := blet_e h
  refine zl_sld C hX hb0 x_Lw_law_1930 c1 ev2 ?_
  refine z_aload_n C 0 x_Lw_law_1931 rfl ?_
  refine z_iload_n C 3 x_Lw_law_1932 rfl ?_
  refine z_iconst C x_Lw_law_1933 ?_
  refine z_iadd C x_Lw_law_1934 ?_
  obtain ⟨c3, h⟩ := chk_e h
  obtain ⟨v4, ev4, h⟩ := blet_e h
  refine zl_sld C hX hb0 x_Lw_law_1935 c3 ev4 ?_
  refine z_aload_n C 0 x_Lw_law_1936 rfl ?_
  refine z_iload_n C 3 x_Lw_law_1937 rfl ?_
  refine z_iconst C x_Lw_law_1938 ?_
  refine z_iadd C x_Lw_law_1939 ?_
  obtain ⟨c5, h⟩ := chk_e h
  obtain ⟨v6, ev6, h⟩ := blet_e h
  refine zl_sld C hX hb0 x_Lw_law_1940 c5 ev6 ?_
  obtain ⟨v7, M8, fv7, h⟩ := bcall_e h
  refine zl_callVi (k := 0) C x_Lw_law_1941 cv_Lw_180 (t_PP_warm (lev := 500) l G (by decide) fv7) nk_0 ck_0 rfl (by decide) rfl (i_le rfl) rfl ?_
  refine z_aload_n C 2 x_Lw_law_1944 rfl ?_
  refine z_aload_n C 0 x_Lw_law_1945 rfl ?_
  refine z_iload_n C 3 x_Lw_law_1946 rfl ?_
  refine z_iconst C x_Lw_law_1947 ?_
  refine z_iadd C x_Lw_law_1948 ?_
  obtain ⟨c9, h⟩ := chk_e h
  obtain ⟨v10, ev10, h⟩ := blet_e h
  refine zl_sld C hX hb0 x_Lw_law_1949 c9 ev10 ?_
  refine z_aload_n C 0 x_Lw_law_1950 rfl ?_
  refine z_iload_n C 3 x_Lw_law_1951 rfl ?_
  refine z_iconst C x_Lw_law_1952 ?_
  refine z_iadd C x_Lw_law_1953 ?_
  obtain ⟨c11, h⟩ := chk_e h
  obtain ⟨v12, ev12, h⟩ := blet_e h
  refine zl_sld C hX hb0 x_Lw_law_1954 c11 ev12 ?_
  refine z_aload_n C 0 x_Lw_law_1955 rfl ?_
  refine z_iload_n C 3 x_Lw_law_1956 rfl ?_
  refine z_iconst C x_Lw_law_1957 ?_
  refine z_iadd C x_Lw_law_1958 ?_
  obtain ⟨c13, h⟩ := chk_e h
  obtain ⟨v14, ev14, h⟩ := blet_e h
  refine zl_sld C hX hb0 x_Lw_law_1959 c13 ev14 ?_
  obtain ⟨v15, M16, fv15, h⟩ := bcall_e h
  refine zl_callVi (k := 111) C x_Lw_law_1960 cv_Lw_183 (t_Mo_warm (lev := 500) l G (by decide) fv15) nk_111 ck_111 rfl (by decide) rfl (i_le rfl) rfl ?_
  rcases ite_e h with ⟨c17, h⟩ | ⟨c17, h⟩
  · refine z_icmp_eq_t (tgt := 2054) C x_Lw_law_1963 rfl c17 ?_
    exact z_sub [0, 1, 2, 3] rfl (z_Lw_law_2054 C hX hb0 hr1 hR18 h)
  · refine z_icmp_eq_f (tgt := 2054) C x_Lw_law_1963 rfl c17 ?_
    refine z_iconst C x_Lw_law_1966 ?_
    exact absurd hr1.2 (by cases h; show ¬ ((0 : Int) = 1); decide)
def k_Lw_law_1902 (L : Nat) (sx : Nat → Int) (R18 : Int → Mem → Res) (a3 : Int) (M : Mem) : Res := chk (0 ≤ w32 (a3 + 1) ∧ w32 (a3 + 1) < (L : Int)) <| blet (sx (ix (a3 + 1))) fun v2 => bcall (d_PP_hangs v2 M) fun v3 M4 => chk (0 ≤ w32 (a3 + 1) ∧ w32 (a3 + 1) < (L : Int)) <| blet (sx (ix (a3 + 1))) fun v6 => bcall (d_Mo_hangs v6 M4) fun v7 M8 => if w32 v3 = w32 v7 then (k_Lw_law_2054 L sx R18 a3 M8) else (some (0, M8))
theorem z_Lw_law_1902 (C : Cx p s m #[Value.ref b] meth c G b_Lw_law 4 "PrairiePoolLaw" ret) {L : Nat} {xs : Nat → Int32} (hX : va_X b L xs s s.heap) (hb0 : b < G.1 ∧ G.1 = s.heap.size) {r : Int × Mem} (hr1 : G.1 = s.heap.size ∧ r.1 = 1) {R18 : Int → Mem → Res} (hR18 : ∀ (a3 : Int) (M : Mem), R18 a3 M = some r → Z0 p l e room_1 189 39158 s m #[Value.ref b] below meth c G 4 (lw_Z below #[Value.ref b] s) (Pic G M) 18 [(0, .ref b), (1, .ref (G.1 + 0)), (2, .ref (G.1 + 111)), (3, vi a3)] []) {a3 : Int} {M : Mem} (h : k_Lw_law_1902 L (fun j => (xs j).toInt) R18 a3 M = some r) : Z0 p l e room_1 189 39158 s m #[Value.ref b] below meth c G 4 (lw_Z below #[Value.ref b] s) (Pic G M) 1902 [(0, .ref b), (1, .ref (G.1 + 0)), (2, .ref (G.1 + 111)), (3, vi a3)] [] := by
  unfold k_Lw_law_1902 at h
  refine z_aload_n C 1 x_Lw_law_1902 rfl ?_
  refine z_aload_n C 0 x_Lw_law_1903 rfl ?_
  refine z_iload_n C 3 x_Lw_law_1904 rfl ?_
  refine z_iconst C x_Lw_law_1905 ?_
  refine z_iadd C x_Lw_law_1906 ?_
  obtain ⟨c1, h⟩ := chk_e h
  obtain ⟨v2, ev2, h⟩ := blet_e h
  refine zl_sld C hX hb0 x_Lw_law_1907 c1 ev2 ?_
  obtain ⟨v3, M4, fv3, h⟩ := bcall_e h
  refine zl_callVi (k := 0) C x_Lw_law_1908 cv_Lw_176 (t_PP_hangs (lev := 500) l G (by decide) fv3) nk_0 ck_0 rfl (by decide) rfl (i_le rfl) rfl ?_
  refine z_aload_n C 2 x_Lw_law_1911 rfl ?_
  refine z_aload_n C 0 x_Lw_law_1912 rfl ?_
  refine z_iload_n C 3 x_Lw_law_1913 rfl ?_
  refine z_iconst C x_Lw_law_1914 ?_
  refine z_iadd C x_Lw_law_1915 ?_
  obtain ⟨c5, h⟩ := chk_e h
  obtain ⟨v6, ev6, h⟩ := blet_e h
  refine zl_sld C hX hb0 x_Lw_law_1916 c5 ev6 ?_
  obtain ⟨v7, M8, fv7, h⟩ := bcall_e h
  refine zl_callVi (k := 111) C x_Lw_law_1917 cv_Lw_179 (t_Mo_hangs (lev := 500) l G (by decide) fv7) nk_111 ck_111 rfl (by decide) rfl (i_le rfl) rfl ?_
  rcases ite_e h with ⟨c9, h⟩ | ⟨c9, h⟩
  · refine z_icmp_eq_t (tgt := 2054) C x_Lw_law_1920 rfl c9 ?_
    exact z_sub [0, 1, 2, 3] rfl (z_Lw_law_2054 C hX hb0 hr1 hR18 h)
  · refine z_icmp_eq_f (tgt := 2054) C x_Lw_law_1920 rfl c9 ?_
    refine z_iconst C x_Lw_law_1923 ?_
    exact absurd hr1.2 (by cases h; show ¬ ((0 : Int) = 1); decide)
def k_Lw_law_1869 (L : Nat) (sx : Nat → Int) (R18 : Int → Mem → Res) (a3 : Int) (M : Mem) : Res := chk (0 ≤ w32 (a3 + 1) ∧ w32 (a3 + 1) < (L : Int)) <| blet (sx (ix (a3 + 1))) fun v2 => chk (0 ≤ w32 (a3 + 2) ∧ w32 (a3 + 2) < (L : Int)) <| blet (sx (ix (a3 + 2))) fun v4 => bcall (d_PP_result v2 v4 M) fun v5 M6 => chk (0 ≤ w32 (a3 + 1) ∧ w32 (a3 + 1) < (L : Int)) <| blet (sx (ix (a3 + 1))) fun v8 => chk (0 ≤ w32 (a3 + 2) ∧ w32 (a3 + 2) < (L : Int)) <| blet (sx (ix (a3 + 2))) fun v10 => bcall (d_Mo_result v8 v10 M6) fun v11 M12 => if w32 v5 = w32 v11 then (k_Lw_law_2054 L sx R18 a3 M12) else (some (0, M12))
theorem z_Lw_law_1869 (C : Cx p s m #[Value.ref b] meth c G b_Lw_law 4 "PrairiePoolLaw" ret) {L : Nat} {xs : Nat → Int32} (hX : va_X b L xs s s.heap) (hb0 : b < G.1 ∧ G.1 = s.heap.size) {r : Int × Mem} (hr1 : G.1 = s.heap.size ∧ r.1 = 1) {R18 : Int → Mem → Res} (hR18 : ∀ (a3 : Int) (M : Mem), R18 a3 M = some r → Z0 p l e room_1 189 39158 s m #[Value.ref b] below meth c G 4 (lw_Z below #[Value.ref b] s) (Pic G M) 18 [(0, .ref b), (1, .ref (G.1 + 0)), (2, .ref (G.1 + 111)), (3, vi a3)] []) {a3 : Int} {M : Mem} (h : k_Lw_law_1869 L (fun j => (xs j).toInt) R18 a3 M = some r) : Z0 p l e room_1 189 39158 s m #[Value.ref b] below meth c G 4 (lw_Z below #[Value.ref b] s) (Pic G M) 1869 [(0, .ref b), (1, .ref (G.1 + 0)), (2, .ref (G.1 + 111)), (3, vi a3)] [] := by
  unfold k_Lw_law_1869 at h
  refine z_aload_n C 1 x_Lw_law_1869 rfl ?_
  refine z_aload_n C 0 x_Lw_law_1870 rfl ?_
  refine z_iload_n C 3 x_Lw_law_1871 rfl ?_
  refine z_iconst C x_Lw_law_1872 ?_
  refine z_iadd C x_Lw_law_1873 ?_
  obtain ⟨c1, h⟩ := chk_e h
  obtain ⟨v2, ev2, h⟩ := blet_e h
  refine zl_sld C hX hb0 x_Lw_law_1874 c1 ev2 ?_
  refine z_aload_n C 0 x_Lw_law_1875 rfl ?_
  refine z_iload_n C 3 x_Lw_law_1876 rfl ?_
  refine z_iconst C x_Lw_law_1877 ?_
  refine z_iadd C x_Lw_law_1878 ?_
  obtain ⟨c3, h⟩ := chk_e h
  obtain ⟨v4, ev4, h⟩ := blet_e h
  refine zl_sld C hX hb0 x_Lw_law_1879 c3 ev4 ?_
  obtain ⟨v5, M6, fv5, h⟩ := bcall_e h
  refine zl_callVi (k := 0) C x_Lw_law_1880 cv_Lw_172 (t_PP_result (lev := 500) l G (by decide) fv5) nk_0 ck_0 rfl (by decide) rfl (i_le rfl) rfl ?_
  refine z_aload_n C 2 x_Lw_law_1883 rfl ?_
  refine z_aload_n C 0 x_Lw_law_1884 rfl ?_
  refine z_iload_n C 3 x_Lw_law_1885 rfl ?_
  refine z_iconst C x_Lw_law_1886 ?_
  refine z_iadd C x_Lw_law_1887 ?_
  obtain ⟨c7, h⟩ := chk_e h
  obtain ⟨v8, ev8, h⟩ := blet_e h
  refine zl_sld C hX hb0 x_Lw_law_1888 c7 ev8 ?_
  refine z_aload_n C 0 x_Lw_law_1889 rfl ?_
  refine z_iload_n C 3 x_Lw_law_1890 rfl ?_
  refine z_iconst C x_Lw_law_1891 ?_
  refine z_iadd C x_Lw_law_1892 ?_
  obtain ⟨c9, h⟩ := chk_e h
  obtain ⟨v10, ev10, h⟩ := blet_e h
  refine zl_sld C hX hb0 x_Lw_law_1893 c9 ev10 ?_
  obtain ⟨v11, M12, fv11, h⟩ := bcall_e h
  refine zl_callVi (k := 111) C x_Lw_law_1894 cv_Lw_175 (t_Mo_result (lev := 500) l G (by decide) fv11) nk_111 ck_111 rfl (by decide) rfl (i_le rfl) rfl ?_
  rcases ite_e h with ⟨c13, h⟩ | ⟨c13, h⟩
  · refine z_icmp_eq_t (tgt := 2054) C x_Lw_law_1897 rfl c13 ?_
    exact z_sub [0, 1, 2, 3] rfl (z_Lw_law_2054 C hX hb0 hr1 hR18 h)
  · refine z_icmp_eq_f (tgt := 2054) C x_Lw_law_1897 rfl c13 ?_
    refine z_iconst C x_Lw_law_1900 ?_
    exact absurd hr1.2 (by cases h; show ¬ ((0 : Int) = 1); decide)
def k_Lw_law_1836 (L : Nat) (sx : Nat → Int) (R18 : Int → Mem → Res) (a3 : Int) (M : Mem) : Res := chk (0 ≤ w32 (a3 + 1) ∧ w32 (a3 + 1) < (L : Int)) <| blet (sx (ix (a3 + 1))) fun v2 => chk (0 ≤ w32 (a3 + 2) ∧ w32 (a3 + 2) < (L : Int)) <| blet (sx (ix (a3 + 2))) fun v4 => bcall (d_PP_vote v2 v4 M) fun v5 M6 => chk (0 ≤ w32 (a3 + 1) ∧ w32 (a3 + 1) < (L : Int)) <| blet (sx (ix (a3 + 1))) fun v8 => chk (0 ≤ w32 (a3 + 2) ∧ w32 (a3 + 2) < (L : Int)) <| blet (sx (ix (a3 + 2))) fun v10 => bcall (d_Mo_vote v8 v10 M6) fun v11 M12 => if w32 v5 = w32 v11 then (k_Lw_law_2054 L sx R18 a3 M12) else (some (0, M12))
theorem z_Lw_law_1836 (C : Cx p s m #[Value.ref b] meth c G b_Lw_law 4 "PrairiePoolLaw" ret) {L : Nat} {xs : Nat → Int32} (hX : va_X b L xs s s.heap) (hb0 : b < G.1 ∧ G.1 = s.heap.size) {r : Int × Mem} (hr1 : G.1 = s.heap.size ∧ r.1 = 1) {R18 : Int → Mem → Res} (hR18 : ∀ (a3 : Int) (M : Mem), R18 a3 M = some r → Z0 p l e room_1 189 39158 s m #[Value.ref b] below meth c G 4 (lw_Z below #[Value.ref b] s) (Pic G M) 18 [(0, .ref b), (1, .ref (G.1 + 0)), (2, .ref (G.1 + 111)), (3, vi a3)] []) {a3 : Int} {M : Mem} (h : k_Lw_law_1836 L (fun j => (xs j).toInt) R18 a3 M = some r) : Z0 p l e room_1 189 39158 s m #[Value.ref b] below meth c G 4 (lw_Z below #[Value.ref b] s) (Pic G M) 1836 [(0, .ref b), (1, .ref (G.1 + 0)), (2, .ref (G.1 + 111)), (3, vi a3)] [] := by
  unfold k_Lw_law_1836 at h
  refine z_aload_n C 1 x_Lw_law_1836 rfl ?_
  refine z_aload_n C 0 x_Lw_law_1837 rfl ?_
  refine z_iload_n C 3 x_Lw_law_1838 rfl ?_
  refine z_iconst C x_Lw_law_1839 ?_
  refine z_iadd C x_Lw_law_1840 ?_
  obtain ⟨c1, h⟩ := chk_e h
  obtain ⟨v2, ev2, h⟩ := blet_e h
  refine zl_sld C hX hb0 x_Lw_law_1841 c1 ev2 ?_
  refine z_aload_n C 0 x_Lw_law_1842 rfl ?_
  refine z_iload_n C 3 x_Lw_law_1843 rfl ?_
  refine z_iconst C x_Lw_law_1844 ?_
  refine z_iadd C x_Lw_law_1845 ?_
  obtain ⟨c3, h⟩ := chk_e h
  obtain ⟨v4, ev4, h⟩ := blet_e h
  refine zl_sld C hX hb0 x_Lw_law_1846 c3 ev4 ?_
  obtain ⟨v5, M6, fv5, h⟩ := bcall_e h
  refine zl_callVi (k := 0) C x_Lw_law_1847 cv_Lw_168 (t_PP_vote (lev := 500) l G (by decide) fv5) nk_0 ck_0 rfl (by decide) rfl (i_le rfl) rfl ?_
  refine z_aload_n C 2 x_Lw_law_1850 rfl ?_
  refine z_aload_n C 0 x_Lw_law_1851 rfl ?_
  refine z_iload_n C 3 x_Lw_law_1852 rfl ?_
  refine z_iconst C x_Lw_law_1853 ?_
  refine z_iadd C x_Lw_law_1854 ?_
  obtain ⟨c7, h⟩ := chk_e h
  obtain ⟨v8, ev8, h⟩ := blet_e h
  refine zl_sld C hX hb0 x_Lw_law_1855 c7 ev8 ?_
  refine z_aload_n C 0 x_Lw_law_1856 rfl ?_
  refine z_iload_n C 3 x_Lw_law_1857 rfl ?_
  refine z_iconst C x_Lw_law_1858 ?_
  refine z_iadd C x_Lw_law_1859 ?_
  obtain ⟨c9, h⟩ := chk_e h
  obtain ⟨v10, ev10, h⟩ := blet_e h
  refine zl_sld C hX hb0 x_Lw_law_1860 c9 ev10 ?_
  obtain ⟨v11, M12, fv11, h⟩ := bcall_e h
  refine zl_callVi (k := 111) C x_Lw_law_1861 cv_Lw_171 (t_Mo_vote (lev := 500) l G (by decide) fv11) nk_111 ck_111 rfl (by decide) rfl (i_le rfl) rfl ?_
  rcases ite_e h with ⟨c13, h⟩ | ⟨c13, h⟩
  · refine z_icmp_eq_t (tgt := 2054) C x_Lw_law_1864 rfl c13 ?_
    exact z_sub [0, 1, 2, 3] rfl (z_Lw_law_2054 C hX hb0 hr1 hR18 h)
  · refine z_icmp_eq_f (tgt := 2054) C x_Lw_law_1864 rfl c13 ?_
    refine z_iconst C x_Lw_law_1867 ?_
    exact absurd hr1.2 (by cases h; show ¬ ((0 : Int) = 1); decide)
def k_Lw_law_1803 (L : Nat) (sx : Nat → Int) (R18 : Int → Mem → Res) (a3 : Int) (M : Mem) : Res := chk (0 ≤ w32 (a3 + 1) ∧ w32 (a3 + 1) < (L : Int)) <| blet (sx (ix (a3 + 1))) fun v2 => chk (0 ≤ w32 (a3 + 2) ∧ w32 (a3 + 2) < (L : Int)) <| blet (sx (ix (a3 + 2))) fun v4 => bcall (d_PP_more v2 v4 M) fun v5 M6 => chk (0 ≤ w32 (a3 + 1) ∧ w32 (a3 + 1) < (L : Int)) <| blet (sx (ix (a3 + 1))) fun v8 => chk (0 ≤ w32 (a3 + 2) ∧ w32 (a3 + 2) < (L : Int)) <| blet (sx (ix (a3 + 2))) fun v10 => bcall (d_Mo_more v8 v10 M6) fun v11 M12 => if w32 v5 = w32 v11 then (k_Lw_law_2054 L sx R18 a3 M12) else (some (0, M12))
theorem z_Lw_law_1803 (C : Cx p s m #[Value.ref b] meth c G b_Lw_law 4 "PrairiePoolLaw" ret) {L : Nat} {xs : Nat → Int32} (hX : va_X b L xs s s.heap) (hb0 : b < G.1 ∧ G.1 = s.heap.size) {r : Int × Mem} (hr1 : G.1 = s.heap.size ∧ r.1 = 1) {R18 : Int → Mem → Res} (hR18 : ∀ (a3 : Int) (M : Mem), R18 a3 M = some r → Z0 p l e room_1 189 39158 s m #[Value.ref b] below meth c G 4 (lw_Z below #[Value.ref b] s) (Pic G M) 18 [(0, .ref b), (1, .ref (G.1 + 0)), (2, .ref (G.1 + 111)), (3, vi a3)] []) {a3 : Int} {M : Mem} (h : k_Lw_law_1803 L (fun j => (xs j).toInt) R18 a3 M = some r) : Z0 p l e room_1 189 39158 s m #[Value.ref b] below meth c G 4 (lw_Z below #[Value.ref b] s) (Pic G M) 1803 [(0, .ref b), (1, .ref (G.1 + 0)), (2, .ref (G.1 + 111)), (3, vi a3)] [] := by
  unfold k_Lw_law_1803 at h
  refine z_aload_n C 1 x_Lw_law_1803 rfl ?_
  refine z_aload_n C 0 x_Lw_law_1804 rfl ?_
  refine z_iload_n C 3 x_Lw_law_1805 rfl ?_
  refine z_iconst C x_Lw_law_1806 ?_
  refine z_iadd C x_Lw_law_1807 ?_
  obtain ⟨c1, h⟩ := chk_e h
  obtain ⟨v2, ev2, h⟩ := blet_e h
  refine zl_sld C hX hb0 x_Lw_law_1808 c1 ev2 ?_
  refine z_aload_n C 0 x_Lw_law_1809 rfl ?_
  refine z_iload_n C 3 x_Lw_law_1810 rfl ?_
  refine z_iconst C x_Lw_law_1811 ?_
  refine z_iadd C x_Lw_law_1812 ?_
  obtain ⟨c3, h⟩ := chk_e h
  obtain ⟨v4, ev4, h⟩ := blet_e h
  refine zl_sld C hX hb0 x_Lw_law_1813 c3 ev4 ?_
  obtain ⟨v5, M6, fv5, h⟩ := bcall_e h
  refine zl_callVi (k := 0) C x_Lw_law_1814 cv_Lw_164 (t_PP_more (lev := 500) l G (by decide) fv5) nk_0 ck_0 rfl (by decide) rfl (i_le rfl) rfl ?_
  refine z_aload_n C 2 x_Lw_law_1817 rfl ?_
  refine z_aload_n C 0 x_Lw_law_1818 rfl ?_
  refine z_iload_n C 3 x_Lw_law_1819 rfl ?_
  refine z_iconst C x_Lw_law_1820 ?_
  refine z_iadd C x_Lw_law_1821 ?_
  obtain ⟨c7, h⟩ := chk_e h
  obtain ⟨v8, ev8, h⟩ := blet_e h
  refine zl_sld C hX hb0 x_Lw_law_1822 c7 ev8 ?_
  refine z_aload_n C 0 x_Lw_law_1823 rfl ?_
  refine z_iload_n C 3 x_Lw_law_1824 rfl ?_
  refine z_iconst C x_Lw_law_1825 ?_
  refine z_iadd C x_Lw_law_1826 ?_
  obtain ⟨c9, h⟩ := chk_e h
  obtain ⟨v10, ev10, h⟩ := blet_e h
  refine zl_sld C hX hb0 x_Lw_law_1827 c9 ev10 ?_
  obtain ⟨v11, M12, fv11, h⟩ := bcall_e h
  refine zl_callVi (k := 111) C x_Lw_law_1828 cv_Lw_167 (t_Mo_more (lev := 500) l G (by decide) fv11) nk_111 ck_111 rfl (by decide) rfl (i_le rfl) rfl ?_
  rcases ite_e h with ⟨c13, h⟩ | ⟨c13, h⟩
  · refine z_icmp_eq_t (tgt := 2054) C x_Lw_law_1831 rfl c13 ?_
    exact z_sub [0, 1, 2, 3] rfl (z_Lw_law_2054 C hX hb0 hr1 hR18 h)
  · refine z_icmp_eq_f (tgt := 2054) C x_Lw_law_1831 rfl c13 ?_
    refine z_iconst C x_Lw_law_1834 ?_
    exact absurd hr1.2 (by cases h; show ¬ ((0 : Int) = 1); decide)
def k_Lw_law_1759 (L : Nat) (sx : Nat → Int) (R18 : Int → Mem → Res) (a3 : Int) (M : Mem) : Res := chk (0 ≤ w32 (a3 + 1) ∧ w32 (a3 + 1) < (L : Int)) <| blet (sx (ix (a3 + 1))) fun v2 => chk (0 ≤ w32 (a3 + 2) ∧ w32 (a3 + 2) < (L : Int)) <| blet (sx (ix (a3 + 2))) fun v4 => chk (0 ≤ w32 (a3 + 3) ∧ w32 (a3 + 3) < (L : Int)) <| blet (sx (ix (a3 + 3))) fun v6 => bcall (d_PP_alone v2 v4 v6 M) fun v7 M8 => chk (0 ≤ w32 (a3 + 1) ∧ w32 (a3 + 1) < (L : Int)) <| blet (sx (ix (a3 + 1))) fun v10 => chk (0 ≤ w32 (a3 + 2) ∧ w32 (a3 + 2) < (L : Int)) <| blet (sx (ix (a3 + 2))) fun v12 => chk (0 ≤ w32 (a3 + 3) ∧ w32 (a3 + 3) < (L : Int)) <| blet (sx (ix (a3 + 3))) fun v14 => bcall (d_Mo_alone v10 v12 v14 M8) fun v15 M16 => if w64 v7 = w64 v15 then (k_Lw_law_2054 L sx R18 a3 M16) else (some (0, M16))
theorem z_Lw_law_1759 (C : Cx p s m #[Value.ref b] meth c G b_Lw_law 4 "PrairiePoolLaw" ret) {L : Nat} {xs : Nat → Int32} (hX : va_X b L xs s s.heap) (hb0 : b < G.1 ∧ G.1 = s.heap.size) {r : Int × Mem} (hr1 : G.1 = s.heap.size ∧ r.1 = 1) {R18 : Int → Mem → Res} (hR18 : ∀ (a3 : Int) (M : Mem), R18 a3 M = some r → Z0 p l e room_1 189 39158 s m #[Value.ref b] below meth c G 4 (lw_Z below #[Value.ref b] s) (Pic G M) 18 [(0, .ref b), (1, .ref (G.1 + 0)), (2, .ref (G.1 + 111)), (3, vi a3)] []) {a3 : Int} {M : Mem} (h : k_Lw_law_1759 L (fun j => (xs j).toInt) R18 a3 M = some r) : Z0 p l e room_1 189 39158 s m #[Value.ref b] below meth c G 4 (lw_Z below #[Value.ref b] s) (Pic G M) 1759 [(0, .ref b), (1, .ref (G.1 + 0)), (2, .ref (G.1 + 111)), (3, vi a3)] [] := by
  unfold k_Lw_law_1759 at h
  refine z_aload_n C 1 x_Lw_law_1759 rfl ?_
  refine z_aload_n C 0 x_Lw_law_1760 rfl ?_
  refine z_iload_n C 3 x_Lw_law_1761 rfl ?_
  refine z_iconst C x_Lw_law_1762 ?_
  refine z_iadd C x_Lw_law_1763 ?_
  obtain ⟨c1, h⟩ := chk_e h
  obtain ⟨v2, ev2, h⟩ := blet_e h
  refine zl_sld C hX hb0 x_Lw_law_1764 c1 ev2 ?_
  refine z_aload_n C 0 x_Lw_law_1765 rfl ?_
  refine z_iload_n C 3 x_Lw_law_1766 rfl ?_
  refine z_iconst C x_Lw_law_1767 ?_
  refine z_iadd C x_Lw_law_1768 ?_
  obtain ⟨c3, h⟩ := chk_e h
  obtain ⟨v4, ev4, h⟩ := blet_e h
  refine zl_sld C hX hb0 x_Lw_law_1769 c3 ev4 ?_
  refine z_aload_n C 0 x_Lw_law_1770 rfl ?_
  refine z_iload_n C 3 x_Lw_law_1771 rfl ?_
  refine z_iconst C x_Lw_law_1772 ?_
  refine z_iadd C x_Lw_law_1773 ?_
  obtain ⟨c5, h⟩ := chk_e h
  obtain ⟨v6, ev6, h⟩ := blet_e h
  refine zl_sld C hX hb0 x_Lw_law_1774 c5 ev6 ?_
  obtain ⟨v7, M8, fv7, h⟩ := bcall_e h
  refine zl_callVl (k := 0) C x_Lw_law_1775 cv_Lw_160 (t_PP_alone (lev := 500) l G (by decide) fv7) nk_0 ck_0 rfl (by decide) rfl (i_le rfl) rfl ?_
  refine z_aload_n C 2 x_Lw_law_1778 rfl ?_
  refine z_aload_n C 0 x_Lw_law_1779 rfl ?_
  refine z_iload_n C 3 x_Lw_law_1780 rfl ?_
  refine z_iconst C x_Lw_law_1781 ?_
  refine z_iadd C x_Lw_law_1782 ?_
  obtain ⟨c9, h⟩ := chk_e h
  obtain ⟨v10, ev10, h⟩ := blet_e h
  refine zl_sld C hX hb0 x_Lw_law_1783 c9 ev10 ?_
  refine z_aload_n C 0 x_Lw_law_1784 rfl ?_
  refine z_iload_n C 3 x_Lw_law_1785 rfl ?_
  refine z_iconst C x_Lw_law_1786 ?_
  refine z_iadd C x_Lw_law_1787 ?_
  obtain ⟨c11, h⟩ := chk_e h
  obtain ⟨v12, ev12, h⟩ := blet_e h
  refine zl_sld C hX hb0 x_Lw_law_1788 c11 ev12 ?_
  refine z_aload_n C 0 x_Lw_law_1789 rfl ?_
  refine z_iload_n C 3 x_Lw_law_1790 rfl ?_
  refine z_iconst C x_Lw_law_1791 ?_
  refine z_iadd C x_Lw_law_1792 ?_
  obtain ⟨c13, h⟩ := chk_e h
  obtain ⟨v14, ev14, h⟩ := blet_e h
  refine zl_sld C hX hb0 x_Lw_law_1793 c13 ev14 ?_
  obtain ⟨v15, M16, fv15, h⟩ := bcall_e h
  refine zl_callVl (k := 111) C x_Lw_law_1794 cv_Lw_163 (t_Mo_alone (lev := 500) l G (by decide) fv15) nk_111 ck_111 rfl (by decide) rfl (i_le rfl) rfl ?_
  refine z_lcmp C x_Lw_law_1797 ?_
  rcases ite_e h with ⟨c17, h⟩ | ⟨c17, h⟩
  · refine z_if_eq_t (tgt := 2054) C x_Lw_law_1798 rfl (cm_eqz.mpr c17) ?_
    exact z_sub [0, 1, 2, 3] rfl (z_Lw_law_2054 C hX hb0 hr1 hR18 h)
  · refine z_if_eq_f (tgt := 2054) C x_Lw_law_1798 rfl (fun q => c17 (cm_eqz.mp q)) ?_
    refine z_iconst C x_Lw_law_1801 ?_
    exact absurd hr1.2 (by cases h; show ¬ ((0 : Int) = 1); decide)
def k_Lw_law_1726 (L : Nat) (sx : Nat → Int) (R18 : Int → Mem → Res) (a3 : Int) (M : Mem) : Res := chk (0 ≤ w32 (a3 + 1) ∧ w32 (a3 + 1) < (L : Int)) <| blet (sx (ix (a3 + 1))) fun v2 => chk (0 ≤ w32 (a3 + 2) ∧ w32 (a3 + 2) < (L : Int)) <| blet (sx (ix (a3 + 2))) fun v4 => bcall (d_PP_rules v2 v4 M) fun v5 M6 => chk (0 ≤ w32 (a3 + 1) ∧ w32 (a3 + 1) < (L : Int)) <| blet (sx (ix (a3 + 1))) fun v8 => chk (0 ≤ w32 (a3 + 2) ∧ w32 (a3 + 2) < (L : Int)) <| blet (sx (ix (a3 + 2))) fun v10 => bcall (d_Mo_rules v8 v10 M6) fun v11 M12 => if w32 v5 = w32 v11 then (k_Lw_law_2054 L sx R18 a3 M12) else (some (0, M12))
theorem z_Lw_law_1726 (C : Cx p s m #[Value.ref b] meth c G b_Lw_law 4 "PrairiePoolLaw" ret) {L : Nat} {xs : Nat → Int32} (hX : va_X b L xs s s.heap) (hb0 : b < G.1 ∧ G.1 = s.heap.size) {r : Int × Mem} (hr1 : G.1 = s.heap.size ∧ r.1 = 1) {R18 : Int → Mem → Res} (hR18 : ∀ (a3 : Int) (M : Mem), R18 a3 M = some r → Z0 p l e room_1 189 39158 s m #[Value.ref b] below meth c G 4 (lw_Z below #[Value.ref b] s) (Pic G M) 18 [(0, .ref b), (1, .ref (G.1 + 0)), (2, .ref (G.1 + 111)), (3, vi a3)] []) {a3 : Int} {M : Mem} (h : k_Lw_law_1726 L (fun j => (xs j).toInt) R18 a3 M = some r) : Z0 p l e room_1 189 39158 s m #[Value.ref b] below meth c G 4 (lw_Z below #[Value.ref b] s) (Pic G M) 1726 [(0, .ref b), (1, .ref (G.1 + 0)), (2, .ref (G.1 + 111)), (3, vi a3)] [] := by
  unfold k_Lw_law_1726 at h
  refine z_aload_n C 1 x_Lw_law_1726 rfl ?_
  refine z_aload_n C 0 x_Lw_law_1727 rfl ?_
  refine z_iload_n C 3 x_Lw_law_1728 rfl ?_
  refine z_iconst C x_Lw_law_1729 ?_
  refine z_iadd C x_Lw_law_1730 ?_
  obtain ⟨c1, h⟩ := chk_e h
  obtain ⟨v2, ev2, h⟩ := blet_e h
  refine zl_sld C hX hb0 x_Lw_law_1731 c1 ev2 ?_
  refine z_aload_n C 0 x_Lw_law_1732 rfl ?_
  refine z_iload_n C 3 x_Lw_law_1733 rfl ?_
  refine z_iconst C x_Lw_law_1734 ?_
  refine z_iadd C x_Lw_law_1735 ?_
  obtain ⟨c3, h⟩ := chk_e h
  obtain ⟨v4, ev4, h⟩ := blet_e h
  refine zl_sld C hX hb0 x_Lw_law_1736 c3 ev4 ?_
  obtain ⟨v5, M6, fv5, h⟩ := bcall_e h
  refine zl_callVi (k := 0) C x_Lw_law_1737 cv_Lw_156 (t_PP_rules (lev := 500) l G (by decide) fv5) nk_0 ck_0 rfl (by decide) rfl (i_le rfl) rfl ?_
  refine z_aload_n C 2 x_Lw_law_1740 rfl ?_
  refine z_aload_n C 0 x_Lw_law_1741 rfl ?_
  refine z_iload_n C 3 x_Lw_law_1742 rfl ?_
  refine z_iconst C x_Lw_law_1743 ?_
  refine z_iadd C x_Lw_law_1744 ?_
  obtain ⟨c7, h⟩ := chk_e h
  obtain ⟨v8, ev8, h⟩ := blet_e h
  refine zl_sld C hX hb0 x_Lw_law_1745 c7 ev8 ?_
  refine z_aload_n C 0 x_Lw_law_1746 rfl ?_
  refine z_iload_n C 3 x_Lw_law_1747 rfl ?_
  refine z_iconst C x_Lw_law_1748 ?_
  refine z_iadd C x_Lw_law_1749 ?_
  obtain ⟨c9, h⟩ := chk_e h
  obtain ⟨v10, ev10, h⟩ := blet_e h
  refine zl_sld C hX hb0 x_Lw_law_1750 c9 ev10 ?_
  obtain ⟨v11, M12, fv11, h⟩ := bcall_e h
  refine zl_callVi (k := 111) C x_Lw_law_1751 cv_Lw_159 (t_Mo_rules (lev := 500) l G (by decide) fv11) nk_111 ck_111 rfl (by decide) rfl (i_le rfl) rfl ?_
  rcases ite_e h with ⟨c13, h⟩ | ⟨c13, h⟩
  · refine z_icmp_eq_t (tgt := 2054) C x_Lw_law_1754 rfl c13 ?_
    exact z_sub [0, 1, 2, 3] rfl (z_Lw_law_2054 C hX hb0 hr1 hR18 h)
  · refine z_icmp_eq_f (tgt := 2054) C x_Lw_law_1754 rfl c13 ?_
    refine z_iconst C x_Lw_law_1757 ?_
    exact absurd hr1.2 (by cases h; show ¬ ((0 : Int) = 1); decide)
def k_Lw_law_1693 (L : Nat) (sx : Nat → Int) (R18 : Int → Mem → Res) (a3 : Int) (M : Mem) : Res := chk (0 ≤ w32 (a3 + 1) ∧ w32 (a3 + 1) < (L : Int)) <| blet (sx (ix (a3 + 1))) fun v2 => chk (0 ≤ w32 (a3 + 2) ∧ w32 (a3 + 2) < (L : Int)) <| blet (sx (ix (a3 + 2))) fun v4 => bcall (d_PP_price v2 v4 M) fun v5 M6 => chk (0 ≤ w32 (a3 + 1) ∧ w32 (a3 + 1) < (L : Int)) <| blet (sx (ix (a3 + 1))) fun v8 => chk (0 ≤ w32 (a3 + 2) ∧ w32 (a3 + 2) < (L : Int)) <| blet (sx (ix (a3 + 2))) fun v10 => bcall (d_Mo_price v8 v10 M6) fun v11 M12 => if w32 v5 = w32 v11 then (k_Lw_law_2054 L sx R18 a3 M12) else (some (0, M12))
theorem z_Lw_law_1693 (C : Cx p s m #[Value.ref b] meth c G b_Lw_law 4 "PrairiePoolLaw" ret) {L : Nat} {xs : Nat → Int32} (hX : va_X b L xs s s.heap) (hb0 : b < G.1 ∧ G.1 = s.heap.size) {r : Int × Mem} (hr1 : G.1 = s.heap.size ∧ r.1 = 1) {R18 : Int → Mem → Res} (hR18 : ∀ (a3 : Int) (M : Mem), R18 a3 M = some r → Z0 p l e room_1 189 39158 s m #[Value.ref b] below meth c G 4 (lw_Z below #[Value.ref b] s) (Pic G M) 18 [(0, .ref b), (1, .ref (G.1 + 0)), (2, .ref (G.1 + 111)), (3, vi a3)] []) {a3 : Int} {M : Mem} (h : k_Lw_law_1693 L (fun j => (xs j).toInt) R18 a3 M = some r) : Z0 p l e room_1 189 39158 s m #[Value.ref b] below meth c G 4 (lw_Z below #[Value.ref b] s) (Pic G M) 1693 [(0, .ref b), (1, .ref (G.1 + 0)), (2, .ref (G.1 + 111)), (3, vi a3)] [] := by
  unfold k_Lw_law_1693 at h
  refine z_aload_n C 1 x_Lw_law_1693 rfl ?_
  refine z_aload_n C 0 x_Lw_law_1694 rfl ?_
  refine z_iload_n C 3 x_Lw_law_1695 rfl ?_
  refine z_iconst C x_Lw_law_1696 ?_
  refine z_iadd C x_Lw_law_1697 ?_
  obtain ⟨c1, h⟩ := chk_e h
  obtain ⟨v2, ev2, h⟩ := blet_e h
  refine zl_sld C hX hb0 x_Lw_law_1698 c1 ev2 ?_
  refine z_aload_n C 0 x_Lw_law_1699 rfl ?_
  refine z_iload_n C 3 x_Lw_law_1700 rfl ?_
  refine z_iconst C x_Lw_law_1701 ?_
  refine z_iadd C x_Lw_law_1702 ?_
  obtain ⟨c3, h⟩ := chk_e h
  obtain ⟨v4, ev4, h⟩ := blet_e h
  refine zl_sld C hX hb0 x_Lw_law_1703 c3 ev4 ?_
  obtain ⟨v5, M6, fv5, h⟩ := bcall_e h
  refine zl_callVi (k := 0) C x_Lw_law_1704 cv_Lw_151 (t_PP_price (lev := 500) l G (by decide) fv5) nk_0 ck_0 rfl (by decide) rfl (i_le rfl) rfl ?_
  refine z_aload_n C 2 x_Lw_law_1707 rfl ?_
  refine z_aload_n C 0 x_Lw_law_1708 rfl ?_
  refine z_iload_n C 3 x_Lw_law_1709 rfl ?_
  refine z_iconst C x_Lw_law_1710 ?_
  refine z_iadd C x_Lw_law_1711 ?_
  obtain ⟨c7, h⟩ := chk_e h
  obtain ⟨v8, ev8, h⟩ := blet_e h
  refine zl_sld C hX hb0 x_Lw_law_1712 c7 ev8 ?_
  refine z_aload_n C 0 x_Lw_law_1713 rfl ?_
  refine z_iload_n C 3 x_Lw_law_1714 rfl ?_
  refine z_iconst C x_Lw_law_1715 ?_
  refine z_iadd C x_Lw_law_1716 ?_
  obtain ⟨c9, h⟩ := chk_e h
  obtain ⟨v10, ev10, h⟩ := blet_e h
  refine zl_sld C hX hb0 x_Lw_law_1717 c9 ev10 ?_
  obtain ⟨v11, M12, fv11, h⟩ := bcall_e h
  refine zl_callVi (k := 111) C x_Lw_law_1718 cv_Lw_155 (t_Mo_price (lev := 500) l G (by decide) fv11) nk_111 ck_111 rfl (by decide) rfl (i_le rfl) rfl ?_
  rcases ite_e h with ⟨c13, h⟩ | ⟨c13, h⟩
  · refine z_icmp_eq_t (tgt := 2054) C x_Lw_law_1721 rfl c13 ?_
    exact z_sub [0, 1, 2, 3] rfl (z_Lw_law_2054 C hX hb0 hr1 hR18 h)
  · refine z_icmp_eq_f (tgt := 2054) C x_Lw_law_1721 rfl c13 ?_
    refine z_iconst C x_Lw_law_1724 ?_
    exact absurd hr1.2 (by cases h; show ¬ ((0 : Int) = 1); decide)
def k_Lw_law_1659 (L : Nat) (sx : Nat → Int) (R18 : Int → Mem → Res) (a3 : Int) (M : Mem) : Res := chk (0 ≤ w32 (a3 + 1) ∧ w32 (a3 + 1) < (L : Int)) <| blet (sx (ix (a3 + 1))) fun v2 => chk (0 ≤ w32 (a3 + 2) ∧ w32 (a3 + 2) < (L : Int)) <| blet (sx (ix (a3 + 2))) fun v4 => bcall (d_PP_cost v2 v4 M) fun v5 M6 => chk (0 ≤ w32 (a3 + 1) ∧ w32 (a3 + 1) < (L : Int)) <| blet (sx (ix (a3 + 1))) fun v8 => chk (0 ≤ w32 (a3 + 2) ∧ w32 (a3 + 2) < (L : Int)) <| blet (sx (ix (a3 + 2))) fun v10 => bcall (d_Mo_cost v8 v10 M6) fun v11 M12 => if w64 v5 = w64 v11 then (k_Lw_law_2054 L sx R18 a3 M12) else (some (0, M12))
theorem z_Lw_law_1659 (C : Cx p s m #[Value.ref b] meth c G b_Lw_law 4 "PrairiePoolLaw" ret) {L : Nat} {xs : Nat → Int32} (hX : va_X b L xs s s.heap) (hb0 : b < G.1 ∧ G.1 = s.heap.size) {r : Int × Mem} (hr1 : G.1 = s.heap.size ∧ r.1 = 1) {R18 : Int → Mem → Res} (hR18 : ∀ (a3 : Int) (M : Mem), R18 a3 M = some r → Z0 p l e room_1 189 39158 s m #[Value.ref b] below meth c G 4 (lw_Z below #[Value.ref b] s) (Pic G M) 18 [(0, .ref b), (1, .ref (G.1 + 0)), (2, .ref (G.1 + 111)), (3, vi a3)] []) {a3 : Int} {M : Mem} (h : k_Lw_law_1659 L (fun j => (xs j).toInt) R18 a3 M = some r) : Z0 p l e room_1 189 39158 s m #[Value.ref b] below meth c G 4 (lw_Z below #[Value.ref b] s) (Pic G M) 1659 [(0, .ref b), (1, .ref (G.1 + 0)), (2, .ref (G.1 + 111)), (3, vi a3)] [] := by
  unfold k_Lw_law_1659 at h
  refine z_aload_n C 1 x_Lw_law_1659 rfl ?_
  refine z_aload_n C 0 x_Lw_law_1660 rfl ?_
  refine z_iload_n C 3 x_Lw_law_1661 rfl ?_
  refine z_iconst C x_Lw_law_1662 ?_
  refine z_iadd C x_Lw_law_1663 ?_
  obtain ⟨c1, h⟩ := chk_e h
  obtain ⟨v2, ev2, h⟩ := blet_e h
  refine zl_sld C hX hb0 x_Lw_law_1664 c1 ev2 ?_
  refine z_aload_n C 0 x_Lw_law_1665 rfl ?_
  refine z_iload_n C 3 x_Lw_law_1666 rfl ?_
  refine z_iconst C x_Lw_law_1667 ?_
  refine z_iadd C x_Lw_law_1668 ?_
  obtain ⟨c3, h⟩ := chk_e h
  obtain ⟨v4, ev4, h⟩ := blet_e h
  refine zl_sld C hX hb0 x_Lw_law_1669 c3 ev4 ?_
  obtain ⟨v5, M6, fv5, h⟩ := bcall_e h
  refine zl_callVl (k := 0) C x_Lw_law_1670 cv_Lw_147 (t_PP_cost (lev := 500) l G (by decide) fv5) nk_0 ck_0 rfl (by decide) rfl (i_le rfl) rfl ?_
  refine z_aload_n C 2 x_Lw_law_1673 rfl ?_
  refine z_aload_n C 0 x_Lw_law_1674 rfl ?_
  refine z_iload_n C 3 x_Lw_law_1675 rfl ?_
  refine z_iconst C x_Lw_law_1676 ?_
  refine z_iadd C x_Lw_law_1677 ?_
  obtain ⟨c7, h⟩ := chk_e h
  obtain ⟨v8, ev8, h⟩ := blet_e h
  refine zl_sld C hX hb0 x_Lw_law_1678 c7 ev8 ?_
  refine z_aload_n C 0 x_Lw_law_1679 rfl ?_
  refine z_iload_n C 3 x_Lw_law_1680 rfl ?_
  refine z_iconst C x_Lw_law_1681 ?_
  refine z_iadd C x_Lw_law_1682 ?_
  obtain ⟨c9, h⟩ := chk_e h
  obtain ⟨v10, ev10, h⟩ := blet_e h
  refine zl_sld C hX hb0 x_Lw_law_1683 c9 ev10 ?_
  obtain ⟨v11, M12, fv11, h⟩ := bcall_e h
  refine zl_callVl (k := 111) C x_Lw_law_1684 cv_Lw_150 (t_Mo_cost (lev := 500) l G (by decide) fv11) nk_111 ck_111 rfl (by decide) rfl (i_le rfl) rfl ?_
  refine z_lcmp C x_Lw_law_1687 ?_
  rcases ite_e h with ⟨c13, h⟩ | ⟨c13, h⟩
  · refine z_if_eq_t (tgt := 2054) C x_Lw_law_1688 rfl (cm_eqz.mpr c13) ?_
    exact z_sub [0, 1, 2, 3] rfl (z_Lw_law_2054 C hX hb0 hr1 hR18 h)
  · refine z_if_eq_f (tgt := 2054) C x_Lw_law_1688 rfl (fun q => c13 (cm_eqz.mp q)) ?_
    refine z_iconst C x_Lw_law_1691 ?_
    exact absurd hr1.2 (by cases h; show ¬ ((0 : Int) = 1); decide)
def k_Lw_law_1636 (L : Nat) (sx : Nat → Int) (R18 : Int → Mem → Res) (a3 : Int) (M : Mem) : Res := chk (0 ≤ w32 (a3 + 1) ∧ w32 (a3 + 1) < (L : Int)) <| blet (sx (ix (a3 + 1))) fun v2 => bcall (d_PP_breach v2 M) fun v3 M4 => chk (0 ≤ w32 (a3 + 1) ∧ w32 (a3 + 1) < (L : Int)) <| blet (sx (ix (a3 + 1))) fun v6 => bcall (d_Mo_breach v6 M4) fun v7 M8 => if w32 v3 = w32 v7 then (k_Lw_law_2054 L sx R18 a3 M8) else (some (0, M8))
theorem z_Lw_law_1636 (C : Cx p s m #[Value.ref b] meth c G b_Lw_law 4 "PrairiePoolLaw" ret) {L : Nat} {xs : Nat → Int32} (hX : va_X b L xs s s.heap) (hb0 : b < G.1 ∧ G.1 = s.heap.size) {r : Int × Mem} (hr1 : G.1 = s.heap.size ∧ r.1 = 1) {R18 : Int → Mem → Res} (hR18 : ∀ (a3 : Int) (M : Mem), R18 a3 M = some r → Z0 p l e room_1 189 39158 s m #[Value.ref b] below meth c G 4 (lw_Z below #[Value.ref b] s) (Pic G M) 18 [(0, .ref b), (1, .ref (G.1 + 0)), (2, .ref (G.1 + 111)), (3, vi a3)] []) {a3 : Int} {M : Mem} (h : k_Lw_law_1636 L (fun j => (xs j).toInt) R18 a3 M = some r) : Z0 p l e room_1 189 39158 s m #[Value.ref b] below meth c G 4 (lw_Z below #[Value.ref b] s) (Pic G M) 1636 [(0, .ref b), (1, .ref (G.1 + 0)), (2, .ref (G.1 + 111)), (3, vi a3)] [] := by
  unfold k_Lw_law_1636 at h
  refine z_aload_n C 1 x_Lw_law_1636 rfl ?_
  refine z_aload_n C 0 x_Lw_law_1637 rfl ?_
  refine z_iload_n C 3 x_Lw_law_1638 rfl ?_
  refine z_iconst C x_Lw_law_1639 ?_
  refine z_iadd C x_Lw_law_1640 ?_
  obtain ⟨c1, h⟩ := chk_e h
  obtain ⟨v2, ev2, h⟩ := blet_e h
  refine zl_sld C hX hb0 x_Lw_law_1641 c1 ev2 ?_
  obtain ⟨v3, M4, fv3, h⟩ := bcall_e h
  refine zl_callVi (k := 0) C x_Lw_law_1642 cv_Lw_143 (t_PP_breach (lev := 500) l G (by decide) fv3) nk_0 ck_0 rfl (by decide) rfl (i_le rfl) rfl ?_
  refine z_aload_n C 2 x_Lw_law_1645 rfl ?_
  refine z_aload_n C 0 x_Lw_law_1646 rfl ?_
  refine z_iload_n C 3 x_Lw_law_1647 rfl ?_
  refine z_iconst C x_Lw_law_1648 ?_
  refine z_iadd C x_Lw_law_1649 ?_
  obtain ⟨c5, h⟩ := chk_e h
  obtain ⟨v6, ev6, h⟩ := blet_e h
  refine zl_sld C hX hb0 x_Lw_law_1650 c5 ev6 ?_
  obtain ⟨v7, M8, fv7, h⟩ := bcall_e h
  refine zl_callVi (k := 111) C x_Lw_law_1651 cv_Lw_146 (t_Mo_breach (lev := 500) l G (by decide) fv7) nk_111 ck_111 rfl (by decide) rfl (i_le rfl) rfl ?_
  rcases ite_e h with ⟨c9, h⟩ | ⟨c9, h⟩
  · refine z_icmp_eq_t (tgt := 2054) C x_Lw_law_1654 rfl c9 ?_
    exact z_sub [0, 1, 2, 3] rfl (z_Lw_law_2054 C hX hb0 hr1 hR18 h)
  · refine z_icmp_eq_f (tgt := 2054) C x_Lw_law_1654 rfl c9 ?_
    refine z_iconst C x_Lw_law_1657 ?_
    exact absurd hr1.2 (by cases h; show ¬ ((0 : Int) = 1); decide)
def k_Lw_law_1583 (L : Nat) (sx : Nat → Int) (R18 : Int → Mem → Res) (a3 : Int) (M : Mem) : Res := chk (0 ≤ w32 (a3 + 1) ∧ w32 (a3 + 1) < (L : Int)) <| blet (sx (ix (a3 + 1))) fun v2 => chk (0 ≤ w32 (a3 + 2) ∧ w32 (a3 + 2) < (L : Int)) <| blet (sx (ix (a3 + 2))) fun v4 => chk (0 ≤ w32 (a3 + 3) ∧ w32 (a3 + 3) < (L : Int)) <| blet (sx (ix (a3 + 3))) fun v6 => chk (0 ≤ w32 (a3 + 4) ∧ w32 (a3 + 4) < (L : Int)) <| blet (sx (ix (a3 + 4))) fun v8 => bcall (d_PP_outside v2 v4 v6 v8 M) fun v9 M10 => chk (0 ≤ w32 (a3 + 1) ∧ w32 (a3 + 1) < (L : Int)) <| blet (sx (ix (a3 + 1))) fun v12 => chk (0 ≤ w32 (a3 + 2) ∧ w32 (a3 + 2) < (L : Int)) <| blet (sx (ix (a3 + 2))) fun v14 => chk (0 ≤ w32 (a3 + 3) ∧ w32 (a3 + 3) < (L : Int)) <| blet (sx (ix (a3 + 3))) fun v16 => chk (0 ≤ w32 (a3 + 4) ∧ w32 (a3 + 4) < (L : Int)) <| blet (sx (ix (a3 + 4))) fun v18 => bcall (d_Mo_outside v12 v14 v16 v18 M10) fun v19 M20 => if w32 v9 = w32 v19 then (k_Lw_law_2054 L sx R18 a3 M20) else (some (0, M20))
theorem z_Lw_law_1583 (C : Cx p s m #[Value.ref b] meth c G b_Lw_law 4 "PrairiePoolLaw" ret) {L : Nat} {xs : Nat → Int32} (hX : va_X b L xs s s.heap) (hb0 : b < G.1 ∧ G.1 = s.heap.size) {r : Int × Mem} (hr1 : G.1 = s.heap.size ∧ r.1 = 1) {R18 : Int → Mem → Res} (hR18 : ∀ (a3 : Int) (M : Mem), R18 a3 M = some r → Z0 p l e room_1 189 39158 s m #[Value.ref b] below meth c G 4 (lw_Z below #[Value.ref b] s) (Pic G M) 18 [(0, .ref b), (1, .ref (G.1 + 0)), (2, .ref (G.1 + 111)), (3, vi a3)] []) {a3 : Int} {M : Mem} (h : k_Lw_law_1583 L (fun j => (xs j).toInt) R18 a3 M = some r) : Z0 p l e room_1 189 39158 s m #[Value.ref b] below meth c G 4 (lw_Z below #[Value.ref b] s) (Pic G M) 1583 [(0, .ref b), (1, .ref (G.1 + 0)), (2, .ref (G.1 + 111)), (3, vi a3)] [] := by
  unfold k_Lw_law_1583 at h
  refine z_aload_n C 1 x_Lw_law_1583 rfl ?_
  refine z_aload_n C 0 x_Lw_law_1584 rfl ?_
  refine z_iload_n C 3 x_Lw_law_1585 rfl ?_
  refine z_iconst C x_Lw_law_1586 ?_
  refine z_iadd C x_Lw_law_1587 ?_
  obtain ⟨c1, h⟩ := chk_e h
  obtain ⟨v2, ev2, h⟩ := blet_e h
  refine zl_sld C hX hb0 x_Lw_law_1588 c1 ev2 ?_
  refine z_aload_n C 0 x_Lw_law_1589 rfl ?_
  refine z_iload_n C 3 x_Lw_law_1590 rfl ?_
  refine z_iconst C x_Lw_law_1591 ?_
  refine z_iadd C x_Lw_law_1592 ?_
  obtain ⟨c3, h⟩ := chk_e h
  obtain ⟨v4, ev4, h⟩ := blet_e h
  refine zl_sld C hX hb0 x_Lw_law_1593 c3 ev4 ?_
  refine z_aload_n C 0 x_Lw_law_1594 rfl ?_
  refine z_iload_n C 3 x_Lw_law_1595 rfl ?_
  refine z_iconst C x_Lw_law_1596 ?_
  refine z_iadd C x_Lw_law_1597 ?_
  obtain ⟨c5, h⟩ := chk_e h
  obtain ⟨v6, ev6, h⟩ := blet_e h
  refine zl_sld C hX hb0 x_Lw_law_1598 c5 ev6 ?_
  refine z_aload_n C 0 x_Lw_law_1599 rfl ?_
  refine z_iload_n C 3 x_Lw_law_1600 rfl ?_
  refine z_iconst C x_Lw_law_1601 ?_
  refine z_iadd C x_Lw_law_1602 ?_
  obtain ⟨c7, h⟩ := chk_e h
  obtain ⟨v8, ev8, h⟩ := blet_e h
  refine zl_sld C hX hb0 x_Lw_law_1603 c7 ev8 ?_
  obtain ⟨v9, M10, fv9, h⟩ := bcall_e h
  refine zl_callVi (k := 0) C x_Lw_law_1604 cv_Lw_138 (t_PP_outside (lev := 500) l G (by decide) fv9) nk_0 ck_0 rfl (by decide) rfl (i_le rfl) rfl ?_
  refine z_aload_n C 2 x_Lw_law_1607 rfl ?_
  refine z_aload_n C 0 x_Lw_law_1608 rfl ?_
  refine z_iload_n C 3 x_Lw_law_1609 rfl ?_
  refine z_iconst C x_Lw_law_1610 ?_
  refine z_iadd C x_Lw_law_1611 ?_
  obtain ⟨c11, h⟩ := chk_e h
  obtain ⟨v12, ev12, h⟩ := blet_e h
  refine zl_sld C hX hb0 x_Lw_law_1612 c11 ev12 ?_
  refine z_aload_n C 0 x_Lw_law_1613 rfl ?_
  refine z_iload_n C 3 x_Lw_law_1614 rfl ?_
  refine z_iconst C x_Lw_law_1615 ?_
  refine z_iadd C x_Lw_law_1616 ?_
  obtain ⟨c13, h⟩ := chk_e h
  obtain ⟨v14, ev14, h⟩ := blet_e h
  refine zl_sld C hX hb0 x_Lw_law_1617 c13 ev14 ?_
  refine z_aload_n C 0 x_Lw_law_1618 rfl ?_
  refine z_iload_n C 3 x_Lw_law_1619 rfl ?_
  refine z_iconst C x_Lw_law_1620 ?_
  refine z_iadd C x_Lw_law_1621 ?_
  obtain ⟨c15, h⟩ := chk_e h
  obtain ⟨v16, ev16, h⟩ := blet_e h
  refine zl_sld C hX hb0 x_Lw_law_1622 c15 ev16 ?_
  refine z_aload_n C 0 x_Lw_law_1623 rfl ?_
  refine z_iload_n C 3 x_Lw_law_1624 rfl ?_
  refine z_iconst C x_Lw_law_1625 ?_
  refine z_iadd C x_Lw_law_1626 ?_
  obtain ⟨c17, h⟩ := chk_e h
  obtain ⟨v18, ev18, h⟩ := blet_e h
  refine zl_sld C hX hb0 x_Lw_law_1627 c17 ev18 ?_
  obtain ⟨v19, M20, fv19, h⟩ := bcall_e h
  refine zl_callVi (k := 111) C x_Lw_law_1628 cv_Lw_142 (t_Mo_outside (lev := 500) l G (by decide) fv19) nk_111 ck_111 rfl (by decide) rfl (i_le rfl) rfl ?_
  rcases ite_e h with ⟨c21, h⟩ | ⟨c21, h⟩
  · refine z_icmp_eq_t (tgt := 2054) C x_Lw_law_1631 rfl c21 ?_
    exact z_sub [0, 1, 2, 3] rfl (z_Lw_law_2054 C hX hb0 hr1 hR18 h)
  · refine z_icmp_eq_f (tgt := 2054) C x_Lw_law_1631 rfl c21 ?_
    refine z_iconst C x_Lw_law_1634 ?_
    exact absurd hr1.2 (by cases h; show ¬ ((0 : Int) = 1); decide)
def k_Lw_law_1575 (L : Nat) (sx : Nat → Int) (R18 : Int → Mem → Res) (a3 s0 s2 s3 s4 : Int) (M : Mem) : Res := bcall (d_Mo_let s2 s3 s4 M) fun v1 M2 => if w32 s0 = w32 v1 then (k_Lw_law_2054 L sx R18 a3 M2) else (some (0, M2))
theorem z_Lw_law_1575 (C : Cx p s m #[Value.ref b] meth c G b_Lw_law 4 "PrairiePoolLaw" ret) {L : Nat} {xs : Nat → Int32} (hX : va_X b L xs s s.heap) (hb0 : b < G.1 ∧ G.1 = s.heap.size) {r : Int × Mem} (hr1 : G.1 = s.heap.size ∧ r.1 = 1) {R18 : Int → Mem → Res} (hR18 : ∀ (a3 : Int) (M : Mem), R18 a3 M = some r → Z0 p l e room_1 189 39158 s m #[Value.ref b] below meth c G 4 (lw_Z below #[Value.ref b] s) (Pic G M) 18 [(0, .ref b), (1, .ref (G.1 + 0)), (2, .ref (G.1 + 111)), (3, vi a3)] []) {a3 s0 s2 s3 s4 : Int} {M : Mem} (h : k_Lw_law_1575 L (fun j => (xs j).toInt) R18 a3 s0 s2 s3 s4 M = some r) : Z0 p l e room_1 189 39158 s m #[Value.ref b] below meth c G 4 (lw_Z below #[Value.ref b] s) (Pic G M) 1575 [(0, .ref b), (1, .ref (G.1 + 0)), (2, .ref (G.1 + 111)), (3, vi a3)] [vi s4, vi s3, vi s2, .ref (G.1 + 111), vi s0] := by
  unfold k_Lw_law_1575 at h
  obtain ⟨v1, M2, fv1, h⟩ := bcall_e h
  refine zl_callVi (k := 111) C x_Lw_law_1575 cv_Lw_137 (t_Mo_let (lev := 500) l G (by decide) fv1) nk_111 ck_111 rfl (by decide) rfl (i_le rfl) rfl ?_
  rcases ite_e h with ⟨c3, h⟩ | ⟨c3, h⟩
  · refine z_icmp_eq_t (tgt := 2054) C x_Lw_law_1578 rfl c3 ?_
    exact z_sub [0, 1, 2, 3] rfl (z_Lw_law_2054 C hX hb0 hr1 hR18 h)
  · refine z_icmp_eq_f (tgt := 2054) C x_Lw_law_1578 rfl c3 ?_
    refine z_iconst C x_Lw_law_1581 ?_
    exact absurd hr1.2 (by cases h; show ¬ ((0 : Int) = 1); decide)
def k_Lw_law_1548 (L : Nat) (sx : Nat → Int) (R18 : Int → Mem → Res) (a3 s1 s2 s3 : Int) (M : Mem) : Res := bcall (d_PP_let s1 s2 s3 M) fun v1 M2 => chk (0 ≤ w32 (a3 + 1) ∧ w32 (a3 + 1) < (L : Int)) <| blet (sx (ix (a3 + 1))) fun v4 => chk (0 ≤ w32 (a3 + 2) ∧ w32 (a3 + 2) < (L : Int)) <| blet (sx (ix (a3 + 2))) fun v6 => chk (0 ≤ w32 (a3 + 3) ∧ w32 (a3 + 3) < (L : Int)) <| blet (sx (ix (a3 + 3))) fun v8 => if w32 v8 = 0 then (k_Lw_law_1575 L sx R18 a3 v1 v4 v6 0 M2) else (k_Lw_law_1575 L sx R18 a3 v1 v4 v6 1 M2)
theorem z_Lw_law_1548 (C : Cx p s m #[Value.ref b] meth c G b_Lw_law 4 "PrairiePoolLaw" ret) {L : Nat} {xs : Nat → Int32} (hX : va_X b L xs s s.heap) (hb0 : b < G.1 ∧ G.1 = s.heap.size) {r : Int × Mem} (hr1 : G.1 = s.heap.size ∧ r.1 = 1) {R18 : Int → Mem → Res} (hR18 : ∀ (a3 : Int) (M : Mem), R18 a3 M = some r → Z0 p l e room_1 189 39158 s m #[Value.ref b] below meth c G 4 (lw_Z below #[Value.ref b] s) (Pic G M) 18 [(0, .ref b), (1, .ref (G.1 + 0)), (2, .ref (G.1 + 111)), (3, vi a3)] []) {a3 s1 s2 s3 : Int} {M : Mem} (h : k_Lw_law_1548 L (fun j => (xs j).toInt) R18 a3 s1 s2 s3 M = some r) : Z0 p l e room_1 189 39158 s m #[Value.ref b] below meth c G 4 (lw_Z below #[Value.ref b] s) (Pic G M) 1548 [(0, .ref b), (1, .ref (G.1 + 0)), (2, .ref (G.1 + 111)), (3, vi a3)] [vi s3, vi s2, vi s1, .ref (G.1 + 0)] := by
  unfold k_Lw_law_1548 at h
  obtain ⟨v1, M2, fv1, h⟩ := bcall_e h
  refine zl_callVi (k := 0) C x_Lw_law_1548 cv_Lw_133 (t_PP_let (lev := 500) l G (by decide) fv1) nk_0 ck_0 rfl (by decide) rfl (i_le rfl) rfl ?_
  refine z_aload_n C 2 x_Lw_law_1551 rfl ?_
  refine z_aload_n C 0 x_Lw_law_1552 rfl ?_
  refine z_iload_n C 3 x_Lw_law_1553 rfl ?_
  refine z_iconst C x_Lw_law_1554 ?_
  refine z_iadd C x_Lw_law_1555 ?_
  obtain ⟨c3, h⟩ := chk_e h
  obtain ⟨v4, ev4, h⟩ := blet_e h
  refine zl_sld C hX hb0 x_Lw_law_1556 c3 ev4 ?_
  refine z_aload_n C 0 x_Lw_law_1557 rfl ?_
  refine z_iload_n C 3 x_Lw_law_1558 rfl ?_
  refine z_iconst C x_Lw_law_1559 ?_
  refine z_iadd C x_Lw_law_1560 ?_
  obtain ⟨c5, h⟩ := chk_e h
  obtain ⟨v6, ev6, h⟩ := blet_e h
  refine zl_sld C hX hb0 x_Lw_law_1561 c5 ev6 ?_
  refine z_aload_n C 0 x_Lw_law_1562 rfl ?_
  refine z_iload_n C 3 x_Lw_law_1563 rfl ?_
  refine z_iconst C x_Lw_law_1564 ?_
  refine z_iadd C x_Lw_law_1565 ?_
  obtain ⟨c7, h⟩ := chk_e h
  obtain ⟨v8, ev8, h⟩ := blet_e h
  refine zl_sld C hX hb0 x_Lw_law_1566 c7 ev8 ?_
  rcases ite_e h with ⟨c9, h⟩ | ⟨c9, h⟩
  · refine z_if_eq_t (tgt := 1574) C x_Lw_law_1567 rfl c9 ?_
    refine z_iconst C x_Lw_law_1574 ?_
    exact z_sub [0, 1, 2, 3] rfl (z_Lw_law_1575 C hX hb0 hr1 hR18 h)
  · refine z_if_eq_f (tgt := 1574) C x_Lw_law_1567 rfl c9 ?_
    refine z_iconst C x_Lw_law_1570 ?_
    refine z_goto (tgt := 1575) C x_Lw_law_1571 rfl ?_
    exact z_sub [0, 1, 2, 3] rfl (z_Lw_law_1575 C hX hb0 hr1 hR18 h)
def k_Lw_law_1524 (L : Nat) (sx : Nat → Int) (R18 : Int → Mem → Res) (a3 : Int) (M : Mem) : Res := chk (0 ≤ w32 (a3 + 1) ∧ w32 (a3 + 1) < (L : Int)) <| blet (sx (ix (a3 + 1))) fun v2 => chk (0 ≤ w32 (a3 + 2) ∧ w32 (a3 + 2) < (L : Int)) <| blet (sx (ix (a3 + 2))) fun v4 => chk (0 ≤ w32 (a3 + 3) ∧ w32 (a3 + 3) < (L : Int)) <| blet (sx (ix (a3 + 3))) fun v6 => if w32 v6 = 0 then (k_Lw_law_1548 L sx R18 a3 v2 v4 0 M) else (k_Lw_law_1548 L sx R18 a3 v2 v4 1 M)
theorem z_Lw_law_1524 (C : Cx p s m #[Value.ref b] meth c G b_Lw_law 4 "PrairiePoolLaw" ret) {L : Nat} {xs : Nat → Int32} (hX : va_X b L xs s s.heap) (hb0 : b < G.1 ∧ G.1 = s.heap.size) {r : Int × Mem} (hr1 : G.1 = s.heap.size ∧ r.1 = 1) {R18 : Int → Mem → Res} (hR18 : ∀ (a3 : Int) (M : Mem), R18 a3 M = some r → Z0 p l e room_1 189 39158 s m #[Value.ref b] below meth c G 4 (lw_Z below #[Value.ref b] s) (Pic G M) 18 [(0, .ref b), (1, .ref (G.1 + 0)), (2, .ref (G.1 + 111)), (3, vi a3)] []) {a3 : Int} {M : Mem} (h : k_Lw_law_1524 L (fun j => (xs j).toInt) R18 a3 M = some r) : Z0 p l e room_1 189 39158 s m #[Value.ref b] below meth c G 4 (lw_Z below #[Value.ref b] s) (Pic G M) 1524 [(0, .ref b), (1, .ref (G.1 + 0)), (2, .ref (G.1 + 111)), (3, vi a3)] [] := by
  unfold k_Lw_law_1524 at h
  refine z_aload_n C 1 x_Lw_law_1524 rfl ?_
  refine z_aload_n C 0 x_Lw_law_1525 rfl ?_
  refine z_iload_n C 3 x_Lw_law_1526 rfl ?_
  refine z_iconst C x_Lw_law_1527 ?_
  refine z_iadd C x_Lw_law_1528 ?_
  obtain ⟨c1, h⟩ := chk_e h
  obtain ⟨v2, ev2, h⟩ := blet_e h
  refine zl_sld C hX hb0 x_Lw_law_1529 c1 ev2 ?_
  refine z_aload_n C 0 x_Lw_law_1530 rfl ?_
  refine z_iload_n C 3 x_Lw_law_1531 rfl ?_
  refine z_iconst C x_Lw_law_1532 ?_
  refine z_iadd C x_Lw_law_1533 ?_
  obtain ⟨c3, h⟩ := chk_e h
  obtain ⟨v4, ev4, h⟩ := blet_e h
  refine zl_sld C hX hb0 x_Lw_law_1534 c3 ev4 ?_
  refine z_aload_n C 0 x_Lw_law_1535 rfl ?_
  refine z_iload_n C 3 x_Lw_law_1536 rfl ?_
  refine z_iconst C x_Lw_law_1537 ?_
  refine z_iadd C x_Lw_law_1538 ?_
  obtain ⟨c5, h⟩ := chk_e h
  obtain ⟨v6, ev6, h⟩ := blet_e h
  refine zl_sld C hX hb0 x_Lw_law_1539 c5 ev6 ?_
  rcases ite_e h with ⟨c7, h⟩ | ⟨c7, h⟩
  · refine z_if_eq_t (tgt := 1547) C x_Lw_law_1540 rfl c7 ?_
    refine z_iconst C x_Lw_law_1547 ?_
    exact z_sub [0, 1, 2, 3] rfl (z_Lw_law_1548 C hX hb0 hr1 hR18 h)
  · refine z_if_eq_f (tgt := 1547) C x_Lw_law_1540 rfl c7 ?_
    refine z_iconst C x_Lw_law_1543 ?_
    refine z_goto (tgt := 1548) C x_Lw_law_1544 rfl ?_
    exact z_sub [0, 1, 2, 3] rfl (z_Lw_law_1548 C hX hb0 hr1 hR18 h)
def k_Lw_law_1481 (L : Nat) (sx : Nat → Int) (R18 : Int → Mem → Res) (a3 : Int) (M : Mem) : Res := chk (0 ≤ w32 (a3 + 1) ∧ w32 (a3 + 1) < (L : Int)) <| blet (sx (ix (a3 + 1))) fun v2 => chk (0 ≤ w32 (a3 + 2) ∧ w32 (a3 + 2) < (L : Int)) <| blet (sx (ix (a3 + 2))) fun v4 => chk (0 ≤ w32 (a3 + 3) ∧ w32 (a3 + 3) < (L : Int)) <| blet (sx (ix (a3 + 3))) fun v6 => bcall (d_PP_sign v2 v4 v6 M) fun v7 M8 => chk (0 ≤ w32 (a3 + 1) ∧ w32 (a3 + 1) < (L : Int)) <| blet (sx (ix (a3 + 1))) fun v10 => chk (0 ≤ w32 (a3 + 2) ∧ w32 (a3 + 2) < (L : Int)) <| blet (sx (ix (a3 + 2))) fun v12 => chk (0 ≤ w32 (a3 + 3) ∧ w32 (a3 + 3) < (L : Int)) <| blet (sx (ix (a3 + 3))) fun v14 => bcall (d_Mo_sign v10 v12 v14 M8) fun v15 M16 => if w32 v7 = w32 v15 then (k_Lw_law_2054 L sx R18 a3 M16) else (some (0, M16))
theorem z_Lw_law_1481 (C : Cx p s m #[Value.ref b] meth c G b_Lw_law 4 "PrairiePoolLaw" ret) {L : Nat} {xs : Nat → Int32} (hX : va_X b L xs s s.heap) (hb0 : b < G.1 ∧ G.1 = s.heap.size) {r : Int × Mem} (hr1 : G.1 = s.heap.size ∧ r.1 = 1) {R18 : Int → Mem → Res} (hR18 : ∀ (a3 : Int) (M : Mem), R18 a3 M = some r → Z0 p l e room_1 189 39158 s m #[Value.ref b] below meth c G 4 (lw_Z below #[Value.ref b] s) (Pic G M) 18 [(0, .ref b), (1, .ref (G.1 + 0)), (2, .ref (G.1 + 111)), (3, vi a3)] []) {a3 : Int} {M : Mem} (h : k_Lw_law_1481 L (fun j => (xs j).toInt) R18 a3 M = some r) : Z0 p l e room_1 189 39158 s m #[Value.ref b] below meth c G 4 (lw_Z below #[Value.ref b] s) (Pic G M) 1481 [(0, .ref b), (1, .ref (G.1 + 0)), (2, .ref (G.1 + 111)), (3, vi a3)] [] := by
  unfold k_Lw_law_1481 at h
  refine z_aload_n C 1 x_Lw_law_1481 rfl ?_
  refine z_aload_n C 0 x_Lw_law_1482 rfl ?_
  refine z_iload_n C 3 x_Lw_law_1483 rfl ?_
  refine z_iconst C x_Lw_law_1484 ?_
  refine z_iadd C x_Lw_law_1485 ?_
  obtain ⟨c1, h⟩ := chk_e h
  obtain ⟨v2, ev2, h⟩ := blet_e h
  refine zl_sld C hX hb0 x_Lw_law_1486 c1 ev2 ?_
  refine z_aload_n C 0 x_Lw_law_1487 rfl ?_
  refine z_iload_n C 3 x_Lw_law_1488 rfl ?_
  refine z_iconst C x_Lw_law_1489 ?_
  refine z_iadd C x_Lw_law_1490 ?_
  obtain ⟨c3, h⟩ := chk_e h
  obtain ⟨v4, ev4, h⟩ := blet_e h
  refine zl_sld C hX hb0 x_Lw_law_1491 c3 ev4 ?_
  refine z_aload_n C 0 x_Lw_law_1492 rfl ?_
  refine z_iload_n C 3 x_Lw_law_1493 rfl ?_
  refine z_iconst C x_Lw_law_1494 ?_
  refine z_iadd C x_Lw_law_1495 ?_
  obtain ⟨c5, h⟩ := chk_e h
  obtain ⟨v6, ev6, h⟩ := blet_e h
  refine zl_sld C hX hb0 x_Lw_law_1496 c5 ev6 ?_
  obtain ⟨v7, M8, fv7, h⟩ := bcall_e h
  refine zl_callVi (k := 0) C x_Lw_law_1497 cv_Lw_129 (t_PP_sign (lev := 500) l G (by decide) fv7) nk_0 ck_0 rfl (by decide) rfl (i_le rfl) rfl ?_
  refine z_aload_n C 2 x_Lw_law_1500 rfl ?_
  refine z_aload_n C 0 x_Lw_law_1501 rfl ?_
  refine z_iload_n C 3 x_Lw_law_1502 rfl ?_
  refine z_iconst C x_Lw_law_1503 ?_
  refine z_iadd C x_Lw_law_1504 ?_
  obtain ⟨c9, h⟩ := chk_e h
  obtain ⟨v10, ev10, h⟩ := blet_e h
  refine zl_sld C hX hb0 x_Lw_law_1505 c9 ev10 ?_
  refine z_aload_n C 0 x_Lw_law_1506 rfl ?_
  refine z_iload_n C 3 x_Lw_law_1507 rfl ?_
  refine z_iconst C x_Lw_law_1508 ?_
  refine z_iadd C x_Lw_law_1509 ?_
  obtain ⟨c11, h⟩ := chk_e h
  obtain ⟨v12, ev12, h⟩ := blet_e h
  refine zl_sld C hX hb0 x_Lw_law_1510 c11 ev12 ?_
  refine z_aload_n C 0 x_Lw_law_1511 rfl ?_
  refine z_iload_n C 3 x_Lw_law_1512 rfl ?_
  refine z_iconst C x_Lw_law_1513 ?_
  refine z_iadd C x_Lw_law_1514 ?_
  obtain ⟨c13, h⟩ := chk_e h
  obtain ⟨v14, ev14, h⟩ := blet_e h
  refine zl_sld C hX hb0 x_Lw_law_1515 c13 ev14 ?_
  obtain ⟨v15, M16, fv15, h⟩ := bcall_e h
  refine zl_callVi (k := 111) C x_Lw_law_1516 cv_Lw_132 (t_Mo_sign (lev := 500) l G (by decide) fv15) nk_111 ck_111 rfl (by decide) rfl (i_le rfl) rfl ?_
  rcases ite_e h with ⟨c17, h⟩ | ⟨c17, h⟩
  · refine z_icmp_eq_t (tgt := 2054) C x_Lw_law_1519 rfl c17 ?_
    exact z_sub [0, 1, 2, 3] rfl (z_Lw_law_2054 C hX hb0 hr1 hR18 h)
  · refine z_icmp_eq_f (tgt := 2054) C x_Lw_law_1519 rfl c17 ?_
    refine z_iconst C x_Lw_law_1522 ?_
    exact absurd hr1.2 (by cases h; show ¬ ((0 : Int) = 1); decide)
def k_Lw_law_1438 (L : Nat) (sx : Nat → Int) (R18 : Int → Mem → Res) (a3 : Int) (M : Mem) : Res := chk (0 ≤ w32 (a3 + 1) ∧ w32 (a3 + 1) < (L : Int)) <| blet (sx (ix (a3 + 1))) fun v2 => chk (0 ≤ w32 (a3 + 2) ∧ w32 (a3 + 2) < (L : Int)) <| blet (sx (ix (a3 + 2))) fun v4 => chk (0 ≤ w32 (a3 + 3) ∧ w32 (a3 + 3) < (L : Int)) <| blet (sx (ix (a3 + 3))) fun v6 => bcall (d_PP_turns v2 v4 v6 M) fun v7 M8 => chk (0 ≤ w32 (a3 + 1) ∧ w32 (a3 + 1) < (L : Int)) <| blet (sx (ix (a3 + 1))) fun v10 => chk (0 ≤ w32 (a3 + 2) ∧ w32 (a3 + 2) < (L : Int)) <| blet (sx (ix (a3 + 2))) fun v12 => chk (0 ≤ w32 (a3 + 3) ∧ w32 (a3 + 3) < (L : Int)) <| blet (sx (ix (a3 + 3))) fun v14 => bcall (d_Mo_turns v10 v12 v14 M8) fun v15 M16 => if w32 v7 = w32 v15 then (k_Lw_law_2054 L sx R18 a3 M16) else (some (0, M16))
theorem z_Lw_law_1438 (C : Cx p s m #[Value.ref b] meth c G b_Lw_law 4 "PrairiePoolLaw" ret) {L : Nat} {xs : Nat → Int32} (hX : va_X b L xs s s.heap) (hb0 : b < G.1 ∧ G.1 = s.heap.size) {r : Int × Mem} (hr1 : G.1 = s.heap.size ∧ r.1 = 1) {R18 : Int → Mem → Res} (hR18 : ∀ (a3 : Int) (M : Mem), R18 a3 M = some r → Z0 p l e room_1 189 39158 s m #[Value.ref b] below meth c G 4 (lw_Z below #[Value.ref b] s) (Pic G M) 18 [(0, .ref b), (1, .ref (G.1 + 0)), (2, .ref (G.1 + 111)), (3, vi a3)] []) {a3 : Int} {M : Mem} (h : k_Lw_law_1438 L (fun j => (xs j).toInt) R18 a3 M = some r) : Z0 p l e room_1 189 39158 s m #[Value.ref b] below meth c G 4 (lw_Z below #[Value.ref b] s) (Pic G M) 1438 [(0, .ref b), (1, .ref (G.1 + 0)), (2, .ref (G.1 + 111)), (3, vi a3)] [] := by
  unfold k_Lw_law_1438 at h
  refine z_aload_n C 1 x_Lw_law_1438 rfl ?_
  refine z_aload_n C 0 x_Lw_law_1439 rfl ?_
  refine z_iload_n C 3 x_Lw_law_1440 rfl ?_
  refine z_iconst C x_Lw_law_1441 ?_
  refine z_iadd C x_Lw_law_1442 ?_
  obtain ⟨c1, h⟩ := chk_e h
  obtain ⟨v2, ev2, h⟩ := blet_e h
  refine zl_sld C hX hb0 x_Lw_law_1443 c1 ev2 ?_
  refine z_aload_n C 0 x_Lw_law_1444 rfl ?_
  refine z_iload_n C 3 x_Lw_law_1445 rfl ?_
  refine z_iconst C x_Lw_law_1446 ?_
  refine z_iadd C x_Lw_law_1447 ?_
  obtain ⟨c3, h⟩ := chk_e h
  obtain ⟨v4, ev4, h⟩ := blet_e h
  refine zl_sld C hX hb0 x_Lw_law_1448 c3 ev4 ?_
  refine z_aload_n C 0 x_Lw_law_1449 rfl ?_
  refine z_iload_n C 3 x_Lw_law_1450 rfl ?_
  refine z_iconst C x_Lw_law_1451 ?_
  refine z_iadd C x_Lw_law_1452 ?_
  obtain ⟨c5, h⟩ := chk_e h
  obtain ⟨v6, ev6, h⟩ := blet_e h
  refine zl_sld C hX hb0 x_Lw_law_1453 c5 ev6 ?_
  obtain ⟨v7, M8, fv7, h⟩ := bcall_e h
  refine zl_callVi (k := 0) C x_Lw_law_1454 cv_Lw_125 (t_PP_turns (lev := 500) l G (by decide) fv7) nk_0 ck_0 rfl (by decide) rfl (i_le rfl) rfl ?_
  refine z_aload_n C 2 x_Lw_law_1457 rfl ?_
  refine z_aload_n C 0 x_Lw_law_1458 rfl ?_
  refine z_iload_n C 3 x_Lw_law_1459 rfl ?_
  refine z_iconst C x_Lw_law_1460 ?_
  refine z_iadd C x_Lw_law_1461 ?_
  obtain ⟨c9, h⟩ := chk_e h
  obtain ⟨v10, ev10, h⟩ := blet_e h
  refine zl_sld C hX hb0 x_Lw_law_1462 c9 ev10 ?_
  refine z_aload_n C 0 x_Lw_law_1463 rfl ?_
  refine z_iload_n C 3 x_Lw_law_1464 rfl ?_
  refine z_iconst C x_Lw_law_1465 ?_
  refine z_iadd C x_Lw_law_1466 ?_
  obtain ⟨c11, h⟩ := chk_e h
  obtain ⟨v12, ev12, h⟩ := blet_e h
  refine zl_sld C hX hb0 x_Lw_law_1467 c11 ev12 ?_
  refine z_aload_n C 0 x_Lw_law_1468 rfl ?_
  refine z_iload_n C 3 x_Lw_law_1469 rfl ?_
  refine z_iconst C x_Lw_law_1470 ?_
  refine z_iadd C x_Lw_law_1471 ?_
  obtain ⟨c13, h⟩ := chk_e h
  obtain ⟨v14, ev14, h⟩ := blet_e h
  refine zl_sld C hX hb0 x_Lw_law_1472 c13 ev14 ?_
  obtain ⟨v15, M16, fv15, h⟩ := bcall_e h
  refine zl_callVi (k := 111) C x_Lw_law_1473 cv_Lw_128 (t_Mo_turns (lev := 500) l G (by decide) fv15) nk_111 ck_111 rfl (by decide) rfl (i_le rfl) rfl ?_
  rcases ite_e h with ⟨c17, h⟩ | ⟨c17, h⟩
  · refine z_icmp_eq_t (tgt := 2054) C x_Lw_law_1476 rfl c17 ?_
    exact z_sub [0, 1, 2, 3] rfl (z_Lw_law_2054 C hX hb0 hr1 hR18 h)
  · refine z_icmp_eq_f (tgt := 2054) C x_Lw_law_1476 rfl c17 ?_
    refine z_iconst C x_Lw_law_1479 ?_
    exact absurd hr1.2 (by cases h; show ¬ ((0 : Int) = 1); decide)
def k_Lw_law_1394 (L : Nat) (sx : Nat → Int) (R18 : Int → Mem → Res) (a3 : Int) (M : Mem) : Res := chk (0 ≤ w32 (a3 + 1) ∧ w32 (a3 + 1) < (L : Int)) <| blet (sx (ix (a3 + 1))) fun v2 => chk (0 ≤ w32 (a3 + 2) ∧ w32 (a3 + 2) < (L : Int)) <| blet (sx (ix (a3 + 2))) fun v4 => chk (0 ≤ w32 (a3 + 3) ∧ w32 (a3 + 3) < (L : Int)) <| blet (sx (ix (a3 + 3))) fun v6 => bcall (d_PP_owed v2 v4 v6 M) fun v7 M8 => chk (0 ≤ w32 (a3 + 1) ∧ w32 (a3 + 1) < (L : Int)) <| blet (sx (ix (a3 + 1))) fun v10 => chk (0 ≤ w32 (a3 + 2) ∧ w32 (a3 + 2) < (L : Int)) <| blet (sx (ix (a3 + 2))) fun v12 => chk (0 ≤ w32 (a3 + 3) ∧ w32 (a3 + 3) < (L : Int)) <| blet (sx (ix (a3 + 3))) fun v14 => bcall (d_Mo_owed v10 v12 v14 M8) fun v15 M16 => if w64 v7 = w64 v15 then (k_Lw_law_2054 L sx R18 a3 M16) else (some (0, M16))
theorem z_Lw_law_1394 (C : Cx p s m #[Value.ref b] meth c G b_Lw_law 4 "PrairiePoolLaw" ret) {L : Nat} {xs : Nat → Int32} (hX : va_X b L xs s s.heap) (hb0 : b < G.1 ∧ G.1 = s.heap.size) {r : Int × Mem} (hr1 : G.1 = s.heap.size ∧ r.1 = 1) {R18 : Int → Mem → Res} (hR18 : ∀ (a3 : Int) (M : Mem), R18 a3 M = some r → Z0 p l e room_1 189 39158 s m #[Value.ref b] below meth c G 4 (lw_Z below #[Value.ref b] s) (Pic G M) 18 [(0, .ref b), (1, .ref (G.1 + 0)), (2, .ref (G.1 + 111)), (3, vi a3)] []) {a3 : Int} {M : Mem} (h : k_Lw_law_1394 L (fun j => (xs j).toInt) R18 a3 M = some r) : Z0 p l e room_1 189 39158 s m #[Value.ref b] below meth c G 4 (lw_Z below #[Value.ref b] s) (Pic G M) 1394 [(0, .ref b), (1, .ref (G.1 + 0)), (2, .ref (G.1 + 111)), (3, vi a3)] [] := by
  unfold k_Lw_law_1394 at h
  refine z_aload_n C 1 x_Lw_law_1394 rfl ?_
  refine z_aload_n C 0 x_Lw_law_1395 rfl ?_
  refine z_iload_n C 3 x_Lw_law_1396 rfl ?_
  refine z_iconst C x_Lw_law_1397 ?_
  refine z_iadd C x_Lw_law_1398 ?_
  obtain ⟨c1, h⟩ := chk_e h
  obtain ⟨v2, ev2, h⟩ := blet_e h
  refine zl_sld C hX hb0 x_Lw_law_1399 c1 ev2 ?_
  refine z_aload_n C 0 x_Lw_law_1400 rfl ?_
  refine z_iload_n C 3 x_Lw_law_1401 rfl ?_
  refine z_iconst C x_Lw_law_1402 ?_
  refine z_iadd C x_Lw_law_1403 ?_
  obtain ⟨c3, h⟩ := chk_e h
  obtain ⟨v4, ev4, h⟩ := blet_e h
  refine zl_sld C hX hb0 x_Lw_law_1404 c3 ev4 ?_
  refine z_aload_n C 0 x_Lw_law_1405 rfl ?_
  refine z_iload_n C 3 x_Lw_law_1406 rfl ?_
  refine z_iconst C x_Lw_law_1407 ?_
  refine z_iadd C x_Lw_law_1408 ?_
  obtain ⟨c5, h⟩ := chk_e h
  obtain ⟨v6, ev6, h⟩ := blet_e h
  refine zl_sld C hX hb0 x_Lw_law_1409 c5 ev6 ?_
  obtain ⟨v7, M8, fv7, h⟩ := bcall_e h
  refine zl_callVl (k := 0) C x_Lw_law_1410 cv_Lw_121 (t_PP_owed (lev := 500) l G (by decide) fv7) nk_0 ck_0 rfl (by decide) rfl (i_le rfl) rfl ?_
  refine z_aload_n C 2 x_Lw_law_1413 rfl ?_
  refine z_aload_n C 0 x_Lw_law_1414 rfl ?_
  refine z_iload_n C 3 x_Lw_law_1415 rfl ?_
  refine z_iconst C x_Lw_law_1416 ?_
  refine z_iadd C x_Lw_law_1417 ?_
  obtain ⟨c9, h⟩ := chk_e h
  obtain ⟨v10, ev10, h⟩ := blet_e h
  refine zl_sld C hX hb0 x_Lw_law_1418 c9 ev10 ?_
  refine z_aload_n C 0 x_Lw_law_1419 rfl ?_
  refine z_iload_n C 3 x_Lw_law_1420 rfl ?_
  refine z_iconst C x_Lw_law_1421 ?_
  refine z_iadd C x_Lw_law_1422 ?_
  obtain ⟨c11, h⟩ := chk_e h
  obtain ⟨v12, ev12, h⟩ := blet_e h
  refine zl_sld C hX hb0 x_Lw_law_1423 c11 ev12 ?_
  refine z_aload_n C 0 x_Lw_law_1424 rfl ?_
  refine z_iload_n C 3 x_Lw_law_1425 rfl ?_
  refine z_iconst C x_Lw_law_1426 ?_
  refine z_iadd C x_Lw_law_1427 ?_
  obtain ⟨c13, h⟩ := chk_e h
  obtain ⟨v14, ev14, h⟩ := blet_e h
  refine zl_sld C hX hb0 x_Lw_law_1428 c13 ev14 ?_
  obtain ⟨v15, M16, fv15, h⟩ := bcall_e h
  refine zl_callVl (k := 111) C x_Lw_law_1429 cv_Lw_124 (t_Mo_owed (lev := 500) l G (by decide) fv15) nk_111 ck_111 rfl (by decide) rfl (i_le rfl) rfl ?_
  refine z_lcmp C x_Lw_law_1432 ?_
  rcases ite_e h with ⟨c17, h⟩ | ⟨c17, h⟩
  · refine z_if_eq_t (tgt := 2054) C x_Lw_law_1433 rfl (cm_eqz.mpr c17) ?_
    exact z_sub [0, 1, 2, 3] rfl (z_Lw_law_2054 C hX hb0 hr1 hR18 h)
  · refine z_if_eq_f (tgt := 2054) C x_Lw_law_1433 rfl (fun q => c17 (cm_eqz.mp q)) ?_
    refine z_iconst C x_Lw_law_1436 ?_
    exact absurd hr1.2 (by cases h; show ¬ ((0 : Int) = 1); decide)
def k_Lw_law_1350 (L : Nat) (sx : Nat → Int) (R18 : Int → Mem → Res) (a3 : Int) (M : Mem) : Res := chk (0 ≤ w32 (a3 + 1) ∧ w32 (a3 + 1) < (L : Int)) <| blet (sx (ix (a3 + 1))) fun v2 => chk (0 ≤ w32 (a3 + 2) ∧ w32 (a3 + 2) < (L : Int)) <| blet (sx (ix (a3 + 2))) fun v4 => chk (0 ≤ w32 (a3 + 3) ∧ w32 (a3 + 3) < (L : Int)) <| blet (sx (ix (a3 + 3))) fun v6 => bcall (d_PP_below v2 v4 v6 M) fun v7 M8 => chk (0 ≤ w32 (a3 + 1) ∧ w32 (a3 + 1) < (L : Int)) <| blet (sx (ix (a3 + 1))) fun v10 => chk (0 ≤ w32 (a3 + 2) ∧ w32 (a3 + 2) < (L : Int)) <| blet (sx (ix (a3 + 2))) fun v12 => chk (0 ≤ w32 (a3 + 3) ∧ w32 (a3 + 3) < (L : Int)) <| blet (sx (ix (a3 + 3))) fun v14 => bcall (d_Mo_below v10 v12 v14 M8) fun v15 M16 => if w64 v7 = w64 v15 then (k_Lw_law_2054 L sx R18 a3 M16) else (some (0, M16))
theorem z_Lw_law_1350 (C : Cx p s m #[Value.ref b] meth c G b_Lw_law 4 "PrairiePoolLaw" ret) {L : Nat} {xs : Nat → Int32} (hX : va_X b L xs s s.heap) (hb0 : b < G.1 ∧ G.1 = s.heap.size) {r : Int × Mem} (hr1 : G.1 = s.heap.size ∧ r.1 = 1) {R18 : Int → Mem → Res} (hR18 : ∀ (a3 : Int) (M : Mem), R18 a3 M = some r → Z0 p l e room_1 189 39158 s m #[Value.ref b] below meth c G 4 (lw_Z below #[Value.ref b] s) (Pic G M) 18 [(0, .ref b), (1, .ref (G.1 + 0)), (2, .ref (G.1 + 111)), (3, vi a3)] []) {a3 : Int} {M : Mem} (h : k_Lw_law_1350 L (fun j => (xs j).toInt) R18 a3 M = some r) : Z0 p l e room_1 189 39158 s m #[Value.ref b] below meth c G 4 (lw_Z below #[Value.ref b] s) (Pic G M) 1350 [(0, .ref b), (1, .ref (G.1 + 0)), (2, .ref (G.1 + 111)), (3, vi a3)] [] := by
  unfold k_Lw_law_1350 at h
  refine z_aload_n C 1 x_Lw_law_1350 rfl ?_
  refine z_aload_n C 0 x_Lw_law_1351 rfl ?_
  refine z_iload_n C 3 x_Lw_law_1352 rfl ?_
  refine z_iconst C x_Lw_law_1353 ?_
  refine z_iadd C x_Lw_law_1354 ?_
  obtain ⟨c1, h⟩ := chk_e h
  obtain ⟨v2, ev2, h⟩ := blet_e h
  refine zl_sld C hX hb0 x_Lw_law_1355 c1 ev2 ?_
  refine z_aload_n C 0 x_Lw_law_1356 rfl ?_
  refine z_iload_n C 3 x_Lw_law_1357 rfl ?_
  refine z_iconst C x_Lw_law_1358 ?_
  refine z_iadd C x_Lw_law_1359 ?_
  obtain ⟨c3, h⟩ := chk_e h
  obtain ⟨v4, ev4, h⟩ := blet_e h
  refine zl_sld C hX hb0 x_Lw_law_1360 c3 ev4 ?_
  refine z_aload_n C 0 x_Lw_law_1361 rfl ?_
  refine z_iload_n C 3 x_Lw_law_1362 rfl ?_
  refine z_iconst C x_Lw_law_1363 ?_
  refine z_iadd C x_Lw_law_1364 ?_
  obtain ⟨c5, h⟩ := chk_e h
  obtain ⟨v6, ev6, h⟩ := blet_e h
  refine zl_sld C hX hb0 x_Lw_law_1365 c5 ev6 ?_
  obtain ⟨v7, M8, fv7, h⟩ := bcall_e h
  refine zl_callVl (k := 0) C x_Lw_law_1366 cv_Lw_117 (t_PP_below (lev := 500) l G (by decide) fv7) nk_0 ck_0 rfl (by decide) rfl (i_le rfl) rfl ?_
  refine z_aload_n C 2 x_Lw_law_1369 rfl ?_
  refine z_aload_n C 0 x_Lw_law_1370 rfl ?_
  refine z_iload_n C 3 x_Lw_law_1371 rfl ?_
  refine z_iconst C x_Lw_law_1372 ?_
  refine z_iadd C x_Lw_law_1373 ?_
  obtain ⟨c9, h⟩ := chk_e h
  obtain ⟨v10, ev10, h⟩ := blet_e h
  refine zl_sld C hX hb0 x_Lw_law_1374 c9 ev10 ?_
  refine z_aload_n C 0 x_Lw_law_1375 rfl ?_
  refine z_iload_n C 3 x_Lw_law_1376 rfl ?_
  refine z_iconst C x_Lw_law_1377 ?_
  refine z_iadd C x_Lw_law_1378 ?_
  obtain ⟨c11, h⟩ := chk_e h
  obtain ⟨v12, ev12, h⟩ := blet_e h
  refine zl_sld C hX hb0 x_Lw_law_1379 c11 ev12 ?_
  refine z_aload_n C 0 x_Lw_law_1380 rfl ?_
  refine z_iload_n C 3 x_Lw_law_1381 rfl ?_
  refine z_iconst C x_Lw_law_1382 ?_
  refine z_iadd C x_Lw_law_1383 ?_
  obtain ⟨c13, h⟩ := chk_e h
  obtain ⟨v14, ev14, h⟩ := blet_e h
  refine zl_sld C hX hb0 x_Lw_law_1384 c13 ev14 ?_
  obtain ⟨v15, M16, fv15, h⟩ := bcall_e h
  refine zl_callVl (k := 111) C x_Lw_law_1385 cv_Lw_120 (t_Mo_below (lev := 500) l G (by decide) fv15) nk_111 ck_111 rfl (by decide) rfl (i_le rfl) rfl ?_
  refine z_lcmp C x_Lw_law_1388 ?_
  rcases ite_e h with ⟨c17, h⟩ | ⟨c17, h⟩
  · refine z_if_eq_t (tgt := 2054) C x_Lw_law_1389 rfl (cm_eqz.mpr c17) ?_
    exact z_sub [0, 1, 2, 3] rfl (z_Lw_law_2054 C hX hb0 hr1 hR18 h)
  · refine z_if_eq_f (tgt := 2054) C x_Lw_law_1389 rfl (fun q => c17 (cm_eqz.mp q)) ?_
    refine z_iconst C x_Lw_law_1392 ?_
    exact absurd hr1.2 (by cases h; show ¬ ((0 : Int) = 1); decide)
def k_Lw_law_1306 (L : Nat) (sx : Nat → Int) (R18 : Int → Mem → Res) (a3 : Int) (M : Mem) : Res := chk (0 ≤ w32 (a3 + 1) ∧ w32 (a3 + 1) < (L : Int)) <| blet (sx (ix (a3 + 1))) fun v2 => chk (0 ≤ w32 (a3 + 2) ∧ w32 (a3 + 2) < (L : Int)) <| blet (sx (ix (a3 + 2))) fun v4 => chk (0 ≤ w32 (a3 + 3) ∧ w32 (a3 + 3) < (L : Int)) <| blet (sx (ix (a3 + 3))) fun v6 => bcall (d_PP_first v2 v4 v6 M) fun v7 M8 => chk (0 ≤ w32 (a3 + 1) ∧ w32 (a3 + 1) < (L : Int)) <| blet (sx (ix (a3 + 1))) fun v10 => chk (0 ≤ w32 (a3 + 2) ∧ w32 (a3 + 2) < (L : Int)) <| blet (sx (ix (a3 + 2))) fun v12 => chk (0 ≤ w32 (a3 + 3) ∧ w32 (a3 + 3) < (L : Int)) <| blet (sx (ix (a3 + 3))) fun v14 => bcall (d_Mo_first v10 v12 v14 M8) fun v15 M16 => if w64 v7 = w64 v15 then (k_Lw_law_2054 L sx R18 a3 M16) else (some (0, M16))
theorem z_Lw_law_1306 (C : Cx p s m #[Value.ref b] meth c G b_Lw_law 4 "PrairiePoolLaw" ret) {L : Nat} {xs : Nat → Int32} (hX : va_X b L xs s s.heap) (hb0 : b < G.1 ∧ G.1 = s.heap.size) {r : Int × Mem} (hr1 : G.1 = s.heap.size ∧ r.1 = 1) {R18 : Int → Mem → Res} (hR18 : ∀ (a3 : Int) (M : Mem), R18 a3 M = some r → Z0 p l e room_1 189 39158 s m #[Value.ref b] below meth c G 4 (lw_Z below #[Value.ref b] s) (Pic G M) 18 [(0, .ref b), (1, .ref (G.1 + 0)), (2, .ref (G.1 + 111)), (3, vi a3)] []) {a3 : Int} {M : Mem} (h : k_Lw_law_1306 L (fun j => (xs j).toInt) R18 a3 M = some r) : Z0 p l e room_1 189 39158 s m #[Value.ref b] below meth c G 4 (lw_Z below #[Value.ref b] s) (Pic G M) 1306 [(0, .ref b), (1, .ref (G.1 + 0)), (2, .ref (G.1 + 111)), (3, vi a3)] [] := by
  unfold k_Lw_law_1306 at h
  refine z_aload_n C 1 x_Lw_law_1306 rfl ?_
  refine z_aload_n C 0 x_Lw_law_1307 rfl ?_
  refine z_iload_n C 3 x_Lw_law_1308 rfl ?_
  refine z_iconst C x_Lw_law_1309 ?_
  refine z_iadd C x_Lw_law_1310 ?_
  obtain ⟨c1, h⟩ := chk_e h
  obtain ⟨v2, ev2, h⟩ := blet_e h
  refine zl_sld C hX hb0 x_Lw_law_1311 c1 ev2 ?_
  refine z_aload_n C 0 x_Lw_law_1312 rfl ?_
  refine z_iload_n C 3 x_Lw_law_1313 rfl ?_
  refine z_iconst C x_Lw_law_1314 ?_
  refine z_iadd C x_Lw_law_1315 ?_
  obtain ⟨c3, h⟩ := chk_e h
  obtain ⟨v4, ev4, h⟩ := blet_e h
  refine zl_sld C hX hb0 x_Lw_law_1316 c3 ev4 ?_
  refine z_aload_n C 0 x_Lw_law_1317 rfl ?_
  refine z_iload_n C 3 x_Lw_law_1318 rfl ?_
  refine z_iconst C x_Lw_law_1319 ?_
  refine z_iadd C x_Lw_law_1320 ?_
  obtain ⟨c5, h⟩ := chk_e h
  obtain ⟨v6, ev6, h⟩ := blet_e h
  refine zl_sld C hX hb0 x_Lw_law_1321 c5 ev6 ?_
  obtain ⟨v7, M8, fv7, h⟩ := bcall_e h
  refine zl_callVl (k := 0) C x_Lw_law_1322 cv_Lw_113 (t_PP_first (lev := 500) l G (by decide) fv7) nk_0 ck_0 rfl (by decide) rfl (i_le rfl) rfl ?_
  refine z_aload_n C 2 x_Lw_law_1325 rfl ?_
  refine z_aload_n C 0 x_Lw_law_1326 rfl ?_
  refine z_iload_n C 3 x_Lw_law_1327 rfl ?_
  refine z_iconst C x_Lw_law_1328 ?_
  refine z_iadd C x_Lw_law_1329 ?_
  obtain ⟨c9, h⟩ := chk_e h
  obtain ⟨v10, ev10, h⟩ := blet_e h
  refine zl_sld C hX hb0 x_Lw_law_1330 c9 ev10 ?_
  refine z_aload_n C 0 x_Lw_law_1331 rfl ?_
  refine z_iload_n C 3 x_Lw_law_1332 rfl ?_
  refine z_iconst C x_Lw_law_1333 ?_
  refine z_iadd C x_Lw_law_1334 ?_
  obtain ⟨c11, h⟩ := chk_e h
  obtain ⟨v12, ev12, h⟩ := blet_e h
  refine zl_sld C hX hb0 x_Lw_law_1335 c11 ev12 ?_
  refine z_aload_n C 0 x_Lw_law_1336 rfl ?_
  refine z_iload_n C 3 x_Lw_law_1337 rfl ?_
  refine z_iconst C x_Lw_law_1338 ?_
  refine z_iadd C x_Lw_law_1339 ?_
  obtain ⟨c13, h⟩ := chk_e h
  obtain ⟨v14, ev14, h⟩ := blet_e h
  refine zl_sld C hX hb0 x_Lw_law_1340 c13 ev14 ?_
  obtain ⟨v15, M16, fv15, h⟩ := bcall_e h
  refine zl_callVl (k := 111) C x_Lw_law_1341 cv_Lw_116 (t_Mo_first (lev := 500) l G (by decide) fv15) nk_111 ck_111 rfl (by decide) rfl (i_le rfl) rfl ?_
  refine z_lcmp C x_Lw_law_1344 ?_
  rcases ite_e h with ⟨c17, h⟩ | ⟨c17, h⟩
  · refine z_if_eq_t (tgt := 2054) C x_Lw_law_1345 rfl (cm_eqz.mpr c17) ?_
    exact z_sub [0, 1, 2, 3] rfl (z_Lw_law_2054 C hX hb0 hr1 hR18 h)
  · refine z_if_eq_f (tgt := 2054) C x_Lw_law_1345 rfl (fun q => c17 (cm_eqz.mp q)) ?_
    refine z_iconst C x_Lw_law_1348 ?_
    exact absurd hr1.2 (by cases h; show ¬ ((0 : Int) = 1); decide)
def k_Lw_law_1262 (L : Nat) (sx : Nat → Int) (R18 : Int → Mem → Res) (a3 : Int) (M : Mem) : Res := chk (0 ≤ w32 (a3 + 1) ∧ w32 (a3 + 1) < (L : Int)) <| blet (sx (ix (a3 + 1))) fun v2 => chk (0 ≤ w32 (a3 + 2) ∧ w32 (a3 + 2) < (L : Int)) <| blet (sx (ix (a3 + 2))) fun v4 => chk (0 ≤ w32 (a3 + 3) ∧ w32 (a3 + 3) < (L : Int)) <| blet (sx (ix (a3 + 3))) fun v6 => bcall (d_PP_last v2 v4 v6 M) fun v7 M8 => chk (0 ≤ w32 (a3 + 1) ∧ w32 (a3 + 1) < (L : Int)) <| blet (sx (ix (a3 + 1))) fun v10 => chk (0 ≤ w32 (a3 + 2) ∧ w32 (a3 + 2) < (L : Int)) <| blet (sx (ix (a3 + 2))) fun v12 => chk (0 ≤ w32 (a3 + 3) ∧ w32 (a3 + 3) < (L : Int)) <| blet (sx (ix (a3 + 3))) fun v14 => bcall (d_Mo_last v10 v12 v14 M8) fun v15 M16 => if w64 v7 = w64 v15 then (k_Lw_law_2054 L sx R18 a3 M16) else (some (0, M16))
theorem z_Lw_law_1262 (C : Cx p s m #[Value.ref b] meth c G b_Lw_law 4 "PrairiePoolLaw" ret) {L : Nat} {xs : Nat → Int32} (hX : va_X b L xs s s.heap) (hb0 : b < G.1 ∧ G.1 = s.heap.size) {r : Int × Mem} (hr1 : G.1 = s.heap.size ∧ r.1 = 1) {R18 : Int → Mem → Res} (hR18 : ∀ (a3 : Int) (M : Mem), R18 a3 M = some r → Z0 p l e room_1 189 39158 s m #[Value.ref b] below meth c G 4 (lw_Z below #[Value.ref b] s) (Pic G M) 18 [(0, .ref b), (1, .ref (G.1 + 0)), (2, .ref (G.1 + 111)), (3, vi a3)] []) {a3 : Int} {M : Mem} (h : k_Lw_law_1262 L (fun j => (xs j).toInt) R18 a3 M = some r) : Z0 p l e room_1 189 39158 s m #[Value.ref b] below meth c G 4 (lw_Z below #[Value.ref b] s) (Pic G M) 1262 [(0, .ref b), (1, .ref (G.1 + 0)), (2, .ref (G.1 + 111)), (3, vi a3)] [] := by
  unfold k_Lw_law_1262 at h
  refine z_aload_n C 1 x_Lw_law_1262 rfl ?_
  refine z_aload_n C 0 x_Lw_law_1263 rfl ?_
  refine z_iload_n C 3 x_Lw_law_1264 rfl ?_
  refine z_iconst C x_Lw_law_1265 ?_
  refine z_iadd C x_Lw_law_1266 ?_
  obtain ⟨c1, h⟩ := chk_e h
  obtain ⟨v2, ev2, h⟩ := blet_e h
  refine zl_sld C hX hb0 x_Lw_law_1267 c1 ev2 ?_
  refine z_aload_n C 0 x_Lw_law_1268 rfl ?_
  refine z_iload_n C 3 x_Lw_law_1269 rfl ?_
  refine z_iconst C x_Lw_law_1270 ?_
  refine z_iadd C x_Lw_law_1271 ?_
  obtain ⟨c3, h⟩ := chk_e h
  obtain ⟨v4, ev4, h⟩ := blet_e h
  refine zl_sld C hX hb0 x_Lw_law_1272 c3 ev4 ?_
  refine z_aload_n C 0 x_Lw_law_1273 rfl ?_
  refine z_iload_n C 3 x_Lw_law_1274 rfl ?_
  refine z_iconst C x_Lw_law_1275 ?_
  refine z_iadd C x_Lw_law_1276 ?_
  obtain ⟨c5, h⟩ := chk_e h
  obtain ⟨v6, ev6, h⟩ := blet_e h
  refine zl_sld C hX hb0 x_Lw_law_1277 c5 ev6 ?_
  obtain ⟨v7, M8, fv7, h⟩ := bcall_e h
  refine zl_callVl (k := 0) C x_Lw_law_1278 cv_Lw_108 (t_PP_last (lev := 500) l G (by decide) fv7) nk_0 ck_0 rfl (by decide) rfl (i_le rfl) rfl ?_
  refine z_aload_n C 2 x_Lw_law_1281 rfl ?_
  refine z_aload_n C 0 x_Lw_law_1282 rfl ?_
  refine z_iload_n C 3 x_Lw_law_1283 rfl ?_
  refine z_iconst C x_Lw_law_1284 ?_
  refine z_iadd C x_Lw_law_1285 ?_
  obtain ⟨c9, h⟩ := chk_e h
  obtain ⟨v10, ev10, h⟩ := blet_e h
  refine zl_sld C hX hb0 x_Lw_law_1286 c9 ev10 ?_
  refine z_aload_n C 0 x_Lw_law_1287 rfl ?_
  refine z_iload_n C 3 x_Lw_law_1288 rfl ?_
  refine z_iconst C x_Lw_law_1289 ?_
  refine z_iadd C x_Lw_law_1290 ?_
  obtain ⟨c11, h⟩ := chk_e h
  obtain ⟨v12, ev12, h⟩ := blet_e h
  refine zl_sld C hX hb0 x_Lw_law_1291 c11 ev12 ?_
  refine z_aload_n C 0 x_Lw_law_1292 rfl ?_
  refine z_iload_n C 3 x_Lw_law_1293 rfl ?_
  refine z_iconst C x_Lw_law_1294 ?_
  refine z_iadd C x_Lw_law_1295 ?_
  obtain ⟨c13, h⟩ := chk_e h
  obtain ⟨v14, ev14, h⟩ := blet_e h
  refine zl_sld C hX hb0 x_Lw_law_1296 c13 ev14 ?_
  obtain ⟨v15, M16, fv15, h⟩ := bcall_e h
  refine zl_callVl (k := 111) C x_Lw_law_1297 cv_Lw_112 (t_Mo_last (lev := 500) l G (by decide) fv15) nk_111 ck_111 rfl (by decide) rfl (i_le rfl) rfl ?_
  refine z_lcmp C x_Lw_law_1300 ?_
  rcases ite_e h with ⟨c17, h⟩ | ⟨c17, h⟩
  · refine z_if_eq_t (tgt := 2054) C x_Lw_law_1301 rfl (cm_eqz.mpr c17) ?_
    exact z_sub [0, 1, 2, 3] rfl (z_Lw_law_2054 C hX hb0 hr1 hR18 h)
  · refine z_if_eq_f (tgt := 2054) C x_Lw_law_1301 rfl (fun q => c17 (cm_eqz.mp q)) ?_
    refine z_iconst C x_Lw_law_1304 ?_
    exact absurd hr1.2 (by cases h; show ¬ ((0 : Int) = 1); decide)
def k_Lw_law_1208 (L : Nat) (sx : Nat → Int) (R18 : Int → Mem → Res) (a3 : Int) (M : Mem) : Res := chk (0 ≤ w32 (a3 + 1) ∧ w32 (a3 + 1) < (L : Int)) <| blet (sx (ix (a3 + 1))) fun v2 => chk (0 ≤ w32 (a3 + 2) ∧ w32 (a3 + 2) < (L : Int)) <| blet (sx (ix (a3 + 2))) fun v4 => chk (0 ≤ w32 (a3 + 3) ∧ w32 (a3 + 3) < (L : Int)) <| blet (sx (ix (a3 + 3))) fun v6 => chk (0 ≤ w32 (a3 + 4) ∧ w32 (a3 + 4) < (L : Int)) <| blet (sx (ix (a3 + 4))) fun v8 => bcall (d_PP_paid v2 v4 v6 v8 M) fun v9 M10 => chk (0 ≤ w32 (a3 + 1) ∧ w32 (a3 + 1) < (L : Int)) <| blet (sx (ix (a3 + 1))) fun v12 => chk (0 ≤ w32 (a3 + 2) ∧ w32 (a3 + 2) < (L : Int)) <| blet (sx (ix (a3 + 2))) fun v14 => chk (0 ≤ w32 (a3 + 3) ∧ w32 (a3 + 3) < (L : Int)) <| blet (sx (ix (a3 + 3))) fun v16 => chk (0 ≤ w32 (a3 + 4) ∧ w32 (a3 + 4) < (L : Int)) <| blet (sx (ix (a3 + 4))) fun v18 => bcall (d_Mo_paid v12 v14 v16 v18 M10) fun v19 M20 => if w64 v9 = w64 v19 then (k_Lw_law_2054 L sx R18 a3 M20) else (some (0, M20))
theorem z_Lw_law_1208 (C : Cx p s m #[Value.ref b] meth c G b_Lw_law 4 "PrairiePoolLaw" ret) {L : Nat} {xs : Nat → Int32} (hX : va_X b L xs s s.heap) (hb0 : b < G.1 ∧ G.1 = s.heap.size) {r : Int × Mem} (hr1 : G.1 = s.heap.size ∧ r.1 = 1) {R18 : Int → Mem → Res} (hR18 : ∀ (a3 : Int) (M : Mem), R18 a3 M = some r → Z0 p l e room_1 189 39158 s m #[Value.ref b] below meth c G 4 (lw_Z below #[Value.ref b] s) (Pic G M) 18 [(0, .ref b), (1, .ref (G.1 + 0)), (2, .ref (G.1 + 111)), (3, vi a3)] []) {a3 : Int} {M : Mem} (h : k_Lw_law_1208 L (fun j => (xs j).toInt) R18 a3 M = some r) : Z0 p l e room_1 189 39158 s m #[Value.ref b] below meth c G 4 (lw_Z below #[Value.ref b] s) (Pic G M) 1208 [(0, .ref b), (1, .ref (G.1 + 0)), (2, .ref (G.1 + 111)), (3, vi a3)] [] := by
  unfold k_Lw_law_1208 at h
  refine z_aload_n C 1 x_Lw_law_1208 rfl ?_
  refine z_aload_n C 0 x_Lw_law_1209 rfl ?_
  refine z_iload_n C 3 x_Lw_law_1210 rfl ?_
  refine z_iconst C x_Lw_law_1211 ?_
  refine z_iadd C x_Lw_law_1212 ?_
  obtain ⟨c1, h⟩ := chk_e h
  obtain ⟨v2, ev2, h⟩ := blet_e h
  refine zl_sld C hX hb0 x_Lw_law_1213 c1 ev2 ?_
  refine z_aload_n C 0 x_Lw_law_1214 rfl ?_
  refine z_iload_n C 3 x_Lw_law_1215 rfl ?_
  refine z_iconst C x_Lw_law_1216 ?_
  refine z_iadd C x_Lw_law_1217 ?_
  obtain ⟨c3, h⟩ := chk_e h
  obtain ⟨v4, ev4, h⟩ := blet_e h
  refine zl_sld C hX hb0 x_Lw_law_1218 c3 ev4 ?_
  refine z_aload_n C 0 x_Lw_law_1219 rfl ?_
  refine z_iload_n C 3 x_Lw_law_1220 rfl ?_
  refine z_iconst C x_Lw_law_1221 ?_
  refine z_iadd C x_Lw_law_1222 ?_
  obtain ⟨c5, h⟩ := chk_e h
  obtain ⟨v6, ev6, h⟩ := blet_e h
  refine zl_sld C hX hb0 x_Lw_law_1223 c5 ev6 ?_
  refine z_aload_n C 0 x_Lw_law_1224 rfl ?_
  refine z_iload_n C 3 x_Lw_law_1225 rfl ?_
  refine z_iconst C x_Lw_law_1226 ?_
  refine z_iadd C x_Lw_law_1227 ?_
  obtain ⟨c7, h⟩ := chk_e h
  obtain ⟨v8, ev8, h⟩ := blet_e h
  refine zl_sld C hX hb0 x_Lw_law_1228 c7 ev8 ?_
  obtain ⟨v9, M10, fv9, h⟩ := bcall_e h
  refine zl_callVl (k := 0) C x_Lw_law_1229 cv_Lw_103 (t_PP_paid (lev := 500) l G (by decide) fv9) nk_0 ck_0 rfl (by decide) rfl (i_le rfl) rfl ?_
  refine z_aload_n C 2 x_Lw_law_1232 rfl ?_
  refine z_aload_n C 0 x_Lw_law_1233 rfl ?_
  refine z_iload_n C 3 x_Lw_law_1234 rfl ?_
  refine z_iconst C x_Lw_law_1235 ?_
  refine z_iadd C x_Lw_law_1236 ?_
  obtain ⟨c11, h⟩ := chk_e h
  obtain ⟨v12, ev12, h⟩ := blet_e h
  refine zl_sld C hX hb0 x_Lw_law_1237 c11 ev12 ?_
  refine z_aload_n C 0 x_Lw_law_1238 rfl ?_
  refine z_iload_n C 3 x_Lw_law_1239 rfl ?_
  refine z_iconst C x_Lw_law_1240 ?_
  refine z_iadd C x_Lw_law_1241 ?_
  obtain ⟨c13, h⟩ := chk_e h
  obtain ⟨v14, ev14, h⟩ := blet_e h
  refine zl_sld C hX hb0 x_Lw_law_1242 c13 ev14 ?_
  refine z_aload_n C 0 x_Lw_law_1243 rfl ?_
  refine z_iload_n C 3 x_Lw_law_1244 rfl ?_
  refine z_iconst C x_Lw_law_1245 ?_
  refine z_iadd C x_Lw_law_1246 ?_
  obtain ⟨c15, h⟩ := chk_e h
  obtain ⟨v16, ev16, h⟩ := blet_e h
  refine zl_sld C hX hb0 x_Lw_law_1247 c15 ev16 ?_
  refine z_aload_n C 0 x_Lw_law_1248 rfl ?_
  refine z_iload_n C 3 x_Lw_law_1249 rfl ?_
  refine z_iconst C x_Lw_law_1250 ?_
  refine z_iadd C x_Lw_law_1251 ?_
  obtain ⟨c17, h⟩ := chk_e h
  obtain ⟨v18, ev18, h⟩ := blet_e h
  refine zl_sld C hX hb0 x_Lw_law_1252 c17 ev18 ?_
  obtain ⟨v19, M20, fv19, h⟩ := bcall_e h
  refine zl_callVl (k := 111) C x_Lw_law_1253 cv_Lw_107 (t_Mo_paid (lev := 500) l G (by decide) fv19) nk_111 ck_111 rfl (by decide) rfl (i_le rfl) rfl ?_
  refine z_lcmp C x_Lw_law_1256 ?_
  rcases ite_e h with ⟨c21, h⟩ | ⟨c21, h⟩
  · refine z_if_eq_t (tgt := 2054) C x_Lw_law_1257 rfl (cm_eqz.mpr c21) ?_
    exact z_sub [0, 1, 2, 3] rfl (z_Lw_law_2054 C hX hb0 hr1 hR18 h)
  · refine z_if_eq_f (tgt := 2054) C x_Lw_law_1257 rfl (fun q => c21 (cm_eqz.mp q)) ?_
    refine z_iconst C x_Lw_law_1260 ?_
    exact absurd hr1.2 (by cases h; show ¬ ((0 : Int) = 1); decide)
def k_Lw_law_1185 (L : Nat) (sx : Nat → Int) (R18 : Int → Mem → Res) (a3 : Int) (M : Mem) : Res := chk (0 ≤ w32 (a3 + 1) ∧ w32 (a3 + 1) < (L : Int)) <| blet (sx (ix (a3 + 1))) fun v2 => bcall (d_PP_fault v2 M) fun v3 M4 => chk (0 ≤ w32 (a3 + 1) ∧ w32 (a3 + 1) < (L : Int)) <| blet (sx (ix (a3 + 1))) fun v6 => bcall (d_Mo_fault v6 M4) fun v7 M8 => if w32 v3 = w32 v7 then (k_Lw_law_2054 L sx R18 a3 M8) else (some (0, M8))
theorem z_Lw_law_1185 (C : Cx p s m #[Value.ref b] meth c G b_Lw_law 4 "PrairiePoolLaw" ret) {L : Nat} {xs : Nat → Int32} (hX : va_X b L xs s s.heap) (hb0 : b < G.1 ∧ G.1 = s.heap.size) {r : Int × Mem} (hr1 : G.1 = s.heap.size ∧ r.1 = 1) {R18 : Int → Mem → Res} (hR18 : ∀ (a3 : Int) (M : Mem), R18 a3 M = some r → Z0 p l e room_1 189 39158 s m #[Value.ref b] below meth c G 4 (lw_Z below #[Value.ref b] s) (Pic G M) 18 [(0, .ref b), (1, .ref (G.1 + 0)), (2, .ref (G.1 + 111)), (3, vi a3)] []) {a3 : Int} {M : Mem} (h : k_Lw_law_1185 L (fun j => (xs j).toInt) R18 a3 M = some r) : Z0 p l e room_1 189 39158 s m #[Value.ref b] below meth c G 4 (lw_Z below #[Value.ref b] s) (Pic G M) 1185 [(0, .ref b), (1, .ref (G.1 + 0)), (2, .ref (G.1 + 111)), (3, vi a3)] [] := by
  unfold k_Lw_law_1185 at h
  refine z_aload_n C 1 x_Lw_law_1185 rfl ?_
  refine z_aload_n C 0 x_Lw_law_1186 rfl ?_
  refine z_iload_n C 3 x_Lw_law_1187 rfl ?_
  refine z_iconst C x_Lw_law_1188 ?_
  refine z_iadd C x_Lw_law_1189 ?_
  obtain ⟨c1, h⟩ := chk_e h
  obtain ⟨v2, ev2, h⟩ := blet_e h
  refine zl_sld C hX hb0 x_Lw_law_1190 c1 ev2 ?_
  obtain ⟨v3, M4, fv3, h⟩ := bcall_e h
  refine zl_callVi (k := 0) C x_Lw_law_1191 cv_Lw_98 (t_PP_fault (lev := 500) l G (by decide) fv3) nk_0 ck_0 rfl (by decide) rfl (i_le rfl) rfl ?_
  refine z_aload_n C 2 x_Lw_law_1194 rfl ?_
  refine z_aload_n C 0 x_Lw_law_1195 rfl ?_
  refine z_iload_n C 3 x_Lw_law_1196 rfl ?_
  refine z_iconst C x_Lw_law_1197 ?_
  refine z_iadd C x_Lw_law_1198 ?_
  obtain ⟨c5, h⟩ := chk_e h
  obtain ⟨v6, ev6, h⟩ := blet_e h
  refine zl_sld C hX hb0 x_Lw_law_1199 c5 ev6 ?_
  obtain ⟨v7, M8, fv7, h⟩ := bcall_e h
  refine zl_callVi (k := 111) C x_Lw_law_1200 cv_Lw_102 (t_Mo_fault (lev := 500) l G (by decide) fv7) nk_111 ck_111 rfl (by decide) rfl (i_le rfl) rfl ?_
  rcases ite_e h with ⟨c9, h⟩ | ⟨c9, h⟩
  · refine z_icmp_eq_t (tgt := 2054) C x_Lw_law_1203 rfl c9 ?_
    exact z_sub [0, 1, 2, 3] rfl (z_Lw_law_2054 C hX hb0 hr1 hR18 h)
  · refine z_icmp_eq_f (tgt := 2054) C x_Lw_law_1203 rfl c9 ?_
    refine z_iconst C x_Lw_law_1206 ?_
    exact absurd hr1.2 (by cases h; show ¬ ((0 : Int) = 1); decide)
def k_Lw_law_1152 (L : Nat) (sx : Nat → Int) (R18 : Int → Mem → Res) (a3 : Int) (M : Mem) : Res := chk (0 ≤ w32 (a3 + 1) ∧ w32 (a3 + 1) < (L : Int)) <| blet (sx (ix (a3 + 1))) fun v2 => chk (0 ≤ w32 (a3 + 2) ∧ w32 (a3 + 2) < (L : Int)) <| blet (sx (ix (a3 + 2))) fun v4 => bcall (d_PP_acts v2 v4 M) fun v5 M6 => chk (0 ≤ w32 (a3 + 1) ∧ w32 (a3 + 1) < (L : Int)) <| blet (sx (ix (a3 + 1))) fun v8 => chk (0 ≤ w32 (a3 + 2) ∧ w32 (a3 + 2) < (L : Int)) <| blet (sx (ix (a3 + 2))) fun v10 => bcall (d_Mo_acts v8 v10 M6) fun v11 M12 => if w32 v5 = w32 v11 then (k_Lw_law_2054 L sx R18 a3 M12) else (some (0, M12))
theorem z_Lw_law_1152 (C : Cx p s m #[Value.ref b] meth c G b_Lw_law 4 "PrairiePoolLaw" ret) {L : Nat} {xs : Nat → Int32} (hX : va_X b L xs s s.heap) (hb0 : b < G.1 ∧ G.1 = s.heap.size) {r : Int × Mem} (hr1 : G.1 = s.heap.size ∧ r.1 = 1) {R18 : Int → Mem → Res} (hR18 : ∀ (a3 : Int) (M : Mem), R18 a3 M = some r → Z0 p l e room_1 189 39158 s m #[Value.ref b] below meth c G 4 (lw_Z below #[Value.ref b] s) (Pic G M) 18 [(0, .ref b), (1, .ref (G.1 + 0)), (2, .ref (G.1 + 111)), (3, vi a3)] []) {a3 : Int} {M : Mem} (h : k_Lw_law_1152 L (fun j => (xs j).toInt) R18 a3 M = some r) : Z0 p l e room_1 189 39158 s m #[Value.ref b] below meth c G 4 (lw_Z below #[Value.ref b] s) (Pic G M) 1152 [(0, .ref b), (1, .ref (G.1 + 0)), (2, .ref (G.1 + 111)), (3, vi a3)] [] := by
  unfold k_Lw_law_1152 at h
  refine z_aload_n C 1 x_Lw_law_1152 rfl ?_
  refine z_aload_n C 0 x_Lw_law_1153 rfl ?_
  refine z_iload_n C 3 x_Lw_law_1154 rfl ?_
  refine z_iconst C x_Lw_law_1155 ?_
  refine z_iadd C x_Lw_law_1156 ?_
  obtain ⟨c1, h⟩ := chk_e h
  obtain ⟨v2, ev2, h⟩ := blet_e h
  refine zl_sld C hX hb0 x_Lw_law_1157 c1 ev2 ?_
  refine z_aload_n C 0 x_Lw_law_1158 rfl ?_
  refine z_iload_n C 3 x_Lw_law_1159 rfl ?_
  refine z_iconst C x_Lw_law_1160 ?_
  refine z_iadd C x_Lw_law_1161 ?_
  obtain ⟨c3, h⟩ := chk_e h
  obtain ⟨v4, ev4, h⟩ := blet_e h
  refine zl_sld C hX hb0 x_Lw_law_1162 c3 ev4 ?_
  obtain ⟨v5, M6, fv5, h⟩ := bcall_e h
  refine zl_callVi (k := 0) C x_Lw_law_1163 cv_Lw_94 (t_PP_acts (lev := 500) l G (by decide) fv5) nk_0 ck_0 rfl (by decide) rfl (i_le rfl) rfl ?_
  refine z_aload_n C 2 x_Lw_law_1166 rfl ?_
  refine z_aload_n C 0 x_Lw_law_1167 rfl ?_
  refine z_iload_n C 3 x_Lw_law_1168 rfl ?_
  refine z_iconst C x_Lw_law_1169 ?_
  refine z_iadd C x_Lw_law_1170 ?_
  obtain ⟨c7, h⟩ := chk_e h
  obtain ⟨v8, ev8, h⟩ := blet_e h
  refine zl_sld C hX hb0 x_Lw_law_1171 c7 ev8 ?_
  refine z_aload_n C 0 x_Lw_law_1172 rfl ?_
  refine z_iload_n C 3 x_Lw_law_1173 rfl ?_
  refine z_iconst C x_Lw_law_1174 ?_
  refine z_iadd C x_Lw_law_1175 ?_
  obtain ⟨c9, h⟩ := chk_e h
  obtain ⟨v10, ev10, h⟩ := blet_e h
  refine zl_sld C hX hb0 x_Lw_law_1176 c9 ev10 ?_
  obtain ⟨v11, M12, fv11, h⟩ := bcall_e h
  refine zl_callVi (k := 111) C x_Lw_law_1177 cv_Lw_97 (t_Mo_acts (lev := 500) l G (by decide) fv11) nk_111 ck_111 rfl (by decide) rfl (i_le rfl) rfl ?_
  rcases ite_e h with ⟨c13, h⟩ | ⟨c13, h⟩
  · refine z_icmp_eq_t (tgt := 2054) C x_Lw_law_1180 rfl c13 ?_
    exact z_sub [0, 1, 2, 3] rfl (z_Lw_law_2054 C hX hb0 hr1 hR18 h)
  · refine z_icmp_eq_f (tgt := 2054) C x_Lw_law_1180 rfl c13 ?_
    refine z_iconst C x_Lw_law_1183 ?_
    exact absurd hr1.2 (by cases h; show ¬ ((0 : Int) = 1); decide)
def k_Lw_law_1089 (L : Nat) (sx : Nat → Int) (R18 : Int → Mem → Res) (a3 : Int) (M : Mem) : Res := chk (0 ≤ w32 (a3 + 1) ∧ w32 (a3 + 1) < (L : Int)) <| blet (sx (ix (a3 + 1))) fun v2 => chk (0 ≤ w32 (a3 + 2) ∧ w32 (a3 + 2) < (L : Int)) <| blet (sx (ix (a3 + 2))) fun v4 => chk (0 ≤ w32 (a3 + 3) ∧ w32 (a3 + 3) < (L : Int)) <| blet (sx (ix (a3 + 3))) fun v6 => chk (0 ≤ w32 (a3 + 4) ∧ w32 (a3 + 4) < (L : Int)) <| blet (sx (ix (a3 + 4))) fun v8 => chk (0 ≤ w32 (a3 + 5) ∧ w32 (a3 + 5) < (L : Int)) <| blet (sx (ix (a3 + 5))) fun v10 => bcall (d_PP_feed v2 v4 v6 v8 v10 M) fun v11 M12 => chk (0 ≤ w32 (a3 + 1) ∧ w32 (a3 + 1) < (L : Int)) <| blet (sx (ix (a3 + 1))) fun v14 => chk (0 ≤ w32 (a3 + 2) ∧ w32 (a3 + 2) < (L : Int)) <| blet (sx (ix (a3 + 2))) fun v16 => chk (0 ≤ w32 (a3 + 3) ∧ w32 (a3 + 3) < (L : Int)) <| blet (sx (ix (a3 + 3))) fun v18 => chk (0 ≤ w32 (a3 + 4) ∧ w32 (a3 + 4) < (L : Int)) <| blet (sx (ix (a3 + 4))) fun v20 => chk (0 ≤ w32 (a3 + 5) ∧ w32 (a3 + 5) < (L : Int)) <| blet (sx (ix (a3 + 5))) fun v22 => bcall (d_Mo_feed v14 v16 v18 v20 v22 M12) fun v23 M24 => if w32 v11 = w32 v23 then (k_Lw_law_2054 L sx R18 a3 M24) else (some (0, M24))
theorem z_Lw_law_1089 (C : Cx p s m #[Value.ref b] meth c G b_Lw_law 4 "PrairiePoolLaw" ret) {L : Nat} {xs : Nat → Int32} (hX : va_X b L xs s s.heap) (hb0 : b < G.1 ∧ G.1 = s.heap.size) {r : Int × Mem} (hr1 : G.1 = s.heap.size ∧ r.1 = 1) {R18 : Int → Mem → Res} (hR18 : ∀ (a3 : Int) (M : Mem), R18 a3 M = some r → Z0 p l e room_1 189 39158 s m #[Value.ref b] below meth c G 4 (lw_Z below #[Value.ref b] s) (Pic G M) 18 [(0, .ref b), (1, .ref (G.1 + 0)), (2, .ref (G.1 + 111)), (3, vi a3)] []) {a3 : Int} {M : Mem} (h : k_Lw_law_1089 L (fun j => (xs j).toInt) R18 a3 M = some r) : Z0 p l e room_1 189 39158 s m #[Value.ref b] below meth c G 4 (lw_Z below #[Value.ref b] s) (Pic G M) 1089 [(0, .ref b), (1, .ref (G.1 + 0)), (2, .ref (G.1 + 111)), (3, vi a3)] [] := by
  unfold k_Lw_law_1089 at h
  refine z_aload_n C 1 x_Lw_law_1089 rfl ?_
  refine z_aload_n C 0 x_Lw_law_1090 rfl ?_
  refine z_iload_n C 3 x_Lw_law_1091 rfl ?_
  refine z_iconst C x_Lw_law_1092 ?_
  refine z_iadd C x_Lw_law_1093 ?_
  obtain ⟨c1, h⟩ := chk_e h
  obtain ⟨v2, ev2, h⟩ := blet_e h
  refine zl_sld C hX hb0 x_Lw_law_1094 c1 ev2 ?_
  refine z_aload_n C 0 x_Lw_law_1095 rfl ?_
  refine z_iload_n C 3 x_Lw_law_1096 rfl ?_
  refine z_iconst C x_Lw_law_1097 ?_
  refine z_iadd C x_Lw_law_1098 ?_
  obtain ⟨c3, h⟩ := chk_e h
  obtain ⟨v4, ev4, h⟩ := blet_e h
  refine zl_sld C hX hb0 x_Lw_law_1099 c3 ev4 ?_
  refine z_aload_n C 0 x_Lw_law_1100 rfl ?_
  refine z_iload_n C 3 x_Lw_law_1101 rfl ?_
  refine z_iconst C x_Lw_law_1102 ?_
  refine z_iadd C x_Lw_law_1103 ?_
  obtain ⟨c5, h⟩ := chk_e h
  obtain ⟨v6, ev6, h⟩ := blet_e h
  refine zl_sld C hX hb0 x_Lw_law_1104 c5 ev6 ?_
  refine z_aload_n C 0 x_Lw_law_1105 rfl ?_
  refine z_iload_n C 3 x_Lw_law_1106 rfl ?_
  refine z_iconst C x_Lw_law_1107 ?_
  refine z_iadd C x_Lw_law_1108 ?_
  obtain ⟨c7, h⟩ := chk_e h
  obtain ⟨v8, ev8, h⟩ := blet_e h
  refine zl_sld C hX hb0 x_Lw_law_1109 c7 ev8 ?_
  refine z_aload_n C 0 x_Lw_law_1110 rfl ?_
  refine z_iload_n C 3 x_Lw_law_1111 rfl ?_
  refine z_iconst C x_Lw_law_1112 ?_
  refine z_iadd C x_Lw_law_1113 ?_
  obtain ⟨c9, h⟩ := chk_e h
  obtain ⟨v10, ev10, h⟩ := blet_e h
  refine zl_sld C hX hb0 x_Lw_law_1114 c9 ev10 ?_
  obtain ⟨v11, M12, fv11, h⟩ := bcall_e h
  refine zl_callVi (k := 0) C x_Lw_law_1115 cv_Lw_90 (t_PP_feed (lev := 500) l G (by decide) fv11) nk_0 ck_0 rfl (by decide) rfl (i_le rfl) rfl ?_
  refine z_aload_n C 2 x_Lw_law_1118 rfl ?_
  refine z_aload_n C 0 x_Lw_law_1119 rfl ?_
  refine z_iload_n C 3 x_Lw_law_1120 rfl ?_
  refine z_iconst C x_Lw_law_1121 ?_
  refine z_iadd C x_Lw_law_1122 ?_
  obtain ⟨c13, h⟩ := chk_e h
  obtain ⟨v14, ev14, h⟩ := blet_e h
  refine zl_sld C hX hb0 x_Lw_law_1123 c13 ev14 ?_
  refine z_aload_n C 0 x_Lw_law_1124 rfl ?_
  refine z_iload_n C 3 x_Lw_law_1125 rfl ?_
  refine z_iconst C x_Lw_law_1126 ?_
  refine z_iadd C x_Lw_law_1127 ?_
  obtain ⟨c15, h⟩ := chk_e h
  obtain ⟨v16, ev16, h⟩ := blet_e h
  refine zl_sld C hX hb0 x_Lw_law_1128 c15 ev16 ?_
  refine z_aload_n C 0 x_Lw_law_1129 rfl ?_
  refine z_iload_n C 3 x_Lw_law_1130 rfl ?_
  refine z_iconst C x_Lw_law_1131 ?_
  refine z_iadd C x_Lw_law_1132 ?_
  obtain ⟨c17, h⟩ := chk_e h
  obtain ⟨v18, ev18, h⟩ := blet_e h
  refine zl_sld C hX hb0 x_Lw_law_1133 c17 ev18 ?_
  refine z_aload_n C 0 x_Lw_law_1134 rfl ?_
  refine z_iload_n C 3 x_Lw_law_1135 rfl ?_
  refine z_iconst C x_Lw_law_1136 ?_
  refine z_iadd C x_Lw_law_1137 ?_
  obtain ⟨c19, h⟩ := chk_e h
  obtain ⟨v20, ev20, h⟩ := blet_e h
  refine zl_sld C hX hb0 x_Lw_law_1138 c19 ev20 ?_
  refine z_aload_n C 0 x_Lw_law_1139 rfl ?_
  refine z_iload_n C 3 x_Lw_law_1140 rfl ?_
  refine z_iconst C x_Lw_law_1141 ?_
  refine z_iadd C x_Lw_law_1142 ?_
  obtain ⟨c21, h⟩ := chk_e h
  obtain ⟨v22, ev22, h⟩ := blet_e h
  refine zl_sld C hX hb0 x_Lw_law_1143 c21 ev22 ?_
  obtain ⟨v23, M24, fv23, h⟩ := bcall_e h
  refine zl_callVi (k := 111) C x_Lw_law_1144 cv_Lw_93 (t_Mo_feed (lev := 500) l G (by decide) fv23) nk_111 ck_111 rfl (by decide) rfl (i_le rfl) rfl ?_
  rcases ite_e h with ⟨c25, h⟩ | ⟨c25, h⟩
  · refine z_icmp_eq_t (tgt := 2054) C x_Lw_law_1147 rfl c25 ?_
    exact z_sub [0, 1, 2, 3] rfl (z_Lw_law_2054 C hX hb0 hr1 hR18 h)
  · refine z_icmp_eq_f (tgt := 2054) C x_Lw_law_1147 rfl c25 ?_
    refine z_iconst C x_Lw_law_1150 ?_
    exact absurd hr1.2 (by cases h; show ¬ ((0 : Int) = 1); decide)
def k_Lw_law_1046 (L : Nat) (sx : Nat → Int) (R18 : Int → Mem → Res) (a3 : Int) (M : Mem) : Res := chk (0 ≤ w32 (a3 + 1) ∧ w32 (a3 + 1) < (L : Int)) <| blet (sx (ix (a3 + 1))) fun v2 => chk (0 ≤ w32 (a3 + 2) ∧ w32 (a3 + 2) < (L : Int)) <| blet (sx (ix (a3 + 2))) fun v4 => chk (0 ≤ w32 (a3 + 3) ∧ w32 (a3 + 3) < (L : Int)) <| blet (sx (ix (a3 + 3))) fun v6 => bcall (d_PP_sum v2 v4 v6 M) fun v7 M8 => chk (0 ≤ w32 (a3 + 1) ∧ w32 (a3 + 1) < (L : Int)) <| blet (sx (ix (a3 + 1))) fun v10 => chk (0 ≤ w32 (a3 + 2) ∧ w32 (a3 + 2) < (L : Int)) <| blet (sx (ix (a3 + 2))) fun v12 => chk (0 ≤ w32 (a3 + 3) ∧ w32 (a3 + 3) < (L : Int)) <| blet (sx (ix (a3 + 3))) fun v14 => bcall (d_Mo_sum v10 v12 v14 M8) fun v15 M16 => if w32 v7 = w32 v15 then (k_Lw_law_2054 L sx R18 a3 M16) else (some (0, M16))
theorem z_Lw_law_1046 (C : Cx p s m #[Value.ref b] meth c G b_Lw_law 4 "PrairiePoolLaw" ret) {L : Nat} {xs : Nat → Int32} (hX : va_X b L xs s s.heap) (hb0 : b < G.1 ∧ G.1 = s.heap.size) {r : Int × Mem} (hr1 : G.1 = s.heap.size ∧ r.1 = 1) {R18 : Int → Mem → Res} (hR18 : ∀ (a3 : Int) (M : Mem), R18 a3 M = some r → Z0 p l e room_1 189 39158 s m #[Value.ref b] below meth c G 4 (lw_Z below #[Value.ref b] s) (Pic G M) 18 [(0, .ref b), (1, .ref (G.1 + 0)), (2, .ref (G.1 + 111)), (3, vi a3)] []) {a3 : Int} {M : Mem} (h : k_Lw_law_1046 L (fun j => (xs j).toInt) R18 a3 M = some r) : Z0 p l e room_1 189 39158 s m #[Value.ref b] below meth c G 4 (lw_Z below #[Value.ref b] s) (Pic G M) 1046 [(0, .ref b), (1, .ref (G.1 + 0)), (2, .ref (G.1 + 111)), (3, vi a3)] [] := by
  unfold k_Lw_law_1046 at h
  refine z_aload_n C 1 x_Lw_law_1046 rfl ?_
  refine z_aload_n C 0 x_Lw_law_1047 rfl ?_
  refine z_iload_n C 3 x_Lw_law_1048 rfl ?_
  refine z_iconst C x_Lw_law_1049 ?_
  refine z_iadd C x_Lw_law_1050 ?_
  obtain ⟨c1, h⟩ := chk_e h
  obtain ⟨v2, ev2, h⟩ := blet_e h
  refine zl_sld C hX hb0 x_Lw_law_1051 c1 ev2 ?_
  refine z_aload_n C 0 x_Lw_law_1052 rfl ?_
  refine z_iload_n C 3 x_Lw_law_1053 rfl ?_
  refine z_iconst C x_Lw_law_1054 ?_
  refine z_iadd C x_Lw_law_1055 ?_
  obtain ⟨c3, h⟩ := chk_e h
  obtain ⟨v4, ev4, h⟩ := blet_e h
  refine zl_sld C hX hb0 x_Lw_law_1056 c3 ev4 ?_
  refine z_aload_n C 0 x_Lw_law_1057 rfl ?_
  refine z_iload_n C 3 x_Lw_law_1058 rfl ?_
  refine z_iconst C x_Lw_law_1059 ?_
  refine z_iadd C x_Lw_law_1060 ?_
  obtain ⟨c5, h⟩ := chk_e h
  obtain ⟨v6, ev6, h⟩ := blet_e h
  refine zl_sld C hX hb0 x_Lw_law_1061 c5 ev6 ?_
  obtain ⟨v7, M8, fv7, h⟩ := bcall_e h
  refine zl_callVi (k := 0) C x_Lw_law_1062 cv_Lw_86 (t_PP_sum (lev := 500) l G (by decide) fv7) nk_0 ck_0 rfl (by decide) rfl (i_le rfl) rfl ?_
  refine z_aload_n C 2 x_Lw_law_1065 rfl ?_
  refine z_aload_n C 0 x_Lw_law_1066 rfl ?_
  refine z_iload_n C 3 x_Lw_law_1067 rfl ?_
  refine z_iconst C x_Lw_law_1068 ?_
  refine z_iadd C x_Lw_law_1069 ?_
  obtain ⟨c9, h⟩ := chk_e h
  obtain ⟨v10, ev10, h⟩ := blet_e h
  refine zl_sld C hX hb0 x_Lw_law_1070 c9 ev10 ?_
  refine z_aload_n C 0 x_Lw_law_1071 rfl ?_
  refine z_iload_n C 3 x_Lw_law_1072 rfl ?_
  refine z_iconst C x_Lw_law_1073 ?_
  refine z_iadd C x_Lw_law_1074 ?_
  obtain ⟨c11, h⟩ := chk_e h
  obtain ⟨v12, ev12, h⟩ := blet_e h
  refine zl_sld C hX hb0 x_Lw_law_1075 c11 ev12 ?_
  refine z_aload_n C 0 x_Lw_law_1076 rfl ?_
  refine z_iload_n C 3 x_Lw_law_1077 rfl ?_
  refine z_iconst C x_Lw_law_1078 ?_
  refine z_iadd C x_Lw_law_1079 ?_
  obtain ⟨c13, h⟩ := chk_e h
  obtain ⟨v14, ev14, h⟩ := blet_e h
  refine zl_sld C hX hb0 x_Lw_law_1080 c13 ev14 ?_
  obtain ⟨v15, M16, fv15, h⟩ := bcall_e h
  refine zl_callVi (k := 111) C x_Lw_law_1081 cv_Lw_89 (t_Mo_sum (lev := 500) l G (by decide) fv15) nk_111 ck_111 rfl (by decide) rfl (i_le rfl) rfl ?_
  rcases ite_e h with ⟨c17, h⟩ | ⟨c17, h⟩
  · refine z_icmp_eq_t (tgt := 2054) C x_Lw_law_1084 rfl c17 ?_
    exact z_sub [0, 1, 2, 3] rfl (z_Lw_law_2054 C hX hb0 hr1 hR18 h)
  · refine z_icmp_eq_f (tgt := 2054) C x_Lw_law_1084 rfl c17 ?_
    refine z_iconst C x_Lw_law_1087 ?_
    exact absurd hr1.2 (by cases h; show ¬ ((0 : Int) = 1); decide)
def k_Lw_law_983 (L : Nat) (sx : Nat → Int) (R18 : Int → Mem → Res) (a3 : Int) (M : Mem) : Res := chk (0 ≤ w32 (a3 + 1) ∧ w32 (a3 + 1) < (L : Int)) <| blet (sx (ix (a3 + 1))) fun v2 => chk (0 ≤ w32 (a3 + 2) ∧ w32 (a3 + 2) < (L : Int)) <| blet (sx (ix (a3 + 2))) fun v4 => chk (0 ≤ w32 (a3 + 3) ∧ w32 (a3 + 3) < (L : Int)) <| blet (sx (ix (a3 + 3))) fun v6 => chk (0 ≤ w32 (a3 + 4) ∧ w32 (a3 + 4) < (L : Int)) <| blet (sx (ix (a3 + 4))) fun v8 => chk (0 ≤ w32 (a3 + 5) ∧ w32 (a3 + 5) < (L : Int)) <| blet (sx (ix (a3 + 5))) fun v10 => bcall (d_PP_port v2 v4 v6 v8 v10 M) fun v11 M12 => chk (0 ≤ w32 (a3 + 1) ∧ w32 (a3 + 1) < (L : Int)) <| blet (sx (ix (a3 + 1))) fun v14 => chk (0 ≤ w32 (a3 + 2) ∧ w32 (a3 + 2) < (L : Int)) <| blet (sx (ix (a3 + 2))) fun v16 => chk (0 ≤ w32 (a3 + 3) ∧ w32 (a3 + 3) < (L : Int)) <| blet (sx (ix (a3 + 3))) fun v18 => chk (0 ≤ w32 (a3 + 4) ∧ w32 (a3 + 4) < (L : Int)) <| blet (sx (ix (a3 + 4))) fun v20 => chk (0 ≤ w32 (a3 + 5) ∧ w32 (a3 + 5) < (L : Int)) <| blet (sx (ix (a3 + 5))) fun v22 => bcall (d_Mo_port v14 v16 v18 v20 v22 M12) fun v23 M24 => if w32 v11 = w32 v23 then (k_Lw_law_2054 L sx R18 a3 M24) else (some (0, M24))
theorem z_Lw_law_983 (C : Cx p s m #[Value.ref b] meth c G b_Lw_law 4 "PrairiePoolLaw" ret) {L : Nat} {xs : Nat → Int32} (hX : va_X b L xs s s.heap) (hb0 : b < G.1 ∧ G.1 = s.heap.size) {r : Int × Mem} (hr1 : G.1 = s.heap.size ∧ r.1 = 1) {R18 : Int → Mem → Res} (hR18 : ∀ (a3 : Int) (M : Mem), R18 a3 M = some r → Z0 p l e room_1 189 39158 s m #[Value.ref b] below meth c G 4 (lw_Z below #[Value.ref b] s) (Pic G M) 18 [(0, .ref b), (1, .ref (G.1 + 0)), (2, .ref (G.1 + 111)), (3, vi a3)] []) {a3 : Int} {M : Mem} (h : k_Lw_law_983 L (fun j => (xs j).toInt) R18 a3 M = some r) : Z0 p l e room_1 189 39158 s m #[Value.ref b] below meth c G 4 (lw_Z below #[Value.ref b] s) (Pic G M) 983 [(0, .ref b), (1, .ref (G.1 + 0)), (2, .ref (G.1 + 111)), (3, vi a3)] [] := by
  unfold k_Lw_law_983 at h
  refine z_aload_n C 1 x_Lw_law_983 rfl ?_
  refine z_aload_n C 0 x_Lw_law_984 rfl ?_
  refine z_iload_n C 3 x_Lw_law_985 rfl ?_
  refine z_iconst C x_Lw_law_986 ?_
  refine z_iadd C x_Lw_law_987 ?_
  obtain ⟨c1, h⟩ := chk_e h
  obtain ⟨v2, ev2, h⟩ := blet_e h
  refine zl_sld C hX hb0 x_Lw_law_988 c1 ev2 ?_
  refine z_aload_n C 0 x_Lw_law_989 rfl ?_
  refine z_iload_n C 3 x_Lw_law_990 rfl ?_
  refine z_iconst C x_Lw_law_991 ?_
  refine z_iadd C x_Lw_law_992 ?_
  obtain ⟨c3, h⟩ := chk_e h
  obtain ⟨v4, ev4, h⟩ := blet_e h
  refine zl_sld C hX hb0 x_Lw_law_993 c3 ev4 ?_
  refine z_aload_n C 0 x_Lw_law_994 rfl ?_
  refine z_iload_n C 3 x_Lw_law_995 rfl ?_
  refine z_iconst C x_Lw_law_996 ?_
  refine z_iadd C x_Lw_law_997 ?_
  obtain ⟨c5, h⟩ := chk_e h
  obtain ⟨v6, ev6, h⟩ := blet_e h
  refine zl_sld C hX hb0 x_Lw_law_998 c5 ev6 ?_
  refine z_aload_n C 0 x_Lw_law_999 rfl ?_
  refine z_iload_n C 3 x_Lw_law_1000 rfl ?_
  refine z_iconst C x_Lw_law_1001 ?_
  refine z_iadd C x_Lw_law_1002 ?_
  obtain ⟨c7, h⟩ := chk_e h
  obtain ⟨v8, ev8, h⟩ := blet_e h
  refine zl_sld C hX hb0 x_Lw_law_1003 c7 ev8 ?_
  refine z_aload_n C 0 x_Lw_law_1004 rfl ?_
  refine z_iload_n C 3 x_Lw_law_1005 rfl ?_
  refine z_iconst C x_Lw_law_1006 ?_
  refine z_iadd C x_Lw_law_1007 ?_
  obtain ⟨c9, h⟩ := chk_e h
  obtain ⟨v10, ev10, h⟩ := blet_e h
  refine zl_sld C hX hb0 x_Lw_law_1008 c9 ev10 ?_
  obtain ⟨v11, M12, fv11, h⟩ := bcall_e h
  refine zl_callVi (k := 0) C x_Lw_law_1009 cv_Lw_82 (t_PP_port (lev := 500) l G (by decide) fv11) nk_0 ck_0 rfl (by decide) rfl (i_le rfl) rfl ?_
  refine z_aload_n C 2 x_Lw_law_1012 rfl ?_
  refine z_aload_n C 0 x_Lw_law_1013 rfl ?_
  refine z_iload_n C 3 x_Lw_law_1014 rfl ?_
  refine z_iconst C x_Lw_law_1015 ?_
  refine z_iadd C x_Lw_law_1016 ?_
  obtain ⟨c13, h⟩ := chk_e h
  obtain ⟨v14, ev14, h⟩ := blet_e h
  refine zl_sld C hX hb0 x_Lw_law_1017 c13 ev14 ?_
  refine z_aload_n C 0 x_Lw_law_1018 rfl ?_
  refine z_iload_n C 3 x_Lw_law_1019 rfl ?_
  refine z_iconst C x_Lw_law_1020 ?_
  refine z_iadd C x_Lw_law_1021 ?_
  obtain ⟨c15, h⟩ := chk_e h
  obtain ⟨v16, ev16, h⟩ := blet_e h
  refine zl_sld C hX hb0 x_Lw_law_1022 c15 ev16 ?_
  refine z_aload_n C 0 x_Lw_law_1023 rfl ?_
  refine z_iload_n C 3 x_Lw_law_1024 rfl ?_
  refine z_iconst C x_Lw_law_1025 ?_
  refine z_iadd C x_Lw_law_1026 ?_
  obtain ⟨c17, h⟩ := chk_e h
  obtain ⟨v18, ev18, h⟩ := blet_e h
  refine zl_sld C hX hb0 x_Lw_law_1027 c17 ev18 ?_
  refine z_aload_n C 0 x_Lw_law_1028 rfl ?_
  refine z_iload_n C 3 x_Lw_law_1029 rfl ?_
  refine z_iconst C x_Lw_law_1030 ?_
  refine z_iadd C x_Lw_law_1031 ?_
  obtain ⟨c19, h⟩ := chk_e h
  obtain ⟨v20, ev20, h⟩ := blet_e h
  refine zl_sld C hX hb0 x_Lw_law_1032 c19 ev20 ?_
  refine z_aload_n C 0 x_Lw_law_1033 rfl ?_
  refine z_iload_n C 3 x_Lw_law_1034 rfl ?_
  refine z_iconst C x_Lw_law_1035 ?_
  refine z_iadd C x_Lw_law_1036 ?_
  obtain ⟨c21, h⟩ := chk_e h
  obtain ⟨v22, ev22, h⟩ := blet_e h
  refine zl_sld C hX hb0 x_Lw_law_1037 c21 ev22 ?_
  obtain ⟨v23, M24, fv23, h⟩ := bcall_e h
  refine zl_callVi (k := 111) C x_Lw_law_1038 cv_Lw_85 (t_Mo_port (lev := 500) l G (by decide) fv23) nk_111 ck_111 rfl (by decide) rfl (i_le rfl) rfl ?_
  rcases ite_e h with ⟨c25, h⟩ | ⟨c25, h⟩
  · refine z_icmp_eq_t (tgt := 2054) C x_Lw_law_1041 rfl c25 ?_
    exact z_sub [0, 1, 2, 3] rfl (z_Lw_law_2054 C hX hb0 hr1 hR18 h)
  · refine z_icmp_eq_f (tgt := 2054) C x_Lw_law_1041 rfl c25 ?_
    refine z_iconst C x_Lw_law_1044 ?_
    exact absurd hr1.2 (by cases h; show ¬ ((0 : Int) = 1); decide)
def k_Lw_law_920 (L : Nat) (sx : Nat → Int) (R18 : Int → Mem → Res) (a3 : Int) (M : Mem) : Res := chk (0 ≤ w32 (a3 + 1) ∧ w32 (a3 + 1) < (L : Int)) <| blet (sx (ix (a3 + 1))) fun v2 => chk (0 ≤ w32 (a3 + 2) ∧ w32 (a3 + 2) < (L : Int)) <| blet (sx (ix (a3 + 2))) fun v4 => chk (0 ≤ w32 (a3 + 3) ∧ w32 (a3 + 3) < (L : Int)) <| blet (sx (ix (a3 + 3))) fun v6 => chk (0 ≤ w32 (a3 + 4) ∧ w32 (a3 + 4) < (L : Int)) <| blet (sx (ix (a3 + 4))) fun v8 => chk (0 ≤ w32 (a3 + 5) ∧ w32 (a3 + 5) < (L : Int)) <| blet (sx (ix (a3 + 5))) fun v10 => bcall (d_PP_bin v2 v4 v6 v8 v10 M) fun v11 M12 => chk (0 ≤ w32 (a3 + 1) ∧ w32 (a3 + 1) < (L : Int)) <| blet (sx (ix (a3 + 1))) fun v14 => chk (0 ≤ w32 (a3 + 2) ∧ w32 (a3 + 2) < (L : Int)) <| blet (sx (ix (a3 + 2))) fun v16 => chk (0 ≤ w32 (a3 + 3) ∧ w32 (a3 + 3) < (L : Int)) <| blet (sx (ix (a3 + 3))) fun v18 => chk (0 ≤ w32 (a3 + 4) ∧ w32 (a3 + 4) < (L : Int)) <| blet (sx (ix (a3 + 4))) fun v20 => chk (0 ≤ w32 (a3 + 5) ∧ w32 (a3 + 5) < (L : Int)) <| blet (sx (ix (a3 + 5))) fun v22 => bcall (d_Mo_bin v14 v16 v18 v20 v22 M12) fun v23 M24 => if w32 v11 = w32 v23 then (k_Lw_law_2054 L sx R18 a3 M24) else (some (0, M24))
theorem z_Lw_law_920 (C : Cx p s m #[Value.ref b] meth c G b_Lw_law 4 "PrairiePoolLaw" ret) {L : Nat} {xs : Nat → Int32} (hX : va_X b L xs s s.heap) (hb0 : b < G.1 ∧ G.1 = s.heap.size) {r : Int × Mem} (hr1 : G.1 = s.heap.size ∧ r.1 = 1) {R18 : Int → Mem → Res} (hR18 : ∀ (a3 : Int) (M : Mem), R18 a3 M = some r → Z0 p l e room_1 189 39158 s m #[Value.ref b] below meth c G 4 (lw_Z below #[Value.ref b] s) (Pic G M) 18 [(0, .ref b), (1, .ref (G.1 + 0)), (2, .ref (G.1 + 111)), (3, vi a3)] []) {a3 : Int} {M : Mem} (h : k_Lw_law_920 L (fun j => (xs j).toInt) R18 a3 M = some r) : Z0 p l e room_1 189 39158 s m #[Value.ref b] below meth c G 4 (lw_Z below #[Value.ref b] s) (Pic G M) 920 [(0, .ref b), (1, .ref (G.1 + 0)), (2, .ref (G.1 + 111)), (3, vi a3)] [] := by
  unfold k_Lw_law_920 at h
  refine z_aload_n C 1 x_Lw_law_920 rfl ?_
  refine z_aload_n C 0 x_Lw_law_921 rfl ?_
  refine z_iload_n C 3 x_Lw_law_922 rfl ?_
  refine z_iconst C x_Lw_law_923 ?_
  refine z_iadd C x_Lw_law_924 ?_
  obtain ⟨c1, h⟩ := chk_e h
  obtain ⟨v2, ev2, h⟩ := blet_e h
  refine zl_sld C hX hb0 x_Lw_law_925 c1 ev2 ?_
  refine z_aload_n C 0 x_Lw_law_926 rfl ?_
  refine z_iload_n C 3 x_Lw_law_927 rfl ?_
  refine z_iconst C x_Lw_law_928 ?_
  refine z_iadd C x_Lw_law_929 ?_
  obtain ⟨c3, h⟩ := chk_e h
  obtain ⟨v4, ev4, h⟩ := blet_e h
  refine zl_sld C hX hb0 x_Lw_law_930 c3 ev4 ?_
  refine z_aload_n C 0 x_Lw_law_931 rfl ?_
  refine z_iload_n C 3 x_Lw_law_932 rfl ?_
  refine z_iconst C x_Lw_law_933 ?_
  refine z_iadd C x_Lw_law_934 ?_
  obtain ⟨c5, h⟩ := chk_e h
  obtain ⟨v6, ev6, h⟩ := blet_e h
  refine zl_sld C hX hb0 x_Lw_law_935 c5 ev6 ?_
  refine z_aload_n C 0 x_Lw_law_936 rfl ?_
  refine z_iload_n C 3 x_Lw_law_937 rfl ?_
  refine z_iconst C x_Lw_law_938 ?_
  refine z_iadd C x_Lw_law_939 ?_
  obtain ⟨c7, h⟩ := chk_e h
  obtain ⟨v8, ev8, h⟩ := blet_e h
  refine zl_sld C hX hb0 x_Lw_law_940 c7 ev8 ?_
  refine z_aload_n C 0 x_Lw_law_941 rfl ?_
  refine z_iload_n C 3 x_Lw_law_942 rfl ?_
  refine z_iconst C x_Lw_law_943 ?_
  refine z_iadd C x_Lw_law_944 ?_
  obtain ⟨c9, h⟩ := chk_e h
  obtain ⟨v10, ev10, h⟩ := blet_e h
  refine zl_sld C hX hb0 x_Lw_law_945 c9 ev10 ?_
  obtain ⟨v11, M12, fv11, h⟩ := bcall_e h
  refine zl_callVi (k := 0) C x_Lw_law_946 cv_Lw_77 (t_PP_bin (lev := 500) l G (by decide) fv11) nk_0 ck_0 rfl (by decide) rfl (i_le rfl) rfl ?_
  refine z_aload_n C 2 x_Lw_law_949 rfl ?_
  refine z_aload_n C 0 x_Lw_law_950 rfl ?_
  refine z_iload_n C 3 x_Lw_law_951 rfl ?_
  refine z_iconst C x_Lw_law_952 ?_
  refine z_iadd C x_Lw_law_953 ?_
  obtain ⟨c13, h⟩ := chk_e h
  obtain ⟨v14, ev14, h⟩ := blet_e h
  refine zl_sld C hX hb0 x_Lw_law_954 c13 ev14 ?_
  refine z_aload_n C 0 x_Lw_law_955 rfl ?_
  refine z_iload_n C 3 x_Lw_law_956 rfl ?_
  refine z_iconst C x_Lw_law_957 ?_
  refine z_iadd C x_Lw_law_958 ?_
  obtain ⟨c15, h⟩ := chk_e h
  obtain ⟨v16, ev16, h⟩ := blet_e h
  refine zl_sld C hX hb0 x_Lw_law_959 c15 ev16 ?_
  refine z_aload_n C 0 x_Lw_law_960 rfl ?_
  refine z_iload_n C 3 x_Lw_law_961 rfl ?_
  refine z_iconst C x_Lw_law_962 ?_
  refine z_iadd C x_Lw_law_963 ?_
  obtain ⟨c17, h⟩ := chk_e h
  obtain ⟨v18, ev18, h⟩ := blet_e h
  refine zl_sld C hX hb0 x_Lw_law_964 c17 ev18 ?_
  refine z_aload_n C 0 x_Lw_law_965 rfl ?_
  refine z_iload_n C 3 x_Lw_law_966 rfl ?_
  refine z_iconst C x_Lw_law_967 ?_
  refine z_iadd C x_Lw_law_968 ?_
  obtain ⟨c19, h⟩ := chk_e h
  obtain ⟨v20, ev20, h⟩ := blet_e h
  refine zl_sld C hX hb0 x_Lw_law_969 c19 ev20 ?_
  refine z_aload_n C 0 x_Lw_law_970 rfl ?_
  refine z_iload_n C 3 x_Lw_law_971 rfl ?_
  refine z_iconst C x_Lw_law_972 ?_
  refine z_iadd C x_Lw_law_973 ?_
  obtain ⟨c21, h⟩ := chk_e h
  obtain ⟨v22, ev22, h⟩ := blet_e h
  refine zl_sld C hX hb0 x_Lw_law_974 c21 ev22 ?_
  obtain ⟨v23, M24, fv23, h⟩ := bcall_e h
  refine zl_callVi (k := 111) C x_Lw_law_975 cv_Lw_81 (t_Mo_bin (lev := 500) l G (by decide) fv23) nk_111 ck_111 rfl (by decide) rfl (i_le rfl) rfl ?_
  rcases ite_e h with ⟨c25, h⟩ | ⟨c25, h⟩
  · refine z_icmp_eq_t (tgt := 2054) C x_Lw_law_978 rfl c25 ?_
    exact z_sub [0, 1, 2, 3] rfl (z_Lw_law_2054 C hX hb0 hr1 hR18 h)
  · refine z_icmp_eq_f (tgt := 2054) C x_Lw_law_978 rfl c25 ?_
    refine z_iconst C x_Lw_law_981 ?_
    exact absurd hr1.2 (by cases h; show ¬ ((0 : Int) = 1); decide)
def k_Lw_law_887 (L : Nat) (sx : Nat → Int) (R18 : Int → Mem → Res) (a3 : Int) (M : Mem) : Res := chk (0 ≤ w32 (a3 + 1) ∧ w32 (a3 + 1) < (L : Int)) <| blet (sx (ix (a3 + 1))) fun v2 => chk (0 ≤ w32 (a3 + 2) ∧ w32 (a3 + 2) < (L : Int)) <| blet (sx (ix (a3 + 2))) fun v4 => bcall (d_PP_grade v2 v4 M) fun v5 M6 => chk (0 ≤ w32 (a3 + 1) ∧ w32 (a3 + 1) < (L : Int)) <| blet (sx (ix (a3 + 1))) fun v8 => chk (0 ≤ w32 (a3 + 2) ∧ w32 (a3 + 2) < (L : Int)) <| blet (sx (ix (a3 + 2))) fun v10 => bcall (d_Mo_grade v8 v10 M6) fun v11 M12 => if w32 v5 = w32 v11 then (k_Lw_law_2054 L sx R18 a3 M12) else (some (0, M12))
theorem z_Lw_law_887 (C : Cx p s m #[Value.ref b] meth c G b_Lw_law 4 "PrairiePoolLaw" ret) {L : Nat} {xs : Nat → Int32} (hX : va_X b L xs s s.heap) (hb0 : b < G.1 ∧ G.1 = s.heap.size) {r : Int × Mem} (hr1 : G.1 = s.heap.size ∧ r.1 = 1) {R18 : Int → Mem → Res} (hR18 : ∀ (a3 : Int) (M : Mem), R18 a3 M = some r → Z0 p l e room_1 189 39158 s m #[Value.ref b] below meth c G 4 (lw_Z below #[Value.ref b] s) (Pic G M) 18 [(0, .ref b), (1, .ref (G.1 + 0)), (2, .ref (G.1 + 111)), (3, vi a3)] []) {a3 : Int} {M : Mem} (h : k_Lw_law_887 L (fun j => (xs j).toInt) R18 a3 M = some r) : Z0 p l e room_1 189 39158 s m #[Value.ref b] below meth c G 4 (lw_Z below #[Value.ref b] s) (Pic G M) 887 [(0, .ref b), (1, .ref (G.1 + 0)), (2, .ref (G.1 + 111)), (3, vi a3)] [] := by
  unfold k_Lw_law_887 at h
  refine z_aload_n C 1 x_Lw_law_887 rfl ?_
  refine z_aload_n C 0 x_Lw_law_888 rfl ?_
  refine z_iload_n C 3 x_Lw_law_889 rfl ?_
  refine z_iconst C x_Lw_law_890 ?_
  refine z_iadd C x_Lw_law_891 ?_
  obtain ⟨c1, h⟩ := chk_e h
  obtain ⟨v2, ev2, h⟩ := blet_e h
  refine zl_sld C hX hb0 x_Lw_law_892 c1 ev2 ?_
  refine z_aload_n C 0 x_Lw_law_893 rfl ?_
  refine z_iload_n C 3 x_Lw_law_894 rfl ?_
  refine z_iconst C x_Lw_law_895 ?_
  refine z_iadd C x_Lw_law_896 ?_
  obtain ⟨c3, h⟩ := chk_e h
  obtain ⟨v4, ev4, h⟩ := blet_e h
  refine zl_sld C hX hb0 x_Lw_law_897 c3 ev4 ?_
  obtain ⟨v5, M6, fv5, h⟩ := bcall_e h
  refine zl_callVi (k := 0) C x_Lw_law_898 cv_Lw_73 (t_PP_grade (lev := 500) l G (by decide) fv5) nk_0 ck_0 rfl (by decide) rfl (i_le rfl) rfl ?_
  refine z_aload_n C 2 x_Lw_law_901 rfl ?_
  refine z_aload_n C 0 x_Lw_law_902 rfl ?_
  refine z_iload_n C 3 x_Lw_law_903 rfl ?_
  refine z_iconst C x_Lw_law_904 ?_
  refine z_iadd C x_Lw_law_905 ?_
  obtain ⟨c7, h⟩ := chk_e h
  obtain ⟨v8, ev8, h⟩ := blet_e h
  refine zl_sld C hX hb0 x_Lw_law_906 c7 ev8 ?_
  refine z_aload_n C 0 x_Lw_law_907 rfl ?_
  refine z_iload_n C 3 x_Lw_law_908 rfl ?_
  refine z_iconst C x_Lw_law_909 ?_
  refine z_iadd C x_Lw_law_910 ?_
  obtain ⟨c9, h⟩ := chk_e h
  obtain ⟨v10, ev10, h⟩ := blet_e h
  refine zl_sld C hX hb0 x_Lw_law_911 c9 ev10 ?_
  obtain ⟨v11, M12, fv11, h⟩ := bcall_e h
  refine zl_callVi (k := 111) C x_Lw_law_912 cv_Lw_76 (t_Mo_grade (lev := 500) l G (by decide) fv11) nk_111 ck_111 rfl (by decide) rfl (i_le rfl) rfl ?_
  rcases ite_e h with ⟨c13, h⟩ | ⟨c13, h⟩
  · refine z_icmp_eq_t (tgt := 2054) C x_Lw_law_915 rfl c13 ?_
    exact z_sub [0, 1, 2, 3] rfl (z_Lw_law_2054 C hX hb0 hr1 hR18 h)
  · refine z_icmp_eq_f (tgt := 2054) C x_Lw_law_915 rfl c13 ?_
    refine z_iconst C x_Lw_law_918 ?_
    exact absurd hr1.2 (by cases h; show ¬ ((0 : Int) = 1); decide)
def k_Lw_law_834 (L : Nat) (sx : Nat → Int) (R18 : Int → Mem → Res) (a3 : Int) (M : Mem) : Res := chk (0 ≤ w32 (a3 + 1) ∧ w32 (a3 + 1) < (L : Int)) <| blet (sx (ix (a3 + 1))) fun v2 => chk (0 ≤ w32 (a3 + 2) ∧ w32 (a3 + 2) < (L : Int)) <| blet (sx (ix (a3 + 2))) fun v4 => chk (0 ≤ w32 (a3 + 3) ∧ w32 (a3 + 3) < (L : Int)) <| blet (sx (ix (a3 + 3))) fun v6 => chk (0 ≤ w32 (a3 + 4) ∧ w32 (a3 + 4) < (L : Int)) <| blet (sx (ix (a3 + 4))) fun v8 => bcall (d_PP_grading v2 v4 v6 v8 M) fun v9 M10 => chk (0 ≤ w32 (a3 + 1) ∧ w32 (a3 + 1) < (L : Int)) <| blet (sx (ix (a3 + 1))) fun v12 => chk (0 ≤ w32 (a3 + 2) ∧ w32 (a3 + 2) < (L : Int)) <| blet (sx (ix (a3 + 2))) fun v14 => chk (0 ≤ w32 (a3 + 3) ∧ w32 (a3 + 3) < (L : Int)) <| blet (sx (ix (a3 + 3))) fun v16 => chk (0 ≤ w32 (a3 + 4) ∧ w32 (a3 + 4) < (L : Int)) <| blet (sx (ix (a3 + 4))) fun v18 => bcall (d_Mo_grading v12 v14 v16 v18 M10) fun v19 M20 => if w32 v9 = w32 v19 then (k_Lw_law_2054 L sx R18 a3 M20) else (some (0, M20))
theorem z_Lw_law_834 (C : Cx p s m #[Value.ref b] meth c G b_Lw_law 4 "PrairiePoolLaw" ret) {L : Nat} {xs : Nat → Int32} (hX : va_X b L xs s s.heap) (hb0 : b < G.1 ∧ G.1 = s.heap.size) {r : Int × Mem} (hr1 : G.1 = s.heap.size ∧ r.1 = 1) {R18 : Int → Mem → Res} (hR18 : ∀ (a3 : Int) (M : Mem), R18 a3 M = some r → Z0 p l e room_1 189 39158 s m #[Value.ref b] below meth c G 4 (lw_Z below #[Value.ref b] s) (Pic G M) 18 [(0, .ref b), (1, .ref (G.1 + 0)), (2, .ref (G.1 + 111)), (3, vi a3)] []) {a3 : Int} {M : Mem} (h : k_Lw_law_834 L (fun j => (xs j).toInt) R18 a3 M = some r) : Z0 p l e room_1 189 39158 s m #[Value.ref b] below meth c G 4 (lw_Z below #[Value.ref b] s) (Pic G M) 834 [(0, .ref b), (1, .ref (G.1 + 0)), (2, .ref (G.1 + 111)), (3, vi a3)] [] := by
  unfold k_Lw_law_834 at h
  refine z_aload_n C 1 x_Lw_law_834 rfl ?_
  refine z_aload_n C 0 x_Lw_law_835 rfl ?_
  refine z_iload_n C 3 x_Lw_law_836 rfl ?_
  refine z_iconst C x_Lw_law_837 ?_
  refine z_iadd C x_Lw_law_838 ?_
  obtain ⟨c1, h⟩ := chk_e h
  obtain ⟨v2, ev2, h⟩ := blet_e h
  refine zl_sld C hX hb0 x_Lw_law_839 c1 ev2 ?_
  refine z_aload_n C 0 x_Lw_law_840 rfl ?_
  refine z_iload_n C 3 x_Lw_law_841 rfl ?_
  refine z_iconst C x_Lw_law_842 ?_
  refine z_iadd C x_Lw_law_843 ?_
  obtain ⟨c3, h⟩ := chk_e h
  obtain ⟨v4, ev4, h⟩ := blet_e h
  refine zl_sld C hX hb0 x_Lw_law_844 c3 ev4 ?_
  refine z_aload_n C 0 x_Lw_law_845 rfl ?_
  refine z_iload_n C 3 x_Lw_law_846 rfl ?_
  refine z_iconst C x_Lw_law_847 ?_
  refine z_iadd C x_Lw_law_848 ?_
  obtain ⟨c5, h⟩ := chk_e h
  obtain ⟨v6, ev6, h⟩ := blet_e h
  refine zl_sld C hX hb0 x_Lw_law_849 c5 ev6 ?_
  refine z_aload_n C 0 x_Lw_law_850 rfl ?_
  refine z_iload_n C 3 x_Lw_law_851 rfl ?_
  refine z_iconst C x_Lw_law_852 ?_
  refine z_iadd C x_Lw_law_853 ?_
  obtain ⟨c7, h⟩ := chk_e h
  obtain ⟨v8, ev8, h⟩ := blet_e h
  refine zl_sld C hX hb0 x_Lw_law_854 c7 ev8 ?_
  obtain ⟨v9, M10, fv9, h⟩ := bcall_e h
  refine zl_callVi (k := 0) C x_Lw_law_855 cv_Lw_68 (t_PP_grading (lev := 500) l G (by decide) fv9) nk_0 ck_0 rfl (by decide) rfl (i_le rfl) rfl ?_
  refine z_aload_n C 2 x_Lw_law_858 rfl ?_
  refine z_aload_n C 0 x_Lw_law_859 rfl ?_
  refine z_iload_n C 3 x_Lw_law_860 rfl ?_
  refine z_iconst C x_Lw_law_861 ?_
  refine z_iadd C x_Lw_law_862 ?_
  obtain ⟨c11, h⟩ := chk_e h
  obtain ⟨v12, ev12, h⟩ := blet_e h
  refine zl_sld C hX hb0 x_Lw_law_863 c11 ev12 ?_
  refine z_aload_n C 0 x_Lw_law_864 rfl ?_
  refine z_iload_n C 3 x_Lw_law_865 rfl ?_
  refine z_iconst C x_Lw_law_866 ?_
  refine z_iadd C x_Lw_law_867 ?_
  obtain ⟨c13, h⟩ := chk_e h
  obtain ⟨v14, ev14, h⟩ := blet_e h
  refine zl_sld C hX hb0 x_Lw_law_868 c13 ev14 ?_
  refine z_aload_n C 0 x_Lw_law_869 rfl ?_
  refine z_iload_n C 3 x_Lw_law_870 rfl ?_
  refine z_iconst C x_Lw_law_871 ?_
  refine z_iadd C x_Lw_law_872 ?_
  obtain ⟨c15, h⟩ := chk_e h
  obtain ⟨v16, ev16, h⟩ := blet_e h
  refine zl_sld C hX hb0 x_Lw_law_873 c15 ev16 ?_
  refine z_aload_n C 0 x_Lw_law_874 rfl ?_
  refine z_iload_n C 3 x_Lw_law_875 rfl ?_
  refine z_iconst C x_Lw_law_876 ?_
  refine z_iadd C x_Lw_law_877 ?_
  obtain ⟨c17, h⟩ := chk_e h
  obtain ⟨v18, ev18, h⟩ := blet_e h
  refine zl_sld C hX hb0 x_Lw_law_878 c17 ev18 ?_
  obtain ⟨v19, M20, fv19, h⟩ := bcall_e h
  refine zl_callVi (k := 111) C x_Lw_law_879 cv_Lw_72 (t_Mo_grading (lev := 500) l G (by decide) fv19) nk_111 ck_111 rfl (by decide) rfl (i_le rfl) rfl ?_
  rcases ite_e h with ⟨c21, h⟩ | ⟨c21, h⟩
  · refine z_icmp_eq_t (tgt := 2054) C x_Lw_law_882 rfl c21 ?_
    exact z_sub [0, 1, 2, 3] rfl (z_Lw_law_2054 C hX hb0 hr1 hR18 h)
  · refine z_icmp_eq_f (tgt := 2054) C x_Lw_law_882 rfl c21 ?_
    refine z_iconst C x_Lw_law_885 ?_
    exact absurd hr1.2 (by cases h; show ¬ ((0 : Int) = 1); decide)
def k_Lw_law_759 (L : Nat) (sx : Nat → Int) (R18 : Int → Mem → Res) (a3 : Int) (M : Mem) : Res := chk (0 ≤ w32 (a3 + 1) ∧ w32 (a3 + 1) < (L : Int)) <| blet (sx (ix (a3 + 1))) fun v2 => chk (0 ≤ w32 (a3 + 2) ∧ w32 (a3 + 2) < (L : Int)) <| blet (sx (ix (a3 + 2))) fun v4 => chk (0 ≤ w32 (a3 + 3) ∧ w32 (a3 + 3) < (L : Int)) <| blet (sx (ix (a3 + 3))) fun v6 => chk (0 ≤ w32 (a3 + 4) ∧ w32 (a3 + 4) < (L : Int)) <| blet (sx (ix (a3 + 4))) fun v8 => chk (0 ≤ w32 (a3 + 5) ∧ w32 (a3 + 5) < (L : Int)) <| blet (sx (ix (a3 + 5))) fun v10 => chk (0 ≤ w32 (a3 + 6) ∧ w32 (a3 + 6) < (L : Int)) <| blet (sx (ix (a3 + 6))) fun v12 => bcall (d_PP_spoil v2 v4 v6 v8 v10 v12 M) fun v13 M14 => chk (0 ≤ w32 (a3 + 1) ∧ w32 (a3 + 1) < (L : Int)) <| blet (sx (ix (a3 + 1))) fun v16 => chk (0 ≤ w32 (a3 + 2) ∧ w32 (a3 + 2) < (L : Int)) <| blet (sx (ix (a3 + 2))) fun v18 => chk (0 ≤ w32 (a3 + 3) ∧ w32 (a3 + 3) < (L : Int)) <| blet (sx (ix (a3 + 3))) fun v20 => chk (0 ≤ w32 (a3 + 4) ∧ w32 (a3 + 4) < (L : Int)) <| blet (sx (ix (a3 + 4))) fun v22 => chk (0 ≤ w32 (a3 + 5) ∧ w32 (a3 + 5) < (L : Int)) <| blet (sx (ix (a3 + 5))) fun v24 => chk (0 ≤ w32 (a3 + 6) ∧ w32 (a3 + 6) < (L : Int)) <| blet (sx (ix (a3 + 6))) fun v26 => bcall (d_Mo_spoil v16 v18 v20 v22 v24 v26 M14) fun v27 M28 => if w32 v13 = w32 v27 then (k_Lw_law_2054 L sx R18 a3 M28) else (some (0, M28))
theorem z_Lw_law_759 (C : Cx p s m #[Value.ref b] meth c G b_Lw_law 4 "PrairiePoolLaw" ret) {L : Nat} {xs : Nat → Int32} (hX : va_X b L xs s s.heap) (hb0 : b < G.1 ∧ G.1 = s.heap.size) {r : Int × Mem} (hr1 : G.1 = s.heap.size ∧ r.1 = 1) {R18 : Int → Mem → Res} (hR18 : ∀ (a3 : Int) (M : Mem), R18 a3 M = some r → Z0 p l e room_1 189 39158 s m #[Value.ref b] below meth c G 4 (lw_Z below #[Value.ref b] s) (Pic G M) 18 [(0, .ref b), (1, .ref (G.1 + 0)), (2, .ref (G.1 + 111)), (3, vi a3)] []) {a3 : Int} {M : Mem} (h : k_Lw_law_759 L (fun j => (xs j).toInt) R18 a3 M = some r) : Z0 p l e room_1 189 39158 s m #[Value.ref b] below meth c G 4 (lw_Z below #[Value.ref b] s) (Pic G M) 759 [(0, .ref b), (1, .ref (G.1 + 0)), (2, .ref (G.1 + 111)), (3, vi a3)] [] := by
  unfold k_Lw_law_759 at h
  refine z_aload_n C 1 x_Lw_law_759 rfl ?_
  refine z_aload_n C 0 x_Lw_law_760 rfl ?_
  refine z_iload_n C 3 x_Lw_law_761 rfl ?_
  refine z_iconst C x_Lw_law_762 ?_
  refine z_iadd C x_Lw_law_763 ?_
  obtain ⟨c1, h⟩ := chk_e h
  obtain ⟨v2, ev2, h⟩ := blet_e h
  refine zl_sld C hX hb0 x_Lw_law_764 c1 ev2 ?_
  refine z_aload_n C 0 x_Lw_law_765 rfl ?_
  refine z_iload_n C 3 x_Lw_law_766 rfl ?_
  refine z_iconst C x_Lw_law_767 ?_
  refine z_iadd C x_Lw_law_768 ?_
  obtain ⟨c3, h⟩ := chk_e h
  obtain ⟨v4, ev4, h⟩ := blet_e h
  refine zl_sld C hX hb0 x_Lw_law_769 c3 ev4 ?_
  refine z_aload_n C 0 x_Lw_law_770 rfl ?_
  refine z_iload_n C 3 x_Lw_law_771 rfl ?_
  refine z_iconst C x_Lw_law_772 ?_
  refine z_iadd C x_Lw_law_773 ?_
  obtain ⟨c5, h⟩ := chk_e h
  obtain ⟨v6, ev6, h⟩ := blet_e h
  refine zl_sld C hX hb0 x_Lw_law_774 c5 ev6 ?_
  refine z_aload_n C 0 x_Lw_law_775 rfl ?_
  refine z_iload_n C 3 x_Lw_law_776 rfl ?_
  refine z_iconst C x_Lw_law_777 ?_
  refine z_iadd C x_Lw_law_778 ?_
  obtain ⟨c7, h⟩ := chk_e h
  obtain ⟨v8, ev8, h⟩ := blet_e h
  refine zl_sld C hX hb0 x_Lw_law_779 c7 ev8 ?_
  refine z_aload_n C 0 x_Lw_law_780 rfl ?_
  refine z_iload_n C 3 x_Lw_law_781 rfl ?_
  refine z_iconst C x_Lw_law_782 ?_
  refine z_iadd C x_Lw_law_783 ?_
  obtain ⟨c9, h⟩ := chk_e h
  obtain ⟨v10, ev10, h⟩ := blet_e h
  refine zl_sld C hX hb0 x_Lw_law_784 c9 ev10 ?_
  refine z_aload_n C 0 x_Lw_law_785 rfl ?_
  refine z_iload_n C 3 x_Lw_law_786 rfl ?_
  refine z_bipush C rfl x_Lw_law_787 ?_
  refine z_iadd C x_Lw_law_789 ?_
  obtain ⟨c11, h⟩ := chk_e h
  obtain ⟨v12, ev12, h⟩ := blet_e h
  refine zl_sld C hX hb0 x_Lw_law_790 c11 ev12 ?_
  obtain ⟨v13, M14, fv13, h⟩ := bcall_e h
  refine zl_callVi (k := 0) C x_Lw_law_791 cv_Lw_64 (t_PP_spoil (lev := 500) l G (by decide) fv13) nk_0 ck_0 rfl (by decide) rfl (i_le rfl) rfl ?_
  refine z_aload_n C 2 x_Lw_law_794 rfl ?_
  refine z_aload_n C 0 x_Lw_law_795 rfl ?_
  refine z_iload_n C 3 x_Lw_law_796 rfl ?_
  refine z_iconst C x_Lw_law_797 ?_
  refine z_iadd C x_Lw_law_798 ?_
  obtain ⟨c15, h⟩ := chk_e h
  obtain ⟨v16, ev16, h⟩ := blet_e h
  refine zl_sld C hX hb0 x_Lw_law_799 c15 ev16 ?_
  refine z_aload_n C 0 x_Lw_law_800 rfl ?_
  refine z_iload_n C 3 x_Lw_law_801 rfl ?_
  refine z_iconst C x_Lw_law_802 ?_
  refine z_iadd C x_Lw_law_803 ?_
  obtain ⟨c17, h⟩ := chk_e h
  obtain ⟨v18, ev18, h⟩ := blet_e h
  refine zl_sld C hX hb0 x_Lw_law_804 c17 ev18 ?_
  refine z_aload_n C 0 x_Lw_law_805 rfl ?_
  refine z_iload_n C 3 x_Lw_law_806 rfl ?_
  refine z_iconst C x_Lw_law_807 ?_
  refine z_iadd C x_Lw_law_808 ?_
  obtain ⟨c19, h⟩ := chk_e h
  obtain ⟨v20, ev20, h⟩ := blet_e h
  refine zl_sld C hX hb0 x_Lw_law_809 c19 ev20 ?_
  refine z_aload_n C 0 x_Lw_law_810 rfl ?_
  refine z_iload_n C 3 x_Lw_law_811 rfl ?_
  refine z_iconst C x_Lw_law_812 ?_
  refine z_iadd C x_Lw_law_813 ?_
  obtain ⟨c21, h⟩ := chk_e h
  obtain ⟨v22, ev22, h⟩ := blet_e h
  refine zl_sld C hX hb0 x_Lw_law_814 c21 ev22 ?_
  refine z_aload_n C 0 x_Lw_law_815 rfl ?_
  refine z_iload_n C 3 x_Lw_law_816 rfl ?_
  refine z_iconst C x_Lw_law_817 ?_
  refine z_iadd C x_Lw_law_818 ?_
  obtain ⟨c23, h⟩ := chk_e h
  obtain ⟨v24, ev24, h⟩ := blet_e h
  refine zl_sld C hX hb0 x_Lw_law_819 c23 ev24 ?_
  refine z_aload_n C 0 x_Lw_law_820 rfl ?_
  refine z_iload_n C 3 x_Lw_law_821 rfl ?_
  refine z_bipush C rfl x_Lw_law_822 ?_
  refine z_iadd C x_Lw_law_824 ?_
  obtain ⟨c25, h⟩ := chk_e h
  obtain ⟨v26, ev26, h⟩ := blet_e h
  refine zl_sld C hX hb0 x_Lw_law_825 c25 ev26 ?_
  obtain ⟨v27, M28, fv27, h⟩ := bcall_e h
  refine zl_callVi (k := 111) C x_Lw_law_826 cv_Lw_67 (t_Mo_spoil (lev := 500) l G (by decide) fv27) nk_111 ck_111 rfl (by decide) rfl (i_le rfl) rfl ?_
  rcases ite_e h with ⟨c29, h⟩ | ⟨c29, h⟩
  · refine z_icmp_eq_t (tgt := 2054) C x_Lw_law_829 rfl c29 ?_
    exact z_sub [0, 1, 2, 3] rfl (z_Lw_law_2054 C hX hb0 hr1 hR18 h)
  · refine z_icmp_eq_f (tgt := 2054) C x_Lw_law_829 rfl c29 ?_
    refine z_iconst C x_Lw_law_832 ?_
    exact absurd hr1.2 (by cases h; show ¬ ((0 : Int) = 1); decide)
def k_Lw_law_672 (L : Nat) (sx : Nat → Int) (R18 : Int → Mem → Res) (a3 : Int) (M : Mem) : Res := chk (0 ≤ w32 (a3 + 1) ∧ w32 (a3 + 1) < (L : Int)) <| blet (sx (ix (a3 + 1))) fun v2 => chk (0 ≤ w32 (a3 + 2) ∧ w32 (a3 + 2) < (L : Int)) <| blet (sx (ix (a3 + 2))) fun v4 => chk (0 ≤ w32 (a3 + 3) ∧ w32 (a3 + 3) < (L : Int)) <| blet (sx (ix (a3 + 3))) fun v6 => chk (0 ≤ w32 (a3 + 4) ∧ w32 (a3 + 4) < (L : Int)) <| blet (sx (ix (a3 + 4))) fun v8 => chk (0 ≤ w32 (a3 + 5) ∧ w32 (a3 + 5) < (L : Int)) <| blet (sx (ix (a3 + 5))) fun v10 => chk (0 ≤ w32 (a3 + 6) ∧ w32 (a3 + 6) < (L : Int)) <| blet (sx (ix (a3 + 6))) fun v12 => chk (0 ≤ w32 (a3 + 7) ∧ w32 (a3 + 7) < (L : Int)) <| blet (sx (ix (a3 + 7))) fun v14 => bcall (d_PP_sale v2 v4 v6 v8 v10 v12 v14 M) fun v15 M16 => chk (0 ≤ w32 (a3 + 1) ∧ w32 (a3 + 1) < (L : Int)) <| blet (sx (ix (a3 + 1))) fun v18 => chk (0 ≤ w32 (a3 + 2) ∧ w32 (a3 + 2) < (L : Int)) <| blet (sx (ix (a3 + 2))) fun v20 => chk (0 ≤ w32 (a3 + 3) ∧ w32 (a3 + 3) < (L : Int)) <| blet (sx (ix (a3 + 3))) fun v22 => chk (0 ≤ w32 (a3 + 4) ∧ w32 (a3 + 4) < (L : Int)) <| blet (sx (ix (a3 + 4))) fun v24 => chk (0 ≤ w32 (a3 + 5) ∧ w32 (a3 + 5) < (L : Int)) <| blet (sx (ix (a3 + 5))) fun v26 => chk (0 ≤ w32 (a3 + 6) ∧ w32 (a3 + 6) < (L : Int)) <| blet (sx (ix (a3 + 6))) fun v28 => chk (0 ≤ w32 (a3 + 7) ∧ w32 (a3 + 7) < (L : Int)) <| blet (sx (ix (a3 + 7))) fun v30 => bcall (d_Mo_sale v18 v20 v22 v24 v26 v28 v30 M16) fun v31 M32 => if w32 v15 = w32 v31 then (k_Lw_law_2054 L sx R18 a3 M32) else (some (0, M32))
theorem z_Lw_law_672 (C : Cx p s m #[Value.ref b] meth c G b_Lw_law 4 "PrairiePoolLaw" ret) {L : Nat} {xs : Nat → Int32} (hX : va_X b L xs s s.heap) (hb0 : b < G.1 ∧ G.1 = s.heap.size) {r : Int × Mem} (hr1 : G.1 = s.heap.size ∧ r.1 = 1) {R18 : Int → Mem → Res} (hR18 : ∀ (a3 : Int) (M : Mem), R18 a3 M = some r → Z0 p l e room_1 189 39158 s m #[Value.ref b] below meth c G 4 (lw_Z below #[Value.ref b] s) (Pic G M) 18 [(0, .ref b), (1, .ref (G.1 + 0)), (2, .ref (G.1 + 111)), (3, vi a3)] []) {a3 : Int} {M : Mem} (h : k_Lw_law_672 L (fun j => (xs j).toInt) R18 a3 M = some r) : Z0 p l e room_1 189 39158 s m #[Value.ref b] below meth c G 4 (lw_Z below #[Value.ref b] s) (Pic G M) 672 [(0, .ref b), (1, .ref (G.1 + 0)), (2, .ref (G.1 + 111)), (3, vi a3)] [] := by
  unfold k_Lw_law_672 at h
  refine z_aload_n C 1 x_Lw_law_672 rfl ?_
  refine z_aload_n C 0 x_Lw_law_673 rfl ?_
  refine z_iload_n C 3 x_Lw_law_674 rfl ?_
  refine z_iconst C x_Lw_law_675 ?_
  refine z_iadd C x_Lw_law_676 ?_
  obtain ⟨c1, h⟩ := chk_e h
  obtain ⟨v2, ev2, h⟩ := blet_e h
  refine zl_sld C hX hb0 x_Lw_law_677 c1 ev2 ?_
  refine z_aload_n C 0 x_Lw_law_678 rfl ?_
  refine z_iload_n C 3 x_Lw_law_679 rfl ?_
  refine z_iconst C x_Lw_law_680 ?_
  refine z_iadd C x_Lw_law_681 ?_
  obtain ⟨c3, h⟩ := chk_e h
  obtain ⟨v4, ev4, h⟩ := blet_e h
  refine zl_sld C hX hb0 x_Lw_law_682 c3 ev4 ?_
  refine z_aload_n C 0 x_Lw_law_683 rfl ?_
  refine z_iload_n C 3 x_Lw_law_684 rfl ?_
  refine z_iconst C x_Lw_law_685 ?_
  refine z_iadd C x_Lw_law_686 ?_
  obtain ⟨c5, h⟩ := chk_e h
  obtain ⟨v6, ev6, h⟩ := blet_e h
  refine zl_sld C hX hb0 x_Lw_law_687 c5 ev6 ?_
  refine z_aload_n C 0 x_Lw_law_688 rfl ?_
  refine z_iload_n C 3 x_Lw_law_689 rfl ?_
  refine z_iconst C x_Lw_law_690 ?_
  refine z_iadd C x_Lw_law_691 ?_
  obtain ⟨c7, h⟩ := chk_e h
  obtain ⟨v8, ev8, h⟩ := blet_e h
  refine zl_sld C hX hb0 x_Lw_law_692 c7 ev8 ?_
  refine z_aload_n C 0 x_Lw_law_693 rfl ?_
  refine z_iload_n C 3 x_Lw_law_694 rfl ?_
  refine z_iconst C x_Lw_law_695 ?_
  refine z_iadd C x_Lw_law_696 ?_
  obtain ⟨c9, h⟩ := chk_e h
  obtain ⟨v10, ev10, h⟩ := blet_e h
  refine zl_sld C hX hb0 x_Lw_law_697 c9 ev10 ?_
  refine z_aload_n C 0 x_Lw_law_698 rfl ?_
  refine z_iload_n C 3 x_Lw_law_699 rfl ?_
  refine z_bipush C rfl x_Lw_law_700 ?_
  refine z_iadd C x_Lw_law_702 ?_
  obtain ⟨c11, h⟩ := chk_e h
  obtain ⟨v12, ev12, h⟩ := blet_e h
  refine zl_sld C hX hb0 x_Lw_law_703 c11 ev12 ?_
  refine z_aload_n C 0 x_Lw_law_704 rfl ?_
  refine z_iload_n C 3 x_Lw_law_705 rfl ?_
  refine z_bipush C rfl x_Lw_law_706 ?_
  refine z_iadd C x_Lw_law_708 ?_
  obtain ⟨c13, h⟩ := chk_e h
  obtain ⟨v14, ev14, h⟩ := blet_e h
  refine zl_sld C hX hb0 x_Lw_law_709 c13 ev14 ?_
  obtain ⟨v15, M16, fv15, h⟩ := bcall_e h
  refine zl_callVi (k := 0) C x_Lw_law_710 cv_Lw_60 (t_PP_sale (lev := 500) l G (by decide) fv15) nk_0 ck_0 rfl (by decide) rfl (i_le rfl) rfl ?_
  refine z_aload_n C 2 x_Lw_law_713 rfl ?_
  refine z_aload_n C 0 x_Lw_law_714 rfl ?_
  refine z_iload_n C 3 x_Lw_law_715 rfl ?_
  refine z_iconst C x_Lw_law_716 ?_
  refine z_iadd C x_Lw_law_717 ?_
  obtain ⟨c17, h⟩ := chk_e h
  obtain ⟨v18, ev18, h⟩ := blet_e h
  refine zl_sld C hX hb0 x_Lw_law_718 c17 ev18 ?_
  refine z_aload_n C 0 x_Lw_law_719 rfl ?_
  refine z_iload_n C 3 x_Lw_law_720 rfl ?_
  refine z_iconst C x_Lw_law_721 ?_
  refine z_iadd C x_Lw_law_722 ?_
  obtain ⟨c19, h⟩ := chk_e h
  obtain ⟨v20, ev20, h⟩ := blet_e h
  refine zl_sld C hX hb0 x_Lw_law_723 c19 ev20 ?_
  refine z_aload_n C 0 x_Lw_law_724 rfl ?_
  refine z_iload_n C 3 x_Lw_law_725 rfl ?_
  refine z_iconst C x_Lw_law_726 ?_
  refine z_iadd C x_Lw_law_727 ?_
  obtain ⟨c21, h⟩ := chk_e h
  obtain ⟨v22, ev22, h⟩ := blet_e h
  refine zl_sld C hX hb0 x_Lw_law_728 c21 ev22 ?_
  refine z_aload_n C 0 x_Lw_law_729 rfl ?_
  refine z_iload_n C 3 x_Lw_law_730 rfl ?_
  refine z_iconst C x_Lw_law_731 ?_
  refine z_iadd C x_Lw_law_732 ?_
  obtain ⟨c23, h⟩ := chk_e h
  obtain ⟨v24, ev24, h⟩ := blet_e h
  refine zl_sld C hX hb0 x_Lw_law_733 c23 ev24 ?_
  refine z_aload_n C 0 x_Lw_law_734 rfl ?_
  refine z_iload_n C 3 x_Lw_law_735 rfl ?_
  refine z_iconst C x_Lw_law_736 ?_
  refine z_iadd C x_Lw_law_737 ?_
  obtain ⟨c25, h⟩ := chk_e h
  obtain ⟨v26, ev26, h⟩ := blet_e h
  refine zl_sld C hX hb0 x_Lw_law_738 c25 ev26 ?_
  refine z_aload_n C 0 x_Lw_law_739 rfl ?_
  refine z_iload_n C 3 x_Lw_law_740 rfl ?_
  refine z_bipush C rfl x_Lw_law_741 ?_
  refine z_iadd C x_Lw_law_743 ?_
  obtain ⟨c27, h⟩ := chk_e h
  obtain ⟨v28, ev28, h⟩ := blet_e h
  refine zl_sld C hX hb0 x_Lw_law_744 c27 ev28 ?_
  refine z_aload_n C 0 x_Lw_law_745 rfl ?_
  refine z_iload_n C 3 x_Lw_law_746 rfl ?_
  refine z_bipush C rfl x_Lw_law_747 ?_
  refine z_iadd C x_Lw_law_749 ?_
  obtain ⟨c29, h⟩ := chk_e h
  obtain ⟨v30, ev30, h⟩ := blet_e h
  refine zl_sld C hX hb0 x_Lw_law_750 c29 ev30 ?_
  obtain ⟨v31, M32, fv31, h⟩ := bcall_e h
  refine zl_callVi (k := 111) C x_Lw_law_751 cv_Lw_63 (t_Mo_sale (lev := 500) l G (by decide) fv31) nk_111 ck_111 rfl (by decide) rfl (i_le rfl) rfl ?_
  rcases ite_e h with ⟨c33, h⟩ | ⟨c33, h⟩
  · refine z_icmp_eq_t (tgt := 2054) C x_Lw_law_754 rfl c33 ?_
    exact z_sub [0, 1, 2, 3] rfl (z_Lw_law_2054 C hX hb0 hr1 hR18 h)
  · refine z_icmp_eq_f (tgt := 2054) C x_Lw_law_754 rfl c33 ?_
    refine z_iconst C x_Lw_law_757 ?_
    exact absurd hr1.2 (by cases h; show ¬ ((0 : Int) = 1); decide)
def k_Lw_law_585 (L : Nat) (sx : Nat → Int) (R18 : Int → Mem → Res) (a3 : Int) (M : Mem) : Res := chk (0 ≤ w32 (a3 + 1) ∧ w32 (a3 + 1) < (L : Int)) <| blet (sx (ix (a3 + 1))) fun v2 => chk (0 ≤ w32 (a3 + 2) ∧ w32 (a3 + 2) < (L : Int)) <| blet (sx (ix (a3 + 2))) fun v4 => chk (0 ≤ w32 (a3 + 3) ∧ w32 (a3 + 3) < (L : Int)) <| blet (sx (ix (a3 + 3))) fun v6 => chk (0 ≤ w32 (a3 + 4) ∧ w32 (a3 + 4) < (L : Int)) <| blet (sx (ix (a3 + 4))) fun v8 => chk (0 ≤ w32 (a3 + 5) ∧ w32 (a3 + 5) < (L : Int)) <| blet (sx (ix (a3 + 5))) fun v10 => chk (0 ≤ w32 (a3 + 6) ∧ w32 (a3 + 6) < (L : Int)) <| blet (sx (ix (a3 + 6))) fun v12 => chk (0 ≤ w32 (a3 + 7) ∧ w32 (a3 + 7) < (L : Int)) <| blet (sx (ix (a3 + 7))) fun v14 => bcall (d_PP_car v2 v4 v6 v8 v10 v12 v14 M) fun v15 M16 => chk (0 ≤ w32 (a3 + 1) ∧ w32 (a3 + 1) < (L : Int)) <| blet (sx (ix (a3 + 1))) fun v18 => chk (0 ≤ w32 (a3 + 2) ∧ w32 (a3 + 2) < (L : Int)) <| blet (sx (ix (a3 + 2))) fun v20 => chk (0 ≤ w32 (a3 + 3) ∧ w32 (a3 + 3) < (L : Int)) <| blet (sx (ix (a3 + 3))) fun v22 => chk (0 ≤ w32 (a3 + 4) ∧ w32 (a3 + 4) < (L : Int)) <| blet (sx (ix (a3 + 4))) fun v24 => chk (0 ≤ w32 (a3 + 5) ∧ w32 (a3 + 5) < (L : Int)) <| blet (sx (ix (a3 + 5))) fun v26 => chk (0 ≤ w32 (a3 + 6) ∧ w32 (a3 + 6) < (L : Int)) <| blet (sx (ix (a3 + 6))) fun v28 => chk (0 ≤ w32 (a3 + 7) ∧ w32 (a3 + 7) < (L : Int)) <| blet (sx (ix (a3 + 7))) fun v30 => bcall (d_Mo_car v18 v20 v22 v24 v26 v28 v30 M16) fun v31 M32 => if w32 v15 = w32 v31 then (k_Lw_law_2054 L sx R18 a3 M32) else (some (0, M32))
theorem z_Lw_law_585 (C : Cx p s m #[Value.ref b] meth c G b_Lw_law 4 "PrairiePoolLaw" ret) {L : Nat} {xs : Nat → Int32} (hX : va_X b L xs s s.heap) (hb0 : b < G.1 ∧ G.1 = s.heap.size) {r : Int × Mem} (hr1 : G.1 = s.heap.size ∧ r.1 = 1) {R18 : Int → Mem → Res} (hR18 : ∀ (a3 : Int) (M : Mem), R18 a3 M = some r → Z0 p l e room_1 189 39158 s m #[Value.ref b] below meth c G 4 (lw_Z below #[Value.ref b] s) (Pic G M) 18 [(0, .ref b), (1, .ref (G.1 + 0)), (2, .ref (G.1 + 111)), (3, vi a3)] []) {a3 : Int} {M : Mem} (h : k_Lw_law_585 L (fun j => (xs j).toInt) R18 a3 M = some r) : Z0 p l e room_1 189 39158 s m #[Value.ref b] below meth c G 4 (lw_Z below #[Value.ref b] s) (Pic G M) 585 [(0, .ref b), (1, .ref (G.1 + 0)), (2, .ref (G.1 + 111)), (3, vi a3)] [] := by
  unfold k_Lw_law_585 at h
  refine z_aload_n C 1 x_Lw_law_585 rfl ?_
  refine z_aload_n C 0 x_Lw_law_586 rfl ?_
  refine z_iload_n C 3 x_Lw_law_587 rfl ?_
  refine z_iconst C x_Lw_law_588 ?_
  refine z_iadd C x_Lw_law_589 ?_
  obtain ⟨c1, h⟩ := chk_e h
  obtain ⟨v2, ev2, h⟩ := blet_e h
  refine zl_sld C hX hb0 x_Lw_law_590 c1 ev2 ?_
  refine z_aload_n C 0 x_Lw_law_591 rfl ?_
  refine z_iload_n C 3 x_Lw_law_592 rfl ?_
  refine z_iconst C x_Lw_law_593 ?_
  refine z_iadd C x_Lw_law_594 ?_
  obtain ⟨c3, h⟩ := chk_e h
  obtain ⟨v4, ev4, h⟩ := blet_e h
  refine zl_sld C hX hb0 x_Lw_law_595 c3 ev4 ?_
  refine z_aload_n C 0 x_Lw_law_596 rfl ?_
  refine z_iload_n C 3 x_Lw_law_597 rfl ?_
  refine z_iconst C x_Lw_law_598 ?_
  refine z_iadd C x_Lw_law_599 ?_
  obtain ⟨c5, h⟩ := chk_e h
  obtain ⟨v6, ev6, h⟩ := blet_e h
  refine zl_sld C hX hb0 x_Lw_law_600 c5 ev6 ?_
  refine z_aload_n C 0 x_Lw_law_601 rfl ?_
  refine z_iload_n C 3 x_Lw_law_602 rfl ?_
  refine z_iconst C x_Lw_law_603 ?_
  refine z_iadd C x_Lw_law_604 ?_
  obtain ⟨c7, h⟩ := chk_e h
  obtain ⟨v8, ev8, h⟩ := blet_e h
  refine zl_sld C hX hb0 x_Lw_law_605 c7 ev8 ?_
  refine z_aload_n C 0 x_Lw_law_606 rfl ?_
  refine z_iload_n C 3 x_Lw_law_607 rfl ?_
  refine z_iconst C x_Lw_law_608 ?_
  refine z_iadd C x_Lw_law_609 ?_
  obtain ⟨c9, h⟩ := chk_e h
  obtain ⟨v10, ev10, h⟩ := blet_e h
  refine zl_sld C hX hb0 x_Lw_law_610 c9 ev10 ?_
  refine z_aload_n C 0 x_Lw_law_611 rfl ?_
  refine z_iload_n C 3 x_Lw_law_612 rfl ?_
  refine z_bipush C rfl x_Lw_law_613 ?_
  refine z_iadd C x_Lw_law_615 ?_
  obtain ⟨c11, h⟩ := chk_e h
  obtain ⟨v12, ev12, h⟩ := blet_e h
  refine zl_sld C hX hb0 x_Lw_law_616 c11 ev12 ?_
  refine z_aload_n C 0 x_Lw_law_617 rfl ?_
  refine z_iload_n C 3 x_Lw_law_618 rfl ?_
  refine z_bipush C rfl x_Lw_law_619 ?_
  refine z_iadd C x_Lw_law_621 ?_
  obtain ⟨c13, h⟩ := chk_e h
  obtain ⟨v14, ev14, h⟩ := blet_e h
  refine zl_sld C hX hb0 x_Lw_law_622 c13 ev14 ?_
  obtain ⟨v15, M16, fv15, h⟩ := bcall_e h
  refine zl_callVi (k := 0) C x_Lw_law_623 cv_Lw_55 (t_PP_car (lev := 500) l G (by decide) fv15) nk_0 ck_0 rfl (by decide) rfl (i_le rfl) rfl ?_
  refine z_aload_n C 2 x_Lw_law_626 rfl ?_
  refine z_aload_n C 0 x_Lw_law_627 rfl ?_
  refine z_iload_n C 3 x_Lw_law_628 rfl ?_
  refine z_iconst C x_Lw_law_629 ?_
  refine z_iadd C x_Lw_law_630 ?_
  obtain ⟨c17, h⟩ := chk_e h
  obtain ⟨v18, ev18, h⟩ := blet_e h
  refine zl_sld C hX hb0 x_Lw_law_631 c17 ev18 ?_
  refine z_aload_n C 0 x_Lw_law_632 rfl ?_
  refine z_iload_n C 3 x_Lw_law_633 rfl ?_
  refine z_iconst C x_Lw_law_634 ?_
  refine z_iadd C x_Lw_law_635 ?_
  obtain ⟨c19, h⟩ := chk_e h
  obtain ⟨v20, ev20, h⟩ := blet_e h
  refine zl_sld C hX hb0 x_Lw_law_636 c19 ev20 ?_
  refine z_aload_n C 0 x_Lw_law_637 rfl ?_
  refine z_iload_n C 3 x_Lw_law_638 rfl ?_
  refine z_iconst C x_Lw_law_639 ?_
  refine z_iadd C x_Lw_law_640 ?_
  obtain ⟨c21, h⟩ := chk_e h
  obtain ⟨v22, ev22, h⟩ := blet_e h
  refine zl_sld C hX hb0 x_Lw_law_641 c21 ev22 ?_
  refine z_aload_n C 0 x_Lw_law_642 rfl ?_
  refine z_iload_n C 3 x_Lw_law_643 rfl ?_
  refine z_iconst C x_Lw_law_644 ?_
  refine z_iadd C x_Lw_law_645 ?_
  obtain ⟨c23, h⟩ := chk_e h
  obtain ⟨v24, ev24, h⟩ := blet_e h
  refine zl_sld C hX hb0 x_Lw_law_646 c23 ev24 ?_
  refine z_aload_n C 0 x_Lw_law_647 rfl ?_
  refine z_iload_n C 3 x_Lw_law_648 rfl ?_
  refine z_iconst C x_Lw_law_649 ?_
  refine z_iadd C x_Lw_law_650 ?_
  obtain ⟨c25, h⟩ := chk_e h
  obtain ⟨v26, ev26, h⟩ := blet_e h
  refine zl_sld C hX hb0 x_Lw_law_651 c25 ev26 ?_
  refine z_aload_n C 0 x_Lw_law_652 rfl ?_
  refine z_iload_n C 3 x_Lw_law_653 rfl ?_
  refine z_bipush C rfl x_Lw_law_654 ?_
  refine z_iadd C x_Lw_law_656 ?_
  obtain ⟨c27, h⟩ := chk_e h
  obtain ⟨v28, ev28, h⟩ := blet_e h
  refine zl_sld C hX hb0 x_Lw_law_657 c27 ev28 ?_
  refine z_aload_n C 0 x_Lw_law_658 rfl ?_
  refine z_iload_n C 3 x_Lw_law_659 rfl ?_
  refine z_bipush C rfl x_Lw_law_660 ?_
  refine z_iadd C x_Lw_law_662 ?_
  obtain ⟨c29, h⟩ := chk_e h
  obtain ⟨v30, ev30, h⟩ := blet_e h
  refine zl_sld C hX hb0 x_Lw_law_663 c29 ev30 ?_
  obtain ⟨v31, M32, fv31, h⟩ := bcall_e h
  refine zl_callVi (k := 111) C x_Lw_law_664 cv_Lw_59 (t_Mo_car (lev := 500) l G (by decide) fv31) nk_111 ck_111 rfl (by decide) rfl (i_le rfl) rfl ?_
  rcases ite_e h with ⟨c33, h⟩ | ⟨c33, h⟩
  · refine z_icmp_eq_t (tgt := 2054) C x_Lw_law_667 rfl c33 ?_
    exact z_sub [0, 1, 2, 3] rfl (z_Lw_law_2054 C hX hb0 hr1 hR18 h)
  · refine z_icmp_eq_f (tgt := 2054) C x_Lw_law_667 rfl c33 ?_
    refine z_iconst C x_Lw_law_670 ?_
    exact absurd hr1.2 (by cases h; show ¬ ((0 : Int) = 1); decide)
def k_Lw_law_510 (L : Nat) (sx : Nat → Int) (R18 : Int → Mem → Res) (a3 : Int) (M : Mem) : Res := chk (0 ≤ w32 (a3 + 1) ∧ w32 (a3 + 1) < (L : Int)) <| blet (sx (ix (a3 + 1))) fun v2 => chk (0 ≤ w32 (a3 + 2) ∧ w32 (a3 + 2) < (L : Int)) <| blet (sx (ix (a3 + 2))) fun v4 => chk (0 ≤ w32 (a3 + 3) ∧ w32 (a3 + 3) < (L : Int)) <| blet (sx (ix (a3 + 3))) fun v6 => chk (0 ≤ w32 (a3 + 4) ∧ w32 (a3 + 4) < (L : Int)) <| blet (sx (ix (a3 + 4))) fun v8 => chk (0 ≤ w32 (a3 + 5) ∧ w32 (a3 + 5) < (L : Int)) <| blet (sx (ix (a3 + 5))) fun v10 => chk (0 ≤ w32 (a3 + 6) ∧ w32 (a3 + 6) < (L : Int)) <| blet (sx (ix (a3 + 6))) fun v12 => bcall (d_PP_load v2 v4 v6 v8 v10 v12 M) fun v13 M14 => chk (0 ≤ w32 (a3 + 1) ∧ w32 (a3 + 1) < (L : Int)) <| blet (sx (ix (a3 + 1))) fun v16 => chk (0 ≤ w32 (a3 + 2) ∧ w32 (a3 + 2) < (L : Int)) <| blet (sx (ix (a3 + 2))) fun v18 => chk (0 ≤ w32 (a3 + 3) ∧ w32 (a3 + 3) < (L : Int)) <| blet (sx (ix (a3 + 3))) fun v20 => chk (0 ≤ w32 (a3 + 4) ∧ w32 (a3 + 4) < (L : Int)) <| blet (sx (ix (a3 + 4))) fun v22 => chk (0 ≤ w32 (a3 + 5) ∧ w32 (a3 + 5) < (L : Int)) <| blet (sx (ix (a3 + 5))) fun v24 => chk (0 ≤ w32 (a3 + 6) ∧ w32 (a3 + 6) < (L : Int)) <| blet (sx (ix (a3 + 6))) fun v26 => bcall (d_Mo_load v16 v18 v20 v22 v24 v26 M14) fun v27 M28 => if w32 v13 = w32 v27 then (k_Lw_law_2054 L sx R18 a3 M28) else (some (0, M28))
theorem z_Lw_law_510 (C : Cx p s m #[Value.ref b] meth c G b_Lw_law 4 "PrairiePoolLaw" ret) {L : Nat} {xs : Nat → Int32} (hX : va_X b L xs s s.heap) (hb0 : b < G.1 ∧ G.1 = s.heap.size) {r : Int × Mem} (hr1 : G.1 = s.heap.size ∧ r.1 = 1) {R18 : Int → Mem → Res} (hR18 : ∀ (a3 : Int) (M : Mem), R18 a3 M = some r → Z0 p l e room_1 189 39158 s m #[Value.ref b] below meth c G 4 (lw_Z below #[Value.ref b] s) (Pic G M) 18 [(0, .ref b), (1, .ref (G.1 + 0)), (2, .ref (G.1 + 111)), (3, vi a3)] []) {a3 : Int} {M : Mem} (h : k_Lw_law_510 L (fun j => (xs j).toInt) R18 a3 M = some r) : Z0 p l e room_1 189 39158 s m #[Value.ref b] below meth c G 4 (lw_Z below #[Value.ref b] s) (Pic G M) 510 [(0, .ref b), (1, .ref (G.1 + 0)), (2, .ref (G.1 + 111)), (3, vi a3)] [] := by
  unfold k_Lw_law_510 at h
  refine z_aload_n C 1 x_Lw_law_510 rfl ?_
  refine z_aload_n C 0 x_Lw_law_511 rfl ?_
  refine z_iload_n C 3 x_Lw_law_512 rfl ?_
  refine z_iconst C x_Lw_law_513 ?_
  refine z_iadd C x_Lw_law_514 ?_
  obtain ⟨c1, h⟩ := chk_e h
  obtain ⟨v2, ev2, h⟩ := blet_e h
  refine zl_sld C hX hb0 x_Lw_law_515 c1 ev2 ?_
  refine z_aload_n C 0 x_Lw_law_516 rfl ?_
  refine z_iload_n C 3 x_Lw_law_517 rfl ?_
  refine z_iconst C x_Lw_law_518 ?_
  refine z_iadd C x_Lw_law_519 ?_
  obtain ⟨c3, h⟩ := chk_e h
  obtain ⟨v4, ev4, h⟩ := blet_e h
  refine zl_sld C hX hb0 x_Lw_law_520 c3 ev4 ?_
  refine z_aload_n C 0 x_Lw_law_521 rfl ?_
  refine z_iload_n C 3 x_Lw_law_522 rfl ?_
  refine z_iconst C x_Lw_law_523 ?_
  refine z_iadd C x_Lw_law_524 ?_
  obtain ⟨c5, h⟩ := chk_e h
  obtain ⟨v6, ev6, h⟩ := blet_e h
  refine zl_sld C hX hb0 x_Lw_law_525 c5 ev6 ?_
  refine z_aload_n C 0 x_Lw_law_526 rfl ?_
  refine z_iload_n C 3 x_Lw_law_527 rfl ?_
  refine z_iconst C x_Lw_law_528 ?_
  refine z_iadd C x_Lw_law_529 ?_
  obtain ⟨c7, h⟩ := chk_e h
  obtain ⟨v8, ev8, h⟩ := blet_e h
  refine zl_sld C hX hb0 x_Lw_law_530 c7 ev8 ?_
  refine z_aload_n C 0 x_Lw_law_531 rfl ?_
  refine z_iload_n C 3 x_Lw_law_532 rfl ?_
  refine z_iconst C x_Lw_law_533 ?_
  refine z_iadd C x_Lw_law_534 ?_
  obtain ⟨c9, h⟩ := chk_e h
  obtain ⟨v10, ev10, h⟩ := blet_e h
  refine zl_sld C hX hb0 x_Lw_law_535 c9 ev10 ?_
  refine z_aload_n C 0 x_Lw_law_536 rfl ?_
  refine z_iload_n C 3 x_Lw_law_537 rfl ?_
  refine z_bipush C rfl x_Lw_law_538 ?_
  refine z_iadd C x_Lw_law_540 ?_
  obtain ⟨c11, h⟩ := chk_e h
  obtain ⟨v12, ev12, h⟩ := blet_e h
  refine zl_sld C hX hb0 x_Lw_law_541 c11 ev12 ?_
  obtain ⟨v13, M14, fv13, h⟩ := bcall_e h
  refine zl_callVi (k := 0) C x_Lw_law_542 cv_Lw_50 (t_PP_load (lev := 500) l G (by decide) fv13) nk_0 ck_0 rfl (by decide) rfl (i_le rfl) rfl ?_
  refine z_aload_n C 2 x_Lw_law_545 rfl ?_
  refine z_aload_n C 0 x_Lw_law_546 rfl ?_
  refine z_iload_n C 3 x_Lw_law_547 rfl ?_
  refine z_iconst C x_Lw_law_548 ?_
  refine z_iadd C x_Lw_law_549 ?_
  obtain ⟨c15, h⟩ := chk_e h
  obtain ⟨v16, ev16, h⟩ := blet_e h
  refine zl_sld C hX hb0 x_Lw_law_550 c15 ev16 ?_
  refine z_aload_n C 0 x_Lw_law_551 rfl ?_
  refine z_iload_n C 3 x_Lw_law_552 rfl ?_
  refine z_iconst C x_Lw_law_553 ?_
  refine z_iadd C x_Lw_law_554 ?_
  obtain ⟨c17, h⟩ := chk_e h
  obtain ⟨v18, ev18, h⟩ := blet_e h
  refine zl_sld C hX hb0 x_Lw_law_555 c17 ev18 ?_
  refine z_aload_n C 0 x_Lw_law_556 rfl ?_
  refine z_iload_n C 3 x_Lw_law_557 rfl ?_
  refine z_iconst C x_Lw_law_558 ?_
  refine z_iadd C x_Lw_law_559 ?_
  obtain ⟨c19, h⟩ := chk_e h
  obtain ⟨v20, ev20, h⟩ := blet_e h
  refine zl_sld C hX hb0 x_Lw_law_560 c19 ev20 ?_
  refine z_aload_n C 0 x_Lw_law_561 rfl ?_
  refine z_iload_n C 3 x_Lw_law_562 rfl ?_
  refine z_iconst C x_Lw_law_563 ?_
  refine z_iadd C x_Lw_law_564 ?_
  obtain ⟨c21, h⟩ := chk_e h
  obtain ⟨v22, ev22, h⟩ := blet_e h
  refine zl_sld C hX hb0 x_Lw_law_565 c21 ev22 ?_
  refine z_aload_n C 0 x_Lw_law_566 rfl ?_
  refine z_iload_n C 3 x_Lw_law_567 rfl ?_
  refine z_iconst C x_Lw_law_568 ?_
  refine z_iadd C x_Lw_law_569 ?_
  obtain ⟨c23, h⟩ := chk_e h
  obtain ⟨v24, ev24, h⟩ := blet_e h
  refine zl_sld C hX hb0 x_Lw_law_570 c23 ev24 ?_
  refine z_aload_n C 0 x_Lw_law_571 rfl ?_
  refine z_iload_n C 3 x_Lw_law_572 rfl ?_
  refine z_bipush C rfl x_Lw_law_573 ?_
  refine z_iadd C x_Lw_law_575 ?_
  obtain ⟨c25, h⟩ := chk_e h
  obtain ⟨v26, ev26, h⟩ := blet_e h
  refine zl_sld C hX hb0 x_Lw_law_576 c25 ev26 ?_
  obtain ⟨v27, M28, fv27, h⟩ := bcall_e h
  refine zl_callVi (k := 111) C x_Lw_law_577 cv_Lw_54 (t_Mo_load (lev := 500) l G (by decide) fv27) nk_111 ck_111 rfl (by decide) rfl (i_le rfl) rfl ?_
  rcases ite_e h with ⟨c29, h⟩ | ⟨c29, h⟩
  · refine z_icmp_eq_t (tgt := 2054) C x_Lw_law_580 rfl c29 ?_
    exact z_sub [0, 1, 2, 3] rfl (z_Lw_law_2054 C hX hb0 hr1 hR18 h)
  · refine z_icmp_eq_f (tgt := 2054) C x_Lw_law_580 rfl c29 ?_
    refine z_iconst C x_Lw_law_583 ?_
    exact absurd hr1.2 (by cases h; show ¬ ((0 : Int) = 1); decide)
def k_Lw_law_477 (L : Nat) (sx : Nat → Int) (R18 : Int → Mem → Res) (a3 : Int) (M : Mem) : Res := chk (0 ≤ w32 (a3 + 1) ∧ w32 (a3 + 1) < (L : Int)) <| blet (sx (ix (a3 + 1))) fun v2 => chk (0 ≤ w32 (a3 + 2) ∧ w32 (a3 + 2) < (L : Int)) <| blet (sx (ix (a3 + 2))) fun v4 => bcall (d_PP_elevator v2 v4 M) fun v5 M6 => chk (0 ≤ w32 (a3 + 1) ∧ w32 (a3 + 1) < (L : Int)) <| blet (sx (ix (a3 + 1))) fun v8 => chk (0 ≤ w32 (a3 + 2) ∧ w32 (a3 + 2) < (L : Int)) <| blet (sx (ix (a3 + 2))) fun v10 => bcall (d_Mo_elevator v8 v10 M6) fun v11 M12 => if w32 v5 = w32 v11 then (k_Lw_law_2054 L sx R18 a3 M12) else (some (0, M12))
theorem z_Lw_law_477 (C : Cx p s m #[Value.ref b] meth c G b_Lw_law 4 "PrairiePoolLaw" ret) {L : Nat} {xs : Nat → Int32} (hX : va_X b L xs s s.heap) (hb0 : b < G.1 ∧ G.1 = s.heap.size) {r : Int × Mem} (hr1 : G.1 = s.heap.size ∧ r.1 = 1) {R18 : Int → Mem → Res} (hR18 : ∀ (a3 : Int) (M : Mem), R18 a3 M = some r → Z0 p l e room_1 189 39158 s m #[Value.ref b] below meth c G 4 (lw_Z below #[Value.ref b] s) (Pic G M) 18 [(0, .ref b), (1, .ref (G.1 + 0)), (2, .ref (G.1 + 111)), (3, vi a3)] []) {a3 : Int} {M : Mem} (h : k_Lw_law_477 L (fun j => (xs j).toInt) R18 a3 M = some r) : Z0 p l e room_1 189 39158 s m #[Value.ref b] below meth c G 4 (lw_Z below #[Value.ref b] s) (Pic G M) 477 [(0, .ref b), (1, .ref (G.1 + 0)), (2, .ref (G.1 + 111)), (3, vi a3)] [] := by
  unfold k_Lw_law_477 at h
  refine z_aload_n C 1 x_Lw_law_477 rfl ?_
  refine z_aload_n C 0 x_Lw_law_478 rfl ?_
  refine z_iload_n C 3 x_Lw_law_479 rfl ?_
  refine z_iconst C x_Lw_law_480 ?_
  refine z_iadd C x_Lw_law_481 ?_
  obtain ⟨c1, h⟩ := chk_e h
  obtain ⟨v2, ev2, h⟩ := blet_e h
  refine zl_sld C hX hb0 x_Lw_law_482 c1 ev2 ?_
  refine z_aload_n C 0 x_Lw_law_483 rfl ?_
  refine z_iload_n C 3 x_Lw_law_484 rfl ?_
  refine z_iconst C x_Lw_law_485 ?_
  refine z_iadd C x_Lw_law_486 ?_
  obtain ⟨c3, h⟩ := chk_e h
  obtain ⟨v4, ev4, h⟩ := blet_e h
  refine zl_sld C hX hb0 x_Lw_law_487 c3 ev4 ?_
  obtain ⟨v5, M6, fv5, h⟩ := bcall_e h
  refine zl_callVi (k := 0) C x_Lw_law_488 cv_Lw_45 (t_PP_elevator (lev := 500) l G (by decide) fv5) nk_0 ck_0 rfl (by decide) rfl (i_le rfl) rfl ?_
  refine z_aload_n C 2 x_Lw_law_491 rfl ?_
  refine z_aload_n C 0 x_Lw_law_492 rfl ?_
  refine z_iload_n C 3 x_Lw_law_493 rfl ?_
  refine z_iconst C x_Lw_law_494 ?_
  refine z_iadd C x_Lw_law_495 ?_
  obtain ⟨c7, h⟩ := chk_e h
  obtain ⟨v8, ev8, h⟩ := blet_e h
  refine zl_sld C hX hb0 x_Lw_law_496 c7 ev8 ?_
  refine z_aload_n C 0 x_Lw_law_497 rfl ?_
  refine z_iload_n C 3 x_Lw_law_498 rfl ?_
  refine z_iconst C x_Lw_law_499 ?_
  refine z_iadd C x_Lw_law_500 ?_
  obtain ⟨c9, h⟩ := chk_e h
  obtain ⟨v10, ev10, h⟩ := blet_e h
  refine zl_sld C hX hb0 x_Lw_law_501 c9 ev10 ?_
  obtain ⟨v11, M12, fv11, h⟩ := bcall_e h
  refine zl_callVi (k := 111) C x_Lw_law_502 cv_Lw_49 (t_Mo_elevator (lev := 500) l G (by decide) fv11) nk_111 ck_111 rfl (by decide) rfl (i_le rfl) rfl ?_
  rcases ite_e h with ⟨c13, h⟩ | ⟨c13, h⟩
  · refine z_icmp_eq_t (tgt := 2054) C x_Lw_law_505 rfl c13 ?_
    exact z_sub [0, 1, 2, 3] rfl (z_Lw_law_2054 C hX hb0 hr1 hR18 h)
  · refine z_icmp_eq_f (tgt := 2054) C x_Lw_law_505 rfl c13 ?_
    refine z_iconst C x_Lw_law_508 ?_
    exact absurd hr1.2 (by cases h; show ¬ ((0 : Int) = 1); decide)
def k_Lw_law_434 (L : Nat) (sx : Nat → Int) (R18 : Int → Mem → Res) (a3 : Int) (M : Mem) : Res := chk (0 ≤ w32 (a3 + 1) ∧ w32 (a3 + 1) < (L : Int)) <| blet (sx (ix (a3 + 1))) fun v2 => chk (0 ≤ w32 (a3 + 2) ∧ w32 (a3 + 2) < (L : Int)) <| blet (sx (ix (a3 + 2))) fun v4 => chk (0 ≤ w32 (a3 + 3) ∧ w32 (a3 + 3) < (L : Int)) <| blet (sx (ix (a3 + 3))) fun v6 => bcall (d_PP_farm v2 v4 v6 M) fun v7 M8 => chk (0 ≤ w32 (a3 + 1) ∧ w32 (a3 + 1) < (L : Int)) <| blet (sx (ix (a3 + 1))) fun v10 => chk (0 ≤ w32 (a3 + 2) ∧ w32 (a3 + 2) < (L : Int)) <| blet (sx (ix (a3 + 2))) fun v12 => chk (0 ≤ w32 (a3 + 3) ∧ w32 (a3 + 3) < (L : Int)) <| blet (sx (ix (a3 + 3))) fun v14 => bcall (d_Mo_farm v10 v12 v14 M8) fun v15 M16 => if w32 v7 = w32 v15 then (k_Lw_law_2054 L sx R18 a3 M16) else (some (0, M16))
theorem z_Lw_law_434 (C : Cx p s m #[Value.ref b] meth c G b_Lw_law 4 "PrairiePoolLaw" ret) {L : Nat} {xs : Nat → Int32} (hX : va_X b L xs s s.heap) (hb0 : b < G.1 ∧ G.1 = s.heap.size) {r : Int × Mem} (hr1 : G.1 = s.heap.size ∧ r.1 = 1) {R18 : Int → Mem → Res} (hR18 : ∀ (a3 : Int) (M : Mem), R18 a3 M = some r → Z0 p l e room_1 189 39158 s m #[Value.ref b] below meth c G 4 (lw_Z below #[Value.ref b] s) (Pic G M) 18 [(0, .ref b), (1, .ref (G.1 + 0)), (2, .ref (G.1 + 111)), (3, vi a3)] []) {a3 : Int} {M : Mem} (h : k_Lw_law_434 L (fun j => (xs j).toInt) R18 a3 M = some r) : Z0 p l e room_1 189 39158 s m #[Value.ref b] below meth c G 4 (lw_Z below #[Value.ref b] s) (Pic G M) 434 [(0, .ref b), (1, .ref (G.1 + 0)), (2, .ref (G.1 + 111)), (3, vi a3)] [] := by
  unfold k_Lw_law_434 at h
  refine z_aload_n C 1 x_Lw_law_434 rfl ?_
  refine z_aload_n C 0 x_Lw_law_435 rfl ?_
  refine z_iload_n C 3 x_Lw_law_436 rfl ?_
  refine z_iconst C x_Lw_law_437 ?_
  refine z_iadd C x_Lw_law_438 ?_
  obtain ⟨c1, h⟩ := chk_e h
  obtain ⟨v2, ev2, h⟩ := blet_e h
  refine zl_sld C hX hb0 x_Lw_law_439 c1 ev2 ?_
  refine z_aload_n C 0 x_Lw_law_440 rfl ?_
  refine z_iload_n C 3 x_Lw_law_441 rfl ?_
  refine z_iconst C x_Lw_law_442 ?_
  refine z_iadd C x_Lw_law_443 ?_
  obtain ⟨c3, h⟩ := chk_e h
  obtain ⟨v4, ev4, h⟩ := blet_e h
  refine zl_sld C hX hb0 x_Lw_law_444 c3 ev4 ?_
  refine z_aload_n C 0 x_Lw_law_445 rfl ?_
  refine z_iload_n C 3 x_Lw_law_446 rfl ?_
  refine z_iconst C x_Lw_law_447 ?_
  refine z_iadd C x_Lw_law_448 ?_
  obtain ⟨c5, h⟩ := chk_e h
  obtain ⟨v6, ev6, h⟩ := blet_e h
  refine zl_sld C hX hb0 x_Lw_law_449 c5 ev6 ?_
  obtain ⟨v7, M8, fv7, h⟩ := bcall_e h
  refine zl_callVi (k := 0) C x_Lw_law_450 cv_Lw_40 (t_PP_farm (lev := 500) l G (by decide) fv7) nk_0 ck_0 rfl (by decide) rfl (i_le rfl) rfl ?_
  refine z_aload_n C 2 x_Lw_law_453 rfl ?_
  refine z_aload_n C 0 x_Lw_law_454 rfl ?_
  refine z_iload_n C 3 x_Lw_law_455 rfl ?_
  refine z_iconst C x_Lw_law_456 ?_
  refine z_iadd C x_Lw_law_457 ?_
  obtain ⟨c9, h⟩ := chk_e h
  obtain ⟨v10, ev10, h⟩ := blet_e h
  refine zl_sld C hX hb0 x_Lw_law_458 c9 ev10 ?_
  refine z_aload_n C 0 x_Lw_law_459 rfl ?_
  refine z_iload_n C 3 x_Lw_law_460 rfl ?_
  refine z_iconst C x_Lw_law_461 ?_
  refine z_iadd C x_Lw_law_462 ?_
  obtain ⟨c11, h⟩ := chk_e h
  obtain ⟨v12, ev12, h⟩ := blet_e h
  refine zl_sld C hX hb0 x_Lw_law_463 c11 ev12 ?_
  refine z_aload_n C 0 x_Lw_law_464 rfl ?_
  refine z_iload_n C 3 x_Lw_law_465 rfl ?_
  refine z_iconst C x_Lw_law_466 ?_
  refine z_iadd C x_Lw_law_467 ?_
  obtain ⟨c13, h⟩ := chk_e h
  obtain ⟨v14, ev14, h⟩ := blet_e h
  refine zl_sld C hX hb0 x_Lw_law_468 c13 ev14 ?_
  obtain ⟨v15, M16, fv15, h⟩ := bcall_e h
  refine zl_callVi (k := 111) C x_Lw_law_469 cv_Lw_44 (t_Mo_farm (lev := 500) l G (by decide) fv15) nk_111 ck_111 rfl (by decide) rfl (i_le rfl) rfl ?_
  rcases ite_e h with ⟨c17, h⟩ | ⟨c17, h⟩
  · refine z_icmp_eq_t (tgt := 2054) C x_Lw_law_472 rfl c17 ?_
    exact z_sub [0, 1, 2, 3] rfl (z_Lw_law_2054 C hX hb0 hr1 hR18 h)
  · refine z_icmp_eq_f (tgt := 2054) C x_Lw_law_472 rfl c17 ?_
    refine z_iconst C x_Lw_law_475 ?_
    exact absurd hr1.2 (by cases h; show ¬ ((0 : Int) = 1); decide)
def k_Lw_law_371 (L : Nat) (sx : Nat → Int) (R18 : Int → Mem → Res) (a3 : Int) (M : Mem) : Res := chk (0 ≤ w32 (a3 + 1) ∧ w32 (a3 + 1) < (L : Int)) <| blet (sx (ix (a3 + 1))) fun v2 => chk (0 ≤ w32 (a3 + 2) ∧ w32 (a3 + 2) < (L : Int)) <| blet (sx (ix (a3 + 2))) fun v4 => chk (0 ≤ w32 (a3 + 3) ∧ w32 (a3 + 3) < (L : Int)) <| blet (sx (ix (a3 + 3))) fun v6 => chk (0 ≤ w32 (a3 + 4) ∧ w32 (a3 + 4) < (L : Int)) <| blet (sx (ix (a3 + 4))) fun v8 => chk (0 ≤ w32 (a3 + 5) ∧ w32 (a3 + 5) < (L : Int)) <| blet (sx (ix (a3 + 5))) fun v10 => bcall (d_PP_pour v2 v4 v6 v8 v10 M) fun v11 M12 => chk (0 ≤ w32 (a3 + 1) ∧ w32 (a3 + 1) < (L : Int)) <| blet (sx (ix (a3 + 1))) fun v14 => chk (0 ≤ w32 (a3 + 2) ∧ w32 (a3 + 2) < (L : Int)) <| blet (sx (ix (a3 + 2))) fun v16 => chk (0 ≤ w32 (a3 + 3) ∧ w32 (a3 + 3) < (L : Int)) <| blet (sx (ix (a3 + 3))) fun v18 => chk (0 ≤ w32 (a3 + 4) ∧ w32 (a3 + 4) < (L : Int)) <| blet (sx (ix (a3 + 4))) fun v20 => chk (0 ≤ w32 (a3 + 5) ∧ w32 (a3 + 5) < (L : Int)) <| blet (sx (ix (a3 + 5))) fun v22 => bcall (d_Mo_pour v14 v16 v18 v20 v22 M12) fun v23 M24 => if w32 v11 = w32 v23 then (k_Lw_law_2054 L sx R18 a3 M24) else (some (0, M24))
theorem z_Lw_law_371 (C : Cx p s m #[Value.ref b] meth c G b_Lw_law 4 "PrairiePoolLaw" ret) {L : Nat} {xs : Nat → Int32} (hX : va_X b L xs s s.heap) (hb0 : b < G.1 ∧ G.1 = s.heap.size) {r : Int × Mem} (hr1 : G.1 = s.heap.size ∧ r.1 = 1) {R18 : Int → Mem → Res} (hR18 : ∀ (a3 : Int) (M : Mem), R18 a3 M = some r → Z0 p l e room_1 189 39158 s m #[Value.ref b] below meth c G 4 (lw_Z below #[Value.ref b] s) (Pic G M) 18 [(0, .ref b), (1, .ref (G.1 + 0)), (2, .ref (G.1 + 111)), (3, vi a3)] []) {a3 : Int} {M : Mem} (h : k_Lw_law_371 L (fun j => (xs j).toInt) R18 a3 M = some r) : Z0 p l e room_1 189 39158 s m #[Value.ref b] below meth c G 4 (lw_Z below #[Value.ref b] s) (Pic G M) 371 [(0, .ref b), (1, .ref (G.1 + 0)), (2, .ref (G.1 + 111)), (3, vi a3)] [] := by
  unfold k_Lw_law_371 at h
  refine z_aload_n C 1 x_Lw_law_371 rfl ?_
  refine z_aload_n C 0 x_Lw_law_372 rfl ?_
  refine z_iload_n C 3 x_Lw_law_373 rfl ?_
  refine z_iconst C x_Lw_law_374 ?_
  refine z_iadd C x_Lw_law_375 ?_
  obtain ⟨c1, h⟩ := chk_e h
  obtain ⟨v2, ev2, h⟩ := blet_e h
  refine zl_sld C hX hb0 x_Lw_law_376 c1 ev2 ?_
  refine z_aload_n C 0 x_Lw_law_377 rfl ?_
  refine z_iload_n C 3 x_Lw_law_378 rfl ?_
  refine z_iconst C x_Lw_law_379 ?_
  refine z_iadd C x_Lw_law_380 ?_
  obtain ⟨c3, h⟩ := chk_e h
  obtain ⟨v4, ev4, h⟩ := blet_e h
  refine zl_sld C hX hb0 x_Lw_law_381 c3 ev4 ?_
  refine z_aload_n C 0 x_Lw_law_382 rfl ?_
  refine z_iload_n C 3 x_Lw_law_383 rfl ?_
  refine z_iconst C x_Lw_law_384 ?_
  refine z_iadd C x_Lw_law_385 ?_
  obtain ⟨c5, h⟩ := chk_e h
  obtain ⟨v6, ev6, h⟩ := blet_e h
  refine zl_sld C hX hb0 x_Lw_law_386 c5 ev6 ?_
  refine z_aload_n C 0 x_Lw_law_387 rfl ?_
  refine z_iload_n C 3 x_Lw_law_388 rfl ?_
  refine z_iconst C x_Lw_law_389 ?_
  refine z_iadd C x_Lw_law_390 ?_
  obtain ⟨c7, h⟩ := chk_e h
  obtain ⟨v8, ev8, h⟩ := blet_e h
  refine zl_sld C hX hb0 x_Lw_law_391 c7 ev8 ?_
  refine z_aload_n C 0 x_Lw_law_392 rfl ?_
  refine z_iload_n C 3 x_Lw_law_393 rfl ?_
  refine z_iconst C x_Lw_law_394 ?_
  refine z_iadd C x_Lw_law_395 ?_
  obtain ⟨c9, h⟩ := chk_e h
  obtain ⟨v10, ev10, h⟩ := blet_e h
  refine zl_sld C hX hb0 x_Lw_law_396 c9 ev10 ?_
  obtain ⟨v11, M12, fv11, h⟩ := bcall_e h
  refine zl_callVi (k := 0) C x_Lw_law_397 cv_Lw_35 (t_PP_pour (lev := 500) l G (by decide) fv11) nk_0 ck_0 rfl (by decide) rfl (i_le rfl) rfl ?_
  refine z_aload_n C 2 x_Lw_law_400 rfl ?_
  refine z_aload_n C 0 x_Lw_law_401 rfl ?_
  refine z_iload_n C 3 x_Lw_law_402 rfl ?_
  refine z_iconst C x_Lw_law_403 ?_
  refine z_iadd C x_Lw_law_404 ?_
  obtain ⟨c13, h⟩ := chk_e h
  obtain ⟨v14, ev14, h⟩ := blet_e h
  refine zl_sld C hX hb0 x_Lw_law_405 c13 ev14 ?_
  refine z_aload_n C 0 x_Lw_law_406 rfl ?_
  refine z_iload_n C 3 x_Lw_law_407 rfl ?_
  refine z_iconst C x_Lw_law_408 ?_
  refine z_iadd C x_Lw_law_409 ?_
  obtain ⟨c15, h⟩ := chk_e h
  obtain ⟨v16, ev16, h⟩ := blet_e h
  refine zl_sld C hX hb0 x_Lw_law_410 c15 ev16 ?_
  refine z_aload_n C 0 x_Lw_law_411 rfl ?_
  refine z_iload_n C 3 x_Lw_law_412 rfl ?_
  refine z_iconst C x_Lw_law_413 ?_
  refine z_iadd C x_Lw_law_414 ?_
  obtain ⟨c17, h⟩ := chk_e h
  obtain ⟨v18, ev18, h⟩ := blet_e h
  refine zl_sld C hX hb0 x_Lw_law_415 c17 ev18 ?_
  refine z_aload_n C 0 x_Lw_law_416 rfl ?_
  refine z_iload_n C 3 x_Lw_law_417 rfl ?_
  refine z_iconst C x_Lw_law_418 ?_
  refine z_iadd C x_Lw_law_419 ?_
  obtain ⟨c19, h⟩ := chk_e h
  obtain ⟨v20, ev20, h⟩ := blet_e h
  refine zl_sld C hX hb0 x_Lw_law_420 c19 ev20 ?_
  refine z_aload_n C 0 x_Lw_law_421 rfl ?_
  refine z_iload_n C 3 x_Lw_law_422 rfl ?_
  refine z_iconst C x_Lw_law_423 ?_
  refine z_iadd C x_Lw_law_424 ?_
  obtain ⟨c21, h⟩ := chk_e h
  obtain ⟨v22, ev22, h⟩ := blet_e h
  refine zl_sld C hX hb0 x_Lw_law_425 c21 ev22 ?_
  obtain ⟨v23, M24, fv23, h⟩ := bcall_e h
  refine zl_callVi (k := 111) C x_Lw_law_426 cv_Lw_39 (t_Mo_pour (lev := 500) l G (by decide) fv23) nk_111 ck_111 rfl (by decide) rfl (i_le rfl) rfl ?_
  rcases ite_e h with ⟨c25, h⟩ | ⟨c25, h⟩
  · refine z_icmp_eq_t (tgt := 2054) C x_Lw_law_429 rfl c25 ?_
    exact z_sub [0, 1, 2, 3] rfl (z_Lw_law_2054 C hX hb0 hr1 hR18 h)
  · refine z_icmp_eq_f (tgt := 2054) C x_Lw_law_429 rfl c25 ?_
    refine z_iconst C x_Lw_law_432 ?_
    exact absurd hr1.2 (by cases h; show ¬ ((0 : Int) = 1); decide)
def k_Lw_law_337 (L : Nat) (sx : Nat → Int) (R18 : Int → Mem → Res) (a3 : Int) (M : Mem) : Res := chk (0 ≤ w32 (a3 + 1) ∧ w32 (a3 + 1) < (L : Int)) <| blet (sx (ix (a3 + 1))) fun v2 => chk (0 ≤ w32 (a3 + 2) ∧ w32 (a3 + 2) < (L : Int)) <| blet (sx (ix (a3 + 2))) fun v4 => bcall (d_PP_read v2 v4 M) fun v5 M6 => chk (0 ≤ w32 (a3 + 1) ∧ w32 (a3 + 1) < (L : Int)) <| blet (sx (ix (a3 + 1))) fun v8 => chk (0 ≤ w32 (a3 + 2) ∧ w32 (a3 + 2) < (L : Int)) <| blet (sx (ix (a3 + 2))) fun v10 => bcall (d_Mo_read v8 v10 M6) fun v11 M12 => if w64 v5 = w64 v11 then (k_Lw_law_2054 L sx R18 a3 M12) else (some (0, M12))
theorem z_Lw_law_337 (C : Cx p s m #[Value.ref b] meth c G b_Lw_law 4 "PrairiePoolLaw" ret) {L : Nat} {xs : Nat → Int32} (hX : va_X b L xs s s.heap) (hb0 : b < G.1 ∧ G.1 = s.heap.size) {r : Int × Mem} (hr1 : G.1 = s.heap.size ∧ r.1 = 1) {R18 : Int → Mem → Res} (hR18 : ∀ (a3 : Int) (M : Mem), R18 a3 M = some r → Z0 p l e room_1 189 39158 s m #[Value.ref b] below meth c G 4 (lw_Z below #[Value.ref b] s) (Pic G M) 18 [(0, .ref b), (1, .ref (G.1 + 0)), (2, .ref (G.1 + 111)), (3, vi a3)] []) {a3 : Int} {M : Mem} (h : k_Lw_law_337 L (fun j => (xs j).toInt) R18 a3 M = some r) : Z0 p l e room_1 189 39158 s m #[Value.ref b] below meth c G 4 (lw_Z below #[Value.ref b] s) (Pic G M) 337 [(0, .ref b), (1, .ref (G.1 + 0)), (2, .ref (G.1 + 111)), (3, vi a3)] [] := by
  unfold k_Lw_law_337 at h
  refine z_aload_n C 1 x_Lw_law_337 rfl ?_
  refine z_aload_n C 0 x_Lw_law_338 rfl ?_
  refine z_iload_n C 3 x_Lw_law_339 rfl ?_
  refine z_iconst C x_Lw_law_340 ?_
  refine z_iadd C x_Lw_law_341 ?_
  obtain ⟨c1, h⟩ := chk_e h
  obtain ⟨v2, ev2, h⟩ := blet_e h
  refine zl_sld C hX hb0 x_Lw_law_342 c1 ev2 ?_
  refine z_aload_n C 0 x_Lw_law_343 rfl ?_
  refine z_iload_n C 3 x_Lw_law_344 rfl ?_
  refine z_iconst C x_Lw_law_345 ?_
  refine z_iadd C x_Lw_law_346 ?_
  obtain ⟨c3, h⟩ := chk_e h
  obtain ⟨v4, ev4, h⟩ := blet_e h
  refine zl_sld C hX hb0 x_Lw_law_347 c3 ev4 ?_
  obtain ⟨v5, M6, fv5, h⟩ := bcall_e h
  refine zl_callVl (k := 0) C x_Lw_law_348 cv_Lw_30 (t_PP_read (lev := 500) l G (by decide) fv5) nk_0 ck_0 rfl (by decide) rfl (i_le rfl) rfl ?_
  refine z_aload_n C 2 x_Lw_law_351 rfl ?_
  refine z_aload_n C 0 x_Lw_law_352 rfl ?_
  refine z_iload_n C 3 x_Lw_law_353 rfl ?_
  refine z_iconst C x_Lw_law_354 ?_
  refine z_iadd C x_Lw_law_355 ?_
  obtain ⟨c7, h⟩ := chk_e h
  obtain ⟨v8, ev8, h⟩ := blet_e h
  refine zl_sld C hX hb0 x_Lw_law_356 c7 ev8 ?_
  refine z_aload_n C 0 x_Lw_law_357 rfl ?_
  refine z_iload_n C 3 x_Lw_law_358 rfl ?_
  refine z_iconst C x_Lw_law_359 ?_
  refine z_iadd C x_Lw_law_360 ?_
  obtain ⟨c9, h⟩ := chk_e h
  obtain ⟨v10, ev10, h⟩ := blet_e h
  refine zl_sld C hX hb0 x_Lw_law_361 c9 ev10 ?_
  obtain ⟨v11, M12, fv11, h⟩ := bcall_e h
  refine zl_callVl (k := 111) C x_Lw_law_362 cv_Lw_34 (t_Mo_read (lev := 500) l G (by decide) fv11) nk_111 ck_111 rfl (by decide) rfl (i_le rfl) rfl ?_
  refine z_lcmp C x_Lw_law_365 ?_
  rcases ite_e h with ⟨c13, h⟩ | ⟨c13, h⟩
  · refine z_if_eq_t (tgt := 2054) C x_Lw_law_366 rfl (cm_eqz.mpr c13) ?_
    exact z_sub [0, 1, 2, 3] rfl (z_Lw_law_2054 C hX hb0 hr1 hR18 h)
  · refine z_if_eq_f (tgt := 2054) C x_Lw_law_366 rfl (fun q => c13 (cm_eqz.mp q)) ?_
    refine z_iconst C x_Lw_law_369 ?_
    exact absurd hr1.2 (by cases h; show ¬ ((0 : Int) = 1); decide)
def k_Lw_law_264 (L : Nat) (sx : Nat → Int) (R18 : Int → Mem → Res) (a3 : Int) (M : Mem) : Res := chk (0 ≤ w32 (a3 + 1) ∧ w32 (a3 + 1) < (L : Int)) <| blet (sx (ix (a3 + 1))) fun v2 => chk (0 ≤ w32 (a3 + 2) ∧ w32 (a3 + 2) < (L : Int)) <| blet (sx (ix (a3 + 2))) fun v4 => chk (0 ≤ w32 (a3 + 3) ∧ w32 (a3 + 3) < (L : Int)) <| blet (sx (ix (a3 + 3))) fun v6 => chk (0 ≤ w32 (a3 + 4) ∧ w32 (a3 + 4) < (L : Int)) <| blet (sx (ix (a3 + 4))) fun v8 => bcall (d_PP_write v2 v4 (or64 (sl64 (w32 v6) 32) (an64 (w32 v8) 4294967295)) M) fun v9 M10 => chk (0 ≤ w32 (a3 + 1) ∧ w32 (a3 + 1) < (L : Int)) <| blet (sx (ix (a3 + 1))) fun v12 => chk (0 ≤ w32 (a3 + 2) ∧ w32 (a3 + 2) < (L : Int)) <| blet (sx (ix (a3 + 2))) fun v14 => chk (0 ≤ w32 (a3 + 3) ∧ w32 (a3 + 3) < (L : Int)) <| blet (sx (ix (a3 + 3))) fun v16 => chk (0 ≤ w32 (a3 + 4) ∧ w32 (a3 + 4) < (L : Int)) <| blet (sx (ix (a3 + 4))) fun v18 => bcall (d_Mo_write v12 v14 (or64 (sl64 (w32 v16) 32) (an64 (w32 v18) 4294967295)) M10) fun v19 M20 => if w32 v9 = w32 v19 then (k_Lw_law_2054 L sx R18 a3 M20) else (some (0, M20))
theorem z_Lw_law_264 (C : Cx p s m #[Value.ref b] meth c G b_Lw_law 4 "PrairiePoolLaw" ret) {L : Nat} {xs : Nat → Int32} (hX : va_X b L xs s s.heap) (hb0 : b < G.1 ∧ G.1 = s.heap.size) {r : Int × Mem} (hr1 : G.1 = s.heap.size ∧ r.1 = 1) {R18 : Int → Mem → Res} (hR18 : ∀ (a3 : Int) (M : Mem), R18 a3 M = some r → Z0 p l e room_1 189 39158 s m #[Value.ref b] below meth c G 4 (lw_Z below #[Value.ref b] s) (Pic G M) 18 [(0, .ref b), (1, .ref (G.1 + 0)), (2, .ref (G.1 + 111)), (3, vi a3)] []) {a3 : Int} {M : Mem} (h : k_Lw_law_264 L (fun j => (xs j).toInt) R18 a3 M = some r) : Z0 p l e room_1 189 39158 s m #[Value.ref b] below meth c G 4 (lw_Z below #[Value.ref b] s) (Pic G M) 264 [(0, .ref b), (1, .ref (G.1 + 0)), (2, .ref (G.1 + 111)), (3, vi a3)] [] := by
  unfold k_Lw_law_264 at h
  refine z_aload_n C 1 x_Lw_law_264 rfl ?_
  refine z_aload_n C 0 x_Lw_law_265 rfl ?_
  refine z_iload_n C 3 x_Lw_law_266 rfl ?_
  refine z_iconst C x_Lw_law_267 ?_
  refine z_iadd C x_Lw_law_268 ?_
  obtain ⟨c1, h⟩ := chk_e h
  obtain ⟨v2, ev2, h⟩ := blet_e h
  refine zl_sld C hX hb0 x_Lw_law_269 c1 ev2 ?_
  refine z_aload_n C 0 x_Lw_law_270 rfl ?_
  refine z_iload_n C 3 x_Lw_law_271 rfl ?_
  refine z_iconst C x_Lw_law_272 ?_
  refine z_iadd C x_Lw_law_273 ?_
  obtain ⟨c3, h⟩ := chk_e h
  obtain ⟨v4, ev4, h⟩ := blet_e h
  refine zl_sld C hX hb0 x_Lw_law_274 c3 ev4 ?_
  refine z_aload_n C 0 x_Lw_law_275 rfl ?_
  refine z_iload_n C 3 x_Lw_law_276 rfl ?_
  refine z_iconst C x_Lw_law_277 ?_
  refine z_iadd C x_Lw_law_278 ?_
  obtain ⟨c5, h⟩ := chk_e h
  obtain ⟨v6, ev6, h⟩ := blet_e h
  refine zl_sld C hX hb0 x_Lw_law_279 c5 ev6 ?_
  refine z_i2l C x_Lw_law_280 ?_
  refine z_bipush C rfl x_Lw_law_281 ?_
  refine z_lshl C x_Lw_law_283 ?_
  refine z_aload_n C 0 x_Lw_law_284 rfl ?_
  refine z_iload_n C 3 x_Lw_law_285 rfl ?_
  refine z_iconst C x_Lw_law_286 ?_
  refine z_iadd C x_Lw_law_287 ?_
  obtain ⟨c7, h⟩ := chk_e h
  obtain ⟨v8, ev8, h⟩ := blet_e h
  refine zl_sld C hX hb0 x_Lw_law_288 c7 ev8 ?_
  refine z_i2l C x_Lw_law_289 ?_
  refine z_ldc2 C kl_Lw_23 x_Lw_law_290 ?_
  refine z_land C x_Lw_law_293 ?_
  refine z_lor C x_Lw_law_294 ?_
  obtain ⟨v9, M10, fv9, h⟩ := bcall_e h
  refine zl_callVi (k := 0) C x_Lw_law_295 cv_Lw_25 (t_PP_write (lev := 500) l G (by decide) fv9) nk_0 ck_0 rfl (by decide) rfl (i_le rfl) rfl ?_
  refine z_aload_n C 2 x_Lw_law_298 rfl ?_
  refine z_aload_n C 0 x_Lw_law_299 rfl ?_
  refine z_iload_n C 3 x_Lw_law_300 rfl ?_
  refine z_iconst C x_Lw_law_301 ?_
  refine z_iadd C x_Lw_law_302 ?_
  obtain ⟨c11, h⟩ := chk_e h
  obtain ⟨v12, ev12, h⟩ := blet_e h
  refine zl_sld C hX hb0 x_Lw_law_303 c11 ev12 ?_
  refine z_aload_n C 0 x_Lw_law_304 rfl ?_
  refine z_iload_n C 3 x_Lw_law_305 rfl ?_
  refine z_iconst C x_Lw_law_306 ?_
  refine z_iadd C x_Lw_law_307 ?_
  obtain ⟨c13, h⟩ := chk_e h
  obtain ⟨v14, ev14, h⟩ := blet_e h
  refine zl_sld C hX hb0 x_Lw_law_308 c13 ev14 ?_
  refine z_aload_n C 0 x_Lw_law_309 rfl ?_
  refine z_iload_n C 3 x_Lw_law_310 rfl ?_
  refine z_iconst C x_Lw_law_311 ?_
  refine z_iadd C x_Lw_law_312 ?_
  obtain ⟨c15, h⟩ := chk_e h
  obtain ⟨v16, ev16, h⟩ := blet_e h
  refine zl_sld C hX hb0 x_Lw_law_313 c15 ev16 ?_
  refine z_i2l C x_Lw_law_314 ?_
  refine z_bipush C rfl x_Lw_law_315 ?_
  refine z_lshl C x_Lw_law_317 ?_
  refine z_aload_n C 0 x_Lw_law_318 rfl ?_
  refine z_iload_n C 3 x_Lw_law_319 rfl ?_
  refine z_iconst C x_Lw_law_320 ?_
  refine z_iadd C x_Lw_law_321 ?_
  obtain ⟨c17, h⟩ := chk_e h
  obtain ⟨v18, ev18, h⟩ := blet_e h
  refine zl_sld C hX hb0 x_Lw_law_322 c17 ev18 ?_
  refine z_i2l C x_Lw_law_323 ?_
  refine z_ldc2 C kl_Lw_23 x_Lw_law_324 ?_
  refine z_land C x_Lw_law_327 ?_
  refine z_lor C x_Lw_law_328 ?_
  obtain ⟨v19, M20, fv19, h⟩ := bcall_e h
  refine zl_callVi (k := 111) C x_Lw_law_329 cv_Lw_29 (t_Mo_write (lev := 500) l G (by decide) fv19) nk_111 ck_111 rfl (by decide) rfl (i_le rfl) rfl ?_
  rcases ite_e h with ⟨c21, h⟩ | ⟨c21, h⟩
  · refine z_icmp_eq_t (tgt := 2054) C x_Lw_law_332 rfl c21 ?_
    exact z_sub [0, 1, 2, 3] rfl (z_Lw_law_2054 C hX hb0 hr1 hR18 h)
  · refine z_icmp_eq_f (tgt := 2054) C x_Lw_law_332 rfl c21 ?_
    refine z_iconst C x_Lw_law_335 ?_
    exact absurd hr1.2 (by cases h; show ¬ ((0 : Int) = 1); decide)
def k_Lw_law_221 (L : Nat) (sx : Nat → Int) (R18 : Int → Mem → Res) (a3 : Int) (M : Mem) : Res := chk (0 ≤ w32 (a3 + 1) ∧ w32 (a3 + 1) < (L : Int)) <| blet (sx (ix (a3 + 1))) fun v2 => chk (0 ≤ w32 (a3 + 2) ∧ w32 (a3 + 2) < (L : Int)) <| blet (sx (ix (a3 + 2))) fun v4 => chk (0 ≤ w32 (a3 + 3) ∧ w32 (a3 + 3) < (L : Int)) <| blet (sx (ix (a3 + 3))) fun v6 => bcall (d_PP_tray v2 v4 v6 M) fun v7 M8 => chk (0 ≤ w32 (a3 + 1) ∧ w32 (a3 + 1) < (L : Int)) <| blet (sx (ix (a3 + 1))) fun v10 => chk (0 ≤ w32 (a3 + 2) ∧ w32 (a3 + 2) < (L : Int)) <| blet (sx (ix (a3 + 2))) fun v12 => chk (0 ≤ w32 (a3 + 3) ∧ w32 (a3 + 3) < (L : Int)) <| blet (sx (ix (a3 + 3))) fun v14 => bcall (d_Mo_tray v10 v12 v14 M8) fun v15 M16 => if w32 v7 = w32 v15 then (k_Lw_law_2054 L sx R18 a3 M16) else (some (0, M16))
theorem z_Lw_law_221 (C : Cx p s m #[Value.ref b] meth c G b_Lw_law 4 "PrairiePoolLaw" ret) {L : Nat} {xs : Nat → Int32} (hX : va_X b L xs s s.heap) (hb0 : b < G.1 ∧ G.1 = s.heap.size) {r : Int × Mem} (hr1 : G.1 = s.heap.size ∧ r.1 = 1) {R18 : Int → Mem → Res} (hR18 : ∀ (a3 : Int) (M : Mem), R18 a3 M = some r → Z0 p l e room_1 189 39158 s m #[Value.ref b] below meth c G 4 (lw_Z below #[Value.ref b] s) (Pic G M) 18 [(0, .ref b), (1, .ref (G.1 + 0)), (2, .ref (G.1 + 111)), (3, vi a3)] []) {a3 : Int} {M : Mem} (h : k_Lw_law_221 L (fun j => (xs j).toInt) R18 a3 M = some r) : Z0 p l e room_1 189 39158 s m #[Value.ref b] below meth c G 4 (lw_Z below #[Value.ref b] s) (Pic G M) 221 [(0, .ref b), (1, .ref (G.1 + 0)), (2, .ref (G.1 + 111)), (3, vi a3)] [] := by
  unfold k_Lw_law_221 at h
  refine z_aload_n C 1 x_Lw_law_221 rfl ?_
  refine z_aload_n C 0 x_Lw_law_222 rfl ?_
  refine z_iload_n C 3 x_Lw_law_223 rfl ?_
  refine z_iconst C x_Lw_law_224 ?_
  refine z_iadd C x_Lw_law_225 ?_
  obtain ⟨c1, h⟩ := chk_e h
  obtain ⟨v2, ev2, h⟩ := blet_e h
  refine zl_sld C hX hb0 x_Lw_law_226 c1 ev2 ?_
  refine z_aload_n C 0 x_Lw_law_227 rfl ?_
  refine z_iload_n C 3 x_Lw_law_228 rfl ?_
  refine z_iconst C x_Lw_law_229 ?_
  refine z_iadd C x_Lw_law_230 ?_
  obtain ⟨c3, h⟩ := chk_e h
  obtain ⟨v4, ev4, h⟩ := blet_e h
  refine zl_sld C hX hb0 x_Lw_law_231 c3 ev4 ?_
  refine z_aload_n C 0 x_Lw_law_232 rfl ?_
  refine z_iload_n C 3 x_Lw_law_233 rfl ?_
  refine z_iconst C x_Lw_law_234 ?_
  refine z_iadd C x_Lw_law_235 ?_
  obtain ⟨c5, h⟩ := chk_e h
  obtain ⟨v6, ev6, h⟩ := blet_e h
  refine zl_sld C hX hb0 x_Lw_law_236 c5 ev6 ?_
  obtain ⟨v7, M8, fv7, h⟩ := bcall_e h
  refine zl_callVi (k := 0) C x_Lw_law_237 cv_Lw_18 (t_PP_tray (lev := 500) l G (by decide) fv7) nk_0 ck_0 rfl (by decide) rfl (i_le rfl) rfl ?_
  refine z_aload_n C 2 x_Lw_law_240 rfl ?_
  refine z_aload_n C 0 x_Lw_law_241 rfl ?_
  refine z_iload_n C 3 x_Lw_law_242 rfl ?_
  refine z_iconst C x_Lw_law_243 ?_
  refine z_iadd C x_Lw_law_244 ?_
  obtain ⟨c9, h⟩ := chk_e h
  obtain ⟨v10, ev10, h⟩ := blet_e h
  refine zl_sld C hX hb0 x_Lw_law_245 c9 ev10 ?_
  refine z_aload_n C 0 x_Lw_law_246 rfl ?_
  refine z_iload_n C 3 x_Lw_law_247 rfl ?_
  refine z_iconst C x_Lw_law_248 ?_
  refine z_iadd C x_Lw_law_249 ?_
  obtain ⟨c11, h⟩ := chk_e h
  obtain ⟨v12, ev12, h⟩ := blet_e h
  refine zl_sld C hX hb0 x_Lw_law_250 c11 ev12 ?_
  refine z_aload_n C 0 x_Lw_law_251 rfl ?_
  refine z_iload_n C 3 x_Lw_law_252 rfl ?_
  refine z_iconst C x_Lw_law_253 ?_
  refine z_iadd C x_Lw_law_254 ?_
  obtain ⟨c13, h⟩ := chk_e h
  obtain ⟨v14, ev14, h⟩ := blet_e h
  refine zl_sld C hX hb0 x_Lw_law_255 c13 ev14 ?_
  obtain ⟨v15, M16, fv15, h⟩ := bcall_e h
  refine zl_callVi (k := 111) C x_Lw_law_256 cv_Lw_22 (t_Mo_tray (lev := 500) l G (by decide) fv15) nk_111 ck_111 rfl (by decide) rfl (i_le rfl) rfl ?_
  rcases ite_e h with ⟨c17, h⟩ | ⟨c17, h⟩
  · refine z_icmp_eq_t (tgt := 2054) C x_Lw_law_259 rfl c17 ?_
    exact z_sub [0, 1, 2, 3] rfl (z_Lw_law_2054 C hX hb0 hr1 hR18 h)
  · refine z_icmp_eq_f (tgt := 2054) C x_Lw_law_259 rfl c17 ?_
    refine z_iconst C x_Lw_law_262 ?_
    exact absurd hr1.2 (by cases h; show ¬ ((0 : Int) = 1); decide)
def k_Lw_law_208 (L : Nat) (sx : Nat → Int) (R18 : Int → Mem → Res) (a3 : Int) (M : Mem) : Res := bcall (d_PP_status M) fun v1 M2 => bcall (d_Mo_status M2) fun v3 M4 => if w32 v1 = w32 v3 then (k_Lw_law_2054 L sx R18 a3 M4) else (some (0, M4))
theorem z_Lw_law_208 (C : Cx p s m #[Value.ref b] meth c G b_Lw_law 4 "PrairiePoolLaw" ret) {L : Nat} {xs : Nat → Int32} (hX : va_X b L xs s s.heap) (hb0 : b < G.1 ∧ G.1 = s.heap.size) {r : Int × Mem} (hr1 : G.1 = s.heap.size ∧ r.1 = 1) {R18 : Int → Mem → Res} (hR18 : ∀ (a3 : Int) (M : Mem), R18 a3 M = some r → Z0 p l e room_1 189 39158 s m #[Value.ref b] below meth c G 4 (lw_Z below #[Value.ref b] s) (Pic G M) 18 [(0, .ref b), (1, .ref (G.1 + 0)), (2, .ref (G.1 + 111)), (3, vi a3)] []) {a3 : Int} {M : Mem} (h : k_Lw_law_208 L (fun j => (xs j).toInt) R18 a3 M = some r) : Z0 p l e room_1 189 39158 s m #[Value.ref b] below meth c G 4 (lw_Z below #[Value.ref b] s) (Pic G M) 208 [(0, .ref b), (1, .ref (G.1 + 0)), (2, .ref (G.1 + 111)), (3, vi a3)] [] := by
  unfold k_Lw_law_208 at h
  refine z_aload_n C 1 x_Lw_law_208 rfl ?_
  obtain ⟨v1, M2, fv1, h⟩ := bcall_e h
  refine zl_callVi (k := 0) C x_Lw_law_209 cv_Lw_13 (t_PP_status (lev := 500) l G (by decide) fv1) nk_0 ck_0 rfl (by decide) rfl (i_le rfl) rfl ?_
  refine z_aload_n C 2 x_Lw_law_212 rfl ?_
  obtain ⟨v3, M4, fv3, h⟩ := bcall_e h
  refine zl_callVi (k := 111) C x_Lw_law_213 cv_Lw_17 (t_Mo_status (lev := 500) l G (by decide) fv3) nk_111 ck_111 rfl (by decide) rfl (i_le rfl) rfl ?_
  rcases ite_e h with ⟨c5, h⟩ | ⟨c5, h⟩
  · refine z_icmp_eq_t (tgt := 2054) C x_Lw_law_216 rfl c5 ?_
    exact z_sub [0, 1, 2, 3] rfl (z_Lw_law_2054 C hX hb0 hr1 hR18 h)
  · refine z_icmp_eq_f (tgt := 2054) C x_Lw_law_216 rfl c5 ?_
    refine z_iconst C x_Lw_law_219 ?_
    exact absurd hr1.2 (by cases h; show ¬ ((0 : Int) = 1); decide)
def k_Lw_law_18 (L : Nat) (sx : Nat → Int) (R18 : Int → Mem → Res) (a3 : Int) (M : Mem) : Res := if w32 (((L : Int)) - 8) < w32 a3 then (some (1, M)) else (chk (0 ≤ w32 a3 ∧ w32 a3 < (L : Int)) <| blet (sx (ix a3)) fun v3 => if w32 (an32 v3 63) = 0 then (k_Lw_law_208 L sx R18 a3 M) else (if w32 (an32 v3 63) = 1 then (k_Lw_law_221 L sx R18 a3 M) else (if w32 (an32 v3 63) = 2 then (k_Lw_law_264 L sx R18 a3 M) else (if w32 (an32 v3 63) = 3 then (k_Lw_law_337 L sx R18 a3 M) else (if w32 (an32 v3 63) = 4 then (k_Lw_law_371 L sx R18 a3 M) else (if w32 (an32 v3 63) = 5 then (k_Lw_law_434 L sx R18 a3 M) else (if w32 (an32 v3 63) = 6 then (k_Lw_law_477 L sx R18 a3 M) else (if w32 (an32 v3 63) = 7 then (k_Lw_law_510 L sx R18 a3 M) else (if w32 (an32 v3 63) = 8 then (k_Lw_law_585 L sx R18 a3 M) else (if w32 (an32 v3 63) = 9 then (k_Lw_law_672 L sx R18 a3 M) else (if w32 (an32 v3 63) = 10 then (k_Lw_law_759 L sx R18 a3 M) else (if w32 (an32 v3 63) = 11 then (k_Lw_law_834 L sx R18 a3 M) else (if w32 (an32 v3 63) = 12 then (k_Lw_law_887 L sx R18 a3 M) else (if w32 (an32 v3 63) = 13 then (k_Lw_law_920 L sx R18 a3 M) else (if w32 (an32 v3 63) = 14 then (k_Lw_law_983 L sx R18 a3 M) else (if w32 (an32 v3 63) = 15 then (k_Lw_law_1046 L sx R18 a3 M) else (if w32 (an32 v3 63) = 16 then (k_Lw_law_1089 L sx R18 a3 M) else (if w32 (an32 v3 63) = 17 then (k_Lw_law_1152 L sx R18 a3 M) else (if w32 (an32 v3 63) = 18 then (k_Lw_law_1185 L sx R18 a3 M) else (if w32 (an32 v3 63) = 19 then (k_Lw_law_1208 L sx R18 a3 M) else (if w32 (an32 v3 63) = 20 then (k_Lw_law_1262 L sx R18 a3 M) else (if w32 (an32 v3 63) = 21 then (k_Lw_law_1306 L sx R18 a3 M) else (if w32 (an32 v3 63) = 22 then (k_Lw_law_1350 L sx R18 a3 M) else (if w32 (an32 v3 63) = 23 then (k_Lw_law_1394 L sx R18 a3 M) else (if w32 (an32 v3 63) = 24 then (k_Lw_law_1438 L sx R18 a3 M) else (if w32 (an32 v3 63) = 25 then (k_Lw_law_1481 L sx R18 a3 M) else (if w32 (an32 v3 63) = 26 then (k_Lw_law_1524 L sx R18 a3 M) else (if w32 (an32 v3 63) = 27 then (k_Lw_law_1583 L sx R18 a3 M) else (if w32 (an32 v3 63) = 28 then (k_Lw_law_1636 L sx R18 a3 M) else (if w32 (an32 v3 63) = 29 then (k_Lw_law_1659 L sx R18 a3 M) else (if w32 (an32 v3 63) = 30 then (k_Lw_law_1693 L sx R18 a3 M) else (if w32 (an32 v3 63) = 31 then (k_Lw_law_1726 L sx R18 a3 M) else (if w32 (an32 v3 63) = 32 then (k_Lw_law_1759 L sx R18 a3 M) else (if w32 (an32 v3 63) = 33 then (k_Lw_law_1803 L sx R18 a3 M) else (if w32 (an32 v3 63) = 34 then (k_Lw_law_1836 L sx R18 a3 M) else (if w32 (an32 v3 63) = 35 then (k_Lw_law_1869 L sx R18 a3 M) else (if w32 (an32 v3 63) = 36 then (k_Lw_law_1902 L sx R18 a3 M) else (if w32 (an32 v3 63) = 37 then (k_Lw_law_1925 L sx R18 a3 M) else (if w32 (an32 v3 63) = 38 then (k_Lw_law_1968 L sx R18 a3 M) else (if w32 (an32 v3 63) = 39 then (k_Lw_law_1991 L sx R18 a3 M) else (k_Lw_law_2054 L sx R18 a3 M)))))))))))))))))))))))))))))))))))))))))
theorem z_Lw_law_18 (C : Cx p s m #[Value.ref b] meth c G b_Lw_law 4 "PrairiePoolLaw" ret) {L : Nat} {xs : Nat → Int32} (hX : va_X b L xs s s.heap) (hb0 : b < G.1 ∧ G.1 = s.heap.size) {r : Int × Mem} (hr1 : G.1 = s.heap.size ∧ r.1 = 1) {R18 : Int → Mem → Res} (hR18 : ∀ (a3 : Int) (M : Mem), R18 a3 M = some r → Z0 p l e room_1 189 39158 s m #[Value.ref b] below meth c G 4 (lw_Z below #[Value.ref b] s) (Pic G M) 18 [(0, .ref b), (1, .ref (G.1 + 0)), (2, .ref (G.1 + 111)), (3, vi a3)] []) {a3 : Int} {M : Mem} (h : k_Lw_law_18 L (fun j => (xs j).toInt) R18 a3 M = some r) : Z0 p l e room_1 189 39158 s m #[Value.ref b] below meth c G 4 (lw_Z below #[Value.ref b] s) (Pic G M) 18 [(0, .ref b), (1, .ref (G.1 + 0)), (2, .ref (G.1 + 111)), (3, vi a3)] [] := by
  unfold k_Lw_law_18 at h
  refine z_iload_n C 3 x_Lw_law_18 rfl ?_
  refine z_aload_n C 0 x_Lw_law_19 rfl ?_
  refine zl_slen C hX hb0 x_Lw_law_20 ?_
  refine z_bipush C rfl x_Lw_law_21 ?_
  refine z_isub C x_Lw_law_23 ?_
  rcases ite_e h with ⟨c1, h⟩ | ⟨c1, h⟩
  · refine z_icmp_gt_t (tgt := 2060) C x_Lw_law_24 rfl c1 ?_
    refine z_iconst C x_Lw_law_2060 ?_
    exact zl_ret C hr1 x_Lw_law_2061 h
  · refine z_icmp_gt_f (tgt := 2060) C x_Lw_law_24 rfl c1 ?_
    refine z_aload_n C 0 x_Lw_law_27 rfl ?_
    refine z_iload_n C 3 x_Lw_law_28 rfl ?_
    obtain ⟨c2, h⟩ := chk_e h
    obtain ⟨v3, ev3, h⟩ := blet_e h
    refine zl_sld C hX hb0 x_Lw_law_29 c2 ev3 ?_
    refine z_bipush C rfl x_Lw_law_30 ?_
    refine z_iand C x_Lw_law_32 ?_
    rcases ite_e h with ⟨c4, h⟩ | ⟨c4, h⟩
    · refine z_tableIn (tgt := 208) C x_Lw_law_33 c4 (by decide) rfl rfl ?_
      exact z_sub [0, 1, 2, 3] rfl (z_Lw_law_208 C hX hb0 hr1 hR18 h)
    · rcases ite_e h with ⟨c5, h⟩ | ⟨c5, h⟩
      · refine z_tableIn (tgt := 221) C x_Lw_law_33 c5 (by decide) rfl rfl ?_
        exact z_sub [0, 1, 2, 3] rfl (z_Lw_law_221 C hX hb0 hr1 hR18 h)
      · rcases ite_e h with ⟨c6, h⟩ | ⟨c6, h⟩
        · refine z_tableIn (tgt := 264) C x_Lw_law_33 c6 (by decide) rfl rfl ?_
          exact z_sub [0, 1, 2, 3] rfl (z_Lw_law_264 C hX hb0 hr1 hR18 h)
        · rcases ite_e h with ⟨c7, h⟩ | ⟨c7, h⟩
          · refine z_tableIn (tgt := 337) C x_Lw_law_33 c7 (by decide) rfl rfl ?_
            exact z_sub [0, 1, 2, 3] rfl (z_Lw_law_337 C hX hb0 hr1 hR18 h)
          · rcases ite_e h with ⟨c8, h⟩ | ⟨c8, h⟩
            · refine z_tableIn (tgt := 371) C x_Lw_law_33 c8 (by decide) rfl rfl ?_
              exact z_sub [0, 1, 2, 3] rfl (z_Lw_law_371 C hX hb0 hr1 hR18 h)
            · rcases ite_e h with ⟨c9, h⟩ | ⟨c9, h⟩
              · refine z_tableIn (tgt := 434) C x_Lw_law_33 c9 (by decide) rfl rfl ?_
                exact z_sub [0, 1, 2, 3] rfl (z_Lw_law_434 C hX hb0 hr1 hR18 h)
              · rcases ite_e h with ⟨c10, h⟩ | ⟨c10, h⟩
                · refine z_tableIn (tgt := 477) C x_Lw_law_33 c10 (by decide) rfl rfl ?_
                  exact z_sub [0, 1, 2, 3] rfl (z_Lw_law_477 C hX hb0 hr1 hR18 h)
                · rcases ite_e h with ⟨c11, h⟩ | ⟨c11, h⟩
                  · refine z_tableIn (tgt := 510) C x_Lw_law_33 c11 (by decide) rfl rfl ?_
                    exact z_sub [0, 1, 2, 3] rfl (z_Lw_law_510 C hX hb0 hr1 hR18 h)
                  · rcases ite_e h with ⟨c12, h⟩ | ⟨c12, h⟩
                    · refine z_tableIn (tgt := 585) C x_Lw_law_33 c12 (by decide) rfl rfl ?_
                      exact z_sub [0, 1, 2, 3] rfl (z_Lw_law_585 C hX hb0 hr1 hR18 h)
                    · rcases ite_e h with ⟨c13, h⟩ | ⟨c13, h⟩
                      · refine z_tableIn (tgt := 672) C x_Lw_law_33 c13 (by decide) rfl rfl ?_
                        exact z_sub [0, 1, 2, 3] rfl (z_Lw_law_672 C hX hb0 hr1 hR18 h)
                      · rcases ite_e h with ⟨c14, h⟩ | ⟨c14, h⟩
                        · refine z_tableIn (tgt := 759) C x_Lw_law_33 c14 (by decide) rfl rfl ?_
                          exact z_sub [0, 1, 2, 3] rfl (z_Lw_law_759 C hX hb0 hr1 hR18 h)
                        · rcases ite_e h with ⟨c15, h⟩ | ⟨c15, h⟩
                          · refine z_tableIn (tgt := 834) C x_Lw_law_33 c15 (by decide) rfl rfl ?_
                            exact z_sub [0, 1, 2, 3] rfl (z_Lw_law_834 C hX hb0 hr1 hR18 h)
                          · rcases ite_e h with ⟨c16, h⟩ | ⟨c16, h⟩
                            · refine z_tableIn (tgt := 887) C x_Lw_law_33 c16 (by decide) rfl rfl ?_
                              exact z_sub [0, 1, 2, 3] rfl (z_Lw_law_887 C hX hb0 hr1 hR18 h)
                            · rcases ite_e h with ⟨c17, h⟩ | ⟨c17, h⟩
                              · refine z_tableIn (tgt := 920) C x_Lw_law_33 c17 (by decide) rfl rfl ?_
                                exact z_sub [0, 1, 2, 3] rfl (z_Lw_law_920 C hX hb0 hr1 hR18 h)
                              · rcases ite_e h with ⟨c18, h⟩ | ⟨c18, h⟩
                                · refine z_tableIn (tgt := 983) C x_Lw_law_33 c18 (by decide) rfl rfl ?_
                                  exact z_sub [0, 1, 2, 3] rfl (z_Lw_law_983 C hX hb0 hr1 hR18 h)
                                · rcases ite_e h with ⟨c19, h⟩ | ⟨c19, h⟩
                                  · refine z_tableIn (tgt := 1046) C x_Lw_law_33 c19 (by decide) rfl rfl ?_
                                    exact z_sub [0, 1, 2, 3] rfl (z_Lw_law_1046 C hX hb0 hr1 hR18 h)
                                  · rcases ite_e h with ⟨c20, h⟩ | ⟨c20, h⟩
                                    · refine z_tableIn (tgt := 1089) C x_Lw_law_33 c20 (by decide) rfl rfl ?_
                                      exact z_sub [0, 1, 2, 3] rfl (z_Lw_law_1089 C hX hb0 hr1 hR18 h)
                                    · rcases ite_e h with ⟨c21, h⟩ | ⟨c21, h⟩
                                      · refine z_tableIn (tgt := 1152) C x_Lw_law_33 c21 (by decide) rfl rfl ?_
                                        exact z_sub [0, 1, 2, 3] rfl (z_Lw_law_1152 C hX hb0 hr1 hR18 h)
                                      · rcases ite_e h with ⟨c22, h⟩ | ⟨c22, h⟩
                                        · refine z_tableIn (tgt := 1185) C x_Lw_law_33 c22 (by decide) rfl rfl ?_
                                          exact z_sub [0, 1, 2, 3] rfl (z_Lw_law_1185 C hX hb0 hr1 hR18 h)
                                        · rcases ite_e h with ⟨c23, h⟩ | ⟨c23, h⟩
                                          · refine z_tableIn (tgt := 1208) C x_Lw_law_33 c23 (by decide) rfl rfl ?_
                                            exact z_sub [0, 1, 2, 3] rfl (z_Lw_law_1208 C hX hb0 hr1 hR18 h)
                                          · rcases ite_e h with ⟨c24, h⟩ | ⟨c24, h⟩
                                            · refine z_tableIn (tgt := 1262) C x_Lw_law_33 c24 (by decide) rfl rfl ?_
                                              exact z_sub [0, 1, 2, 3] rfl (z_Lw_law_1262 C hX hb0 hr1 hR18 h)
                                            · rcases ite_e h with ⟨c25, h⟩ | ⟨c25, h⟩
                                              · refine z_tableIn (tgt := 1306) C x_Lw_law_33 c25 (by decide) rfl rfl ?_
                                                exact z_sub [0, 1, 2, 3] rfl (z_Lw_law_1306 C hX hb0 hr1 hR18 h)
                                              · rcases ite_e h with ⟨c26, h⟩ | ⟨c26, h⟩
                                                · refine z_tableIn (tgt := 1350) C x_Lw_law_33 c26 (by decide) rfl rfl ?_
                                                  exact z_sub [0, 1, 2, 3] rfl (z_Lw_law_1350 C hX hb0 hr1 hR18 h)
                                                · rcases ite_e h with ⟨c27, h⟩ | ⟨c27, h⟩
                                                  · refine z_tableIn (tgt := 1394) C x_Lw_law_33 c27 (by decide) rfl rfl ?_
                                                    exact z_sub [0, 1, 2, 3] rfl (z_Lw_law_1394 C hX hb0 hr1 hR18 h)
                                                  · rcases ite_e h with ⟨c28, h⟩ | ⟨c28, h⟩
                                                    · refine z_tableIn (tgt := 1438) C x_Lw_law_33 c28 (by decide) rfl rfl ?_
                                                      exact z_sub [0, 1, 2, 3] rfl (z_Lw_law_1438 C hX hb0 hr1 hR18 h)
                                                    · rcases ite_e h with ⟨c29, h⟩ | ⟨c29, h⟩
                                                      · refine z_tableIn (tgt := 1481) C x_Lw_law_33 c29 (by decide) rfl rfl ?_
                                                        exact z_sub [0, 1, 2, 3] rfl (z_Lw_law_1481 C hX hb0 hr1 hR18 h)
                                                      · rcases ite_e h with ⟨c30, h⟩ | ⟨c30, h⟩
                                                        · refine z_tableIn (tgt := 1524) C x_Lw_law_33 c30 (by decide) rfl rfl ?_
                                                          exact z_sub [0, 1, 2, 3] rfl (z_Lw_law_1524 C hX hb0 hr1 hR18 h)
                                                        · rcases ite_e h with ⟨c31, h⟩ | ⟨c31, h⟩
                                                          · refine z_tableIn (tgt := 1583) C x_Lw_law_33 c31 (by decide) rfl rfl ?_
                                                            exact z_sub [0, 1, 2, 3] rfl (z_Lw_law_1583 C hX hb0 hr1 hR18 h)
                                                          · rcases ite_e h with ⟨c32, h⟩ | ⟨c32, h⟩
                                                            · refine z_tableIn (tgt := 1636) C x_Lw_law_33 c32 (by decide) rfl rfl ?_
                                                              exact z_sub [0, 1, 2, 3] rfl (z_Lw_law_1636 C hX hb0 hr1 hR18 h)
                                                            · rcases ite_e h with ⟨c33, h⟩ | ⟨c33, h⟩
                                                              · refine z_tableIn (tgt := 1659) C x_Lw_law_33 c33 (by decide) rfl rfl ?_
                                                                exact z_sub [0, 1, 2, 3] rfl (z_Lw_law_1659 C hX hb0 hr1 hR18 h)
                                                              · rcases ite_e h with ⟨c34, h⟩ | ⟨c34, h⟩
                                                                · refine z_tableIn (tgt := 1693) C x_Lw_law_33 c34 (by decide) rfl rfl ?_
                                                                  exact z_sub [0, 1, 2, 3] rfl (z_Lw_law_1693 C hX hb0 hr1 hR18 h)
                                                                · rcases ite_e h with ⟨c35, h⟩ | ⟨c35, h⟩
                                                                  · refine z_tableIn (tgt := 1726) C x_Lw_law_33 c35 (by decide) rfl rfl ?_
                                                                    exact z_sub [0, 1, 2, 3] rfl (z_Lw_law_1726 C hX hb0 hr1 hR18 h)
                                                                  · rcases ite_e h with ⟨c36, h⟩ | ⟨c36, h⟩
                                                                    · refine z_tableIn (tgt := 1759) C x_Lw_law_33 c36 (by decide) rfl rfl ?_
                                                                      exact z_sub [0, 1, 2, 3] rfl (z_Lw_law_1759 C hX hb0 hr1 hR18 h)
                                                                    · rcases ite_e h with ⟨c37, h⟩ | ⟨c37, h⟩
                                                                      · refine z_tableIn (tgt := 1803) C x_Lw_law_33 c37 (by decide) rfl rfl ?_
                                                                        exact z_sub [0, 1, 2, 3] rfl (z_Lw_law_1803 C hX hb0 hr1 hR18 h)
                                                                      · rcases ite_e h with ⟨c38, h⟩ | ⟨c38, h⟩
                                                                        · refine z_tableIn (tgt := 1836) C x_Lw_law_33 c38 (by decide) rfl rfl ?_
                                                                          exact z_sub [0, 1, 2, 3] rfl (z_Lw_law_1836 C hX hb0 hr1 hR18 h)
                                                                        · rcases ite_e h with ⟨c39, h⟩ | ⟨c39, h⟩
                                                                          · refine z_tableIn (tgt := 1869) C x_Lw_law_33 c39 (by decide) rfl rfl ?_
                                                                            exact z_sub [0, 1, 2, 3] rfl (z_Lw_law_1869 C hX hb0 hr1 hR18 h)
                                                                          · rcases ite_e h with ⟨c40, h⟩ | ⟨c40, h⟩
                                                                            · refine z_tableIn (tgt := 1902) C x_Lw_law_33 c40 (by decide) rfl rfl ?_
                                                                              exact z_sub [0, 1, 2, 3] rfl (z_Lw_law_1902 C hX hb0 hr1 hR18 h)
                                                                            · rcases ite_e h with ⟨c41, h⟩ | ⟨c41, h⟩
                                                                              · refine z_tableIn (tgt := 1925) C x_Lw_law_33 c41 (by decide) rfl rfl ?_
                                                                                exact z_sub [0, 1, 2, 3] rfl (z_Lw_law_1925 C hX hb0 hr1 hR18 h)
                                                                              · rcases ite_e h with ⟨c42, h⟩ | ⟨c42, h⟩
                                                                                · refine z_tableIn (tgt := 1968) C x_Lw_law_33 c42 (by decide) rfl rfl ?_
                                                                                  exact z_sub [0, 1, 2, 3] rfl (z_Lw_law_1968 C hX hb0 hr1 hR18 h)
                                                                                · rcases ite_e h with ⟨c43, h⟩ | ⟨c43, h⟩
                                                                                  · refine z_tableIn (tgt := 1991) C x_Lw_law_33 c43 (by decide) rfl rfl ?_
                                                                                    exact z_sub [0, 1, 2, 3] rfl (z_Lw_law_1991 C hX hb0 hr1 hR18 h)
                                                                                  · refine z_tableOut (tgt := 2054) C x_Lw_law_33 (by omega) rfl ?_
                                                                                    exact z_sub [0, 1, 2, 3] rfl (z_Lw_law_2054 C hX hb0 hr1 hR18 h)
def d_law (L : Nat) (sx : Nat → Int) (M : Mem) : Res := fix (fun _ _ => none) (k_Lw_law_18 L sx) FU 0 M
theorem zl_law (C : Cx p s m #[Value.ref b] meth c G b_Lw_law 4 "PrairiePoolLaw" ret) {L : Nat} {xs : Nat → Int32} (hX : va_X b L xs s s.heap) (hb0 : b < G.1 ∧ G.1 = s.heap.size) {r : Int × Mem} (hr1 : G.1 = s.heap.size ∧ r.1 = 1) : ∀ (n : Nat) (a3 : Int) (M : Mem), fix (fun _ _ => none) (k_Lw_law_18 L (fun j => (xs j).toInt)) n a3 M = some r → Z0 p l e room_1 189 39158 s m #[Value.ref b] below meth c G 4 (lw_Z below #[Value.ref b] s) (Pic G M) 18 [(0, .ref b), (1, .ref (G.1 + 0)), (2, .ref (G.1 + 111)), (3, vi a3)] [] := by
  intro n
  induction n with
  | zero => intro a3 M h; exact nomatch (show (none : Res) = some r from h)
  | succ n ih => intro a3 M h; exact z_Lw_law_18 C hX hb0 hr1 ih h
end
