/-! ends, calls, copies of rows; a method out of its walk -/
section ZC
variable {p : Program} {l : Launch} {e : Env} {lev : Nat} {R : Room} {cl sl : Nat} {PP : Heap → Prop} {s : State} {m : MethodId} {args : Array Value} {below : List Frame} {meth : Method} {c : Code} {G : GX} {nL : Nat} {Q : State → Prop} {M : Mem} {pc pc' : Nat} {lv lv' : List (Nat × Value)} {st : List Value} {cc : ByteArray} {own : String} {rt : Option FieldType}

theorem z_iret (C : Cx p s m args meth c G cc nL own (some .int)) {x : Int} {r : Int × Mem} (d : DC cc pc .ireturn 1 pc') (h : (some (x, M) : Res) = some r) : Z p l e lev s m args below meth c G nL (MQ below (Qm G 1 r) args s 0 0 (Ab G)) M pc lv [vi x] := by
  cases h
  intro H locs ls hP hS hl
  obtain ⟨hx, hb, hml, hown, hts, hlk, hrt, hK⟩ := C
  exact W.iret hx hb hrt (fun t ht hW => ⟨rfl, by rw [ht]; exact hP, hS.F ht⟩) hS.2.2 d.1 hlk
theorem z_zret (C : Cx p s m args meth c G cc nL own (some .boolean)) {x : Int} {r : Int × Mem} (d : DC cc pc .ireturn 1 pc') (hbit : w32 x = 0 ∨ w32 x = 1) (h : (some (x, M) : Res) = some r) : Z p l e lev s m args below meth c G nL (MQ below (Qm G 1 r) args s 0 0 (Ab G)) M pc lv [vi x] := by
  cases h
  intro H locs ls hP hS hl
  obtain ⟨hx, hb, hml, hown, hts, hlk, hrt, hK⟩ := C
  exact W.zret hx hb hrt (bit_narrow hbit) (fun t ht hW => ⟨rfl, by rw [ht]; exact hP, hS.F ht⟩) hS.2.2 d.1 hlk
theorem z_bret (C : Cx p s m args meth c G cc nL own (some .byte)) {x : Int} {r : Int × Mem} (d : DC cc pc .ireturn 1 pc') (hbit : w8 x = x) (h : (some (x, M) : Res) = some r) : Z p l e lev s m args below meth c G nL (MQ below (Qm G 1 r) args s 0 0 (Ab G)) M pc lv [vi x] := by
  cases h
  intro H locs ls hP hS hl
  obtain ⟨hx, hb, hml, hown, hts, hlk, hrt, hK⟩ := C
  exact W.zret hx hb hrt (by rw [show (Value.int (Int32.ofInt x)) = vi x from rfl, nar_b, hbit]) (fun t ht hW => ⟨rfl, by rw [ht]; exact hP, hS.F ht⟩) hS.2.2 d.1 hlk
theorem z_lret (C : Cx p s m args meth c G cc nL own (some .long)) {x : Int} {r : Int × Mem} (d : DC cc pc .lreturn 1 pc') (h : (some (x, M) : Res) = some r) : Z p l e lev s m args below meth c G nL (MQ below (Qm G 2 r) args s 0 0 (Ab G)) M pc lv [vl x] := by
  cases h
  intro H locs ls hP hS hl
  obtain ⟨hx, hb, hml, hown, hts, hlk, hrt, hK⟩ := C
  exact W.lret hx hb hrt (fun t ht hW => ⟨rfl, by rw [ht]; exact hP, hS.F ht⟩) hS.2.2 d.1 hlk
theorem z_vret (C : Cx p s m args meth c G cc nL own none) {x : Int} {r : Int × Mem} (d : DC cc pc .return_ 1 pc') (h : (some (x, M) : Res) = some r) : Z p l e lev s m args below meth c G nL (MQ below (Qm G 0 r) args s 0 0 (Ab G)) M pc lv [] := by
  cases h
  intro H locs ls hP hS hl
  obtain ⟨hx, hb, hml, hown, hts, hlk, hrt, hK⟩ := C
  exact W.vret hx hb hrt (fun t ht hW => ⟨rfl, by rw [ht]; exact hP, hS.F ht⟩) hS.2.2 d.1 hlk
theorem Mt.of {y : MethodName} {b : ByteArray} {n t : Nat} {r : Option FieldType} {vs : List Value} {res : Int × Mem} (hy : plainName y.cls = true) (hn : (lg_sl vs).length ≤ n)
    (body : ∀ (p : Program) (e : Env) (s : State) (m : MethodId) (args : Array Value) (below : List Frame) (meth : Method) (c : Code), Cx p s m args meth c G b n y.cls r → Z p l e lev s m args below meth c G n (MQ below (Qm G t res) args s 0 0 (Ab G)) M 0 (lv_args 0 vs) []) : Mt l G y b n r lev t vs M res := by
  refine Met.ofW (cc := b) (maxL := n) (ret := r) hy rfl ?_
  intro p e s m args below meth c s₁ B hml hv
  obtain ⟨rfl, hP, hK⟩ := hv
  have C : Cx p s m vs.toArray meth c G b n y.cls r := ⟨B.exec, B.bytes, hml, findClass_of_methodNamed B.named, fun w hw => atoms_spec (ws := Cond.code y b n r :: TB) B.pre w (List.mem_cons_of_mem _ hw), B.notSynchronized, B.returns, hK⟩
  rw [lg_entry_eq]
  exact body p e s m vs.toArray below meth c C s.heap [] _ hP va_S.rf (lv_entry vs hn)
theorem z_run {t : Nat} {v : Int} {M' : Mem} {a : Array Value} {rest stk : List Value} {H : Heap} {locs : List Loc} {ls : Array Slot} (hr : va_Run p l e (rmL lev) s m args below meth c H locs 0 0 0 0 (F0 m pc ls stk) rest (Qm G t (v, M') a) (Ab G)) (hS : va_S (Ab G) s.heap H locs) (hl : lv_has ls nL lv)
    (kk : Z p l e lev s m args below meth c G nL Q M' (pc + 3) lv ((rv t v).toList ++ rest)) : W p l e (rmL lev) s m args below meth c H locs 0 0 Q (F0 m pc ls stk) := by
  intro T hT X
  obtain ⟨v1, st₀, t1, T', L, h0, X', hL, e1, e2, ⟨hv, hP1, hz, hk⟩, step⟩ := hr T hT X
  cases hv
  rw [h0] at hz hk
  obtain ⟨t2, a1, b1⟩ := kk T'.heap (locs ++ L) ls (by rw [e1]; exact hP1) ⟨Nat.le_trans hS.1 (by rw [e1]; exact hz), fun q h1 h2 => by rw [e1, hk q (Nat.lt_of_lt_of_le h1 hS.1) h2]; exact hS.2.1 q h1 h2, fun q hq => by
      rcases List.mem_append.mp hq with h | h
      · exact hS.2.2 q h
      · exact hL q h⟩ hl T' rfl X'
  exact ⟨t2, step t2 a1, b1⟩
theorem pm_blind {vs : List Value} : FrameBlind (Pm G vs M) := fun a _ g mk h => ⟨h.1, h.2.1, h.2.2.blind g mk a⟩
theorem pm_pre {vs : List Value} {H : Heap} {locs : List Loc} (hK : KK G s) (hP : Pic G M H) (hS : va_S (Ab G) s.heap H locs) : ∀ U : State, U.heap = H → s.WarmedH U.vm → Pm G vs M vs.toArray U := fun U hU hW => ⟨rfl, by rw [hU]; exact hP, hK.on hW hS hU⟩
/-- a call's words: of an object's method; of a static one; of a nest mate's static one -/
def CV (own : String) (idx : Nat) (y : MethodName) (b : ByteArray) (n : Nat) (r : Option FieldType) (np : Nat) : Prop :=
  Cond.methodLink own idx y ∈ TB ∧ Cond.instanceMethod y ∈ TB ∧ Cond.selects y.cls y y ∈ TB ∧ Cond.code y b n r ∈ TB ∧ Cond.initialized y.cls ∈ TB ∧ n ≤ 45 ∧ y.cls ≠ "java/lang/invoke/MethodHandle" ∧ y.cls ≠ "java/lang/invoke/VarHandle" ∧ (parseMethodDescriptor y.desc).map (fun d => d.parameters.length) = some np
def CS (own : String) (idx : Nat) (y : MethodName) (b : ByteArray) (n : Nat) (r : Option FieldType) (np : Nat) : Prop :=
  Cond.methodLink own idx y ∈ TB ∧ Cond.static y ∈ TB ∧ Cond.code y b n r ∈ TB ∧ Cond.initialized y.cls ∈ TB ∧ n ≤ 45 ∧ y.cls ≠ "java/lang/invoke/MethodHandle" ∧ y.cls ≠ "java/lang/invoke/VarHandle" ∧ (parseMethodDescriptor y.desc).map (fun d => d.parameters.length) = some np
theorem rm_ok {n lev' : Nat} (h : lev' + 1 ≤ lev) (hn : n ≤ 45) : (rmL lev').frames + 1 ≤ (rmL lev).frames ∧ 8 + (n + 11) + (rmL lev').locals ≤ (rmL lev).locals := by
  unfold rmL; dsimp only; omega
theorem z_callV (C : Cx p s m args meth c G cc nL own rt) {idx n np lev' t k ci nf : Nat} {y : MethodName} {b : ByteArray} {r : Option FieldType} {T : u_T} {As stk : List Value} {v : Int} {M' : Mem} (d : DC cc pc (.invokevirtual idx) 3 pc') (cw : CV own idx y b n r np) (hM : Mt l G y b n r lev' t (.ref (G.1 + k) :: As) M (v, M')) (hk : k < NC) (hc : ck k = (0, ci, nf)) (hcl : cls[ci]? = some (y.cls, T, nf)) (hlev : lev' + 1 ≤ lev) (hnp : As.length = np) (hst : (st.map fun v => v.category).sum ≤ 8) (hstk : stk = As.reverse ++ .ref (G.1 + k) :: st)
    (kk : Z p l e lev s m args below meth c G nL Q M' pc' lv ((rv t v).toList ++ st)) : Z p l e lev s m args below meth c G nL Q M pc lv stk := by
  subst hstk
  intro H locs ls hP hS hl
  obtain ⟨hx, hb, hml, hown, hts, hlk, hrt, hK⟩ := C
  obtain ⟨d, rfl⟩ := d
  obtain ⟨w1, w2, w3, w4, w5, w6, w7⟩ := cw
  obtain ⟨cell, q1, q2, q3, q4⟩ := (hP k hk).obj hc
  have hfc : s.vm.findClass y.cls = some (G.2.1.1 ci) := (hK.1.1 ci _ hcl).2.1
  refine z_run (va_runV (As := As) (rest := st) (C := y.cls) (b := G.1 + k) ⟨hx, hb, hml, hown, hts⟩ hM ⟨callB_of np hts (tb_in w4) rfl rfl rfl (hts _ w5) (hts _ w1) w7 (rm_ok hlev w6), hts _ w2, hts _ w3⟩ ⟨pm_blind, ⟨cell, q1, by rw [q3]; rfl, by rw [q2]; exact hfc⟩, pm_pre hK hP hS⟩ rfl hnp hl.1 rfl (lv_room hst) d ⟨Nat.zero_le _, Nat.zero_le _⟩) hS hl kk
theorem z_callS (C : Cx p s m args meth c G cc nL own rt) {idx n np lev' t : Nat} {y : MethodName} {b : ByteArray} {r : Option FieldType} {As stk : List Value} {v : Int} {M' : Mem} (d : DC cc pc (.invokestatic idx) 3 pc') (cw : CS own idx y b n r np) (hM : Mt l G y b n r lev' t As M (v, M')) (hlev : lev' + 1 ≤ lev) (hnp : As.length = np) (hst : (st.map fun v => v.category).sum ≤ 8) (hstk : stk = As.reverse ++ st)
    (kk : Z p l e lev s m args below meth c G nL Q M' pc' lv ((rv t v).toList ++ st)) : Z p l e lev s m args below meth c G nL Q M pc lv stk := by
  subst hstk
  intro H locs ls hP hS hl
  obtain ⟨hx, hb, hml, hown, hts, hlk, hrt, hK⟩ := C
  obtain ⟨d, rfl⟩ := d
  obtain ⟨w1, w2, w4, w5, w6, w7⟩ := cw
  refine z_run (va_runS (As := As) (rest := st) ⟨hx, hb, hml, hown, hts⟩ hM ⟨callB_of np hts (tb_in w4) rfl rfl rfl (hts _ w5) (hts _ w1) w7 (rm_ok hlev w6), hts _ w2⟩ ⟨pm_blind, pm_pre hK hP hS⟩ rfl hnp hl.1 rfl (lv_room hst) d ⟨Nat.zero_le _, Nat.zero_le _⟩) hS hl kk
def CN (own : String) (idx : Nat) (b : ByteArray) (n : Nat) (r : Option FieldType) : Prop := (own, idx, yIsIn) ∈ nests ∧ Cond.static yIsIn ∈ TB ∧ Cond.code yIsIn b n r ∈ TB ∧ Cond.initialized yIsIn.cls ∈ TB ∧ n ≤ 45
theorem z_callN (C : Cx p s m args meth c G cc nL own rt) {idx n lev' t : Nat} {b : ByteArray} {r : Option FieldType} {As stk : List Value} {v : Int} {M' : Mem} (d : DC cc pc (.invokestatic idx) 3 pc') (cw : CN own idx b n r) (hM : Mt l G yIsIn b n r lev' t As M (v, M')) (hlev : lev' + 1 ≤ lev) (hnp : As.length = 3) (hst : (st.map fun v => v.category).sum ≤ 8) (hstk : stk = As.reverse ++ st)
    (kk : Z p l e lev s m args below meth c G nL Q M' pc' lv ((rv t v).toList ++ st)) : Z p l e lev s m args below meth c G nL Q M pc lv stk := by
  subst hstk
  intro H locs ls hP hS hl
  obtain ⟨hx, hb, hml, hown, hts, hlk, hrt, hK⟩ := C
  obtain ⟨d, rfl⟩ := d
  obtain ⟨w1, w2, w4, w5, w6⟩ := cw
  have hnw := hK.2.1 _ w1
  refine z_run (va_runSN (As := As) (rest := st) (host := "PrairiePool") ⟨hx, hb, hml, hown, hts⟩ hM ⟨va_cnB 3 hts (tb_in w4) rfl rfl rfl hnw (hts _ w5) (by decide +kernel) (rm_ok hlev w6), hts _ w2, trivial⟩ ⟨pm_blind, pm_pre hK hP hS⟩ rfl hnp hl.1 rfl (lv_room hst) d ⟨Nat.zero_le _, Nat.zero_le _⟩) hS hl kk
/-- System.arraycopy of ints or longs, both rows in the world -/
def cpy (M : Mem) (ks sp kd dp n : Nat) : Mem := fun a => if a = kd then (fun b => if dp ≤ b ∧ b < dp + n then M ks (sp + (b - dp)) else M kd b) else M a
def CA (own : String) (idx : Nat) : Prop := Cond.methodLink own idx arraycopyName ∈ TB ∧ Cond.native arraycopyName ∈ TB ∧ Cond.static arraycopyName ∈ TB ∧ Cond.initialized "java/lang/System" ∈ TB
theorem pic_cpy {H H1 : Heap} {ks sp kd dp n : Nat} (hP : Pic G M H) (hk : kd < NC) (hq : ∀ q : Nat, q ≠ G.1 + kd → H1[q]? = H[q]?) (h : cellOk G kd (cpy M ks sp kd dp n kd) H1) : Pic G (cpy M ks sp kd dp n) H1 := by
  intro k2 hk2
  by_cases e : k2 = kd
  · subst e; exact h
  · have e2 : cpy M ks sp kd dp n k2 = M k2 := by unfold cpy; rw [if_neg e]
    rw [e2]
    exact (hP k2 hk2).kept (hq _ (by omega))
theorem z_copyI (C : Cx p s m args meth c G cc nL own rt) {idx ks kd ns nd : Nat} {sp dp n : Int} {M' : Mem} (d : DC cc pc (.invokestatic idx) 3 pc') (cw : CA own idx) (hks : ks < NC) (hcs : ck ks = (1, 0, ns)) (hkd : kd < NC) (hcd : ck kd = (1, 0, nd)) (hb0 : 0 ≤ w32 sp ∧ 0 ≤ w32 dp ∧ 0 ≤ w32 n ∧ w32 sp + w32 n ≤ (ns : Int) ∧ w32 dp + w32 n ≤ (nd : Int)) (hlev : 1 ≤ lev) (hst : (st.map fun v => v.category).sum ≤ 8) (hM : M' = cpy M ks (ix sp) kd (ix dp) (ix n))
    (kk : Z p l e lev s m args below meth c G nL Q M' pc' lv st) : Z p l e lev s m args below meth c G nL Q M pc lv (vi n :: vi dp :: .ref (G.1 + kd) :: vi sp :: .ref (G.1 + ks) :: st) := by
  subst hM
  intro H locs ls hP hS hl
  obtain ⟨hx, hb, hml, hown, hts, hlk, hrt, hK⟩ := C
  obtain ⟨d, rfl⟩ := d
  obtain ⟨w1, w2, w3, w4⟩ := cw
  obtain ⟨b1, b2, b3, b4, b5⟩ := hb0
  have hc0 := (hP ks hks).arr (t := 0) hcs
  have hc1 := (hP kd hkd).arr (t := 0) hcd
  intro T hT X
  obtain ⟨-, k0, hk0, cm0, hkk0⟩ := (hK.1.2 0 (_, .int) rfl).1 ns (fun j => aenc G 1 ks j (M ks j))
  obtain ⟨-, k1, hk1, cm1, hkk1⟩ := (hK.1.2 0 (_, .int) rfl).1 nd (fun j => aenc G 1 kd j (M kd j))
  obtain ⟨vm', X', step⟩ := X.arraycopy hx hown (hts _ w1) (hts _ w2) (hts _ w3) (hts _ w4) (src := G.1 + ks) (dst := G.1 + kd) (cs := arrV (G.2.2.1 1) ns (fun j => aenc G 1 ks j (M ks j))) (cd := arrV (G.2.2.1 1) nd (fun j => aenc G 1 kd j (M kd j))) (srcPos := Int32.ofInt sp) (destPos := Int32.ofInt dp) (n := Int32.ofInt n) (by rw [hT]; exact hc0) (by rw [hT]; exact hc1)
    (fun _ h => by cases h) (fun _ h => by cases h) (fun h => by cases h) (fun h => by cases h) hk0 hk1 hkk0 hkk1 (by simp [refKind]) (by rw [i32_lt0]; omega) (by rw [i32_lt0]; omega) (by rw [i32_lt0]; omega)
    (by rw [w32_i, w32_i, arrV_size]; omega)
    (by rw [w32_i, w32_i, arrV_size]; omega)
    (fun vm₁ _ i hi => by
      have hi2 : ix sp + i < ns := by rw [i32_nat] at hi; unfold ix at hi ⊢; omega
      have e : (arrV (G.2.2.1 1) ns (fun j => aenc G 1 ks j (M ks j))).slots.getD ((Int32.ofInt sp).toNatClampNeg + i) .null = vi (M ks (ix sp + i)) := by
        rw [Array.getD_eq_getD_getElem?, i32_nat, arrV_read _ _ hi2]
        rfl
      exact ⟨by rw [e]; rfl, by rw [e]; exact trivial⟩)
    (g := F0 m pc ls (vi n :: vi dp :: .ref (G.1 + kd) :: vi sp :: .ref (G.1 + ks) :: st)) rfl (by rw [hml]; exact hl.1) (rest := st) rfl (by rw [hb]; exact d) hlev (by
      have h64 : 64 ≤ (rmL lev).locals := by unfold rmL; dsimp only; omega
      have hn5 : nativeFrameWords "java/lang/System" "arraycopy" 5 ≤ 40 := by decide +kernel
      show 2 * 0 + _ + _ ≤ _; omega)
  have e1 : copied (arrV (G.2.2.1 1) ns (fun j => aenc G 1 ks j (M ks j))) (arrV (G.2.2.1 1) nd (fun j => aenc G 1 kd j (M kd j))) (Int32.ofInt sp) (Int32.ofInt dp) (Int32.ofInt n) = arrV (G.2.2.1 1) nd (fun j => aenc G 1 kd j (cpy M ks (ix sp) kd (ix dp) (ix n) kd j)) := by
    have h4 : (Int32.ofInt sp).toNatClampNeg + (Int32.ofInt n).toNatClampNeg ≤ ns := by rw [i32_nat, i32_nat]; unfold ix; omega
    have := va_copied (fun z => vi z) (G.2.2.1 1) (G.2.2.1 1) (n1 := nd) (M ks) (M kd) (dp := (Int32.ofInt dp).toNatClampNeg) h4
    refine Eq.trans this ?_
    rw [i32_nat, i32_nat, i32_nat]
    congr 1
    funext j
    show vi _ = vi _
    congr 1
    unfold va_cpy cpy
    rw [if_pos rfl]
  rw [e1] at X' step
  have hlt : G.1 + kd < H.size := (Array.getElem?_eq_some_iff.mp hc1).1
  have oq : ∀ q : Nat, q ≠ G.1 + kd → (H.setIfInBounds (G.1 + kd) (arrV (G.2.2.1 1) nd (fun j => aenc G 1 kd j (cpy M ks (ix sp) kd (ix dp) (ix n) kd j))))[q]? = H[q]? := fun q hq => by simp [Array.getElem?_setIfInBounds, Ne.symm hq]
  obtain ⟨t, a1, b1⟩ := kk (H.setIfInBounds (G.1 + kd) (arrV (G.2.2.1 1) nd (fun j => aenc G 1 kd j (cpy M ks (ix sp) kd (ix dp) (ix n) kd j)))) _ ls (pic_cpy hP hkd oq (cellOk.arr' (t := 0) hcd (by simp [Array.getElem?_setIfInBounds, hlt]))) ⟨by simp; exact hS.1, fun q g1 g2 => by
      rw [oq q (fun e => g2 (by rw [e]; show G.1 ≤ G.1 + kd; omega))]
      exact hS.2.1 q g1 g2, fun q hq => by
      rcases List.mem_append.mp hq with h | h
      · exact hS.2.2 q h
      · obtain ⟨z, -, hz⟩ := List.mem_map.mp h
        rw [← hz]
        show G.1 ≤ G.1 + kd; omega⟩ hl _ (by rw [← hT]; rfl) X'
  exact ⟨t, step t a1, b1⟩
theorem z_copyL (C : Cx p s m args meth c G cc nL own rt) {idx ks kd ns nd : Nat} {sp dp n : Int} {M' : Mem} (d : DC cc pc (.invokestatic idx) 3 pc') (cw : CA own idx) (hks : ks < NC) (hcs : ck ks = (2, 0, ns)) (hkd : kd < NC) (hcd : ck kd = (2, 0, nd)) (hb0 : 0 ≤ w32 sp ∧ 0 ≤ w32 dp ∧ 0 ≤ w32 n ∧ w32 sp + w32 n ≤ (ns : Int) ∧ w32 dp + w32 n ≤ (nd : Int)) (hlev : 1 ≤ lev) (hst : (st.map fun v => v.category).sum ≤ 8) (hM : M' = cpy M ks (ix sp) kd (ix dp) (ix n))
    (kk : Z p l e lev s m args below meth c G nL Q M' pc' lv st) : Z p l e lev s m args below meth c G nL Q M pc lv (vi n :: vi dp :: .ref (G.1 + kd) :: vi sp :: .ref (G.1 + ks) :: st) := by
  subst hM
  intro H locs ls hP hS hl
  obtain ⟨hx, hb, hml, hown, hts, hlk, hrt, hK⟩ := C
  obtain ⟨d, rfl⟩ := d
  obtain ⟨w1, w2, w3, w4⟩ := cw
  obtain ⟨b1, b2, b3, b4, b5⟩ := hb0
  have hc0 := (hP ks hks).arr (t := 1) hcs
  have hc1 := (hP kd hkd).arr (t := 1) hcd
  intro T hT X
  obtain ⟨-, k0, hk0, cm0, hkk0⟩ := (hK.1.2 1 (_, .long) rfl).1 ns (fun j => aenc G 2 ks j (M ks j))
  obtain ⟨-, k1, hk1, cm1, hkk1⟩ := (hK.1.2 1 (_, .long) rfl).1 nd (fun j => aenc G 2 kd j (M kd j))
  obtain ⟨vm', X', step⟩ := X.arraycopy hx hown (hts _ w1) (hts _ w2) (hts _ w3) (hts _ w4) (src := G.1 + ks) (dst := G.1 + kd) (cs := arrV (G.2.2.1 2) ns (fun j => aenc G 2 ks j (M ks j))) (cd := arrV (G.2.2.1 2) nd (fun j => aenc G 2 kd j (M kd j))) (srcPos := Int32.ofInt sp) (destPos := Int32.ofInt dp) (n := Int32.ofInt n) (by rw [hT]; exact hc0) (by rw [hT]; exact hc1)
    (fun _ h => by cases h) (fun _ h => by cases h) (fun h => by cases h) (fun h => by cases h) hk0 hk1 hkk0 hkk1 (by simp [refKind]) (by rw [i32_lt0]; omega) (by rw [i32_lt0]; omega) (by rw [i32_lt0]; omega)
    (by rw [w32_i, w32_i, arrV_size]; omega)
    (by rw [w32_i, w32_i, arrV_size]; omega)
    (fun vm₁ _ i hi => by
      have hi2 : ix sp + i < ns := by rw [i32_nat] at hi; unfold ix at hi ⊢; omega
      have e : (arrV (G.2.2.1 2) ns (fun j => aenc G 2 ks j (M ks j))).slots.getD ((Int32.ofInt sp).toNatClampNeg + i) .null = vl (M ks (ix sp + i)) := by
        rw [Array.getD_eq_getD_getElem?, i32_nat, arrV_read _ _ hi2]
        rfl
      exact ⟨by rw [e]; rfl, by rw [e]; exact trivial⟩)
    (g := F0 m pc ls (vi n :: vi dp :: .ref (G.1 + kd) :: vi sp :: .ref (G.1 + ks) :: st)) rfl (by rw [hml]; exact hl.1) (rest := st) rfl (by rw [hb]; exact d) hlev (by
      have h64 : 64 ≤ (rmL lev).locals := by unfold rmL; dsimp only; omega
      have hn5 : nativeFrameWords "java/lang/System" "arraycopy" 5 ≤ 40 := by decide +kernel
      show 2 * 0 + _ + _ ≤ _; omega)
  have e1 : copied (arrV (G.2.2.1 2) ns (fun j => aenc G 2 ks j (M ks j))) (arrV (G.2.2.1 2) nd (fun j => aenc G 2 kd j (M kd j))) (Int32.ofInt sp) (Int32.ofInt dp) (Int32.ofInt n) = arrV (G.2.2.1 2) nd (fun j => aenc G 2 kd j (cpy M ks (ix sp) kd (ix dp) (ix n) kd j)) := by
    have h4 : (Int32.ofInt sp).toNatClampNeg + (Int32.ofInt n).toNatClampNeg ≤ ns := by rw [i32_nat, i32_nat]; unfold ix; omega
    have := va_copied (fun z => vl z) (G.2.2.1 2) (G.2.2.1 2) (n1 := nd) (M ks) (M kd) (dp := (Int32.ofInt dp).toNatClampNeg) h4
    refine Eq.trans this ?_
    rw [i32_nat, i32_nat, i32_nat]
    congr 1
    funext j
    show vl _ = vl _
    congr 1
    unfold va_cpy cpy
    rw [if_pos rfl]
  rw [e1] at X' step
  have hlt : G.1 + kd < H.size := (Array.getElem?_eq_some_iff.mp hc1).1
  have oq : ∀ q : Nat, q ≠ G.1 + kd → (H.setIfInBounds (G.1 + kd) (arrV (G.2.2.1 2) nd (fun j => aenc G 2 kd j (cpy M ks (ix sp) kd (ix dp) (ix n) kd j))))[q]? = H[q]? := fun q hq => by simp [Array.getElem?_setIfInBounds, Ne.symm hq]
  obtain ⟨t, a1, b1⟩ := kk (H.setIfInBounds (G.1 + kd) (arrV (G.2.2.1 2) nd (fun j => aenc G 2 kd j (cpy M ks (ix sp) kd (ix dp) (ix n) kd j)))) _ ls (pic_cpy hP hkd oq (cellOk.arr' (t := 1) hcd (by simp [Array.getElem?_setIfInBounds, hlt]))) ⟨by simp; exact hS.1, fun q g1 g2 => by
      rw [oq q (fun e => g2 (by rw [e]; show G.1 ≤ G.1 + kd; omega))]
      exact hS.2.1 q g1 g2, fun q hq => by
      rcases List.mem_append.mp hq with h | h
      · exact hS.2.2 q h
      · obtain ⟨z, -, hz⟩ := List.mem_map.mp h
        rw [← hz]
        show G.1 ≤ G.1 + kd; omega⟩ hl _ (by rw [← hT]; rfl) X'
  exact ⟨t, step t a1, b1⟩
end ZC
