/-! a row an instruction: to reach the end from here it is enough to reach it from the next place -/
section ZR
variable {p : Program} {l : Launch} {e : Env} {lev : Nat} {R : Room} {cl sl : Nat} {PP : Heap → Prop} {s : State} {m : MethodId} {args : Array Value} {below : List Frame} {meth : Method} {c : Code} {G : GX} {nL : Nat} {Q : State → Prop} {M : Mem} {pc pc' : Nat} {lv lv' : List (Nat × Value)} {st : List Value} {cc : ByteArray} {own : String} {rt : Option FieldType}

theorem z_iconst (C : Cx p s m args meth c G cc nL own rt) {n : Int} (d : DC cc pc (.iconst n) 1 pc') (k : Z0 p l e R cl sl s m args below meth c G nL Q PP pc' lv (vi n :: st)) : Z0 p l e R cl sl s m args below meth c G nL Q PP pc lv st := by
  intro H locs ls hP hS hl
  obtain ⟨hx, hb, hml, hown, hts, hlk, hrt, hK⟩ := C
  obtain ⟨d, rfl⟩ := d
  exact lv_iconst hx hb d rfl (k H locs ls hP hS hl)
theorem z_bipush (C : Cx p s m args meth c G cc nL own rt) {n : Int} (hn : w8 n = n) (d : DC cc pc (.bipush n) 2 pc') (k : Z0 p l e R cl sl s m args below meth c G nL Q PP pc' lv (vi n :: st)) : Z0 p l e R cl sl s m args below meth c G nL Q PP pc lv st := by
  intro H locs ls hP hS hl
  obtain ⟨hx, hb, hml, hown, hts, hlk, hrt, hK⟩ := C
  obtain ⟨d, rfl⟩ := d
  refine lv_bipush (v := Int32.ofInt n) hx hb d ?_ (k H locs ls hP hS hl)
  rw [← Int32.toInt_inj, w32_i, Int8.toInt_toInt32, Int8.toInt_ofInt]
  show n.bmod 256 = _
  rw [w8_b, hn]; unfold w8 at hn; unfold w32; omega
theorem z_sipush (C : Cx p s m args meth c G cc nL own rt) {n : Int} (hn : w16 n = n) (d : DC cc pc (.sipush n) 3 pc') (k : Z0 p l e R cl sl s m args below meth c G nL Q PP pc' lv (vi n :: st)) : Z0 p l e R cl sl s m args below meth c G nL Q PP pc lv st := by
  intro H locs ls hP hS hl
  obtain ⟨hx, hb, hml, hown, hts, hlk, hrt, hK⟩ := C
  obtain ⟨d, rfl⟩ := d
  refine lv_sipush (v := Int32.ofInt n) hx hb d ?_ (k H locs ls hP hS hl)
  rw [← Int32.toInt_inj, w32_i, Int16.toInt_toInt32, Int16.toInt_ofInt]
  show n.bmod 65536 = _
  rw [w16_b, hn]; unfold w16 at hn; unfold w32; omega
theorem z_lconst0 (C : Cx p s m args meth c G cc nL own rt) (d : DC cc pc (.lconst 0) 1 pc') (k : Z0 p l e R cl sl s m args below meth c G nL Q PP pc' lv (vl 0 :: st)) : Z0 p l e R cl sl s m args below meth c G nL Q PP pc lv st := by
  intro H locs ls hP hS hl
  obtain ⟨hx, hb, hml, hown, hts, hlk, hrt, hK⟩ := C
  obtain ⟨d, rfl⟩ := d
  exact lv_lconst hx hb d rfl (k H locs ls hP hS hl)
theorem z_lconst1 (C : Cx p s m args meth c G cc nL own rt) (d : DC cc pc (.lconst 1) 1 pc') (k : Z0 p l e R cl sl s m args below meth c G nL Q PP pc' lv (vl 1 :: st)) : Z0 p l e R cl sl s m args below meth c G nL Q PP pc lv st := by
  intro H locs ls hP hS hl
  obtain ⟨hx, hb, hml, hown, hts, hlk, hrt, hK⟩ := C
  obtain ⟨d, rfl⟩ := d
  exact lv_lconst hx hb d rfl (k H locs ls hP hS hl)
theorem z_ldc (C : Cx p s m args meth c G cc nL own rt) {n : Int} {index : Nat} (hc : Cond.constant own index (Int32.ofInt n) ∈ TB) (d : DC cc pc (.ldc index) 2 pc') (k : Z0 p l e R cl sl s m args below meth c G nL Q PP pc' lv (vi n :: st)) : Z0 p l e R cl sl s m args below meth c G nL Q PP pc lv st := by
  intro H locs ls hP hS hl
  obtain ⟨hx, hb, hml, hown, hts, hlk, hrt, hK⟩ := C
  obtain ⟨d, rfl⟩ := d
  exact lv_ldc hx hb hown (hts _ hc) d (k H locs ls hP hS hl)
theorem z_ldcw (C : Cx p s m args meth c G cc nL own rt) {n : Int} {index : Nat} (hc : Cond.constant own index (Int32.ofInt n) ∈ TB) (d : DC cc pc (.ldc_w index) 3 pc') (k : Z0 p l e R cl sl s m args below meth c G nL Q PP pc' lv (vi n :: st)) : Z0 p l e R cl sl s m args below meth c G nL Q PP pc lv st := by
  intro H locs ls hP hS hl
  obtain ⟨hx, hb, hml, hown, hts, hlk, hrt, hK⟩ := C
  obtain ⟨d, rfl⟩ := d
  exact lv_ldcw hx hb hown (hts _ hc) d (k H locs ls hP hS hl)
theorem z_ldc2 (C : Cx p s m args meth c G cc nL own rt) {n : Int} {index : Nat} (hc : Cond.constantLong own index (Int64.ofInt n) ∈ TB) (d : DC cc pc (.ldc2_w index) 3 pc') (k : Z0 p l e R cl sl s m args below meth c G nL Q PP pc' lv (vl n :: st)) : Z0 p l e R cl sl s m args below meth c G nL Q PP pc lv st := by
  intro H locs ls hP hS hl
  obtain ⟨hx, hb, hml, hown, hts, hlk, hrt, hK⟩ := C
  obtain ⟨d, rfl⟩ := d
  exact lv_ldc2 hx hb hown (hts _ hc) d (k H locs ls hP hS hl)
theorem z_iload_n (C : Cx p s m args meth c G cc nL own rt) {i : Fin 4} {x : Int} (j : Nat) (d : DC cc pc (.iload_n i) 1 pc') (h : lv[j]? = some ((i : Nat), vi x)) (k : Z0 p l e R cl sl s m args below meth c G nL Q PP pc' lv (vi x :: st)) : Z0 p l e R cl sl s m args below meth c G nL Q PP pc lv st := by
  intro H locs ls hP hS hl
  obtain ⟨hx, hb, hml, hown, hts, hlk, hrt, hK⟩ := C
  obtain ⟨d, rfl⟩ := d
  exact lv_iload_n hx hb d rfl (lv_at hl j h) (k H locs ls hP hS hl)
theorem z_iload (C : Cx p s m args meth c G cc nL own rt) {i : Nat} {x : Int} (j : Nat) (d : DC cc pc (.iload i) 2 pc') (h : lv[j]? = some (i, vi x)) (k : Z0 p l e R cl sl s m args below meth c G nL Q PP pc' lv (vi x :: st)) : Z0 p l e R cl sl s m args below meth c G nL Q PP pc lv st := by
  intro H locs ls hP hS hl
  obtain ⟨hx, hb, hml, hown, hts, hlk, hrt, hK⟩ := C
  obtain ⟨d, rfl⟩ := d
  exact lv_iload hx hb d (lv_at hl j h) (k H locs ls hP hS hl)
theorem z_istore (C : Cx p s m args meth c G cc nL own rt) {i : Nat} {x y : Int} (hv : y = x) (d : DC cc pc (.istore i) 2 pc') (hn : i < nL) (h : (i, vi y) :: lv.filter (fun q => !(q.1 == i) && !(q.1 + 1 == i && q.2.category == 2)) = lv') (k : Z0 p l e R cl sl s m args below meth c G nL Q PP pc' lv' st) : Z0 p l e R cl sl s m args below meth c G nL Q PP pc lv (vi x :: st) := by
  intro H locs ls hP hS hl
  obtain ⟨hx, hb, hml, hown, hts, hlk, hrt, hK⟩ := C
  obtain ⟨d, rfl⟩ := d
  subst hv
  exact lv_istore hx hb d hl hn h (fun ls hl => k H locs ls hP hS hl)
theorem z_istore_n (C : Cx p s m args meth c G cc nL own rt) {i : Fin 4} {x y : Int} (hv : y = x) (d : DC cc pc (.istore_n i) 1 pc') (hn : (i : Nat) < nL) (h : ((i : Nat), vi y) :: lv.filter (fun q => !(q.1 == (i : Nat)) && !(q.1 + 1 == (i : Nat) && q.2.category == 2)) = lv') (k : Z0 p l e R cl sl s m args below meth c G nL Q PP pc' lv' st) : Z0 p l e R cl sl s m args below meth c G nL Q PP pc lv (vi x :: st) := by
  intro H locs ls hP hS hl
  obtain ⟨hx, hb, hml, hown, hts, hlk, hrt, hK⟩ := C
  obtain ⟨d, rfl⟩ := d
  subst hv
  exact lv_istore_n hx hb d rfl hl hn h (fun ls hl => k H locs ls hP hS hl)
theorem z_lload_n (C : Cx p s m args meth c G cc nL own rt) {i : Fin 4} {x : Int} (j : Nat) (d : DC cc pc (.lload_n i) 1 pc') (h : lv[j]? = some ((i : Nat), vl x)) (k : Z0 p l e R cl sl s m args below meth c G nL Q PP pc' lv (vl x :: st)) : Z0 p l e R cl sl s m args below meth c G nL Q PP pc lv st := by
  intro H locs ls hP hS hl
  obtain ⟨hx, hb, hml, hown, hts, hlk, hrt, hK⟩ := C
  obtain ⟨d, rfl⟩ := d
  exact lv_lload_n hx hb d rfl (lv_at hl j h) (k H locs ls hP hS hl)
theorem z_lload (C : Cx p s m args meth c G cc nL own rt) {i : Nat} {x : Int} (j : Nat) (d : DC cc pc (.lload i) 2 pc') (h : lv[j]? = some (i, vl x)) (k : Z0 p l e R cl sl s m args below meth c G nL Q PP pc' lv (vl x :: st)) : Z0 p l e R cl sl s m args below meth c G nL Q PP pc lv st := by
  intro H locs ls hP hS hl
  obtain ⟨hx, hb, hml, hown, hts, hlk, hrt, hK⟩ := C
  obtain ⟨d, rfl⟩ := d
  exact lv_lload hx hb d (lv_at hl j h) (k H locs ls hP hS hl)
theorem z_lstore (C : Cx p s m args meth c G cc nL own rt) {i : Nat} {x y : Int} (hv : y = x) (d : DC cc pc (.lstore i) 2 pc') (hn : i + 1 < nL) (h : (i, vl y) :: lv.filter (fun q => !(q.1 == i) && (!(q.1 == i + 1) && !(q.1 + 1 == i && q.2.category == 2))) = lv') (k : Z0 p l e R cl sl s m args below meth c G nL Q PP pc' lv' st) : Z0 p l e R cl sl s m args below meth c G nL Q PP pc lv (vl x :: st) := by
  intro H locs ls hP hS hl
  obtain ⟨hx, hb, hml, hown, hts, hlk, hrt, hK⟩ := C
  obtain ⟨d, rfl⟩ := d
  subst hv
  exact lv_lstore hx hb d hl hn h (fun ls hl => k H locs ls hP hS hl)
theorem z_lstore_n (C : Cx p s m args meth c G cc nL own rt) {i : Fin 4} {x y : Int} (hv : y = x) (d : DC cc pc (.lstore_n i) 1 pc') (hn : (i : Nat) + 1 < nL) (h : ((i : Nat), vl y) :: lv.filter (fun q => !(q.1 == (i : Nat)) && (!(q.1 == (i : Nat) + 1) && !(q.1 + 1 == (i : Nat) && q.2.category == 2))) = lv') (k : Z0 p l e R cl sl s m args below meth c G nL Q PP pc' lv' st) : Z0 p l e R cl sl s m args below meth c G nL Q PP pc lv (vl x :: st) := by
  intro H locs ls hP hS hl
  obtain ⟨hx, hb, hml, hown, hts, hlk, hrt, hK⟩ := C
  obtain ⟨d, rfl⟩ := d
  subst hv
  exact lv_lstore_n hx hb d rfl hl hn h (fun ls hl => k H locs ls hP hS hl)
theorem z_aload_n (C : Cx p s m args meth c G cc nL own rt) {i : Fin 4} {x : Nat} (j : Nat) (d : DC cc pc (.aload_n i) 1 pc') (h : lv[j]? = some ((i : Nat), .ref x)) (k : Z0 p l e R cl sl s m args below meth c G nL Q PP pc' lv (.ref x :: st)) : Z0 p l e R cl sl s m args below meth c G nL Q PP pc lv st := by
  intro H locs ls hP hS hl
  obtain ⟨hx, hb, hml, hown, hts, hlk, hrt, hK⟩ := C
  obtain ⟨d, rfl⟩ := d
  exact lv_aload_n hx hb d rfl (lv_at hl j h) (k H locs ls hP hS hl)
theorem z_aload (C : Cx p s m args meth c G cc nL own rt) {i : Nat} {x : Nat} (j : Nat) (d : DC cc pc (.aload i) 2 pc') (h : lv[j]? = some (i, .ref x)) (k : Z0 p l e R cl sl s m args below meth c G nL Q PP pc' lv (.ref x :: st)) : Z0 p l e R cl sl s m args below meth c G nL Q PP pc lv st := by
  intro H locs ls hP hS hl
  obtain ⟨hx, hb, hml, hown, hts, hlk, hrt, hK⟩ := C
  obtain ⟨d, rfl⟩ := d
  exact lv_aload hx hb d (lv_at hl j h) (k H locs ls hP hS hl)
theorem z_astore (C : Cx p s m args meth c G cc nL own rt) {i : Nat} {x y : Nat} (hv : y = x) (d : DC cc pc (.astore i) 2 pc') (hn : i < nL) (h : (i, .ref y) :: lv.filter (fun q => !(q.1 == i) && !(q.1 + 1 == i && q.2.category == 2)) = lv') (k : Z0 p l e R cl sl s m args below meth c G nL Q PP pc' lv' st) : Z0 p l e R cl sl s m args below meth c G nL Q PP pc lv (.ref x :: st) := by
  intro H locs ls hP hS hl
  obtain ⟨hx, hb, hml, hown, hts, hlk, hrt, hK⟩ := C
  obtain ⟨d, rfl⟩ := d
  subst hv
  exact lv_astore hx hb d hl hn h (fun ls hl => k H locs ls hP hS hl)
theorem z_astore_n (C : Cx p s m args meth c G cc nL own rt) {i : Fin 4} {x y : Nat} (hv : y = x) (d : DC cc pc (.astore_n i) 1 pc') (hn : (i : Nat) < nL) (h : ((i : Nat), .ref y) :: lv.filter (fun q => !(q.1 == (i : Nat)) && !(q.1 + 1 == (i : Nat) && q.2.category == 2)) = lv') (k : Z0 p l e R cl sl s m args below meth c G nL Q PP pc' lv' st) : Z0 p l e R cl sl s m args below meth c G nL Q PP pc lv (.ref x :: st) := by
  intro H locs ls hP hS hl
  obtain ⟨hx, hb, hml, hown, hts, hlk, hrt, hK⟩ := C
  obtain ⟨d, rfl⟩ := d
  subst hv
  exact lv_astore_n hx hb d rfl hl hn h (fun ls hl => k H locs ls hP hS hl)
theorem z_iinc (C : Cx p s m args meth c G cc nL own rt) {i : Nat} {n x y : Int} (j : Nat) (hv : y = x + n) (d : DC cc pc (.iinc i n) 3 pc') (hj : lv[j]? = some (i, vi x)) (hn : i < nL) (h : (i, vi y) :: lv.filter (fun q => !(q.1 == i) && !(q.1 + 1 == i && q.2.category == 2)) = lv') (k : Z0 p l e R cl sl s m args below meth c G nL Q PP pc' lv' st) : Z0 p l e R cl sl s m args below meth c G nL Q PP pc lv st := by
  intro H locs ls hP hS hl
  obtain ⟨hx, hb, hml, hown, hts, hlk, hrt, hK⟩ := C
  obtain ⟨d, rfl⟩ := d
  subst hv
  exact lv_iinc hx hb d hl hj (Int32.ofInt_add x n).symm hn h (fun ls hl => k H locs ls hP hS hl)
theorem z_iadd (C : Cx p s m args meth c G cc nL own rt) {x y : Int} (d : DC cc pc .iadd 1 pc') (k : Z0 p l e R cl sl s m args below meth c G nL Q PP pc' lv (vi (x + y) :: st)) : Z0 p l e R cl sl s m args below meth c G nL Q PP pc lv (vi y :: vi x :: st) := by
  intro H locs ls hP hS hl
  obtain ⟨hx, hb, hml, hown, hts, hlk, hrt, hK⟩ := C
  obtain ⟨d, rfl⟩ := d
  refine lv_iadd hx hb d ?_
  have q := k H locs ls hP hS hl
  simp only [vi, vl, Int32.ofInt_add] at q
  exact q
theorem z_isub (C : Cx p s m args meth c G cc nL own rt) {x y : Int} (d : DC cc pc .isub 1 pc') (k : Z0 p l e R cl sl s m args below meth c G nL Q PP pc' lv (vi (x - y) :: st)) : Z0 p l e R cl sl s m args below meth c G nL Q PP pc lv (vi y :: vi x :: st) := by
  intro H locs ls hP hS hl
  obtain ⟨hx, hb, hml, hown, hts, hlk, hrt, hK⟩ := C
  obtain ⟨d, rfl⟩ := d
  refine lv_isub hx hb d ?_
  have q := k H locs ls hP hS hl
  simp only [vi, vl, Int32.ofInt_sub] at q
  exact q
theorem z_imul (C : Cx p s m args meth c G cc nL own rt) {x y : Int} (d : DC cc pc .imul 1 pc') (k : Z0 p l e R cl sl s m args below meth c G nL Q PP pc' lv (vi (x * y) :: st)) : Z0 p l e R cl sl s m args below meth c G nL Q PP pc lv (vi y :: vi x :: st) := by
  intro H locs ls hP hS hl
  obtain ⟨hx, hb, hml, hown, hts, hlk, hrt, hK⟩ := C
  obtain ⟨d, rfl⟩ := d
  refine lv_imul hx hb d ?_
  have q := k H locs ls hP hS hl
  simp only [vi, vl, Int32.ofInt_mul] at q
  exact q
theorem z_ladd (C : Cx p s m args meth c G cc nL own rt) {x y : Int} (d : DC cc pc .ladd 1 pc') (k : Z0 p l e R cl sl s m args below meth c G nL Q PP pc' lv (vl (x + y) :: st)) : Z0 p l e R cl sl s m args below meth c G nL Q PP pc lv (vl y :: vl x :: st) := by
  intro H locs ls hP hS hl
  obtain ⟨hx, hb, hml, hown, hts, hlk, hrt, hK⟩ := C
  obtain ⟨d, rfl⟩ := d
  refine lv_ladd hx hb d ?_
  have q := k H locs ls hP hS hl
  simp only [vi, vl, Int64.ofInt_add] at q
  exact q
theorem z_lsub (C : Cx p s m args meth c G cc nL own rt) {x y : Int} (d : DC cc pc .lsub 1 pc') (k : Z0 p l e R cl sl s m args below meth c G nL Q PP pc' lv (vl (x - y) :: st)) : Z0 p l e R cl sl s m args below meth c G nL Q PP pc lv (vl y :: vl x :: st) := by
  intro H locs ls hP hS hl
  obtain ⟨hx, hb, hml, hown, hts, hlk, hrt, hK⟩ := C
  obtain ⟨d, rfl⟩ := d
  refine lv_lsub hx hb d ?_
  have q := k H locs ls hP hS hl
  simp only [vi, vl, Int64.ofInt_sub] at q
  exact q
theorem z_lmul (C : Cx p s m args meth c G cc nL own rt) {x y : Int} (d : DC cc pc .lmul 1 pc') (k : Z0 p l e R cl sl s m args below meth c G nL Q PP pc' lv (vl (x * y) :: st)) : Z0 p l e R cl sl s m args below meth c G nL Q PP pc lv (vl y :: vl x :: st) := by
  intro H locs ls hP hS hl
  obtain ⟨hx, hb, hml, hown, hts, hlk, hrt, hK⟩ := C
  obtain ⟨d, rfl⟩ := d
  refine lv_lmul hx hb d ?_
  have q := k H locs ls hP hS hl
  simp only [vi, vl, Int64.ofInt_mul] at q
  exact q
theorem z_idiv (C : Cx p s m args meth c G cc nL own rt) {x y : Int} (h0 : ¬ w32 y = 0) (d : DC cc pc .idiv 1 pc') (k : Z0 p l e R cl sl s m args below meth c G nL Q PP pc' lv (vi (dv32 x y) :: st)) : Z0 p l e R cl sl s m args below meth c G nL Q PP pc lv (vi y :: vi x :: st) := by
  intro H locs ls hP hS hl
  obtain ⟨hx, hb, hml, hown, hts, hlk, hrt, hK⟩ := C
  obtain ⟨d, rfl⟩ := d
  refine lv_idiv hx hb d (fun z => h0 ((i32_0 y).mp z)) ?_
  have q := k H locs ls hP hS hl
  simp only [vi, vl, ← i32_div] at q
  exact q
theorem i32_rem2 (x y : Int) : Int32.ofInt x - Int32.ofInt x / Int32.ofInt y * Int32.ofInt y = Int32.ofInt (rm32 x y) := by
  rw [← i32_of x, ← i32_of y, i32_div, ← Int32.ofInt_mul, ← Int32.ofInt_sub]
  unfold dv32 rm32
  rw [w32_w, w32_w, Int.tmod_def, Int.mul_comm]
theorem i64_rem2 (x y : Int) : Int64.ofInt x - Int64.ofInt x / Int64.ofInt y * Int64.ofInt y = Int64.ofInt (rm64 x y) := by
  rw [← i64_of x, ← i64_of y, i64_div, ← Int64.ofInt_mul, ← Int64.ofInt_sub]
  unfold dv64 rm64
  rw [w64_w, w64_w, Int.tmod_def, Int.mul_comm]
theorem z_irem (C : Cx p s m args meth c G cc nL own rt) {x y : Int} (h0 : ¬ w32 y = 0) (d : DC cc pc .irem 1 pc') (k : Z0 p l e R cl sl s m args below meth c G nL Q PP pc' lv (vi (rm32 x y) :: st)) : Z0 p l e R cl sl s m args below meth c G nL Q PP pc lv (vi y :: vi x :: st) := by
  intro H locs ls hP hS hl
  obtain ⟨hx, hb, hml, hown, hts, hlk, hrt, hK⟩ := C
  obtain ⟨d, rfl⟩ := d
  refine lv_irem hx hb d (fun z => h0 ((i32_0 y).mp z)) ?_
  have q := k H locs ls hP hS hl
  simp only [vi, vl, ← i32_rem2] at q
  exact q
theorem z_ldiv (C : Cx p s m args meth c G cc nL own rt) {x y : Int} (h0 : ¬ w64 y = 0) (d : DC cc pc .ldiv 1 pc') (k : Z0 p l e R cl sl s m args below meth c G nL Q PP pc' lv (vl (dv64 x y) :: st)) : Z0 p l e R cl sl s m args below meth c G nL Q PP pc lv (vl y :: vl x :: st) := by
  intro H locs ls hP hS hl
  obtain ⟨hx, hb, hml, hown, hts, hlk, hrt, hK⟩ := C
  obtain ⟨d, rfl⟩ := d
  refine lv_ldiv hx hb d (fun z => h0 ((i64_0 y).mp z)) ?_
  have q := k H locs ls hP hS hl
  simp only [vi, vl, ← i64_div] at q
  exact q
theorem z_lrem (C : Cx p s m args meth c G cc nL own rt) {x y : Int} (h0 : ¬ w64 y = 0) (d : DC cc pc .lrem 1 pc') (k : Z0 p l e R cl sl s m args below meth c G nL Q PP pc' lv (vl (rm64 x y) :: st)) : Z0 p l e R cl sl s m args below meth c G nL Q PP pc lv (vl y :: vl x :: st) := by
  intro H locs ls hP hS hl
  obtain ⟨hx, hb, hml, hown, hts, hlk, hrt, hK⟩ := C
  obtain ⟨d, rfl⟩ := d
  refine lv_lrem hx hb d (fun z => h0 ((i64_0 y).mp z)) ?_
  have q := k H locs ls hP hS hl
  simp only [vi, vl, ← i64_rem2] at q
  exact q
theorem z_iand (C : Cx p s m args meth c G cc nL own rt) {x y : Int} (d : DC cc pc .iand 1 pc') (k : Z0 p l e R cl sl s m args below meth c G nL Q PP pc' lv (vi (an32 x y) :: st)) : Z0 p l e R cl sl s m args below meth c G nL Q PP pc lv (vi y :: vi x :: st) := by
  intro H locs ls hP hS hl
  obtain ⟨hx, hb, hml, hown, hts, hlk, hrt, hK⟩ := C
  obtain ⟨d, rfl⟩ := d
  refine lv_iand hx hb d ?_
  have q := k H locs ls hP hS hl
  simp only [vi, vl, an32, Int32.ofInt_toInt] at q
  exact q
theorem z_ior (C : Cx p s m args meth c G cc nL own rt) {x y : Int} (d : DC cc pc .ior 1 pc') (k : Z0 p l e R cl sl s m args below meth c G nL Q PP pc' lv (vi (or32 x y) :: st)) : Z0 p l e R cl sl s m args below meth c G nL Q PP pc lv (vi y :: vi x :: st) := by
  intro H locs ls hP hS hl
  obtain ⟨hx, hb, hml, hown, hts, hlk, hrt, hK⟩ := C
  obtain ⟨d, rfl⟩ := d
  refine lv_ior hx hb d ?_
  have q := k H locs ls hP hS hl
  simp only [vi, vl, or32, Int32.ofInt_toInt] at q
  exact q
theorem z_ishl (C : Cx p s m args meth c G cc nL own rt) {x y : Int} (d : DC cc pc .ishl 1 pc') (k : Z0 p l e R cl sl s m args below meth c G nL Q PP pc' lv (vi (sl32 x y) :: st)) : Z0 p l e R cl sl s m args below meth c G nL Q PP pc lv (vi y :: vi x :: st) := by
  intro H locs ls hP hS hl
  obtain ⟨hx, hb, hml, hown, hts, hlk, hrt, hK⟩ := C
  obtain ⟨d, rfl⟩ := d
  refine lv_ishl hx hb d ?_
  have q := k H locs ls hP hS hl
  simp only [vi, vl, sl32, Int32.ofInt_toInt] at q
  exact q
theorem z_ishr (C : Cx p s m args meth c G cc nL own rt) {x y : Int} (d : DC cc pc .ishr 1 pc') (k : Z0 p l e R cl sl s m args below meth c G nL Q PP pc' lv (vi (sr32 x y) :: st)) : Z0 p l e R cl sl s m args below meth c G nL Q PP pc lv (vi y :: vi x :: st) := by
  intro H locs ls hP hS hl
  obtain ⟨hx, hb, hml, hown, hts, hlk, hrt, hK⟩ := C
  obtain ⟨d, rfl⟩ := d
  refine lv_ishr hx hb d ?_
  have q := k H locs ls hP hS hl
  simp only [vi, vl, sr32, Int32.ofInt_toInt] at q
  exact q
theorem z_land (C : Cx p s m args meth c G cc nL own rt) {x y : Int} (d : DC cc pc .land 1 pc') (k : Z0 p l e R cl sl s m args below meth c G nL Q PP pc' lv (vl (an64 x y) :: st)) : Z0 p l e R cl sl s m args below meth c G nL Q PP pc lv (vl y :: vl x :: st) := by
  intro H locs ls hP hS hl
  obtain ⟨hx, hb, hml, hown, hts, hlk, hrt, hK⟩ := C
  obtain ⟨d, rfl⟩ := d
  refine lv_land hx hb d ?_
  have q := k H locs ls hP hS hl
  simp only [vi, vl, an64, Int64.ofInt_toInt] at q
  exact q
theorem z_lor (C : Cx p s m args meth c G cc nL own rt) {x y : Int} (d : DC cc pc .lor 1 pc') (k : Z0 p l e R cl sl s m args below meth c G nL Q PP pc' lv (vl (or64 x y) :: st)) : Z0 p l e R cl sl s m args below meth c G nL Q PP pc lv (vl y :: vl x :: st) := by
  intro H locs ls hP hS hl
  obtain ⟨hx, hb, hml, hown, hts, hlk, hrt, hK⟩ := C
  obtain ⟨d, rfl⟩ := d
  refine lv_lor hx hb d ?_
  have q := k H locs ls hP hS hl
  simp only [vi, vl, or64, Int64.ofInt_toInt] at q
  exact q
theorem z_iushr (C : Cx p s m args meth c G cc nL own rt) {x y : Int} (d : DC cc pc .iushr 1 pc') (k : Z0 p l e R cl sl s m args below meth c G nL Q PP pc' lv (vi (ur32 x y) :: st)) : Z0 p l e R cl sl s m args below meth c G nL Q PP pc lv (vi y :: vi x :: st) := by
  intro H locs ls hP hS hl
  obtain ⟨hx, hb, hml, hown, hts, hlk, hrt, hK⟩ := C
  obtain ⟨d, rfl⟩ := d
  exact lv_iushr hx hb d (by rw [ur32, Int32.ofInt_toInt]) (k H locs ls hP hS hl)
theorem z_lshl (C : Cx p s m args meth c G cc nL own rt) {x y : Int} (d : DC cc pc .lshl 1 pc') (k : Z0 p l e R cl sl s m args below meth c G nL Q PP pc' lv (vl (sl64 x y) :: st)) : Z0 p l e R cl sl s m args below meth c G nL Q PP pc lv (vi y :: vl x :: st) := by
  intro H locs ls hP hS hl
  obtain ⟨hx, hb, hml, hown, hts, hlk, hrt, hK⟩ := C
  obtain ⟨d, rfl⟩ := d
  exact lv_lshl hx hb d (by rw [sl64, Int64.ofInt_toInt]) (k H locs ls hP hS hl)
theorem z_ineg (C : Cx p s m args meth c G cc nL own rt) {x : Int} (d : DC cc pc .ineg 1 pc') (k : Z0 p l e R cl sl s m args below meth c G nL Q PP pc' lv (vi (-x) :: st)) : Z0 p l e R cl sl s m args below meth c G nL Q PP pc lv (vi x :: st) := by
  intro H locs ls hP hS hl
  obtain ⟨hx, hb, hml, hown, hts, hlk, hrt, hK⟩ := C
  obtain ⟨d, rfl⟩ := d
  refine lv_ineg hx hb d ?_
  have q := k H locs ls hP hS hl
  simp only [vi, Int32.ofInt_neg] at q
  exact q
theorem z_lneg (C : Cx p s m args meth c G cc nL own rt) {x : Int} (d : DC cc pc .lneg 1 pc') (k : Z0 p l e R cl sl s m args below meth c G nL Q PP pc' lv (vl (-x) :: st)) : Z0 p l e R cl sl s m args below meth c G nL Q PP pc lv (vl x :: st) := by
  intro H locs ls hP hS hl
  obtain ⟨hx, hb, hml, hown, hts, hlk, hrt, hK⟩ := C
  obtain ⟨d, rfl⟩ := d
  refine lv_lneg hx hb d ?_
  have q := k H locs ls hP hS hl
  simp only [vl, Int64.ofInt_neg] at q
  exact q
theorem z_i2l (C : Cx p s m args meth c G cc nL own rt) {x : Int} (d : DC cc pc .i2l 1 pc') (k : Z0 p l e R cl sl s m args below meth c G nL Q PP pc' lv (vl (w32 x) :: st)) : Z0 p l e R cl sl s m args below meth c G nL Q PP pc lv (vi x :: st) := by
  intro H locs ls hP hS hl
  obtain ⟨hx, hb, hml, hown, hts, hlk, hrt, hK⟩ := C
  obtain ⟨d, rfl⟩ := d
  exact lv_i2l hx hb d (i32_l x) (k H locs ls hP hS hl)
theorem z_l2i (C : Cx p s m args meth c G cc nL own rt) {x : Int} (d : DC cc pc .l2i 1 pc') (k : Z0 p l e R cl sl s m args below meth c G nL Q PP pc' lv (vi x :: st)) : Z0 p l e R cl sl s m args below meth c G nL Q PP pc lv (vl x :: st) := by
  intro H locs ls hP hS hl
  obtain ⟨hx, hb, hml, hown, hts, hlk, hrt, hK⟩ := C
  obtain ⟨d, rfl⟩ := d
  exact lv_l2i hx hb d (i64_i x) (k H locs ls hP hS hl)
theorem z_i2b (C : Cx p s m args meth c G cc nL own rt) {x : Int} (d : DC cc pc .i2b 1 pc') (k : Z0 p l e R cl sl s m args below meth c G nL Q PP pc' lv (vi (w8 x) :: st)) : Z0 p l e R cl sl s m args below meth c G nL Q PP pc lv (vi x :: st) := by
  intro H locs ls hP hS hl
  obtain ⟨hx, hb, hml, hown, hts, hlk, hrt, hK⟩ := C
  obtain ⟨d, rfl⟩ := d
  exact lv_i2b hx hb d (i32_b x) (k H locs ls hP hS hl)
theorem z_i2s (C : Cx p s m args meth c G cc nL own rt) {x : Int} (d : DC cc pc .i2s 1 pc') (k : Z0 p l e R cl sl s m args below meth c G nL Q PP pc' lv (vi (w16 x) :: st)) : Z0 p l e R cl sl s m args below meth c G nL Q PP pc lv (vi x :: st) := by
  intro H locs ls hP hS hl
  obtain ⟨hx, hb, hml, hown, hts, hlk, hrt, hK⟩ := C
  obtain ⟨d, rfl⟩ := d
  exact lv_i2s hx hb d (i32_s x) (k H locs ls hP hS hl)
theorem z_i2c (C : Cx p s m args meth c G cc nL own rt) {x : Int} (d : DC cc pc .i2c 1 pc') (k : Z0 p l e R cl sl s m args below meth c G nL Q PP pc' lv (vi (ch16 x) :: st)) : Z0 p l e R cl sl s m args below meth c G nL Q PP pc lv (vi x :: st) := by
  intro H locs ls hP hS hl
  obtain ⟨hx, hb, hml, hown, hts, hlk, hrt, hK⟩ := C
  obtain ⟨d, rfl⟩ := d
  exact lv_i2c hx hb d (by rw [ch16, Int32.ofInt_toInt]) (k H locs ls hP hS hl)
theorem lg_cm (x y : Int) : lg_cmp (Int64.ofInt x) (Int64.ofInt y) = Int32.ofInt (cm64 x y) := by
  unfold lg_cmp cm64
  simp only [gt_iff_lt, i64_lt, i64_eq]
  by_cases h1 : w64 y < w64 x
  · rw [if_pos h1, if_neg (by omega), if_neg (by omega)]; rfl
  · rw [if_neg h1]
    by_cases h2 : w64 x = w64 y
    · rw [if_pos h2, if_neg (by omega), if_pos h2]; rfl
    · rw [if_neg h2, if_pos (by omega)]; rfl
theorem z_lcmp (C : Cx p s m args meth c G cc nL own rt) {x y : Int} (d : DC cc pc .lcmp 1 pc') (k : Z0 p l e R cl sl s m args below meth c G nL Q PP pc' lv (vi (cm64 x y) :: st)) : Z0 p l e R cl sl s m args below meth c G nL Q PP pc lv (vl y :: vl x :: st) := by
  intro H locs ls hP hS hl
  obtain ⟨hx, hb, hml, hown, hts, hlk, hrt, hK⟩ := C
  obtain ⟨d, rfl⟩ := d
  refine W.lcmp hx hb d ?_
  rw [lg_cm]
  exact k H locs ls hP hS hl
theorem z_dup (C : Cx p s m args meth c G cc nL own rt) {v : Value} (d : DC cc pc .dup 1 pc') (hv : v.category = 1) (k : Z0 p l e R cl sl s m args below meth c G nL Q PP pc' lv (v :: v :: st)) : Z0 p l e R cl sl s m args below meth c G nL Q PP pc lv (v :: st) := by
  intro H locs ls hP hS hl
  obtain ⟨hx, hb, hml, hown, hts, hlk, hrt, hK⟩ := C
  obtain ⟨d, rfl⟩ := d
  exact lv_dup hx hb d hv (k H locs ls hP hS hl)
theorem z_dup2 (C : Cx p s m args meth c G cc nL own rt) {v u : Value} (d : DC cc pc .dup2 1 pc') (hv : v.category = 1) (hu : u.category = 1) (k : Z0 p l e R cl sl s m args below meth c G nL Q PP pc' lv (v :: u :: v :: u :: st)) : Z0 p l e R cl sl s m args below meth c G nL Q PP pc lv (v :: u :: st) := by
  intro H locs ls hP hS hl
  obtain ⟨hx, hb, hml, hown, hts, hlk, hrt, hK⟩ := C
  obtain ⟨d, rfl⟩ := d
  exact lv_dup2_11 hx hb d hv hu (k H locs ls hP hS hl)
theorem z_pop2 (C : Cx p s m args meth c G cc nL own rt) {x : Int} (d : DC cc pc .pop2 1 pc') (k : Z0 p l e R cl sl s m args below meth c G nL Q PP pc' lv (st)) : Z0 p l e R cl sl s m args below meth c G nL Q PP pc lv (vl x :: st) := by
  intro H locs ls hP hS hl
  obtain ⟨hx, hb, hml, hown, hts, hlk, hrt, hK⟩ := C
  obtain ⟨d, rfl⟩ := d
  exact lv_pop2_2 hx hb d rfl (k H locs ls hP hS hl)
theorem z_icmp_lt_t (C : Cx p s m args meth c G cc nL own rt) {x y off : Int} {tgt : Nat} (d : DC cc pc (.if_icmp .lt off) 3 pc') (ht : (pc : Int) + off = (tgt : Int)) (h : w32 x < w32 y) (k : Z0 p l e R cl sl s m args below meth c G nL Q PP tgt lv st) : Z0 p l e R cl sl s m args below meth c G nL Q PP pc lv (vi y :: vi x :: st) := by
  intro H locs ls hP hS hl
  obtain ⟨hx, hb, hml, hown, hts, hlk, hrt, hK⟩ := C
  obtain ⟨d, rfl⟩ := d
  exact lv_icmp_lt hx hb d ht (fun _ => k H locs ls hP hS hl) (fun z => absurd ((i32_lt x y).mpr h) z)
theorem z_icmp_lt_f (C : Cx p s m args meth c G cc nL own rt) {x y off : Int} (d : DC cc pc (.if_icmp .lt off) 3 pc') {tgt : Nat} (ht : (pc : Int) + off = (tgt : Int)) (h : ¬ (w32 x < w32 y)) (k : Z0 p l e R cl sl s m args below meth c G nL Q PP pc' lv st) : Z0 p l e R cl sl s m args below meth c G nL Q PP pc lv (vi y :: vi x :: st) := by
  intro H locs ls hP hS hl
  obtain ⟨hx, hb, hml, hown, hts, hlk, hrt, hK⟩ := C
  obtain ⟨d, rfl⟩ := d
  exact lv_icmp_lt hx hb d ht (fun z => absurd ((i32_lt x y).mp z) h) (fun _ => k H locs ls hP hS hl)
theorem z_icmp_gt_t (C : Cx p s m args meth c G cc nL own rt) {x y off : Int} {tgt : Nat} (d : DC cc pc (.if_icmp .gt off) 3 pc') (ht : (pc : Int) + off = (tgt : Int)) (h : w32 y < w32 x) (k : Z0 p l e R cl sl s m args below meth c G nL Q PP tgt lv st) : Z0 p l e R cl sl s m args below meth c G nL Q PP pc lv (vi y :: vi x :: st) := by
  intro H locs ls hP hS hl
  obtain ⟨hx, hb, hml, hown, hts, hlk, hrt, hK⟩ := C
  obtain ⟨d, rfl⟩ := d
  exact lv_icmp_gt hx hb d ht (fun _ => k H locs ls hP hS hl) (fun z => absurd ((i32_lt y x).mpr h) z)
theorem z_icmp_gt_f (C : Cx p s m args meth c G cc nL own rt) {x y off : Int} (d : DC cc pc (.if_icmp .gt off) 3 pc') {tgt : Nat} (ht : (pc : Int) + off = (tgt : Int)) (h : ¬ (w32 y < w32 x)) (k : Z0 p l e R cl sl s m args below meth c G nL Q PP pc' lv st) : Z0 p l e R cl sl s m args below meth c G nL Q PP pc lv (vi y :: vi x :: st) := by
  intro H locs ls hP hS hl
  obtain ⟨hx, hb, hml, hown, hts, hlk, hrt, hK⟩ := C
  obtain ⟨d, rfl⟩ := d
  exact lv_icmp_gt hx hb d ht (fun z => absurd ((i32_lt y x).mp z) h) (fun _ => k H locs ls hP hS hl)
theorem z_icmp_ge_t (C : Cx p s m args meth c G cc nL own rt) {x y off : Int} {tgt : Nat} (d : DC cc pc (.if_icmp .ge off) 3 pc') (ht : (pc : Int) + off = (tgt : Int)) (h : ¬ w32 x < w32 y) (k : Z0 p l e R cl sl s m args below meth c G nL Q PP tgt lv st) : Z0 p l e R cl sl s m args below meth c G nL Q PP pc lv (vi y :: vi x :: st) := by
  intro H locs ls hP hS hl
  obtain ⟨hx, hb, hml, hown, hts, hlk, hrt, hK⟩ := C
  obtain ⟨d, rfl⟩ := d
  exact lv_icmp_ge hx hb d ht (fun _ => k H locs ls hP hS hl) (fun z => absurd ((i32_le y x).mpr (by omega)) z)
theorem z_icmp_ge_f (C : Cx p s m args meth c G cc nL own rt) {x y off : Int} (d : DC cc pc (.if_icmp .ge off) 3 pc') {tgt : Nat} (ht : (pc : Int) + off = (tgt : Int)) (h : w32 x < w32 y) (k : Z0 p l e R cl sl s m args below meth c G nL Q PP pc' lv st) : Z0 p l e R cl sl s m args below meth c G nL Q PP pc lv (vi y :: vi x :: st) := by
  intro H locs ls hP hS hl
  obtain ⟨hx, hb, hml, hown, hts, hlk, hrt, hK⟩ := C
  obtain ⟨d, rfl⟩ := d
  exact lv_icmp_ge hx hb d ht (fun z => absurd ((i32_le y x).mp z) (by omega)) (fun _ => k H locs ls hP hS hl)
theorem z_icmp_le_t (C : Cx p s m args meth c G cc nL own rt) {x y off : Int} {tgt : Nat} (d : DC cc pc (.if_icmp .le off) 3 pc') (ht : (pc : Int) + off = (tgt : Int)) (h : ¬ w32 y < w32 x) (k : Z0 p l e R cl sl s m args below meth c G nL Q PP tgt lv st) : Z0 p l e R cl sl s m args below meth c G nL Q PP pc lv (vi y :: vi x :: st) := by
  intro H locs ls hP hS hl
  obtain ⟨hx, hb, hml, hown, hts, hlk, hrt, hK⟩ := C
  obtain ⟨d, rfl⟩ := d
  exact lv_icmp_le hx hb d ht (fun _ => k H locs ls hP hS hl) (fun z => absurd ((i32_le x y).mpr (by omega)) z)
theorem z_icmp_le_f (C : Cx p s m args meth c G cc nL own rt) {x y off : Int} (d : DC cc pc (.if_icmp .le off) 3 pc') {tgt : Nat} (ht : (pc : Int) + off = (tgt : Int)) (h : w32 y < w32 x) (k : Z0 p l e R cl sl s m args below meth c G nL Q PP pc' lv st) : Z0 p l e R cl sl s m args below meth c G nL Q PP pc lv (vi y :: vi x :: st) := by
  intro H locs ls hP hS hl
  obtain ⟨hx, hb, hml, hown, hts, hlk, hrt, hK⟩ := C
  obtain ⟨d, rfl⟩ := d
  exact lv_icmp_le hx hb d ht (fun z => absurd ((i32_le x y).mp z) (by omega)) (fun _ => k H locs ls hP hS hl)
theorem z_icmp_eq_t (C : Cx p s m args meth c G cc nL own rt) {x y off : Int} {tgt : Nat} (d : DC cc pc (.if_icmp .eq off) 3 pc') (ht : (pc : Int) + off = (tgt : Int)) (h : w32 x = w32 y) (k : Z0 p l e R cl sl s m args below meth c G nL Q PP tgt lv st) : Z0 p l e R cl sl s m args below meth c G nL Q PP pc lv (vi y :: vi x :: st) := by
  intro H locs ls hP hS hl
  obtain ⟨hx, hb, hml, hown, hts, hlk, hrt, hK⟩ := C
  obtain ⟨d, rfl⟩ := d
  exact lv_icmp_eq hx hb d ht (fun _ => k H locs ls hP hS hl) (fun z => absurd ((i32_eq x y).mpr h) z)
theorem z_icmp_eq_f (C : Cx p s m args meth c G cc nL own rt) {x y off : Int} (d : DC cc pc (.if_icmp .eq off) 3 pc') {tgt : Nat} (ht : (pc : Int) + off = (tgt : Int)) (h : ¬ (w32 x = w32 y)) (k : Z0 p l e R cl sl s m args below meth c G nL Q PP pc' lv st) : Z0 p l e R cl sl s m args below meth c G nL Q PP pc lv (vi y :: vi x :: st) := by
  intro H locs ls hP hS hl
  obtain ⟨hx, hb, hml, hown, hts, hlk, hrt, hK⟩ := C
  obtain ⟨d, rfl⟩ := d
  exact lv_icmp_eq hx hb d ht (fun z => absurd ((i32_eq x y).mp z) h) (fun _ => k H locs ls hP hS hl)
theorem z_icmp_ne_t (C : Cx p s m args meth c G cc nL own rt) {x y off : Int} {tgt : Nat} (d : DC cc pc (.if_icmp .ne off) 3 pc') (ht : (pc : Int) + off = (tgt : Int)) (h : ¬ w32 x = w32 y) (k : Z0 p l e R cl sl s m args below meth c G nL Q PP tgt lv st) : Z0 p l e R cl sl s m args below meth c G nL Q PP pc lv (vi y :: vi x :: st) := by
  intro H locs ls hP hS hl
  obtain ⟨hx, hb, hml, hown, hts, hlk, hrt, hK⟩ := C
  obtain ⟨d, rfl⟩ := d
  exact lv_icmp_ne hx hb d ht (fun _ => k H locs ls hP hS hl) (fun z => absurd ((i32_eq x y).mp z) h)
theorem z_icmp_ne_f (C : Cx p s m args meth c G cc nL own rt) {x y off : Int} (d : DC cc pc (.if_icmp .ne off) 3 pc') {tgt : Nat} (ht : (pc : Int) + off = (tgt : Int)) (h : w32 x = w32 y) (k : Z0 p l e R cl sl s m args below meth c G nL Q PP pc' lv st) : Z0 p l e R cl sl s m args below meth c G nL Q PP pc lv (vi y :: vi x :: st) := by
  intro H locs ls hP hS hl
  obtain ⟨hx, hb, hml, hown, hts, hlk, hrt, hK⟩ := C
  obtain ⟨d, rfl⟩ := d
  exact lv_icmp_ne hx hb d ht (fun z => absurd ((i32_eq x y).mpr h) z) (fun _ => k H locs ls hP hS hl)
theorem z_if_lt_t (C : Cx p s m args meth c G cc nL own rt) {x off : Int} {tgt : Nat} (d : DC cc pc (.ifCond .lt off) 3 pc') (ht : (pc : Int) + off = (tgt : Int)) (h : w32 x < 0) (k : Z0 p l e R cl sl s m args below meth c G nL Q PP tgt lv st) : Z0 p l e R cl sl s m args below meth c G nL Q PP pc lv (vi x :: st) := by
  intro H locs ls hP hS hl
  obtain ⟨hx, hb, hml, hown, hts, hlk, hrt, hK⟩ := C
  obtain ⟨d, rfl⟩ := d
  exact lv_if_lt hx hb d ht (fun _ => k H locs ls hP hS hl) (fun z => absurd ((i32_lt0 x).mpr h) z)
theorem z_if_lt_f (C : Cx p s m args meth c G cc nL own rt) {x off : Int} (d : DC cc pc (.ifCond .lt off) 3 pc') {tgt : Nat} (ht : (pc : Int) + off = (tgt : Int)) (h : ¬ (w32 x < 0)) (k : Z0 p l e R cl sl s m args below meth c G nL Q PP pc' lv st) : Z0 p l e R cl sl s m args below meth c G nL Q PP pc lv (vi x :: st) := by
  intro H locs ls hP hS hl
  obtain ⟨hx, hb, hml, hown, hts, hlk, hrt, hK⟩ := C
  obtain ⟨d, rfl⟩ := d
  exact lv_if_lt hx hb d ht (fun z => absurd ((i32_lt0 x).mp z) h) (fun _ => k H locs ls hP hS hl)
theorem z_if_gt_t (C : Cx p s m args meth c G cc nL own rt) {x off : Int} {tgt : Nat} (d : DC cc pc (.ifCond .gt off) 3 pc') (ht : (pc : Int) + off = (tgt : Int)) (h : 0 < w32 x) (k : Z0 p l e R cl sl s m args below meth c G nL Q PP tgt lv st) : Z0 p l e R cl sl s m args below meth c G nL Q PP pc lv (vi x :: st) := by
  intro H locs ls hP hS hl
  obtain ⟨hx, hb, hml, hown, hts, hlk, hrt, hK⟩ := C
  obtain ⟨d, rfl⟩ := d
  exact lv_if_gt hx hb d ht (fun _ => k H locs ls hP hS hl) (fun z => absurd ((i32_0lt x).mpr h) z)
theorem z_if_gt_f (C : Cx p s m args meth c G cc nL own rt) {x off : Int} (d : DC cc pc (.ifCond .gt off) 3 pc') {tgt : Nat} (ht : (pc : Int) + off = (tgt : Int)) (h : ¬ (0 < w32 x)) (k : Z0 p l e R cl sl s m args below meth c G nL Q PP pc' lv st) : Z0 p l e R cl sl s m args below meth c G nL Q PP pc lv (vi x :: st) := by
  intro H locs ls hP hS hl
  obtain ⟨hx, hb, hml, hown, hts, hlk, hrt, hK⟩ := C
  obtain ⟨d, rfl⟩ := d
  exact lv_if_gt hx hb d ht (fun z => absurd ((i32_0lt x).mp z) h) (fun _ => k H locs ls hP hS hl)
theorem z_if_ge_t (C : Cx p s m args meth c G cc nL own rt) {x off : Int} {tgt : Nat} (d : DC cc pc (.ifCond .ge off) 3 pc') (ht : (pc : Int) + off = (tgt : Int)) (h : ¬ w32 x < 0) (k : Z0 p l e R cl sl s m args below meth c G nL Q PP tgt lv st) : Z0 p l e R cl sl s m args below meth c G nL Q PP pc lv (vi x :: st) := by
  intro H locs ls hP hS hl
  obtain ⟨hx, hb, hml, hown, hts, hlk, hrt, hK⟩ := C
  obtain ⟨d, rfl⟩ := d
  exact lv_if_ge hx hb d ht (fun _ => k H locs ls hP hS hl) (fun z => absurd ((i32_0le x).mpr (by omega)) z)
theorem z_if_ge_f (C : Cx p s m args meth c G cc nL own rt) {x off : Int} (d : DC cc pc (.ifCond .ge off) 3 pc') {tgt : Nat} (ht : (pc : Int) + off = (tgt : Int)) (h : w32 x < 0) (k : Z0 p l e R cl sl s m args below meth c G nL Q PP pc' lv st) : Z0 p l e R cl sl s m args below meth c G nL Q PP pc lv (vi x :: st) := by
  intro H locs ls hP hS hl
  obtain ⟨hx, hb, hml, hown, hts, hlk, hrt, hK⟩ := C
  obtain ⟨d, rfl⟩ := d
  exact lv_if_ge hx hb d ht (fun z => absurd ((i32_0le x).mp z) (by omega)) (fun _ => k H locs ls hP hS hl)
theorem z_if_le_t (C : Cx p s m args meth c G cc nL own rt) {x off : Int} {tgt : Nat} (d : DC cc pc (.ifCond .le off) 3 pc') (ht : (pc : Int) + off = (tgt : Int)) (h : ¬ 0 < w32 x) (k : Z0 p l e R cl sl s m args below meth c G nL Q PP tgt lv st) : Z0 p l e R cl sl s m args below meth c G nL Q PP pc lv (vi x :: st) := by
  intro H locs ls hP hS hl
  obtain ⟨hx, hb, hml, hown, hts, hlk, hrt, hK⟩ := C
  obtain ⟨d, rfl⟩ := d
  exact lv_if_le hx hb d ht (fun _ => k H locs ls hP hS hl) (fun z => absurd ((i32_le0 x).mpr (by omega)) z)
theorem z_if_le_f (C : Cx p s m args meth c G cc nL own rt) {x off : Int} (d : DC cc pc (.ifCond .le off) 3 pc') {tgt : Nat} (ht : (pc : Int) + off = (tgt : Int)) (h : 0 < w32 x) (k : Z0 p l e R cl sl s m args below meth c G nL Q PP pc' lv st) : Z0 p l e R cl sl s m args below meth c G nL Q PP pc lv (vi x :: st) := by
  intro H locs ls hP hS hl
  obtain ⟨hx, hb, hml, hown, hts, hlk, hrt, hK⟩ := C
  obtain ⟨d, rfl⟩ := d
  exact lv_if_le hx hb d ht (fun z => absurd ((i32_le0 x).mp z) (by omega)) (fun _ => k H locs ls hP hS hl)
theorem z_if_eq_t (C : Cx p s m args meth c G cc nL own rt) {x off : Int} {tgt : Nat} (d : DC cc pc (.ifCond .eq off) 3 pc') (ht : (pc : Int) + off = (tgt : Int)) (h : w32 x = 0) (k : Z0 p l e R cl sl s m args below meth c G nL Q PP tgt lv st) : Z0 p l e R cl sl s m args below meth c G nL Q PP pc lv (vi x :: st) := by
  intro H locs ls hP hS hl
  obtain ⟨hx, hb, hml, hown, hts, hlk, hrt, hK⟩ := C
  obtain ⟨d, rfl⟩ := d
  exact lv_if_eq hx hb d ht (fun _ => k H locs ls hP hS hl) (fun z => absurd ((i32_0 x).mpr h) z)
theorem z_if_eq_f (C : Cx p s m args meth c G cc nL own rt) {x off : Int} (d : DC cc pc (.ifCond .eq off) 3 pc') {tgt : Nat} (ht : (pc : Int) + off = (tgt : Int)) (h : ¬ (w32 x = 0)) (k : Z0 p l e R cl sl s m args below meth c G nL Q PP pc' lv st) : Z0 p l e R cl sl s m args below meth c G nL Q PP pc lv (vi x :: st) := by
  intro H locs ls hP hS hl
  obtain ⟨hx, hb, hml, hown, hts, hlk, hrt, hK⟩ := C
  obtain ⟨d, rfl⟩ := d
  exact lv_if_eq hx hb d ht (fun z => absurd ((i32_0 x).mp z) h) (fun _ => k H locs ls hP hS hl)
theorem z_if_ne_t (C : Cx p s m args meth c G cc nL own rt) {x off : Int} {tgt : Nat} (d : DC cc pc (.ifCond .ne off) 3 pc') (ht : (pc : Int) + off = (tgt : Int)) (h : ¬ w32 x = 0) (k : Z0 p l e R cl sl s m args below meth c G nL Q PP tgt lv st) : Z0 p l e R cl sl s m args below meth c G nL Q PP pc lv (vi x :: st) := by
  intro H locs ls hP hS hl
  obtain ⟨hx, hb, hml, hown, hts, hlk, hrt, hK⟩ := C
  obtain ⟨d, rfl⟩ := d
  exact lv_if_ne hx hb d ht (fun _ => k H locs ls hP hS hl) (fun z => absurd ((i32_0 x).mp z) h)
theorem z_if_ne_f (C : Cx p s m args meth c G cc nL own rt) {x off : Int} (d : DC cc pc (.ifCond .ne off) 3 pc') {tgt : Nat} (ht : (pc : Int) + off = (tgt : Int)) (h : w32 x = 0) (k : Z0 p l e R cl sl s m args below meth c G nL Q PP pc' lv st) : Z0 p l e R cl sl s m args below meth c G nL Q PP pc lv (vi x :: st) := by
  intro H locs ls hP hS hl
  obtain ⟨hx, hb, hml, hown, hts, hlk, hrt, hK⟩ := C
  obtain ⟨d, rfl⟩ := d
  exact lv_if_ne hx hb d ht (fun z => absurd ((i32_0 x).mpr h) z) (fun _ => k H locs ls hP hS hl)
theorem z_goto (C : Cx p s m args meth c G cc nL own rt) {off : Int} {tgt : Nat} (d : DC cc pc (.goto off) 3 pc') (ht : (pc : Int) + off = (tgt : Int)) (k : Z0 p l e R cl sl s m args below meth c G nL Q PP tgt lv st) : Z0 p l e R cl sl s m args below meth c G nL Q PP pc lv st := by
  intro H locs ls hP hS hl
  obtain ⟨hx, hb, hml, hown, hts, hlk, hrt, hK⟩ := C
  obtain ⟨d, rfl⟩ := d
  exact lv_goto hx hb d ht (k H locs ls hP hS hl)
theorem z_tableOut (C : Cx p s m args meth c G cc nL own rt) {dflt lo hi : Int} {offs : Array Int} {len : Nat} {x : Int} {tgt : Nat} (d : DC cc pc (.tableswitch dflt lo hi offs) len pc') (h : w32 x < lo ∨ hi < w32 x) (ht : (pc : Int) + dflt = (tgt : Int)) (k : Z0 p l e R cl sl s m args below meth c G nL Q PP tgt lv st) : Z0 p l e R cl sl s m args below meth c G nL Q PP pc lv (vi x :: st) := by
  intro H locs ls hP hS hl
  obtain ⟨hx, hb, hml, hown, hts, hlk, hrt, hK⟩ := C
  obtain ⟨d, rfl⟩ := d
  exact lv_tableOut hx hb d (by rw [w32_i]; exact h) ht (k H locs ls hP hS hl)
theorem z_tableIn (C : Cx p s m args meth c G cc nL own rt) {dflt lo hi : Int} {offs : Array Int} {len : Nat} {x v : Int} {off : Int} {tgt : Nat} (d : DC cc pc (.tableswitch dflt lo hi offs) len pc') (hv : w32 x = v) (h1 : lo ≤ v ∧ v ≤ hi) (ho : offs[(v - lo).toNat]? = some off) (ht : (pc : Int) + off = (tgt : Int)) (k : Z0 p l e R cl sl s m args below meth c G nL Q PP tgt lv st) : Z0 p l e R cl sl s m args below meth c G nL Q PP pc lv (vi x :: st) := by
  intro H locs ls hP hS hl
  obtain ⟨hx, hb, hml, hown, hts, hlk, hrt, hK⟩ := C
  obtain ⟨d, rfl⟩ := d
  exact lv_tableIn hx hb d (by rw [w32_i, hv]; omega) (by rw [w32_i, hv]; omega) (by rw [w32_i, hv]; exact ho) ht (k H locs ls hP hS hl)
theorem z_lookup (C : Cx p s m args meth c G cc nL own rt) {dflt : Int} {ps : Array (Int × Int)} {len : Nat} {x : Int} {off : Int} {tgt : Nat} (d : DC cc pc (.lookupswitch dflt ps) len pc') (hp : (ps.toList.zip (ps.toList.drop 1)).all (fun (a, next) => a.1 < next.1) = true) (ho : Op.lookupswitch.offset ps.toList dflt (w32 x) = off) (ht : (pc : Int) + off = (tgt : Int)) (k : Z0 p l e R cl sl s m args below meth c G nL Q PP tgt lv st) : Z0 p l e R cl sl s m args below meth c G nL Q PP pc lv (vi x :: st) := by
  intro H locs ls hP hS hl
  obtain ⟨hx, hb, hml, hown, hts, hlk, hrt, hK⟩ := C
  obtain ⟨d, rfl⟩ := d
  exact lv_lookup hx hb d hp (by rw [w32_i]; exact ho) ht (k H locs ls hP hS hl)
theorem cellOk.obj {k ci n : Nat} {row : Nat → Int} {H : Heap} (hc : ck k = (0, ci, n)) (h : cellOk G k row H) : t_OB (G.1 + k) (G.2.1.1 ci) n (G.2.1.2 ci) H (fun j => fenc G k j (row j)) := by
  unfold cellOk at h; rw [hc] at h; exact h
theorem cellOk.arr {k t n : Nat} {row : Nat → Int} {H : Heap} (hc : ck k = (t + 1, 0, n)) (h : cellOk G k row H) : H[G.1 + k]? = some (arrV (G.2.2.1 (t + 1)) n (fun j => aenc G (t + 1) k j (row j))) := by
  unfold cellOk at h; rw [hc] at h; exact h
theorem cellOk.obj' {k ci n : Nat} {row : Nat → Int} {H : Heap} (hc : ck k = (0, ci, n)) (h : t_OB (G.1 + k) (G.2.1.1 ci) n (G.2.1.2 ci) H (fun j => fenc G k j (row j))) : cellOk G k row H := by
  unfold cellOk; rw [hc]; exact h
theorem cellOk.arr' {k t n : Nat} {row : Nat → Int} {H : Heap} (hc : ck k = (t + 1, 0, n)) (h : H[G.1 + k]? = some (arrV (G.2.2.1 (t + 1)) n (fun j => aenc G (t + 1) k j (row j)))) : cellOk G k row H := by
  unfold cellOk; rw [hc]; exact h
theorem cellOk.kept {k : Nat} {row : Nat → Int} {H H1 : Heap} (h : cellOk G k row H) (hq : H1[G.1 + k]? = H[G.1 + k]?) : cellOk G k row H1 := by
  unfold cellOk at h ⊢
  split at h
  · exact h.kept hq
  · exact hq.trans h
theorem Pic.put {H H1 : Heap} {k j : Nat} {v : Int} (hP : Pic G M H) (hk : k < NC) (hq : ∀ q : Nat, q ≠ G.1 + k → H1[q]? = H[q]?) (h : cellOk G k (sto M k j v k) H1) : Pic G (sto M k j v) H1 := by
  intro k2 hk2
  by_cases e : k2 = k
  · subst e; exact h
  · have e2 : sto M k j v k2 = M k2 := by unfold sto; rw [if_neg e]
    rw [e2]
    exact (hP k2 hk2).kept (hq _ (by omega))
theorem sto_self {k j : Nat} {v : Int} : sto M k j v k = fun b => if b = j then v else M k b := by unfold sto; rw [if_pos rfl]
/-- a class's words, as the rows ask them -/
def CW (ci : Nat) (Cn : String) (T : u_T) (n : Nat) (ty : Nat → FieldType) : Prop := cls[ci]? = some (Cn, T, n) ∧ (∀ w ∈ u_ws Cn T n, w ∈ TB) ∧ (∀ k, k < n → parseFieldDescriptor (T k).2.2.1 = some (ty k)) ∧ (∀ a, a < n → ∀ b, b < n → a ≠ b → (T a).2.1 ≠ (T b).2.1)
theorem z_getI (C : Cx p s m args meth c G cc nL own rt) {k j ci n index : Nat} {Cn : String} {T : u_T} {ty : Nat → FieldType} (d : DC cc pc (.getfield index) 3 pc') (hk : k < NC) (hc : ck k = (0, ci, n)) (W0 : CW ci Cn T n ty) (hj : j < n) (hf : ft ci j = 0) (hT : (T j).1 = Cn) (hlink : Cond.fieldLink own index Cn (T j).2.1 (T j).2.2.1 ∈ TB) {x : Int} (hv : x = M k j) (k2 : Z0 p l e R cl sl s m args below meth c G nL Q (Pic G M) pc' lv (vi x :: st)) : Z0 p l e R cl sl s m args below meth c G nL Q (Pic G M) pc lv (.ref (G.1 + k) :: st) := by
  subst hv
  intro H locs ls hP hS hl
  obtain ⟨hx, hb, hml, hown, hts, hlk, hrt, hK⟩ := C
  obtain ⟨d, rfl⟩ := d
  obtain ⟨cell, q1, q2, q3, q4⟩ := (hP k hk).obj hc
  obtain ⟨hS1, hfc, kC, hkC, hkind⟩ := hK.1.1 ci _ W0.1
  obtain ⟨cf, kf, fi, f, hi, hsl⟩ := hS1 j hj
  refine W.getf hx hb hown (hts _ hlink) (hT ▸ hi) (u_facts hfc hkC (u_lays hts W0.2.1 hj) hi).1 q1 (by rw [q3]; exact fun h => by cases h) (v := vi (M k j)) ?_ rfl rfl d (k2 H locs ls hP hS hl)
  rw [hsl, q4 j hj]
  simp only [fenc, hc, hf]
theorem z_getL (C : Cx p s m args meth c G cc nL own rt) {k j ci n index : Nat} {Cn : String} {T : u_T} {ty : Nat → FieldType} (d : DC cc pc (.getfield index) 3 pc') (hk : k < NC) (hc : ck k = (0, ci, n)) (W0 : CW ci Cn T n ty) (hj : j < n) (hf : ft ci j = 1) (hT : (T j).1 = Cn) (hlink : Cond.fieldLink own index Cn (T j).2.1 (T j).2.2.1 ∈ TB) {x : Int} (hv : x = M k j) (k2 : Z0 p l e R cl sl s m args below meth c G nL Q (Pic G M) pc' lv (vl x :: st)) : Z0 p l e R cl sl s m args below meth c G nL Q (Pic G M) pc lv (.ref (G.1 + k) :: st) := by
  subst hv
  intro H locs ls hP hS hl
  obtain ⟨hx, hb, hml, hown, hts, hlk, hrt, hK⟩ := C
  obtain ⟨d, rfl⟩ := d
  obtain ⟨cell, q1, q2, q3, q4⟩ := (hP k hk).obj hc
  obtain ⟨hS1, hfc, kC, hkC, hkind⟩ := hK.1.1 ci _ W0.1
  obtain ⟨cf, kf, fi, f, hi, hsl⟩ := hS1 j hj
  refine W.getf hx hb hown (hts _ hlink) (hT ▸ hi) (u_facts hfc hkC (u_lays hts W0.2.1 hj) hi).1 q1 (by rw [q3]; exact fun h => by cases h) (v := vl (M k j)) ?_ rfl rfl d (k2 H locs ls hP hS hl)
  rw [hsl, q4 j hj]
  simp only [fenc, hc, hf]
theorem z_getR (C : Cx p s m args meth c G cc nL own rt) {k j rr ci n index : Nat} {Cn : String} {T : u_T} {ty : Nat → FieldType} (d : DC cc pc (.getfield index) 3 pc') (hk : k < NC) (hc : ck k = (0, ci, n)) (W0 : CW ci Cn T n ty) (hj : j < n) (hf : ft ci j = 2) (hr : rf k j = rr) (hT : (T j).1 = Cn) (hlink : Cond.fieldLink own index Cn (T j).2.1 (T j).2.2.1 ∈ TB) (k2 : Z0 p l e R cl sl s m args below meth c G nL Q (Pic G M) pc' lv (.ref (G.1 + rr) :: st)) : Z0 p l e R cl sl s m args below meth c G nL Q (Pic G M) pc lv (.ref (G.1 + k) :: st) := by
  intro H locs ls hP hS hl
  obtain ⟨hx, hb, hml, hown, hts, hlk, hrt, hK⟩ := C
  obtain ⟨d, rfl⟩ := d
  obtain ⟨cell, q1, q2, q3, q4⟩ := (hP k hk).obj hc
  obtain ⟨hS1, hfc, kC, hkC, hkind⟩ := hK.1.1 ci _ W0.1
  obtain ⟨cf, kf, fi, f, hi, hsl⟩ := hS1 j hj
  refine W.getf hx hb hown (hts _ hlink) (hT ▸ hi) (u_facts hfc hkC (u_lays hts W0.2.1 hj) hi).1 q1 (by rw [q3]; exact fun h => by cases h) (v := .ref (G.1 + rr)) ?_ rfl rfl d (k2 H locs ls hP hS hl)
  rw [hsl, q4 j hj]
  simp only [fenc, hc, hf, hr]
theorem z_putI (C : Cx p s m args meth c G cc nL own rt) {k j ci n index : Nat} {Cn : String} {T : u_T} {ty : Nat → FieldType} {x : Int} {M' : Mem} (d : DC cc pc (.putfield index) 3 pc') (hk : k < NC) (hc : ck k = (0, ci, n)) (W0 : CW ci Cn T n ty) (hj : j < n) (hf : ft ci j = 0) (hT : (T j).1 = Cn) (hty : ty j = .int) (hfin : (T j).2.2.2 = false) (hlink : Cond.fieldLink own index Cn (T j).2.1 (T j).2.2.1 ∈ TB) (hM : M' = sto M k j x) (k2 : Z0 p l e R cl sl s m args below meth c G nL Q (Pic G M') pc' lv st) : Z0 p l e R cl sl s m args below meth c G nL Q (Pic G M) pc lv (vi x :: .ref (G.1 + k) :: st) := by
  subst hM
  intro H locs ls hP hS hl
  obtain ⟨hx, hb, hml, hown, hts, hlk, hrt, hK⟩ := C
  obtain ⟨d, rfl⟩ := d
  obtain ⟨cell, q1, q2, q3, q4⟩ := (hP k hk).obj hc
  have hS1 := hK.1.1 ci _ W0.1
  obtain ⟨hS1, hfc, kC, hkC, hkind⟩ := hS1
  obtain ⟨cf, kf, fi, f, hi, hsl⟩ := hS1 j hj
  have hap := va_apart (own := own) hts W0.2.1 ty W0.2.2.1 W0.2.2.2 hK.1 W0.1
  have hlay := hts _ (W0.2.1 _ (u_in_lay hj))
  unfold u_lay at hlay
  rw [if_neg (by rw [hfin]; decide)] at hlay
  have hst := (u_facts hfc hkC (u_lays hts W0.2.1 hj) hi).1
  have h6 := u_store (v := vi x) hfc hkC hkind hlay hi (W0.2.2.1 j hj) (by rw [hty]; rfl) (by rw [hty]; rfl)
  refine W.putK hx hb (f := f) ⟨hown, hts _ hlink, ⟨_, _, _, hT ▸ hi⟩, hst⟩ (by rw [q2]; exact h6) q1 q3 (by rw [hsl]; exact k2_hasslot (q4 j hj)) rfl rfl d fun H' e1 e2 e3 => ?_
  rw [hsl] at e1 ⊢
  refine k2 H' _ ls (hP.put hk e3 (cellOk.obj' hc ?_)) (hS.put e2 e3 (show G.1 ≤ G.1 + k by omega)) hl
  refine t_OB.to (V := updV (fun j => fenc G k j (M k j)) j (vi x)) ⟨_, e1, q2, q3, t_set q4 hap hj _⟩ (fun b _ => ?_)
  rw [sto_self]
  unfold updV
  by_cases hb2 : b = j
  · subst hb2; simp only [if_true, fenc, hc, hf]
  · simp only [if_neg hb2]
theorem bit_narrow {x : Int} (h : w32 x = 0 ∨ w32 x = 1) : narrow .boolean (vi x) = vi x := by
  have e : Int32.ofInt x = 0 ∨ Int32.ofInt x = 1 := by
    rcases h with h | h
    · exact Or.inl ((i32_0 x).mpr h)
    · right; rw [show (1 : Int32) = Int32.ofInt 1 from rfl, i32_eq, h]; rfl
  unfold vi
  rcases e with e | e <;> rw [e] <;> rfl
theorem bit_fits {x : Int} (h : w32 x = 0 ∨ w32 x = 1) : fits .boolean (vi x) = true := by
  have e : Int32.ofInt x = 0 ∨ Int32.ofInt x = 1 := by
    rcases h with h | h
    · exact Or.inl ((i32_0 x).mpr h)
    · right; rw [show (1 : Int32) = Int32.ofInt 1 from rfl, i32_eq, h]; rfl
  unfold vi
  rcases e with e | e <;> rw [e] <;> rfl
theorem z_putZ (C : Cx p s m args meth c G cc nL own rt) {k j ci n index : Nat} {Cn : String} {T : u_T} {ty : Nat → FieldType} {x : Int} {M' : Mem} (d : DC cc pc (.putfield index) 3 pc') (hk : k < NC) (hc : ck k = (0, ci, n)) (W0 : CW ci Cn T n ty) (hj : j < n) (hf : ft ci j = 0) (hT : (T j).1 = Cn) (hty : ty j = .boolean) (hbit : w32 x = 0 ∨ w32 x = 1) (hfin : (T j).2.2.2 = false) (hlink : Cond.fieldLink own index Cn (T j).2.1 (T j).2.2.1 ∈ TB) (hM : M' = sto M k j x) (k2 : Z0 p l e R cl sl s m args below meth c G nL Q (Pic G M') pc' lv st) : Z0 p l e R cl sl s m args below meth c G nL Q (Pic G M) pc lv (vi x :: .ref (G.1 + k) :: st) := by
  subst hM
  intro H locs ls hP hS hl
  obtain ⟨hx, hb, hml, hown, hts, hlk, hrt, hK⟩ := C
  obtain ⟨d, rfl⟩ := d
  obtain ⟨cell, q1, q2, q3, q4⟩ := (hP k hk).obj hc
  have hS1 := hK.1.1 ci _ W0.1
  obtain ⟨hS1, hfc, kC, hkC, hkind⟩ := hS1
  obtain ⟨cf, kf, fi, f, hi, hsl⟩ := hS1 j hj
  have hap := va_apart (own := own) hts W0.2.1 ty W0.2.2.1 W0.2.2.2 hK.1 W0.1
  have hlay := hts _ (W0.2.1 _ (u_in_lay hj))
  unfold u_lay at hlay
  rw [if_neg (by rw [hfin]; decide)] at hlay
  have hst := (u_facts hfc hkC (u_lays hts W0.2.1 hj) hi).1
  have h6 := u_store (v := vi x) hfc hkC hkind hlay hi (W0.2.2.1 j hj) (by rw [hty]; exact bit_narrow hbit) (by rw [hty]; exact bit_fits hbit)
  refine W.putK hx hb (f := f) ⟨hown, hts _ hlink, ⟨_, _, _, hT ▸ hi⟩, hst⟩ (by rw [q2]; exact h6) q1 q3 (by rw [hsl]; exact k2_hasslot (q4 j hj)) rfl rfl d fun H' e1 e2 e3 => ?_
  rw [hsl] at e1 ⊢
  refine k2 H' _ ls (hP.put hk e3 (cellOk.obj' hc ?_)) (hS.put e2 e3 (show G.1 ≤ G.1 + k by omega)) hl
  refine t_OB.to (V := updV (fun j => fenc G k j (M k j)) j (vi x)) ⟨_, e1, q2, q3, t_set q4 hap hj _⟩ (fun b _ => ?_)
  rw [sto_self]
  unfold updV
  by_cases hb2 : b = j
  · subst hb2; simp only [if_true, fenc, hc, hf]
  · simp only [if_neg hb2]
theorem z_putL (C : Cx p s m args meth c G cc nL own rt) {k j ci n index : Nat} {Cn : String} {T : u_T} {ty : Nat → FieldType} {x : Int} {M' : Mem} (d : DC cc pc (.putfield index) 3 pc') (hk : k < NC) (hc : ck k = (0, ci, n)) (W0 : CW ci Cn T n ty) (hj : j < n) (hf : ft ci j = 1) (hT : (T j).1 = Cn) (hty : ty j = .long) (hfin : (T j).2.2.2 = false) (hlink : Cond.fieldLink own index Cn (T j).2.1 (T j).2.2.1 ∈ TB) (hM : M' = sto M k j x) (k2 : Z0 p l e R cl sl s m args below meth c G nL Q (Pic G M') pc' lv st) : Z0 p l e R cl sl s m args below meth c G nL Q (Pic G M) pc lv (vl x :: .ref (G.1 + k) :: st) := by
  subst hM
  intro H locs ls hP hS hl
  obtain ⟨hx, hb, hml, hown, hts, hlk, hrt, hK⟩ := C
  obtain ⟨d, rfl⟩ := d
  obtain ⟨cell, q1, q2, q3, q4⟩ := (hP k hk).obj hc
  have hS1 := hK.1.1 ci _ W0.1
  obtain ⟨hS1, hfc, kC, hkC, hkind⟩ := hS1
  obtain ⟨cf, kf, fi, f, hi, hsl⟩ := hS1 j hj
  have hap := va_apart (own := own) hts W0.2.1 ty W0.2.2.1 W0.2.2.2 hK.1 W0.1
  have hlay := hts _ (W0.2.1 _ (u_in_lay hj))
  unfold u_lay at hlay
  rw [if_neg (by rw [hfin]; decide)] at hlay
  have hst := (u_facts hfc hkC (u_lays hts W0.2.1 hj) hi).1
  have h6 := u_store (v := vl x) hfc hkC hkind hlay hi (W0.2.2.1 j hj) (by rw [hty]; rfl) (by rw [hty]; rfl)
  refine W.putK hx hb (f := f) ⟨hown, hts _ hlink, ⟨_, _, _, hT ▸ hi⟩, hst⟩ (by rw [q2]; exact h6) q1 q3 (by rw [hsl]; exact k2_hasslot (q4 j hj)) rfl rfl d fun H' e1 e2 e3 => ?_
  rw [hsl] at e1 ⊢
  refine k2 H' _ ls (hP.put hk e3 (cellOk.obj' hc ?_)) (hS.put e2 e3 (show G.1 ≤ G.1 + k by omega)) hl
  refine t_OB.to (V := updV (fun j => fenc G k j (M k j)) j (vl x)) ⟨_, e1, q2, q3, t_set q4 hap hj _⟩ (fun b _ => ?_)
  rw [sto_self]
  unfold updV
  by_cases hb2 : b = j
  · subst hb2; simp only [if_true, fenc, hc, hf]
  · simp only [if_neg hb2]
theorem inb {i : Int} {n : Nat} (h : 0 ≤ w32 i ∧ w32 i < (n : Int)) (cI : ClassId) (f : Nat → Value) : ¬ (Int32.ofInt i < 0 ∨ (arrV cI n f).slots.size ≤ (Int32.ofInt i).toNatClampNeg) := by
  rw [arrV_size, i32_lt0, i32_nat]; unfold ix; omega
theorem inb2 {i : Int} {n : Nat} (h : 0 ≤ w32 i ∧ w32 i < (n : Int)) : ix i < n := by unfold ix; omega
theorem z_iald (C : Cx p s m args meth c G cc nL own rt) {k n : Nat} {i : Int} (d : DC cc pc .iaload 1 pc') (hk : k < NC) (hc : ck k = (1, 0, n)) (hi : 0 ≤ w32 i ∧ w32 i < (n : Int)) {x : Int} (hv : x = (M k (ix i))) (k2 : Z0 p l e R cl sl s m args below meth c G nL Q (Pic G M) pc' lv (vi x :: st)) : Z0 p l e R cl sl s m args below meth c G nL Q (Pic G M) pc lv (vi i :: .ref (G.1 + k) :: st) := by
  subst hv
  intro H locs ls hP hS hl
  obtain ⟨hx, hb, hml, hown, hts, hlk, hrt, hK⟩ := C
  obtain ⟨d, rfl⟩ := d
  have q := (hP k hk).arr (t := 0) hc
  refine W.iald (v := vi (M k (ix i))) hx hb q ((hK.1.2 0 (_, .int) rfl).1 n _) (fun z => by cases z) (inb hi _ _) ?_ rfl rfl d (k2 H locs ls hP hS hl)
  rw [i32_nat, arrV_read _ _ (inb2 hi)]; rfl
theorem z_lald (C : Cx p s m args meth c G cc nL own rt) {k n : Nat} {i : Int} (d : DC cc pc .laload 1 pc') (hk : k < NC) (hc : ck k = (2, 0, n)) (hi : 0 ≤ w32 i ∧ w32 i < (n : Int)) {x : Int} (hv : x = (M k (ix i))) (k2 : Z0 p l e R cl sl s m args below meth c G nL Q (Pic G M) pc' lv (vl x :: st)) : Z0 p l e R cl sl s m args below meth c G nL Q (Pic G M) pc lv (vi i :: .ref (G.1 + k) :: st) := by
  subst hv
  intro H locs ls hP hS hl
  obtain ⟨hx, hb, hml, hown, hts, hlk, hrt, hK⟩ := C
  obtain ⟨d, rfl⟩ := d
  have q := (hP k hk).arr (t := 1) hc
  refine W.lald (v := vl (M k (ix i))) hx hb q ((hK.1.2 1 (_, .long) rfl).1 n _) (fun z => by cases z) (inb hi _ _) ?_ rfl rfl d (k2 H locs ls hP hS hl)
  rw [i32_nat, arrV_read _ _ (inb2 hi)]; rfl
theorem z_bald (C : Cx p s m args meth c G cc nL own rt) {k n : Nat} {i : Int} (d : DC cc pc .baload 1 pc') (hk : k < NC) (hc : ck k = (3, 0, n)) (hi : 0 ≤ w32 i ∧ w32 i < (n : Int)) {x : Int} (hv : x = (w8 (M k (ix i)))) (k2 : Z0 p l e R cl sl s m args below meth c G nL Q (Pic G M) pc' lv (vi x :: st)) : Z0 p l e R cl sl s m args below meth c G nL Q (Pic G M) pc lv (vi i :: .ref (G.1 + k) :: st) := by
  subst hv
  intro H locs ls hP hS hl
  obtain ⟨hx, hb, hml, hown, hts, hlk, hrt, hK⟩ := C
  obtain ⟨d, rfl⟩ := d
  have q := (hP k hk).arr (t := 2) hc
  refine W.bald (v := vi (w8 (M k (ix i)))) hx hb q ((hK.1.2 2 (_, .byte) rfl).1 n _) (fun z => by cases z) (inb hi _ _) ?_ rfl rfl d (k2 H locs ls hP hS hl)
  rw [i32_nat, arrV_read _ _ (inb2 hi)]; rfl
theorem z_zald (C : Cx p s m args meth c G cc nL own rt) {k n : Nat} {i : Int} (d : DC cc pc .baload 1 pc') (hk : k < NC) (hc : ck k = (4, 0, n)) (hi : 0 ≤ w32 i ∧ w32 i < (n : Int)) {x : Int} (hv : x = (M k (ix i) % 2)) (k2 : Z0 p l e R cl sl s m args below meth c G nL Q (Pic G M) pc' lv (vi x :: st)) : Z0 p l e R cl sl s m args below meth c G nL Q (Pic G M) pc lv (vi i :: .ref (G.1 + k) :: st) := by
  subst hv
  intro H locs ls hP hS hl
  obtain ⟨hx, hb, hml, hown, hts, hlk, hrt, hK⟩ := C
  obtain ⟨d, rfl⟩ := d
  have q := (hP k hk).arr (t := 3) hc
  refine W.zald (v := vi (M k (ix i) % 2)) hx hb q ((hK.1.2 3 (_, .boolean) rfl).1 n _) (fun z => by cases z) (inb hi _ _) ?_ rfl rfl d (k2 H locs ls hP hS hl)
  rw [i32_nat, arrV_read _ _ (inb2 hi)]; rfl
theorem z_aald (C : Cx p s m args meth c G cc nL own rt) {k n : Nat} {i : Int} (d : DC cc pc .aaload 1 pc') (hk : k < NC) (hc : ck k = (5, 0, n)) (hi : 0 ≤ w32 i ∧ w32 i < (n : Int)) (k2 : Z0 p l e R cl sl s m args below meth c G nL Q (Pic G M) pc' lv (.ref (G.1 + rf k (ix i)) :: st)) : Z0 p l e R cl sl s m args below meth c G nL Q (Pic G M) pc lv (vi i :: .ref (G.1 + k) :: st) := by
  intro H locs ls hP hS hl
  obtain ⟨hx, hb, hml, hown, hts, hlk, hrt, hK⟩ := C
  obtain ⟨d, rfl⟩ := d
  have q := (hP k hk).arr (t := 4) hc
  refine W.aald (ty := .object "PrairiePool$Text") (v := .ref (G.1 + rf k (ix i))) hx hb q ((hK.1.2 4 (_, .object "PrairiePool$Text") rfl).1 n _) rfl (fun z => by cases z) (inb hi _ _) ?_ rfl rfl d (k2 H locs ls hP hS hl)
  rw [i32_nat, arrV_read _ _ (inb2 hi)]; rfl
theorem z_iast (C : Cx p s m args meth c G cc nL own rt) {k n : Nat} {i x : Int} {M' : Mem} (d : DC cc pc .iastore 1 pc') (hk : k < NC) (hc : ck k = (1, 0, n)) (hi : 0 ≤ w32 i ∧ w32 i < (n : Int)) (hM : M' = sto M k (ix i) x) (k2 : Z0 p l e R cl sl s m args below meth c G nL Q (Pic G M') pc' lv st) : Z0 p l e R cl sl s m args below meth c G nL Q (Pic G M) pc lv (vi x :: vi i :: .ref (G.1 + k) :: st) := by
  subst hM
  intro H locs ls hP hS hl
  obtain ⟨hx, hb, hml, hown, hts, hlk, hrt, hK⟩ := C
  obtain ⟨d, rfl⟩ := d
  have q := (hP k hk).arr (t := 0) hc
  refine W.iast hx hb q ((hK.1.2 0 (_, .int) rfl).1 n _) (fun z => by cases z) (inb hi _ _) rfl rfl d fun H1 e z oq => ?_
  refine k2 H1 _ ls (hP.put hk oq (cellOk.arr' (t := 0) hc ?_)) (hS.put z oq (show G.1 ≤ G.1 + k by omega)) hl
  rw [e, arrV_store, i32_nat, sto_self]
  congr 2
  funext b
  unfold updV
  by_cases hb2 : b = ix i
  · subst hb2; simp only [if_true]; rfl
  · simp only [if_neg hb2]
theorem z_last (C : Cx p s m args meth c G cc nL own rt) {k n : Nat} {i x : Int} {M' : Mem} (d : DC cc pc .lastore 1 pc') (hk : k < NC) (hc : ck k = (2, 0, n)) (hi : 0 ≤ w32 i ∧ w32 i < (n : Int)) (hM : M' = sto M k (ix i) x) (k2 : Z0 p l e R cl sl s m args below meth c G nL Q (Pic G M') pc' lv st) : Z0 p l e R cl sl s m args below meth c G nL Q (Pic G M) pc lv (vl x :: vi i :: .ref (G.1 + k) :: st) := by
  subst hM
  intro H locs ls hP hS hl
  obtain ⟨hx, hb, hml, hown, hts, hlk, hrt, hK⟩ := C
  obtain ⟨d, rfl⟩ := d
  have q := (hP k hk).arr (t := 1) hc
  refine W.last hx hb q ((hK.1.2 1 (_, .long) rfl).1 n _) (fun z => by cases z) (inb hi _ _) rfl rfl d fun H1 e z oq => ?_
  refine k2 H1 _ ls (hP.put hk oq (cellOk.arr' (t := 1) hc ?_)) (hS.put z oq (show G.1 ≤ G.1 + k by omega)) hl
  rw [e, arrV_store, i32_nat, sto_self]
  congr 2
  funext b
  unfold updV
  by_cases hb2 : b = ix i
  · subst hb2; simp only [if_true]; rfl
  · simp only [if_neg hb2]
theorem nar_b (x : Int) : narrow .byte (vi x) = vi (w8 x) := by
  unfold vi; rw [← i32_b]; rfl
theorem an1 (x : Int) : Int32.ofInt x &&& 1 = Int32.ofInt (x % 2) := by
  have hx0 : (Int32.ofInt x).toBitVec = BitVec.ofInt 32 x := rfl
  apply Int32.toBitVec.inj
  show BitVec.ofInt 32 x &&& 1#32 = BitVec.ofInt 32 (x % 2)
  apply BitVec.eq_of_toNat_eq
  rw [BitVec.toNat_and, BitVec.toNat_ofInt, BitVec.toNat_ofInt]
  rw [show (1#32).toNat = 2 ^ 1 - 1 from rfl, Nat.and_two_pow_sub_one_eq_mod]
  omega
theorem nar_z (x : Int) : narrow .boolean (vi x) = vi (x % 2) := by
  unfold vi; rw [← an1]; rfl
theorem z_bast (C : Cx p s m args meth c G cc nL own rt) {k n : Nat} {i x : Int} {M' : Mem} (d : DC cc pc .bastore 1 pc') (hk : k < NC) (hc : ck k = (3, 0, n)) (hi : 0 ≤ w32 i ∧ w32 i < (n : Int)) (hM : M' = sto M k (ix i) x) (k2 : Z0 p l e R cl sl s m args below meth c G nL Q (Pic G M') pc' lv st) : Z0 p l e R cl sl s m args below meth c G nL Q (Pic G M) pc lv (vi x :: vi i :: .ref (G.1 + k) :: st) := by
  subst hM
  intro H locs ls hP hS hl
  obtain ⟨hx, hb, hml, hown, hts, hlk, hrt, hK⟩ := C
  obtain ⟨d, rfl⟩ := d
  have q := (hP k hk).arr (t := 2) hc
  refine W.bast hx hb q ((hK.1.2 2 (_, .byte) rfl).1 n _) (fun z => by cases z) (inb hi _ _) rfl rfl d fun H1 e z oq => ?_
  refine k2 H1 _ ls (hP.put hk oq (cellOk.arr' (t := 2) hc ?_)) (hS.put z oq (show G.1 ≤ G.1 + k by omega)) hl
  rw [e, arrV_store, i32_nat, sto_self]
  congr 2
  funext b
  unfold updV
  by_cases hb2 : b = ix i
  · subst hb2; simp only [if_true]; exact nar_b x
  · simp only [if_neg hb2]
theorem z_zast (C : Cx p s m args meth c G cc nL own rt) {k n : Nat} {i x : Int} {M' : Mem} (d : DC cc pc .bastore 1 pc') (hk : k < NC) (hc : ck k = (4, 0, n)) (hi : 0 ≤ w32 i ∧ w32 i < (n : Int)) (hM : M' = sto M k (ix i) x) (k2 : Z0 p l e R cl sl s m args below meth c G nL Q (Pic G M') pc' lv st) : Z0 p l e R cl sl s m args below meth c G nL Q (Pic G M) pc lv (vi x :: vi i :: .ref (G.1 + k) :: st) := by
  subst hM
  intro H locs ls hP hS hl
  obtain ⟨hx, hb, hml, hown, hts, hlk, hrt, hK⟩ := C
  obtain ⟨d, rfl⟩ := d
  have q := (hP k hk).arr (t := 3) hc
  refine W.zast hx hb q ((hK.1.2 3 (_, .boolean) rfl).1 n _) (fun z => by cases z) (inb hi _ _) rfl rfl d fun H1 e z oq => ?_
  refine k2 H1 _ ls (hP.put hk oq (cellOk.arr' (t := 3) hc ?_)) (hS.put z oq (show G.1 ≤ G.1 + k by omega)) hl
  rw [e, arrV_store, i32_nat, sto_self]
  congr 2
  funext b
  unfold updV
  by_cases hb2 : b = ix i
  · subst hb2; simp only [if_true]; exact nar_z x
  · simp only [if_neg hb2]
theorem z_alen (C : Cx p s m args meth c G cc nL own rt) {k n t : Nat} (d : DC cc pc .arraylength 1 pc') (hk : k < NC) (hc : ck k = (t + 1, 0, n)) (ht : t < 4) (k2 : Z0 p l e R cl sl s m args below meth c G nL Q (Pic G M) pc' lv (vi (n : Int) :: st)) : Z0 p l e R cl sl s m args below meth c G nL Q (Pic G M) pc lv (.ref (G.1 + k) :: st) := by
  intro H locs ls hP hS hl
  obtain ⟨hx, hb, hml, hown, hts, hlk, hrt, hK⟩ := C
  obtain ⟨d, rfl⟩ := d
  have q := (hP k hk).arr hc
  have hn : ∀ f : Nat → Value, ∀ cI : ClassId, (arrV cI n f).slots.size.toInt32 = Int32.ofInt (n : Int) := fun f cI => by rw [arrV_size]; rfl
  rcases (show t = 0 ∨ t = 1 ∨ t = 2 ∨ t = 3 by omega) with rfl | rfl | rfl | rfl
  · exact W.alen (n := Int32.ofInt (n : Int)) hx hb q ((hK.1.2 0 (_, .int) rfl).1 n _) (hn _ _) rfl rfl d (k2 H locs ls hP hS hl)
  · exact W.alen (n := Int32.ofInt (n : Int)) hx hb q ((hK.1.2 1 (_, .long) rfl).1 n _) (hn _ _) rfl rfl d (k2 H locs ls hP hS hl)
  · exact W.alen (n := Int32.ofInt (n : Int)) hx hb q ((hK.1.2 2 (_, .byte) rfl).1 n _) (hn _ _) rfl rfl d (k2 H locs ls hP hS hl)
  · exact W.alen (n := Int32.ofInt (n : Int)) hx hb q ((hK.1.2 3 (_, .boolean) rfl).1 n _) (hn _ _) rfl rfl d (k2 H locs ls hP hS hl)
theorem z_sub (ks : List Nat) (h : lv_pick lv ks = lv') (k : Z0 p l e R cl sl s m args below meth c G nL Q PP pc lv' st) : Z0 p l e R cl sl s m args below meth c G nL Q PP pc lv st := fun H locs ls hP hS hl => k H locs ls hP hS (lv_sub hl ks h)
theorem i_le {a b : Nat} (h : Nat.ble a b = true) : a ≤ b := Nat.le_of_ble_eq_true h
end ZR
