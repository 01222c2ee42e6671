/-! the constructors: a world that grows, its references in the memory too (0: null, k + 1: cell k) -/
section ZD
variable {p : Program} {l : Launch} {e : Env} {lev : Nat} {R : Room} {cl sl : Nat} {PP : Heap → Prop} {s : State} {m : MethodId} {args : Array Value} {below : List Frame} {meth : Method} {c : Code} {G : GX} {nL : Nat} {Q : State → Prop} {M : Mem} {pc pc' : Nat} {lv lv' : List (Nat × Value)} {st : List Value} {cc : ByteArray} {own : String} {rt : Option FieldType}

def rfD (G : GX) (x : Int) : Value := if x = 0 then .null else .ref (G.1 + (x - 1).toNat)
def fencD (G : GX) (k j : Nat) (x : Int) : Value := match ft (ck k).2.1 j with
  | 0 => vi x
  | 1 => vl x
  | _ => rfD G x
def aencD (G : GX) (t : Nat) (x : Int) : Value := match t with
  | 1 => vi x
  | 2 => vl x
  | 3 => vi (w8 x)
  | 4 => vi (x % 2)
  | _ => rfD G x
def cellD (G : GX) (k : Nat) (row : Nat → Int) (H : Heap) : Prop := match (ck k).1 with
  | 0 => t_OB (G.1 + k) (G.2.1.1 (ck k).2.1) (ck k).2.2 (G.2.1.2 (ck k).2.1) H (fun j => fencD G k j (row j))
  | t + 1 => H[G.1 + k]? = some (arrV (G.2.2.1 (t + 1)) (ck k).2.2 (fun j => aencD G (t + 1) (row j)))
def PicD (G : GX) (n : Nat) (M : Mem) (H : Heap) : Prop := H.size = G.1 + n ∧ (∀ k, k < n → cellD G k (M k) H) ∧ ∀ k, n ≤ k → M k = fun _ => 0
theorem cellD.obj {k ci n : Nat} {row : Nat → Int} {H : Heap} (hc : ck k = (0, ci, n)) (h : cellD G k row H) : t_OB (G.1 + k) (G.2.1.1 ci) n (G.2.1.2 ci) H (fun j => fencD G k j (row j)) := by
  unfold cellD at h; rw [hc] at h; exact h
theorem cellD.arr {k t n : Nat} {row : Nat → Int} {H : Heap} (hc : ck k = (t + 1, 0, n)) (h : cellD G k row H) : H[G.1 + k]? = some (arrV (G.2.2.1 (t + 1)) n (fun j => aencD G (t + 1) (row j))) := by
  unfold cellD at h; rw [hc] at h; exact h
theorem cellD.obj' {k ci n : Nat} {row : Nat → Int} {H : Heap} (hc : ck k = (0, ci, n)) (h : t_OB (G.1 + k) (G.2.1.1 ci) n (G.2.1.2 ci) H (fun j => fencD G k j (row j))) : cellD G k row H := by
  unfold cellD; rw [hc]; exact h
theorem cellD.arr' {k t n : Nat} {row : Nat → Int} {H : Heap} (hc : ck k = (t + 1, 0, n)) (h : H[G.1 + k]? = some (arrV (G.2.2.1 (t + 1)) n (fun j => aencD G (t + 1) (row j)))) : cellD G k row H := by
  unfold cellD; rw [hc]; exact h
theorem cellD.kept {k : Nat} {row : Nat → Int} {H H1 : Heap} (h : cellD G k row H) (hq : H1[G.1 + k]? = H[G.1 + k]?) : cellD G k row H1 := by
  unfold cellD at h ⊢
  split at h
  · exact h.kept hq
  · exact hq.trans h
theorem PicD.put {n : Nat} {H H1 : Heap} {k j : Nat} {v : Int} (hP : PicD G n M H) (hk : k < n) (hz : H1.size = H.size) (hq : ∀ q : Nat, q ≠ G.1 + k → H1[q]? = H[q]?) (h : cellD G k (sto M k j v k) H1) : PicD G n (sto M k j v) H1 := by
  refine ⟨by rw [hz]; exact hP.1, fun k2 hk2 => ?_, fun k2 hk2 => ?_⟩
  · by_cases e : k2 = k
    · subst e; exact h
    · have e2 : sto M k j v k2 = M k2 := by unfold sto; rw [if_neg e]
      rw [e2]
      exact (hP.2.1 k2 hk2).kept (hq _ (by omega))
  · have e2 : sto M k j v k2 = M k2 := by unfold sto; rw [if_neg (by omega)]
    rw [e2]; exact hP.2.2 k2 hk2
theorem PicD.grow {n : Nat} {H H1 : Heap} (hP : PicD G n M H) (hz : H1.size = H.size + 1) (hq : ∀ q : Nat, q < H.size → H1[q]? = H[q]?) (h : cellD G n (M n) H1) : PicD G (n + 1) M H1 := by
  have h1 := hP.1
  refine ⟨by omega, fun k2 hk2 => ?_, fun k2 hk2 => hP.2.2 k2 (by omega)⟩
  by_cases e : k2 = n
  · subst e; exact h
  · exact (hP.2.1 k2 (by omega)).kept (hq _ (by omega))
def dv0 (t : Nat) : Value := match t with
  | 0 => .int 0
  | 1 => .long 0
  | _ => .null
theorem z_newD (C : Cx p s m args meth c G cc nL own rt) {n n' idx ci nf cl' sl' : Nat} {Cn : String} {T : u_T} {ty : Nat → FieldType} (d : DC cc pc (.new idx) 3 pc') (hcl : Cond.classLink own idx Cn ∈ TB) (hin : Cond.instantiable Cn nf ∈ TB) (hini : Cond.initialized Cn ∈ TB) (hc : ck n = (0, ci, nf)) (W0 : CW ci Cn T nf ty) (hdf : ∀ j, j < nf → dv0 (ft ci j) = defaultValue (ty j)) (hn : n + 1 = n') (hcl1 : cl + 1 = cl') (hsl1 : sl + nf = sl') (hR : cl' ≤ R.cells ∧ sl' ≤ R.slots)
    (k : Z0 p l e R cl' sl' s m args below meth c G nL Q (PicD G n' M) pc' lv (.ref (G.1 + n) :: st)) : Z0 p l e R cl sl s m args below meth c G nL Q (PicD G n M) pc lv st := by
  subst hn; subst hcl1; subst hsl1
  intro H locs ls hP hS hl
  obtain ⟨hx, hb, hml, hown, hts, hlk, hrt, hK⟩ := C
  obtain ⟨d, rfl⟩ := d
  refine W.newc hx hb hown (hts _ hcl) (hts _ hin) (hts _ hini) rfl d hR.1 hR.2 fun cC kC h1 h2 h3 h4 => ?_
  have hKn := hK.1.1 ci _ W0.1
  have ecC : G.2.1.1 ci = cC := Option.some.inj (hKn.2.1.symm.trans h1)
  have hsz := hP.1
  have q := k (H.push { cls := cC, slots := kC.instanceTypes.map defaultValue, vm := .none }) locs ls ?_ ?_ hl
  · rw [hsz]; exact q
  · refine hP.grow (by rw [Array.size_push]) (fun q hq => by rw [Array.getElem?_push, if_neg (Nat.ne_of_lt hq)]) (cellD.obj' hc ?_)
    have hb2 := u_born (o := G.1 + n) (H := H.push { cls := cC, slots := kC.instanceTypes.map defaultValue, vm := .none }) ty hts W0.2.1 hKn (by rw [ecC]; exact h2) (by rw [← hsz, Array.getElem?_push_size, ecC]; rfl) W0.2.2.1
    refine hb2.to (fun j hj => ?_)
    rw [← hdf j hj, hP.2.2 n (Nat.le_refl n)]
    unfold fencD; rw [hc]
    show dv0 (ft ci j) = _
    unfold dv0
    split <;> simp_all [vi, vl, rfD] <;> rfl
  · refine ⟨by rw [Array.size_push]; have := hS.1; omega, fun q h1 h2 => ?_, hS.2.2⟩
    rw [Array.getElem?_push, if_neg (by have := hS.1; omega)]
    exact hS.2.1 q h1 h2
theorem z_newaI (C : Cx p s m args meth c G cc nL own rt) {n n' N cl' sl' : Nat} {x : Int} (d : DC cc pc (.newarray .int) 2 pc') (ha : Cond.arrayClass .int ∈ TB) (hx0 : x = (N : Int)) (hN : N ≤ 10000) (hc : ck n = (1, 0, N)) (hn : n + 1 = n') (hcl1 : cl + 1 = cl') (hsl1 : sl + N = sl') (hR : cl' ≤ R.cells ∧ sl' ≤ R.slots)
    (k : Z0 p l e R cl' sl' s m args below meth c G nL Q (PicD G n' M) pc' lv (.ref (G.1 + n) :: st)) : Z0 p l e R cl sl s m args below meth c G nL Q (PicD G n M) pc lv (vi x :: st) := by
  subst hn; subst hcl1; subst hsl1; subst hx0
  intro H locs ls hP hS hl
  obtain ⟨hx, hb, hml, hown, hts, hlk, hrt, hK⟩ := C
  obtain ⟨d, rfl⟩ := d
  have eN : (Int32.ofInt (N : Int)).toNatClampNeg = N := by rw [i32_nat]; unfold ix w32; omega
  refine va_newaK (atype := .int) (n := Int32.ofInt (N : Int)) (N := N) hx hb (hts _ ha) rfl d rfl (by rw [i32_lt0]; unfold w32; omega) eN (by show N * _ ≤ _; simp only [newarray.typeOf, componentBytes]; omega) hR.1 hR.2 hP.1 fun H' cA e1 e2 e3 e4 e5 => ?_
  have ecA : G.2.2.1 1 = cA := Option.some.inj ((hK.1.2 0 (_, .int) rfl).2.symm.trans e5)
  refine k H' locs ls ?_ ?_ hl
  · refine hP.grow (by rw [e2, hP.1]) (fun q hq => e3 q (by rw [← hP.1]; exact hq)) (cellD.arr' (t := 0) hc ?_)
    rw [e1, ecA, hP.2.2 n (Nat.le_refl n)]
    rfl
  · have h1 := hP.1
    refine ⟨by have := hS.1; omega, fun q h2 h3 => ?_, hS.2.2⟩
    rw [e3 q (by have := hS.1; omega)]
    exact hS.2.1 q h2 h3
theorem z_newaJ (C : Cx p s m args meth c G cc nL own rt) {n n' N cl' sl' : Nat} {x : Int} (d : DC cc pc (.newarray .long) 2 pc') (ha : Cond.arrayClass .long ∈ TB) (hx0 : x = (N : Int)) (hN : N ≤ 10000) (hc : ck n = (2, 0, N)) (hn : n + 1 = n') (hcl1 : cl + 1 = cl') (hsl1 : sl + N = sl') (hR : cl' ≤ R.cells ∧ sl' ≤ R.slots)
    (k : Z0 p l e R cl' sl' s m args below meth c G nL Q (PicD G n' M) pc' lv (.ref (G.1 + n) :: st)) : Z0 p l e R cl sl s m args below meth c G nL Q (PicD G n M) pc lv (vi x :: st) := by
  subst hn; subst hcl1; subst hsl1; subst hx0
  intro H locs ls hP hS hl
  obtain ⟨hx, hb, hml, hown, hts, hlk, hrt, hK⟩ := C
  obtain ⟨d, rfl⟩ := d
  have eN : (Int32.ofInt (N : Int)).toNatClampNeg = N := by rw [i32_nat]; unfold ix w32; omega
  refine va_newaK (atype := .long) (n := Int32.ofInt (N : Int)) (N := N) hx hb (hts _ ha) rfl d rfl (by rw [i32_lt0]; unfold w32; omega) eN (by show N * _ ≤ _; simp only [newarray.typeOf, componentBytes]; omega) hR.1 hR.2 hP.1 fun H' cA e1 e2 e3 e4 e5 => ?_
  have ecA : G.2.2.1 2 = cA := Option.some.inj ((hK.1.2 1 (_, .long) rfl).2.symm.trans e5)
  refine k H' locs ls ?_ ?_ hl
  · refine hP.grow (by rw [e2, hP.1]) (fun q hq => e3 q (by rw [← hP.1]; exact hq)) (cellD.arr' (t := 1) hc ?_)
    rw [e1, ecA, hP.2.2 n (Nat.le_refl n)]
    rfl
  · have h1 := hP.1
    refine ⟨by have := hS.1; omega, fun q h2 h3 => ?_, hS.2.2⟩
    rw [e3 q (by have := hS.1; omega)]
    exact hS.2.1 q h2 h3
theorem z_newaB (C : Cx p s m args meth c G cc nL own rt) {n n' N cl' sl' : Nat} {x : Int} (d : DC cc pc (.newarray .byte) 2 pc') (ha : Cond.arrayClass .byte ∈ TB) (hx0 : x = (N : Int)) (hN : N ≤ 10000) (hc : ck n = (3, 0, N)) (hn : n + 1 = n') (hcl1 : cl + 1 = cl') (hsl1 : sl + N = sl') (hR : cl' ≤ R.cells ∧ sl' ≤ R.slots)
    (k : Z0 p l e R cl' sl' s m args below meth c G nL Q (PicD G n' M) pc' lv (.ref (G.1 + n) :: st)) : Z0 p l e R cl sl s m args below meth c G nL Q (PicD G n M) pc lv (vi x :: st) := by
  subst hn; subst hcl1; subst hsl1; subst hx0
  intro H locs ls hP hS hl
  obtain ⟨hx, hb, hml, hown, hts, hlk, hrt, hK⟩ := C
  obtain ⟨d, rfl⟩ := d
  have eN : (Int32.ofInt (N : Int)).toNatClampNeg = N := by rw [i32_nat]; unfold ix w32; omega
  refine va_newaK (atype := .byte) (n := Int32.ofInt (N : Int)) (N := N) hx hb (hts _ ha) rfl d rfl (by rw [i32_lt0]; unfold w32; omega) eN (by show N * _ ≤ _; simp only [newarray.typeOf, componentBytes]; omega) hR.1 hR.2 hP.1 fun H' cA e1 e2 e3 e4 e5 => ?_
  have ecA : G.2.2.1 3 = cA := Option.some.inj ((hK.1.2 2 (_, .byte) rfl).2.symm.trans e5)
  refine k H' locs ls ?_ ?_ hl
  · refine hP.grow (by rw [e2, hP.1]) (fun q hq => e3 q (by rw [← hP.1]; exact hq)) (cellD.arr' (t := 2) hc ?_)
    rw [e1, ecA, hP.2.2 n (Nat.le_refl n)]
    rfl
  · have h1 := hP.1
    refine ⟨by have := hS.1; omega, fun q h2 h3 => ?_, hS.2.2⟩
    rw [e3 q (by have := hS.1; omega)]
    exact hS.2.1 q h2 h3
theorem z_newaZ (C : Cx p s m args meth c G cc nL own rt) {n n' N cl' sl' : Nat} {x : Int} (d : DC cc pc (.newarray .boolean) 2 pc') (ha : Cond.arrayClass .boolean ∈ TB) (hx0 : x = (N : Int)) (hN : N ≤ 10000) (hc : ck n = (4, 0, N)) (hn : n + 1 = n') (hcl1 : cl + 1 = cl') (hsl1 : sl + N = sl') (hR : cl' ≤ R.cells ∧ sl' ≤ R.slots)
    (k : Z0 p l e R cl' sl' s m args below meth c G nL Q (PicD G n' M) pc' lv (.ref (G.1 + n) :: st)) : Z0 p l e R cl sl s m args below meth c G nL Q (PicD G n M) pc lv (vi x :: st) := by
  subst hn; subst hcl1; subst hsl1; subst hx0
  intro H locs ls hP hS hl
  obtain ⟨hx, hb, hml, hown, hts, hlk, hrt, hK⟩ := C
  obtain ⟨d, rfl⟩ := d
  have eN : (Int32.ofInt (N : Int)).toNatClampNeg = N := by rw [i32_nat]; unfold ix w32; omega
  refine va_newaK (atype := .boolean) (n := Int32.ofInt (N : Int)) (N := N) hx hb (hts _ ha) rfl d rfl (by rw [i32_lt0]; unfold w32; omega) eN (by show N * _ ≤ _; simp only [newarray.typeOf, componentBytes]; omega) hR.1 hR.2 hP.1 fun H' cA e1 e2 e3 e4 e5 => ?_
  have ecA : G.2.2.1 4 = cA := Option.some.inj ((hK.1.2 3 (_, .boolean) rfl).2.symm.trans e5)
  refine k H' locs ls ?_ ?_ hl
  · refine hP.grow (by rw [e2, hP.1]) (fun q hq => e3 q (by rw [← hP.1]; exact hq)) (cellD.arr' (t := 3) hc ?_)
    rw [e1, ecA, hP.2.2 n (Nat.le_refl n)]
    rfl
  · have h1 := hP.1
    refine ⟨by have := hS.1; omega, fun q h2 h3 => ?_, hS.2.2⟩
    rw [e3 q (by have := hS.1; omega)]
    exact hS.2.1 q h2 h3
theorem z_newqD (C : Cx p s m args meth c G cc nL own rt) {n n' idx cl' sl' : Nat} (d : DC cc pc (.anewarray idx) 3 pc') (hcl : Cond.classLink own idx "PrairiePool$Text" ∈ TB) (hc : ck n = (5, 0, 4)) (hn : n + 1 = n') (hcl1 : cl + 1 = cl') (hsl1 : sl + 4 = sl') (hR : cl' ≤ R.cells ∧ sl' ≤ R.slots)
    (k : Z0 p l e R cl' sl' s m args below meth c G nL Q (PicD G n' M) pc' lv (.ref (G.1 + n) :: st)) : Z0 p l e R cl sl s m args below meth c G nL Q (PicD G n M) pc lv (vi 4 :: st) := by
  subst hn; subst hcl1; subst hsl1
  intro H locs ls hP hS hl
  obtain ⟨hx, hb, hml, hown, hts, hlk, hrt, hK⟩ := C
  obtain ⟨d, rfl⟩ := d
  refine W.anew (n := 4) hx hb hown (hts _ hcl) (va_AO.use hK.2.2.2.2.2.2.2) rfl d rfl (by decide) (by decide) hR.1 hR.2 fun cA kA comp f1 f2 f3 f4 => ?_
  obtain ⟨kA', comp', g1, g2, g3, g4⟩ := (hK.1.2 4 (_, .object "PrairiePool$Text") rfl).2
  have ecA : G.2.2.1 5 = cA := by
    first
      | exact Option.some.inj (g4.symm.trans f4)
      | exact Option.some.inj (g4.symm.trans f3)
      | exact Option.some.inj (g4.symm.trans f2)
      | exact Option.some.inj (g4.symm.trans f1)
  have hsz := hP.1
  have q := k (H.push { cls := cA, slots := Array.replicate 4 .null, vm := .none }) locs ls ?_ ?_ hl
  · rw [hsz]; exact q
  · refine hP.grow (by rw [Array.size_push]) (fun q hq => by rw [Array.getElem?_push, if_neg (Nat.ne_of_lt hq)]) (cellD.arr' (t := 4) hc ?_)
    rw [← hsz, Array.getElem?_push_size, arrV_new, ecA, hP.2.2 n (Nat.le_refl n)]
    rfl
  · refine ⟨by rw [Array.size_push]; have := hS.1; omega, fun q h1 h2 => ?_, hS.2.2⟩
    rw [Array.getElem?_push, if_neg (by have := hS.1; omega)]
    exact hS.2.1 q h1 h2
theorem z_putDi (C : Cx p s m args meth c G cc nL own rt) {n k j ci nf index : Nat} {Cn : String} {T : u_T} {ty : Nat → FieldType} {x : Int} (d : DC cc pc (.putfield index) 3 pc') (hk : k < n) (hc : ck k = (0, ci, nf)) (W0 : CW ci Cn T nf ty) (hj : j < nf) (hf : ft ci j = 0) (hT : (T j).1 = Cn) (hty : ty j = .int) (hfin : (T j).2.2.2 = false) (hlink : Cond.fieldLink own index Cn (T j).2.1 (T j).2.2.1 ∈ TB)
    (k2 : Z0 p l e R cl sl s m args below meth c G nL Q (PicD G n (sto M k j x)) pc' lv st) : Z0 p l e R cl sl s m args below meth c G nL Q (PicD G n M) pc lv (vi x :: .ref (G.1 + k) :: st) := by
  intro H locs ls hP hS hl
  obtain ⟨hx, hb, hml, hown, hts, hlk, hrt, hK⟩ := C
  obtain ⟨d, rfl⟩ := d
  obtain ⟨cell, q1, q2, q3, q4⟩ := (hP.2.1 k hk).obj hc
  have hS1 := hK.1.1 ci _ W0.1
  obtain ⟨hS1, hfc, kC, hkC, hkind⟩ := hS1
  obtain ⟨cf, kf, fi, f, hi, hsl⟩ := hS1 j hj
  have hap := va_apart (own := own) hts W0.2.1 ty W0.2.2.1 W0.2.2.2 hK.1 W0.1
  have hlay := hts _ (W0.2.1 _ (u_in_lay hj))
  unfold u_lay at hlay
  have hst := (u_facts hfc hkC (u_lays hts W0.2.1 hj) hi).1
  rw [if_neg (by rw [hfin]; decide)] at hlay
  have h6 := u_store (v := vi x) hfc hkC hkind hlay hi (W0.2.2.1 j hj) (by rw [hty]; rfl) (by rw [hty]; rfl)
  refine W.putK hx hb (f := f) ⟨hown, hts _ hlink, ⟨_, _, _, hT ▸ hi⟩, hst⟩ (by rw [q2]; exact h6) q1 q3 (by rw [hsl]; exact k2_hasslot (q4 j hj)) rfl rfl d fun H' e1 e2 e3 => ?_
  rw [hsl] at e1 ⊢
  refine k2 H' _ ls (hP.put hk e2 e3 (cellD.obj' hc ?_)) (hS.put e2 e3 (show G.1 ≤ G.1 + k by omega)) hl
  refine t_OB.to (V := updV (fun j => fencD G k j (M k j)) j (vi x)) ⟨_, e1, q2, q3, t_set q4 hap hj _⟩ (fun b _ => ?_)
  rw [sto_self]
  unfold updV
  by_cases hb2 : b = j
  · subst hb2; simp only [if_true, fencD, hc, hf]
  · simp only [if_neg hb2]
theorem z_putDr (C : Cx p s m args meth c G cc nL own rt) {n k j ci nf index : Nat} {Cn : String} {T : u_T} {ty : Nat → FieldType} {q : Nat} (d : DC cc pc (.putfield index) 3 pc') (hk : k < n) (hc : ck k = (0, ci, nf)) (W0 : CW ci Cn T nf ty) (hj : j < nf) (hf : ft ci j = 2) (hT : (T j).1 = Cn) (hty : (∃ N, ty j = .object N) ∨ ∃ N, ty j = .array N) (hfin : (T j).2.2.2 = true) (hin2 : meth.name = "<init>") (hdecl : Cn = own) (hlink : Cond.fieldLink own index Cn (T j).2.1 (T j).2.2.1 ∈ TB)
    (k2 : Z0 p l e R cl sl s m args below meth c G nL Q (PicD G n (sto M k j ((q : Int) + 1))) pc' lv st) : Z0 p l e R cl sl s m args below meth c G nL Q (PicD G n M) pc lv (.ref (G.1 + q) :: .ref (G.1 + k) :: st) := by
  intro H locs ls hP hS hl
  obtain ⟨hx, hb, hml, hown, hts, hlk, hrt, hK⟩ := C
  obtain ⟨d, rfl⟩ := d
  obtain ⟨cell, q1, q2, q3, q4⟩ := (hP.2.1 k hk).obj hc
  have hS1 := hK.1.1 ci _ W0.1
  obtain ⟨hS1, hfc, kC, hkC, hkind⟩ := hS1
  obtain ⟨cf, kf, fi, f, hi, hsl⟩ := hS1 j hj
  have hap := va_apart (own := own) hts W0.2.1 ty W0.2.2.1 W0.2.2.2 hK.1 W0.1
  have hlay := hts _ (W0.2.1 _ (u_in_lay hj))
  unfold u_lay at hlay
  have hst := (u_facts hfc hkC (u_lays hts W0.2.1 hj) hi).1
  rw [if_pos hfin] at hlay
  have hcf : m.cls = cf := by
    obtain ⟨_, _, c', _, _, _, -, -, hf', -, -, -, hown2, -⟩ := Cond.laysFinal_spec hlay
    have e1 : c' = cf := by have := hi.symm.trans hf'; simp at this; exact this.1.symm
    have hTo : (T j).1 = own := by rw [hT, hdecl]
    rw [hTo] at hown2
    rw [← e1]; exact Option.some.inj (hown.symm.trans hown2)
  have h6 := u_fits (v := .ref (G.1 + q)) hfc hkC hkind (Or.inr hlay) hi (W0.2.2.1 j hj) (by rcases hty with ⟨N, e⟩ | ⟨N, e⟩ <;> rw [e] <;> rfl) (by rcases hty with ⟨N, e⟩ | ⟨N, e⟩ <;> rw [e] <;> rfl)
  refine W.putFinK hx hb hown (hts _ hlink) (hT ▸ hi) hst hcf hin2 (by rw [q2]; exact h6) q1 q3 (by rw [hsl]; exact k2_hasslot (q4 j hj)) rfl rfl d fun H' e1 e2 e3 => ?_
  rw [hsl] at e1 ⊢
  refine k2 H' _ ls (hP.put hk e2 e3 (cellD.obj' hc ?_)) (hS.put e2 e3 (show G.1 ≤ G.1 + k by omega)) hl
  refine t_OB.to (V := updV (fun j => fencD G k j (M k j)) j (.ref (G.1 + q))) ⟨_, e1, q2, q3, t_set q4 hap hj _⟩ (fun b _ => ?_)
  rw [sto_self]
  unfold updV
  by_cases hb2 : b = j
  · subst hb2; simp only [if_true, fencD, hc, hf]; unfold rfD; rw [if_neg (by omega)]; congr 2; omega
  · simp only [if_neg hb2]
theorem z_getDr (C : Cx p s m args meth c G cc nL own rt) {n k j q ci nf index : Nat} {Cn : String} {T : u_T} {ty : Nat → FieldType} (d : DC cc pc (.getfield index) 3 pc') (hk : k < n) (hc : ck k = (0, ci, nf)) (W0 : CW ci Cn T nf ty) (hj : j < nf) (hf : ft ci j = 2) (hT : (T j).1 = Cn) (hlink : Cond.fieldLink own index Cn (T j).2.1 (T j).2.2.1 ∈ TB) (hv : M k j = (q : Int) + 1)
    (k2 : Z0 p l e R cl sl s m args below meth c G nL Q (PicD G n M) pc' lv (.ref (G.1 + q) :: st)) : Z0 p l e R cl sl s m args below meth c G nL Q (PicD G n M) pc lv (.ref (G.1 + k) :: st) := by
  intro H locs ls hP hS hl
  obtain ⟨hx, hb, hml, hown, hts, hlk, hrt, hK⟩ := C
  obtain ⟨d, rfl⟩ := d
  obtain ⟨cell, q1, q2, q3, q4⟩ := (hP.2.1 k hk).obj hc
  obtain ⟨hS1, hfc, kC, hkC, hkind⟩ := hK.1.1 ci _ W0.1
  obtain ⟨cf, kf, fi, f, hi, hsl⟩ := hS1 j hj
  refine W.getf hx hb hown (hts _ hlink) (hT ▸ hi) (u_facts hfc hkC (u_lays hts W0.2.1 hj) hi).1 q1 (by rw [q3]; exact fun h => by cases h) (v := .ref (G.1 + q)) ?_ rfl rfl d (k2 H locs ls hP hS hl)
  rw [hsl, q4 j hj]
  simp only [fencD, hc, hf, hv]
  unfold rfD; rw [if_neg (by omega)]; congr 3; omega
theorem z_iastD (C : Cx p s m args meth c G cc nL own rt) {n k nn : Nat} {i x : Int} (d : DC cc pc .iastore 1 pc') (hk : k < n) (hc : ck k = (1, 0, nn)) (hi : 0 ≤ w32 i ∧ w32 i < (nn : Int)) (k2 : Z0 p l e R cl sl s m args below meth c G nL Q (PicD G n (sto M k (ix i) x)) pc' lv st) : Z0 p l e R cl sl s m args below meth c G nL Q (PicD G n M) pc lv (vi x :: vi i :: .ref (G.1 + k) :: st) := by
  intro H locs ls hP hS hl
  obtain ⟨hx, hb, hml, hown, hts, hlk, hrt, hK⟩ := C
  obtain ⟨d, rfl⟩ := d
  have q := (hP.2.1 k hk).arr (t := 0) hc
  refine W.iast hx hb q ((hK.1.2 0 (_, .int) rfl).1 nn _) (fun z => by cases z) (inb hi _ _) rfl rfl d fun H1 e z oq => ?_
  refine k2 H1 _ ls (hP.put hk z oq (cellD.arr' (t := 0) hc ?_)) (hS.put z oq (show G.1 ≤ G.1 + k by omega)) hl
  rw [e, arrV_store, i32_nat, sto_self]
  congr 2
  funext b
  unfold updV
  by_cases hb2 : b = ix i
  · subst hb2; simp only [if_true]; rfl
  · simp only [if_neg hb2]
theorem z_aastD (C : Cx p s m args meth c G cc nL own rt) {n q : Nat} {i : Int} (d : DC cc pc .aastore 1 pc') (hk : 33 < n) (hq : q < n) (hcq : ck q = (0, 8, 6)) (hi : 0 ≤ w32 i ∧ w32 i < 4) (k2 : Z0 p l e R cl sl s m args below meth c G nL Q (PicD G n (sto M 33 (ix i) ((q : Int) + 1))) pc' lv st) : Z0 p l e R cl sl s m args below meth c G nL Q (PicD G n M) pc lv (.ref (G.1 + q) :: vi i :: .ref (G.1 + 33) :: st) := by
  intro H locs ls hP hS hl
  obtain ⟨hx, hb, hml, hown, hts, hlk, hrt, hK⟩ := C
  obtain ⟨d, rfl⟩ := d
  have qa := (hP.2.1 33 hk).arr (t := 4) ck_33
  obtain ⟨cellV, g1, g2, g3, -⟩ := (hP.2.1 q hq).obj hcq
  have hcls := (hK.1.1 8 _ cls_8).2
  obtain ⟨kA, comp, k1, k2', k3, -⟩ := (hK.1.2 4 (_, .object "PrairiePool$Text") rfl).2
  have hcomp : comp = G.2.1.1 8 := Option.some.inj (k3.symm.trans hcls.1)
  subst hcomp
  obtain ⟨kC, hkC, -⟩ := hcls.2
  refine W.aast hx hb qa (fun q h => by cases h) (fun h => by cases h) k1 k2' rfl hkC ⟨by rw [i32_lt0]; omega, by rw [arrV_size, i32_nat]; exact inb2 (n := 4) hi⟩ g1 (fun q h => by rw [g3] at h; cases h) (by rw [g2]; exact hkC) (by rw [g2]; exact va_assign hcls) rfl rfl d fun H1 e z oq => ?_
  refine k2 H1 _ ls (hP.put hk z oq (cellD.arr' (t := 4) ck_33 ?_)) (hS.put z oq (show G.1 ≤ G.1 + 33 by omega)) hl
  rw [e, arrV_store, i32_nat, sto_self]
  congr 2
  funext b
  unfold updV
  by_cases hb2 : b = ix i
  · subst hb2; simp only [if_true]; show _ = rfD G _; unfold rfD; rw [if_neg (by omega)]; congr 2; omega
  · simp only [if_neg hb2]
def rmD (lev mc ms : Nat) : Room := { frames := lev, cells := mc, slots := ms, locals := 64 * lev }
/-- a constructor: given these and a world of n cells it ends, the world has n' cells, the memory is M' -/
def MtD (l : Launch) (G : GX) (y : MethodName) (b : ByteArray) (nl : Nat) (lev mc ms : Nat) (vs : List Value) (n : Nat) (M : Mem) (n' : Nat) (M' : Mem) : Prop :=
  Met l y (Cond.code y b nl none :: TB) (rmD lev mc ms) (va_Pc vs (fun U => PicD G n M U.heap ∧ KK G U)) (fun _ st oc t => oc = .returned none ∧ PicD G n' M' t.heap ∧ va_F (Ab G) st t) mc ms (Ab G)
theorem MtD.of {y : MethodName} {b : ByteArray} {nl mc ms n n' : Nat} {vs : List Value} {M' : Mem} (hy : plainName y.cls = true) (hi : y.name = "<init>") (hn : (lg_sl vs).length ≤ nl)
    (body : ∀ (p : Program) (e : Env) (s : State) (m : MethodId) (args : Array Value) (below : List Frame) (meth : Method) (c : Code), Cx p s m args meth c G b nl y.cls none → meth.name = "<init>" → Z0 p l e (rmD lev mc ms) 0 0 s m args below meth c G nl (MQ below (fun _ st oc t => oc = .returned none ∧ PicD G n' M' t.heap ∧ va_F (Ab G) st t) args s mc ms (Ab G)) (PicD G n M) 0 (lv_args 0 vs) []) : MtD l G y b nl lev mc ms vs n M n' M' := by
  refine Met.ofW (cc := b) (maxL := nl) (ret := none) hy rfl ?_
  intro p e s m args below meth c s₁ B hml hv
  obtain ⟨rfl, hP, hK⟩ := hv
  have C : Cx p s m vs.toArray meth c G b nl y.cls none := ⟨B.exec, B.bytes, hml, findClass_of_methodNamed B.named, fun w hw => atoms_spec (ws := Cond.code y b nl none :: TB) B.pre w (List.mem_cons_of_mem _ hw), B.notSynchronized, B.returns, hK⟩
  rw [lg_entry_eq]
  exact body p e s m vs.toArray below meth c C ((name_of_methodNamed B.named B.method).1.trans hi) s.heap [] _ hP va_S.rf (lv_entry vs hn)
theorem z_vretD (C : Cx p s m args meth c G cc nL own none) {n : Nat} (d : DC cc pc .return_ 1 pc') : Z0 p l e R cl sl s m args below meth c G nL (MQ below (fun _ st oc t => oc = .returned none ∧ PicD G n M t.heap ∧ va_F (Ab G) st t) args s cl sl (Ab G)) (PicD G n M) pc lv [] := by
  intro H locs ls hP hS hl
  obtain ⟨hx, hb, hml, hown, hts, hlk, hrt, hK⟩ := C
  exact W.vret hx hb hrt (fun t ht hW => ⟨rfl, by rw [ht]; exact hP, hS.F ht⟩) hS.2.2 d.1 hlk
theorem z_objD (C : Cx p s m args meth c G cc nL own rt) {idx : Nat} {a : Nat} (d : DC cc pc (.invokespecial idx) 3 pc') (hl0 : Cond.methodLink own idx objectInit ∈ TB) (hi0 : Cond.instanceMethod objectInit ∈ TB) (hc0 : Cond.code objectInit ⟨#[0xb1]⟩ 1 none ∈ TB) (hst : (st.map fun v => v.category).sum ≤ 8) (hR : 1 ≤ R.frames ∧ 20 ≤ R.locals) (k : Z0 p l e R cl sl s m args below meth c G nL Q PP pc' lv st) : Z0 p l e R cl sl s m args below meth c G nL Q PP pc lv (.ref a :: st) := by
  intro H locs ls hP hS hl
  obtain ⟨hx, hb, hml, hown, hts, hlk, hrt, hK⟩ := C
  obtain ⟨d, rfl⟩ := d
  exact W.objInit hx hb hown (hts _ hl0) (hts _ hi0) (hts _ hc0) rfl (hl.1.trans hml.symm) rfl d hR.1 (by have := lv_room (m := m) (pc := pc) (ls := ls) (rest := .ref a :: st) hst; omega) (k H locs ls hP hS hl)
/-- a call of a constructor -/
def CI (own : String) (idx : Nat) (y : MethodName) (b : ByteArray) (n np : Nat) : Prop := (Cond.methodLink own idx y ∈ TB ∨ (own, idx, y) ∈ nests) ∧ Cond.instanceMethod y ∈ TB ∧ Cond.code y b n none ∈ TB ∧ Cond.initialized y.cls ∈ TB ∧ n ≤ 45 ∧ y.name = "<init>" ∧ y.cls ≠ "java/lang/invoke/MethodHandle" ∧ y.cls ≠ "java/lang/invoke/VarHandle" ∧ (parseMethodDescriptor y.desc).map (fun d => d.parameters.length) = some np
theorem z_callI (C : Cx p s m args meth c G cc nL own rt) {idx nl np lev' mc ms a n n' cl' sl' : Nat} {y : MethodName} {b : ByteArray} {As stk : List Value} {M' : Mem} (d : DC cc pc (.invokespecial idx) 3 pc') (cw : CI own idx y b nl np) (hM : MtD l G y b nl lev' mc ms (.ref a :: As) n M n' M') (hR : lev' + 1 ≤ R.frames ∧ 64 * lev' + 64 ≤ R.locals ∧ cl' ≤ R.cells ∧ sl' ≤ R.slots) (hcl1 : cl + mc = cl') (hsl1 : sl + ms = sl') (hnp : As.length = np) (hst : (st.map fun v => v.category).sum ≤ 8) (hstk : stk = As.reverse ++ .ref a :: st)
    (kk : Z0 p l e R cl' sl' s m args below meth c G nL Q (PicD G n' M') pc' lv st) : Z0 p l e R cl sl s m args below meth c G nL Q (PicD G n M) pc lv stk := by
  subst hstk; subst hcl1; subst hsl1
  intro H locs ls hP hS hl
  obtain ⟨hx, hb, hml, hown, hts, hlk, hrt, hK⟩ := C
  obtain ⟨d, rfl⟩ := d
  obtain ⟨w1, w2, w4, w5, w6, w7, w8⟩ := cw
  have hRR : (rmD lev' mc ms).frames + 1 ≤ R.frames ∧ 8 + (nl + 11) + (rmD lev' mc ms).locals ≤ R.locals := by unfold rmD; dsimp only; omega
  have hpre : ∀ U : State, U.heap = H → s.WarmedH U.vm → va_Pc (.ref a :: As) (fun U => PicD G n M U.heap ∧ KK G U) (Value.ref a :: As).toArray U := fun U hU hW => ⟨rfl, by rw [hU]; exact hP, hK.on hW hS hU⟩
  have hbl : FrameBlind (va_Pc (.ref a :: As) (fun U => PicD G n M U.heap ∧ KK G U)) := fun a _ g mk h => ⟨h.1, h.2.1, h.2.2.blind g mk a⟩
  have hr : va_Run p l e R s m args below meth c H locs cl sl mc ms (F0 m pc ls (As.reverse ++ .ref a :: st)) st ((fun _ st oc t => oc = .returned none ∧ PicD G n' M' t.heap ∧ va_F (Ab G) st t : Array Value → State → Outcome → State → Prop) (Value.ref a :: As).toArray) (Ab G) := by
    rcases w1 with w1 | w1
    · exact va_runI (As := As) (rest := st) ⟨hx, hb, hml, hown, hts⟩ hM ⟨callB_of np hts (tb_in w4) rfl rfl rfl (hts _ w5) (hts _ w1) w8 hRR, w7, hts _ w2⟩ ⟨hbl, hpre⟩ rfl hnp hl.1 rfl (lv_room hst) d ⟨hR.2.2.1, hR.2.2.2⟩
    · exact va_runIN (As := As) (rest := st) (host := "PrairiePool") ⟨hx, hb, hml, hown, hts⟩ hM ⟨va_cnB np hts (tb_in w4) rfl rfl rfl (hK.2.1 _ w1) (hts _ w5) w8 hRR, w7, hts _ w2⟩ ⟨hbl, hpre⟩ rfl hnp hl.1 rfl (lv_room hst) d ⟨hR.2.2.1, hR.2.2.2⟩
  intro T0 hT X
  obtain ⟨v1, st₀, t1, T', L, h0, X', hL, e1, e2, ⟨hv, hP1, hz, hk⟩, step⟩ := hr T0 hT X
  cases hv
  rw [h0] at hz hk
  obtain ⟨t2, a1, b1⟩ := kk T'.heap (locs ++ L) ls (by rw [e1]; exact hP1) ⟨Nat.le_trans hS.1 (by rw [e1]; exact hz), fun q h1 h2 => by rw [e1, hk q (Nat.lt_of_lt_of_le h1 hS.1) h2]; exact hS.2.1 q h1 h2, fun q hq => by
      rcases List.mem_append.mp hq with h | h
      · exact hS.2.2 q h
      · exact hL q h⟩ hl T' rfl X'
  exact ⟨t2, step t2 a1, b1⟩
end ZD
