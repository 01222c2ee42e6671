/-! the world: all cells of the two objects, in one memory of integers; the words that every method is given -/
abbrev Mem : Type := Nat → Nat → Int
def sto (M : Mem) (k j : Nat) (v : Int) : Mem := fun a => if a = k then (fun b => if b = j then v else M k b) else M a
abbrev GX : Type := Nat × va_G × (Nat → ClassId) × (Nat → Nat) × (Nat → Nat) × (Nat → Nat)
def fenc (G : GX) (k j : Nat) (x : Int) : Value := match ft (ck k).2.1 j with
  | 0 => vi x
  | 1 => vl x
  | _ => .ref (G.1 + rf k j)
def aenc (G : GX) (t k j : Nat) (x : Int) : Value := match t with
  | 1 => vi x
  | 2 => vl x
  | 3 => vi (w8 x)
  | 4 => vi (x % 2)
  | _ => .ref (G.1 + rf k j)
def cellOk (G : GX) (k : Nat) (row : Nat → Int) (H : Heap) : Prop := match (ck k).1 with
  | 0 => t_OB (G.1 + k) (G.2.1.1 (ck k).2.1) (ck k).2.2 (G.2.1.2 (ck k).2.1) H (fun j => fenc G k j (row j))
  | t + 1 => H[G.1 + k]? = some (arrV (G.2.2.1 (t + 1)) (ck k).2.2 (fun j => aenc G (t + 1) k j (row j)))
def Pic (G : GX) (M : Mem) (H : Heap) : Prop := ∀ k, k < NC → cellOk G k (M k) H
def Ab (G : GX) : Nat → Prop := fun q => G.1 ≤ q
def tys (G : GX) : List (ClassId × FieldType) := [(G.2.2.1 1, .int), (G.2.2.1 2, .long), (G.2.2.1 3, .byte), (G.2.2.1 4, .boolean), (G.2.2.1 5, .object "PrairiePool$Text")]
/-! what lies outside: the links among nest mates, the String constants, the static rows -/
def nests : List (String × Nat × MethodName) := [("PrairiePool", 9, ⟨"PrairiePool$Trays", "<init>", "()V"⟩), ("PrairiePool", 18, ⟨"PrairiePool$Prairie", "<init>", "()V"⟩), ("PrairiePool", 25, ⟨"PrairiePool$Journal", "<init>", "()V"⟩), ("PrairiePool$Asker", 38, ⟨"PrairiePool$Text", "<init>", "()V"⟩), ("PrairiePool", 39, ⟨"PrairiePool$Parser", "<init>", "()V"⟩), ("PrairiePool$Parser", 24, ⟨"PrairiePool$Text", "<init>", "()V"⟩), ("PrairiePool", 46, ⟨"PrairiePool$Yard", "<init>", "()V"⟩), ("PrairiePool$Trays", 40, ⟨"PrairiePool", "isIn", "(III)Z"⟩), ("PrairiePool$Prairie", 47, ⟨"PrairiePool", "isIn", "(III)Z"⟩), ("PrairiePool$Journal", 62, ⟨"PrairiePool", "isIn", "(III)Z"⟩)]
def yIsIn : MethodName := ⟨"PrairiePool", "isIn", "(III)Z"⟩
def strs : List (Nat × String) := [(94, "if then else and or not least most"), (103, ":;<>=+-*/%(),"), (118, "grade grader week year bushels acres debt district cars waits price"), (127, "rank first held stand breach turn votes")]
def strB (i : Nat) : List Int32 := ((strs.getD i (0, "")).2.toList).map (fun c => Int32.ofNat c.toNat)
def strsB : List (List Int32) := [strB 0, strB 1, strB 2, strB 3]
def strsL : List Nat := [34, 13, 67, 39]
def stat : List (String × List Int) := [("WITHOUT", [0, 0, 0, 0, 0, 0, 1]), ("LOWEST", [-1000000, 0, 0, 0, 0, -1000000, 0]), ("HIGHEST", [1000000, 1000, 1000, 1000, 1000, 1000000, 1000])]
def XK (G : GX) (U : State) : Prop :=
  (∀ q ∈ nests, va_Nw (.methodLinkNest q.1 q.2.1 q.2.2 "PrairiePool") U) ∧
  (∀ i, i < 4 → vk_R "PrairiePool$Parser" (strs.getD i (0, "")).1 (strs.getD i (0, "")).2 (G.2.2.2.1 i) U) ∧
  vk_S 4 strsL strsB G.2.2.2.1 G.2.2.2.2.1 (Ab G) U U.heap ∧
  (∀ i, i < 3 → va_Z "PrairiePool$Asker" (stat.getD i ("", [])).1 "[I" (.ref (G.2.2.2.2.2 i)) (Ab G) U U.heap ∧ va_T .int (G.2.2.2.2.2 i) 7 (fun j => vi ((stat.getD i ("", [])).2.getD j 0)) (Ab G) U U.heap) ∧
  va_Z "java/lang/String" "COMPACT_STRINGS" "Z" (.int 1) (Ab G) U U.heap ∧
  va_Zq "jdk/internal/util/Preconditions" "SIOOBE_FORMATTER" "Ljava/util/function/BiFunction;" (Ab G) U U.heap ∧
  va_AO "PrairiePool$Text" U
def KK (G : GX) (U : State) : Prop := va_K G.2.1 cls (tys G) U ∧ XK G U
/-- what holds at a method's start holds at the start of what it calls -/
theorem XK.on {G : GX} {s U : State} {H : Heap} {locs : List Loc} (h : XK G s) (hW : s.WarmedH U.vm) (hS : va_S (Ab G) s.heap H locs) (hU : U.heap = H) : XK G U := by
  obtain ⟨h1, h2, h3, h4, h5, h6, h7⟩ := h
  have kq : ∀ a : Nat, a < s.heap.size → ¬ Ab G a → U.heap[a]? = s.heap[a]? := by rw [hU]; exact hS.2.1
  exact ⟨fun q hq => va_Nw.warmM hW (h1 q hq), fun i hi => vk_R.warm hW (h2 i hi), (h3.moved hW.alike).kept kq, fun i hi => ⟨((h4 i hi).1.moved hW.alike).kept kq, ((h4 i hi).2.moved hW.alike).kept kq⟩, (h5.moved hW.alike).kept kq, (h6.moved hW.alike).kept kq, h7.moved hW.alike⟩
theorem KK.on {G : GX} {s U : State} {H : Heap} {locs : List Loc} (h : KK G s) (hW : s.WarmedH U.vm) (hS : va_S (Ab G) s.heap H locs) (hU : U.heap = H) : KK G U := ⟨va_K.moved hW.alike h.1, h.2.on hW hS hU⟩
theorem KK.blind {G : GX} {U : State} (h : KK G U) (g : JFrame) (mk : MethodId) (a : Array Value) : KK G (U.calling g mk a) := by
  have hW : U.WarmedH (U.calling g mk a).vm := State.WarmedH.refl U
  exact h.on (H := U.heap) (locs := []) hW va_S.rf rfl
def TB : List Cond := lw_tbl.filter goodWord
theorem tb {w : Cond} (i : Nat) (h : tables_1[i]? = some w) (hg : goodWord w = true) : w ∈ TB := List.mem_filter.mpr ⟨List.mem_append_right _ (List.mem_of_getElem? h), hg⟩
theorem tbs {w : Cond} (i : Nat) (h : (k2_sels lw_privs)[i]? = some w) (hg : goodWord w = true) : w ∈ TB := List.mem_filter.mpr ⟨List.mem_append_left _ (List.mem_of_getElem? h), hg⟩
theorem tb_good {w : Cond} (h : w ∈ TB) : w ∈ TB ∧ ((w.onTables && w.keeps) = true ∨ ∃ ty, w = .arrayClass ty) := ⟨h, good_of_word (List.mem_filter.mp h).2⟩
theorem tb_in {y : MethodName} {b : ByteArray} {n : Nat} {r : Option FieldType} (h : Cond.code y b n r ∈ TB) : GoodIn TB (Cond.code y b n r :: TB) := by
  intro w hw
  rcases List.mem_cons.mp hw with rfl | hw
  · exact tb_good h
  · exact tb_good hw
theorem tb_in2 {y : MethodName} {b : ByteArray} {n : Nat} {r : Option FieldType} (h : Cond.code y b n r ∈ TB) : GoodIn TB (Cond.code y b n r :: TB) := tb_in h
def rmL (lev : Nat) : Room := { frames := lev, cells := 0, slots := 0, locals := 64 * lev }
def Cx (p : Program) (s : State) (m : MethodId) (args : Array Value) (meth : Method) (c : Code) (G : GX) (cc : ByteArray) (nL : Nat) (own : String) (rt : Option FieldType) : Prop :=
  p.tables.exec = Jvm.exec ∧ c.code = cc ∧ c.maxLocals = nL ∧ s.vm.findClass own = some m.cls ∧ (∀ w ∈ TB, w.before args s = true) ∧ meth.locks = false ∧ meth.sig.returnType = rt ∧ KK G s
def Z0 (p : Program) (l : Launch) (e : Env) (R : Room) (cl sl : Nat) (s : State) (m : MethodId) (args : Array Value) (below : List Frame) (meth : Method) (c : Code) (G : GX) (nL : Nat) (Q : State → Prop) (PP : Heap → Prop) (pc : Nat) (lv : List (Nat × Value)) (st : List Value) : Prop :=
  ∀ (H : Heap) (locs : List Loc) (ls : Array Slot), PP H → va_S (Ab G) s.heap H locs → lv_has ls nL lv → W p l e R s m args below meth c H locs cl sl Q (F0 m pc ls st)
abbrev Z (p : Program) (l : Launch) (e : Env) (lev : Nat) (s : State) (m : MethodId) (args : Array Value) (below : List Frame) (meth : Method) (c : Code) (G : GX) (nL : Nat) (Q : State → Prop) (M : Mem) (pc : Nat) (lv : List (Nat × Value)) (st : List Value) : Prop :=
  Z0 p l e (rmL lev) 0 0 s m args below meth c G nL Q (Pic G M) pc lv st
def DC (cc : ByteArray) (pc : Nat) (i : Instr) (n pc' : Nat) : Prop := decode cc pc = .ok (i, n) ∧ pc + n = pc'
/-! what a method's meaning is made of -/
abbrev Res : Type := Option (Int × Mem)
def blet {α : Type} (v : α) (k : α → Res) : Res := k v
def chk (c : Prop) [Decidable c] (k : Res) : Res := if c then k else none
def bcall (d : Res) (k : Int → Mem → Res) : Res := match d with
  | none => none
  | some (v, M) => k v M
theorem blet_e {α : Type} {v : α} {k : α → Res} {r : Int × Mem} (h : blet v k = some r) : ∃ x, x = v ∧ k x = some r := ⟨v, rfl, h⟩
theorem chk_e {c : Prop} [Decidable c] {k : Res} {r : Int × Mem} (h : chk c k = some r) : c ∧ k = some r := by
  unfold chk at h; split at h
  · exact ⟨by assumption, h⟩
  · cases h
theorem ite_e {c : Prop} [Decidable c] {a b : Res} {r : Int × Mem} (h : (if c then a else b) = some r) : (c ∧ a = some r) ∨ (¬ c ∧ b = some r) := by
  split at h
  · exact Or.inl ⟨by assumption, h⟩
  · exact Or.inr ⟨by assumption, h⟩
theorem bcall_e {d : Res} {k : Int → Mem → Res} {r : Int × Mem} (h : bcall d k = some r) : ∃ v M, d = some (v, M) ∧ k v M = some r := by
  match d, h with
  | some (v, M), h => exact ⟨v, M, rfl, h⟩
/-- a method's end: what it answers (0 nothing, 1 an int, 2 a long), the memory then -/
def rv (t : Nat) (x : Int) : Option Value := match t with
  | 0 => none
  | 1 => some (vi x)
  | _ => some (vl x)
def Qm (G : GX) (t : Nat) (r : Int × Mem) : Array Value → State → Outcome → State → Prop := fun _ st oc t' => oc = .returned (rv t r.1) ∧ Pic G r.2 t'.heap ∧ va_F (Ab G) st t'
def Pm (G : GX) (vs : List Value) (M : Mem) : Array Value → State → Prop := va_Pc vs (fun U => Pic G M U.heap ∧ KK G U)
/-- method y, given these, answers so -/
def Mt (l : Launch) (G : GX) (y : MethodName) (b : ByteArray) (n : Nat) (r : Option FieldType) (lev t : Nat) (vs : List Value) (M : Mem) (res : Int × Mem) : Prop :=
  Met l y (Cond.code y b n r :: TB) (rmL lev) (Pm G vs M) (Qm G t res) 0 0 (Ab G)
/-- round and round: what a loop's body does, at most so often -/
def fix {T : Type} (bot : T) (F : T → T) : Nat → T
  | 0 => bot
  | n + 1 => F (fix bot F n)
def FU : Nat := 4294967296
