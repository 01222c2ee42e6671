/-! the pure part: tools -/
def Bz (c : Prop) [Decidable c] : Int := if c then 1 else 0
theorem Bz_t {c : Prop} [Decidable c] (h : c) : Bz c = 1 := if_pos h
theorem Bz_f {c : Prop} [Decidable c] (h : ¬ c) : Bz c = 0 := if_neg h
theorem Bz_0 {c : Prop} [Decidable c] : (w32 (Bz c) = 0) ↔ ¬ c := by
  unfold Bz; by_cases h : c
  · rw [if_pos h]; exact ⟨fun q => absurd q (by decide), fun q => absurd h q⟩
  · rw [if_neg h]; exact ⟨fun _ => h, fun _ => by decide⟩
theorem chk_t {c : Prop} [Decidable c] {k : Res} (h : c) : chk c k = k := if_pos h
theorem chk_T {k : Res} : chk True k = k := if_pos trivial
theorem bcall_s {v : Int} {M : Mem} {k : Int → Mem → Res} : bcall (some (v, M)) k = k v M := rfl
theorem blet_s {α : Type} {v : α} {k : α → Res} : blet v k = k v := rfl
theorem bcall_i {c : Prop} [Decidable c] {a b : Res} {k : Int → Mem → Res} : bcall (if c then a else b) k = if c then bcall a k else bcall b k := by split <;> rfl
theorem sto_c {M : Mem} {k j a b : Nat} {v : Int} : sto M k j v a b = if a = k then (if b = j then v else M k b) else M a b := by unfold sto; split <;> rfl
theorem sto_r {M : Mem} {k j a : Nat} {v : Int} (h : a ≠ k) : sto M k j v a = M a := by unfold sto; rw [if_neg h]
theorem sto_e {M : Mem} {k j : Nat} {v : Int} : sto M k j v k j = v := by rw [sto_c, if_pos rfl, if_pos rfl]
theorem sto_n {M : Mem} {k j b : Nat} {v : Int} (h : b ≠ j) : sto M k j v k b = M k b := by rw [sto_c, if_pos rfl, if_neg h]
theorem fix_s {T : Type} {bot : T} {F : T → T} {n : Nat} : fix bot F (n + 1) = F (fix bot F n) := rfl
theorem ix_e {x : Int} (h1 : 0 ≤ x) (h2 : x < 2147483648) : ix x = x.toNat := by unfold ix; rw [w32_eq (by omega) h2]
theorem ix_n {n : Nat} (h : n < 2147483648) : ix (n : Int) = n := by rw [ix_e (by omega) (by omega)]; rfl
/-- an int of the machine -/
def I32 (x : Int) : Prop := -2147483648 ≤ x ∧ x < 2147483648
theorem I32.w {x : Int} (h : I32 x) : w32 x = x := w32_eq h.1 h.2
theorem s_PP_isIn {a b c : Int} {M : Mem} : d_PP_isIn a b c M = some (Bz (w32 b ≤ w32 a ∧ w32 a ≤ w32 c), M) := by
  unfold d_PP_isIn Bz
  by_cases h1 : w32 a < w32 b
  · rw [if_pos h1, if_neg (by omega)]
  · rw [if_neg h1]
    by_cases h2 : w32 c < w32 a
    · rw [if_pos h2, if_neg (by omega)]
    · rw [if_neg h2, if_pos (by omega)]
theorem s_Mo_isIn {a b c : Int} {M : Mem} : d_Mo_isIn a b c M = some (Bz (w64 b ≤ w64 a ∧ w64 a ≤ w64 c), M) := by
  unfold d_Mo_isIn Bz
  by_cases h1 : w64 a < w64 b
  · rw [if_pos h1, if_neg (by omega)]
  · rw [if_neg h1]
    by_cases h2 : w64 c < w64 a
    · rw [if_pos h2, if_neg (by omega)]
    · rw [if_neg h2, if_pos (by omega)]
/-- a stretch of a row at one number -/
def zf (M : Mem) (c lo hi : Nat) (v : Int) : Mem := fun a => if a = c then (fun b => if lo ≤ b ∧ b < hi then v else M c b) else M a
theorem zf_0 {M : Mem} {c lo : Nat} {v : Int} : zf M c lo lo v = M := by
  funext a; unfold zf; split
  · subst_vars; funext b; rw [if_neg (by omega)]
  · rfl
theorem zf_s {M : Mem} {c lo hi : Nat} {v : Int} (h : lo < hi) : zf (sto M c lo v) c (lo + 1) hi v = zf M c lo hi v := by
  funext a; unfold zf
  by_cases e : a = c
  · rw [if_pos e, if_pos e]; funext b
    rw [sto_c, if_pos rfl]
    by_cases h1 : b = lo
    · rw [if_neg (by omega), if_pos h1, if_pos (by omega)]
    · by_cases h2 : lo ≤ b ∧ b < hi
      · rw [if_pos (by omega), if_pos h2]
      · rw [if_neg (by omega), if_neg h1, if_neg h2]
  · rw [if_neg e, if_neg e, sto_r e]
theorem zf_r {M : Mem} {c lo hi a : Nat} {v : Int} (h : a ≠ c) : zf M c lo hi v a = M a := by unfold zf; rw [if_neg h]
theorem zf_c {M : Mem} {c lo hi b : Nat} {v : Int} : zf M c lo hi v c b = if lo ≤ b ∧ b < hi then v else M c b := by unfold zf; rw [if_pos rfl]
/-- Arrays.fill -/
theorem l_fill1 {k zk : Nat} {v : Int} (hz : zk < 2147483648) : ∀ (n fuel i : Nat) (M : Mem), i + n = zk → n < fuel → fix (fun _ _ _ _ => none) (k_Ar_fill1_5 k zk) fuel v (i : Int) (zk : Int) M = some (0, zf M k i zk v) := by
  intro n
  induction n with
  | zero =>
    intro fuel i M h1 h2
    obtain ⟨f, rfl⟩ : ∃ f, fuel = f + 1 := ⟨fuel - 1, by omega⟩
    rw [fix_s]; unfold k_Ar_fill1_5
    simp (disch := omega) only [w32_eq, if_neg]
    rw [show i = zk by omega, zf_0]
  | succ n ih =>
    intro fuel i M h1 h2
    obtain ⟨f, rfl⟩ : ∃ f, fuel = f + 1 := ⟨fuel - 1, by omega⟩
    rw [fix_s]; unfold k_Ar_fill1_5
    simp (disch := omega) only [w32_eq, if_pos, chk_t, blet_s, ix_n]
    have := ih f (i + 1) (sto M k i v) (by omega) (by omega)
    rw [zf_s (by omega)] at this
    exact this
theorem s_fill1 {k zk : Nat} {v : Int} {M : Mem} (hz : zk < 2147483648) : d_Ar_fill1 k zk v M = some (0, zf M k 0 zk v) := by
  unfold d_Ar_fill1; rw [blet_s]
  exact l_fill1 hz zk FU 0 M (by omega) (by unfold FU; omega)
theorem l_fill0 {k zk : Nat} {v : Int} (hz : zk < 2147483648) : ∀ (n fuel i : Nat) (M : Mem), i + n = zk → n < fuel → fix (fun _ _ _ _ => none) (k_Ar_fill0_6 k zk) fuel v (i : Int) (zk : Int) M = some (0, zf M k i zk v) := by
  intro n
  induction n with
  | zero =>
    intro fuel i M h1 h2
    obtain ⟨f, rfl⟩ : ∃ f, fuel = f + 1 := ⟨fuel - 1, by omega⟩
    rw [fix_s]; unfold k_Ar_fill0_6
    simp (disch := omega) only [w32_eq, if_neg]
    rw [show i = zk by omega, zf_0]
  | succ n ih =>
    intro fuel i M h1 h2
    obtain ⟨f, rfl⟩ : ∃ f, fuel = f + 1 := ⟨fuel - 1, by omega⟩
    rw [fix_s]; unfold k_Ar_fill0_6
    simp (disch := omega) only [w32_eq, if_pos, chk_t, blet_s, ix_n]
    have := ih f (i + 1) (sto M k i v) (by omega) (by omega)
    rw [zf_s (by omega)] at this
    exact this
theorem s_fill0 {k zk : Nat} {v : Int} {M : Mem} (hz : zk < 2147483648) : d_Ar_fill0 k zk v M = some (0, zf M k 0 zk v) := by
  unfold d_Ar_fill0; rw [blet_s]
  exact l_fill0 hz zk FU 0 M (by omega) (by unfold FU; omega)
