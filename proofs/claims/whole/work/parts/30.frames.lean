/-! frames: which cells a meaning may change -/
def Fr (A : List Nat) (F : List (Nat × Nat)) (M M' : Mem) : Prop := ∀ c : Nat, c ∉ A → ∀ j : Nat, (c, j) ∉ F → M' c j = M c j
theorem Fr.rfl' {A : List Nat} {F : List (Nat × Nat)} {M : Mem} : Fr A F M M := fun _ _ _ _ => rfl
theorem Fr.trans {A : List Nat} {F : List (Nat × Nat)} {M M1 M2 : Mem} (h1 : Fr A F M M1) (h2 : Fr A F M1 M2) : Fr A F M M2 := fun c hc j hj => (h2 c hc j hj).trans (h1 c hc j hj)
theorem Fr.mono {A A' : List Nat} {F F' : List (Nat × Nat)} {M M' : Mem} (h : Fr A F M M') (hA : ∀ c ∈ A, c ∈ A') (hF : ∀ q ∈ F, q ∈ F') : Fr A' F' M M' := fun c hc j hj => h c (fun z => hc (hA c z)) j (fun z => hj (hF _ z))
theorem Fr.stoA {A : List Nat} {F : List (Nat × Nat)} {M M1 : Mem} {k j : Nat} {v : Int} (h : Fr A F M M1) (hk : k ∈ A) : Fr A F M (sto M1 k j v) := by
  intro c hc b hb
  have e : c ≠ k := fun z => hc (z ▸ hk)
  show (sto M1 k j v) c b = _
  unfold sto; rw [if_neg e]; exact h c hc b hb
theorem Fr.stoF {A : List Nat} {F : List (Nat × Nat)} {M M1 : Mem} {k j : Nat} {v : Int} (h : Fr A F M M1) (hk : (k, j) ∈ F) : Fr A F M (sto M1 k j v) := by
  intro c hc b hb
  show (sto M1 k j v) c b = _
  unfold sto
  by_cases e : c = k
  · subst e
    rw [if_pos rfl, if_neg (fun z : b = j => hb (by rw [z]; exact hk))]
    exact h c hc b hb
  · rw [if_neg e]; exact h c hc b hb
theorem Fr.copy {A : List Nat} {F : List (Nat × Nat)} {M M1 : Mem} {ks sp kd dp n : Nat} (h : Fr A F M M1) (hk : kd ∈ A) : Fr A F M (cpy M1 ks sp kd dp n) := by
  intro c hc b hb
  have e : c ≠ kd := fun z => hc (z ▸ hk)
  show (cpy M1 ks sp kd dp n) c b = _
  unfold cpy; rw [if_neg e]; exact h c hc b hb
theorem ix_lt4 {i : Int} (h : 0 ≤ w32 i ∧ w32 i < 4) : ix i < 4 := by unfold ix; omega
theorem w_St_coder {i0 : Nat} {M : Mem} {r : Int × Mem} (h : d_St_coder i0 M = some r) : Fr [] [] M r.2 := by
  unfold d_St_coder at h
  have hFM : Fr [] [] M M := Fr.rfl'
  rcases ite_e h with ⟨c1, h⟩ | ⟨c1, h⟩
  · skip
    cases h; exact hFM
  · skip
    cases h; exact hFM
theorem w_St_length {i0 : Nat} {M : Mem} {r : Int × Mem} (h : d_St_length i0 M = some r) : Fr [] [] M r.2 := by
  unfold d_St_length at h
  have hFM : Fr [] [] M M := Fr.rfl'
  obtain ⟨v1, M2, fv1, h⟩ := bcall_e h
  have hFM2 : Fr [] [] M M2 := hFM.trans ((w_St_coder fv1).mono (by simp) (by simp))
  cases h; exact hFM2
theorem w_St_isLatin1 {i0 : Nat} {M : Mem} {r : Int × Mem} (h : d_St_isLatin1 i0 M = some r) : Fr [] [] M r.2 := by
  unfold d_St_isLatin1 at h
  have hFM : Fr [] [] M M := Fr.rfl'
  rcases ite_e h with ⟨c1, h⟩ | ⟨c1, h⟩
  · skip
    cases h; exact hFM
  · skip
    rcases ite_e h with ⟨c2, h⟩ | ⟨c2, h⟩
    · skip
      cases h; exact hFM
    · skip
      cases h; exact hFM
theorem w_Pc_checkIndex_9  {a0 a1 : Int} {M : Mem} {r : Int × Mem} (h : k_Pc_checkIndex_9 a0 a1 M = some r) : Fr [] [] M r.2 := by
  unfold k_Pc_checkIndex_9 at h
  have hFM : Fr [] [] M M := Fr.rfl'
  exact nomatch (show (none : Res) = some r from h)
theorem w_Pc_checkIndex {a0 a1 : Int} {M : Mem} {r : Int × Mem} (h : d_Pc_checkIndex a0 a1 M = some r) : Fr [] [] M r.2 := by
  unfold d_Pc_checkIndex at h
  have hFM : Fr [] [] M M := Fr.rfl'
  rcases ite_e h with ⟨c1, h⟩ | ⟨c1, h⟩
  · skip
    exact hFM.trans (w_Pc_checkIndex_9 h)
  · skip
    rcases ite_e h with ⟨c2, h⟩ | ⟨c2, h⟩
    · skip
      cases h; exact hFM
    · skip
      exact hFM.trans (w_Pc_checkIndex_9 h)
theorem w_St_checkIndex {a0 a1 : Int} {M : Mem} {r : Int × Mem} (h : d_St_checkIndex a0 a1 M = some r) : Fr [] [] M r.2 := by
  unfold d_St_checkIndex at h
  have hFM : Fr [] [] M M := Fr.rfl'
  obtain ⟨v1, M2, fv1, h⟩ := bcall_e h
  have hFM2 : Fr [] [] M M2 := hFM.trans ((w_Pc_checkIndex fv1).mono (by simp) (by simp))
  cases h; exact hFM2
theorem w_SL_charAt {i0 : Nat} {a1 : Int} {M : Mem} {r : Int × Mem} (h : d_SL_charAt i0 a1 M = some r) : Fr [] [] M r.2 := by
  unfold d_SL_charAt at h
  have hFM : Fr [] [] M M := Fr.rfl'
  obtain ⟨v1, M2, fv1, h⟩ := bcall_e h
  have hFM2 : Fr [] [] M M2 := hFM.trans ((w_St_checkIndex fv1).mono (by simp) (by simp))
  obtain ⟨c3, h⟩ := chk_e h
  obtain ⟨v4, ev4, h⟩ := blet_e h
  obtain ⟨c5, h⟩ := chk_e h
  cases h; exact hFM2
theorem w_St_charAt {i0 : Nat} {a1 : Int} {M : Mem} {r : Int × Mem} (h : d_St_charAt i0 a1 M = some r) : Fr [] [] M r.2 := by
  unfold d_St_charAt at h
  have hFM : Fr [] [] M M := Fr.rfl'
  obtain ⟨v1, M2, fv1, h⟩ := bcall_e h
  have hFM2 : Fr [] [] M M2 := hFM.trans ((w_St_isLatin1 fv1).mono (by simp) (by simp))
  rcases ite_e h with ⟨c3, h⟩ | ⟨c3, h⟩
  · skip
    exact nomatch (show (none : Res) = some r from h)
  · skip
    obtain ⟨v4, M5, fv4, h⟩ := bcall_e h
    have hFM5 : Fr [] [] M M5 := hFM2.trans ((w_SL_charAt fv4).mono (by simp) (by simp))
    obtain ⟨c6, h⟩ := chk_e h
    cases h; exact hFM5
theorem w_SL_canEncode {a0 : Int} {M : Mem} {r : Int × Mem} (h : d_SL_canEncode a0 M = some r) : Fr [] [] M r.2 := by
  unfold d_SL_canEncode at h
  have hFM : Fr [] [] M M := Fr.rfl'
  rcases ite_e h with ⟨c1, h⟩ | ⟨c1, h⟩
  · skip
    cases h; exact hFM
  · skip
    rcases ite_e h with ⟨c2, h⟩ | ⟨c2, h⟩
    · skip
      cases h; exact hFM
    · skip
      cases h; exact hFM
theorem w_SL_indexOfChar_7 {i0 : Nat} {R7 : Int → Int → Int → Mem → Res} (hR7 : ∀ (a3 a4 a5 : Int) (M : Mem) (r : Int × Mem), R7 a3 a4 a5 M = some r → Fr [] [] M r.2) {a3 a4 a5 : Int} {M : Mem} {r : Int × Mem} (h : k_SL_indexOfChar_7 i0 R7 a3 a4 a5 M = some r) : Fr [] [] M r.2 := by
  unfold k_SL_indexOfChar_7 at h
  have hFM : Fr [] [] M M := Fr.rfl'
  rcases ite_e h with ⟨c1, h⟩ | ⟨c1, h⟩
  · skip
    obtain ⟨c2, h⟩ := chk_e h
    obtain ⟨v3, ev3, h⟩ := blet_e h
    rcases ite_e h with ⟨c4, h⟩ | ⟨c4, h⟩
    · skip
      cases h; exact hFM
    · skip
      obtain ⟨v5, ev5, h⟩ := blet_e h
      exact hFM.trans (hR7 a3 a4 v5 M r h)
  · skip
    cases h; exact hFM
theorem wl_SL_indexOfChar_7 {i0 : Nat}  : ∀ (n : Nat) (a3 a4 a5 : Int) (M : Mem) (r : Int × Mem), fix (fun _ _ _ _ => none) (k_SL_indexOfChar_7 i0) n a3 a4 a5 M = some r → Fr [] [] M r.2 := by
  intro n
  induction n with
  | zero => intro a3 a4 a5 M r h; exact nomatch (show (none : Res) = some r from h)
  | succ n ih => intro a3 a4 a5 M r h; exact w_SL_indexOfChar_7 ih h
theorem w_SL_indexOfChar {i0 : Nat} {a1 a2 a3 : Int} {M : Mem} {r : Int × Mem} (h : d_SL_indexOfChar i0 a1 a2 a3 M = some r) : Fr [] [] M r.2 := by
  unfold d_SL_indexOfChar at h
  have hFM : Fr [] [] M M := Fr.rfl'
  obtain ⟨v1, ev1, h⟩ := blet_e h
  exact hFM.trans (wl_SL_indexOfChar_7 FU a3 v1 a2 M r h)
theorem w_SL_indexOf {i0 : Nat} {a1 a2 a3 : Int} {M : Mem} {r : Int × Mem} (h : d_SL_indexOf i0 a1 a2 a3 M = some r) : Fr [] [] M r.2 := by
  unfold d_SL_indexOf at h
  have hFM : Fr [] [] M M := Fr.rfl'
  obtain ⟨v1, M2, fv1, h⟩ := bcall_e h
  have hFM2 : Fr [] [] M M2 := hFM.trans ((w_SL_canEncode fv1).mono (by simp) (by simp))
  rcases ite_e h with ⟨c3, h⟩ | ⟨c3, h⟩
  · skip
    cases h; exact hFM2
  · skip
    obtain ⟨v4, ev4, h⟩ := blet_e h
    obtain ⟨v5, ev5, h⟩ := blet_e h
    rcases ite_e h with ⟨c6, h⟩ | ⟨c6, h⟩
    · skip
      obtain ⟨v7, M8, fv7, h⟩ := bcall_e h
      have hFM8 : Fr [] [] M M8 := hFM2.trans ((w_SL_indexOfChar fv7).mono (by simp) (by simp))
      cases h; exact hFM8
    · skip
      cases h; exact hFM2
theorem w_St_indexOf1 {i0 : Nat} {a1 a2 : Int} {M : Mem} {r : Int × Mem} (h : d_St_indexOf1 i0 a1 a2 M = some r) : Fr [] [] M r.2 := by
  unfold d_St_indexOf1 at h
  have hFM : Fr [] [] M M := Fr.rfl'
  obtain ⟨v1, M2, fv1, h⟩ := bcall_e h
  have hFM2 : Fr [] [] M M2 := hFM.trans ((w_St_isLatin1 fv1).mono (by simp) (by simp))
  rcases ite_e h with ⟨c3, h⟩ | ⟨c3, h⟩
  · skip
    exact nomatch (show (none : Res) = some r from h)
  · skip
    obtain ⟨v4, M5, fv4, h⟩ := bcall_e h
    have hFM5 : Fr [] [] M M5 := hFM2.trans ((w_St_length fv4).mono (by simp) (by simp))
    obtain ⟨v6, M7, fv6, h⟩ := bcall_e h
    have hFM7 : Fr [] [] M M7 := hFM5.trans ((w_SL_indexOf fv6).mono (by simp) (by simp))
    cases h; exact hFM7
theorem w_St_indexOf0 {i0 : Nat} {a1 : Int} {M : Mem} {r : Int × Mem} (h : d_St_indexOf0 i0 a1 M = some r) : Fr [] [] M r.2 := by
  unfold d_St_indexOf0 at h
  have hFM : Fr [] [] M M := Fr.rfl'
  obtain ⟨v1, M2, fv1, h⟩ := bcall_e h
  have hFM2 : Fr [] [] M M2 := hFM.trans ((w_St_indexOf1 fv1).mono (by simp) (by simp))
  cases h; exact hFM2
theorem w_Ar_fill0_6 {k0 : Nat} {zk0 : Nat} {R6 : Int → Int → Int → Mem → Res} (hR6 : ∀ (a1 a3 a4 : Int) (M : Mem) (r : Int × Mem), R6 a1 a3 a4 M = some r → Fr [k0] [] M r.2) {a1 a3 a4 : Int} {M : Mem} {r : Int × Mem} (h : k_Ar_fill0_6 k0 zk0 R6 a1 a3 a4 M = some r) : Fr [k0] [] M r.2 := by
  unfold k_Ar_fill0_6 at h
  have hFM : Fr [k0] [] M M := Fr.rfl'
  rcases ite_e h with ⟨c1, h⟩ | ⟨c1, h⟩
  · skip
    obtain ⟨c2, h⟩ := chk_e h
    obtain ⟨M3, eM3, h⟩ := blet_e h
    have hFM3 : Fr [k0] [] M M3 := by rw [eM3]; exact hFM.stoA (by simp)
    obtain ⟨v4, ev4, h⟩ := blet_e h
    exact hFM3.trans (hR6 a1 v4 a4 M3 r h)
  · skip
    cases h; exact hFM
theorem wl_Ar_fill0_6 {k0 : Nat} {zk0 : Nat}  : ∀ (n : Nat) (a1 a3 a4 : Int) (M : Mem) (r : Int × Mem), fix (fun _ _ _ _ => none) (k_Ar_fill0_6 k0 zk0) n a1 a3 a4 M = some r → Fr [k0] [] M r.2 := by
  intro n
  induction n with
  | zero => intro a1 a3 a4 M r h; exact nomatch (show (none : Res) = some r from h)
  | succ n ih => intro a1 a3 a4 M r h; exact w_Ar_fill0_6 ih h
theorem w_Ar_fill0 {k0 : Nat} {zk0 : Nat} {a1 : Int} {M : Mem} {r : Int × Mem} (h : d_Ar_fill0 k0 zk0 a1 M = some r) : Fr [k0] [] M r.2 := by
  unfold d_Ar_fill0 at h
  have hFM : Fr [k0] [] M M := Fr.rfl'
  obtain ⟨v1, ev1, h⟩ := blet_e h
  exact hFM.trans (wl_Ar_fill0_6 FU a1 0 v1 M r h)
theorem w_Lo_compare {a0 a2 : Int} {M : Mem} {r : Int × Mem} (h : d_Lo_compare a0 a2 M = some r) : Fr [] [] M r.2 := by
  unfold d_Lo_compare at h
  have hFM : Fr [] [] M M := Fr.rfl'
  rcases ite_e h with ⟨c1, h⟩ | ⟨c1, h⟩
  · skip
    cases h; exact hFM
  · skip
    rcases ite_e h with ⟨c2, h⟩ | ⟨c2, h⟩
    · skip
      cases h; exact hFM
    · skip
      cases h; exact hFM
theorem w_Ar_fill1_5 {k0 : Nat} {zk0 : Nat} {R5 : Int → Int → Int → Mem → Res} (hR5 : ∀ (a1 a2 a3 : Int) (M : Mem) (r : Int × Mem), R5 a1 a2 a3 M = some r → Fr [k0] [] M r.2) {a1 a2 a3 : Int} {M : Mem} {r : Int × Mem} (h : k_Ar_fill1_5 k0 zk0 R5 a1 a2 a3 M = some r) : Fr [k0] [] M r.2 := by
  unfold k_Ar_fill1_5 at h
  have hFM : Fr [k0] [] M M := Fr.rfl'
  rcases ite_e h with ⟨c1, h⟩ | ⟨c1, h⟩
  · skip
    obtain ⟨c2, h⟩ := chk_e h
    obtain ⟨M3, eM3, h⟩ := blet_e h
    have hFM3 : Fr [k0] [] M M3 := by rw [eM3]; exact hFM.stoA (by simp)
    obtain ⟨v4, ev4, h⟩ := blet_e h
    exact hFM3.trans (hR5 a1 v4 a3 M3 r h)
  · skip
    cases h; exact hFM
theorem wl_Ar_fill1_5 {k0 : Nat} {zk0 : Nat}  : ∀ (n : Nat) (a1 a2 a3 : Int) (M : Mem) (r : Int × Mem), fix (fun _ _ _ _ => none) (k_Ar_fill1_5 k0 zk0) n a1 a2 a3 M = some r → Fr [k0] [] M r.2 := by
  intro n
  induction n with
  | zero => intro a1 a2 a3 M r h; exact nomatch (show (none : Res) = some r from h)
  | succ n ih => intro a1 a2 a3 M r h; exact w_Ar_fill1_5 ih h
theorem w_Ar_fill1 {k0 : Nat} {zk0 : Nat} {a1 : Int} {M : Mem} {r : Int × Mem} (h : d_Ar_fill1 k0 zk0 a1 M = some r) : Fr [k0] [] M r.2 := by
  unfold d_Ar_fill1 at h
  have hFM : Fr [k0] [] M M := Fr.rfl'
  obtain ⟨v1, ev1, h⟩ := blet_e h
  exact hFM.trans (wl_Ar_fill1_5 FU a1 0 v1 M r h)
theorem w_In_compare {a0 a1 : Int} {M : Mem} {r : Int × Mem} (h : d_In_compare a0 a1 M = some r) : Fr [] [] M r.2 := by
  unfold d_In_compare at h
  have hFM : Fr [] [] M M := Fr.rfl'
  rcases ite_e h with ⟨c1, h⟩ | ⟨c1, h⟩
  · skip
    cases h; exact hFM
  · skip
    rcases ite_e h with ⟨c2, h⟩ | ⟨c2, h⟩
    · skip
      cases h; exact hFM
    · skip
      cases h; exact hFM
theorem w_In_bitCount {a0 : Int} {M : Mem} {r : Int × Mem} (h : d_In_bitCount a0 M = some r) : Fr [] [] M r.2 := by
  unfold d_In_bitCount at h
  have hFM : Fr [] [] M M := Fr.rfl'
  obtain ⟨v1, ev1, h⟩ := blet_e h
  obtain ⟨v2, ev2, h⟩ := blet_e h
  obtain ⟨v3, ev3, h⟩ := blet_e h
  obtain ⟨v4, ev4, h⟩ := blet_e h
  obtain ⟨v5, ev5, h⟩ := blet_e h
  cases h; exact hFM
theorem w_Tr_make_17 {R17 : Int → Int → Int → Mem → Res} (hR17 : ∀ (a1 a3 a4 : Int) (M : Mem) (r : Int × Mem), R17 a1 a3 a4 M = some r → Fr [2, 3, 4] [] M r.2) {a1 a3 a4 : Int} {M : Mem} {r : Int × Mem} (h : k_Tr_make_17 R17 a1 a3 a4 M = some r) : Fr [2, 3, 4] [] M r.2 := by
  unfold k_Tr_make_17 at h
  have hFM : Fr [2, 3, 4] [] M M := Fr.rfl'
  rcases ite_e h with ⟨c1, h⟩ | ⟨c1, h⟩
  · skip
    obtain ⟨c2, h⟩ := chk_e h
    obtain ⟨M3, eM3, h⟩ := blet_e h
    have hFM3 : Fr [2, 3, 4] [] M M3 := by rw [eM3]; exact hFM.stoA (by simp)
    obtain ⟨v4, ev4, h⟩ := blet_e h
    exact hFM3.trans (hR17 a1 a3 v4 M3 r h)
  · skip
    cases h; exact hFM
theorem wl_Tr_make_17  : ∀ (n : Nat) (a1 a3 a4 : Int) (M : Mem) (r : Int × Mem), fix (fun _ _ _ _ => none) (k_Tr_make_17) n a1 a3 a4 M = some r → Fr [2, 3, 4] [] M r.2 := by
  intro n
  induction n with
  | zero => intro a1 a3 a4 M r h; exact nomatch (show (none : Res) = some r from h)
  | succ n ih => intro a1 a3 a4 M r h; exact w_Tr_make_17 ih h
theorem w_Tr_make {a1 a2 a3 : Int} {M : Mem} {r : Int × Mem} (h : d_Tr_make a1 a2 a3 M = some r) : Fr [2, 3, 4] [] M r.2 := by
  unfold d_Tr_make at h
  have hFM : Fr [2, 3, 4] [] M M := Fr.rfl'
  obtain ⟨c1, h⟩ := chk_e h
  obtain ⟨M2, eM2, h⟩ := blet_e h
  have hFM2 : Fr [2, 3, 4] [] M M2 := by rw [eM2]; exact hFM.stoA (by simp)
  obtain ⟨c3, h⟩ := chk_e h
  obtain ⟨M4, eM4, h⟩ := blet_e h
  have hFM4 : Fr [2, 3, 4] [] M M4 := by rw [eM4]; exact hFM2.stoA (by simp)
  exact hFM4.trans (wl_Tr_make_17 FU a1 a3 0 M4 r h)
theorem w_Tr_cut {a0 a2 : Int} {M : Mem} {r : Int × Mem} (h : d_Tr_cut a0 a2 M = some r) : Fr [] [] M r.2 := by
  unfold d_Tr_cut at h
  have hFM : Fr [] [] M M := Fr.rfl'
  rcases ite_e h with ⟨c1, h⟩ | ⟨c1, h⟩
  · skip
    cases h; exact hFM
  · rcases ite_e h with ⟨c2, h⟩ | ⟨c2, h⟩
    · skip
      cases h; exact hFM
    · rcases ite_e h with ⟨c3, h⟩ | ⟨c3, h⟩
      · skip
        cases h; exact hFM
      · skip
        cases h; exact hFM
theorem w_Tr_put {a1 a2 a3 : Int} {M : Mem} {r : Int × Mem} (h : d_Tr_put a1 a2 a3 M = some r) : Fr [4] [] M r.2 := by
  unfold d_Tr_put at h
  have hFM : Fr [4] [] M M := Fr.rfl'
  obtain ⟨c1, h⟩ := chk_e h
  obtain ⟨v2, ev2, h⟩ := blet_e h
  obtain ⟨v3, M4, fv3, h⟩ := bcall_e h
  have hFM4 : Fr [4] [] M M4 := hFM.trans ((w_Tr_cut fv3).mono (by simp) (by simp))
  obtain ⟨c5, h⟩ := chk_e h
  obtain ⟨M6, eM6, h⟩ := blet_e h
  have hFM6 : Fr [4] [] M M6 := by rw [eM6]; exact hFM4.stoA (by simp)
  cases h; exact hFM6
theorem w_Tr_get {a1 a2 : Int} {M : Mem} {r : Int × Mem} (h : d_Tr_get a1 a2 M = some r) : Fr [] [] M r.2 := by
  unfold d_Tr_get at h
  have hFM : Fr [] [] M M := Fr.rfl'
  obtain ⟨c1, h⟩ := chk_e h
  obtain ⟨v2, ev2, h⟩ := blet_e h
  cases h; exact hFM
theorem w_Tr_statusOfPouring_75  {s0 : Int} {M : Mem} {r : Int × Mem} (h : k_Tr_statusOfPouring_75 s0 M = some r) : Fr [] [] M r.2 := by
  unfold k_Tr_statusOfPouring_75 at h
  have hFM : Fr [] [] M M := Fr.rfl'
  rcases ite_e h with ⟨c1, h⟩ | ⟨c1, h⟩
  · skip
    cases h; exact hFM
  · skip
    cases h; exact hFM
theorem w_Tr_statusOfPouring_74  {M : Mem} {r : Int × Mem} (h : k_Tr_statusOfPouring_74 M = some r) : Fr [] [] M r.2 := by
  unfold k_Tr_statusOfPouring_74 at h
  have hFM : Fr [] [] M M := Fr.rfl'
  exact hFM.trans (w_Tr_statusOfPouring_75 h)
theorem w_Tr_statusOfPouring {a1 a2 a3 a4 a5 : Int} {M : Mem} {r : Int × Mem} (h : d_Tr_statusOfPouring a1 a2 a3 a4 a5 M = some r) : Fr [] [] M r.2 := by
  unfold d_Tr_statusOfPouring at h
  have hFM : Fr [] [] M M := Fr.rfl'
  obtain ⟨c1, h⟩ := chk_e h
  obtain ⟨v2, ev2, h⟩ := blet_e h
  obtain ⟨c3, h⟩ := chk_e h
  obtain ⟨v4, ev4, h⟩ := blet_e h
  rcases ite_e h with ⟨c5, h⟩ | ⟨c5, h⟩
  · skip
    rcases ite_e h with ⟨c6, h⟩ | ⟨c6, h⟩
    · skip
      cases h; exact hFM
    · skip
      rcases ite_e h with ⟨c7, h⟩ | ⟨c7, h⟩
      · skip
        exact hFM.trans (w_Tr_statusOfPouring_74 h)
      · skip
        obtain ⟨c8, h⟩ := chk_e h
        obtain ⟨v9, ev9, h⟩ := blet_e h
        rcases ite_e h with ⟨c10, h⟩ | ⟨c10, h⟩
        · skip
          exact hFM.trans (w_Tr_statusOfPouring_74 h)
        · skip
          rcases ite_e h with ⟨c11, h⟩ | ⟨c11, h⟩
          · skip
            exact hFM.trans (w_Tr_statusOfPouring_74 h)
          · skip
            obtain ⟨c12, h⟩ := chk_e h
            obtain ⟨v13, ev13, h⟩ := blet_e h
            rcases ite_e h with ⟨c14, h⟩ | ⟨c14, h⟩
            · skip
              exact hFM.trans (w_Tr_statusOfPouring_74 h)
            · skip
              exact hFM.trans (w_Tr_statusOfPouring_75 h)
  · skip
    cases h; exact hFM
theorem w_Tr_move {a1 a2 a3 a4 a5 : Int} {M : Mem} {r : Int × Mem} (h : d_Tr_move a1 a2 a3 a4 a5 M = some r) : Fr [4] [] M r.2 := by
  unfold d_Tr_move at h
  have hFM : Fr [4] [] M M := Fr.rfl'
  obtain ⟨c1, h⟩ := chk_e h
  obtain ⟨M2, eM2, h⟩ := blet_e h
  have hFM2 : Fr [4] [] M M2 := by rw [eM2]; exact hFM.copy (by simp)
  cases h; exact hFM2
theorem w_Pr_addFarm {a1 a2 a3 : Int} {M : Mem} {r : Int × Mem} (h : d_Pr_addFarm a1 a2 a3 M = some r) : Fr [6, 7, 8, 9, 10, 12] [(5, 0)] M r.2 := by
  unfold d_Pr_addFarm at h
  have hFM : Fr [6, 7, 8, 9, 10, 12] [(5, 0)] M M := Fr.rfl'
  obtain ⟨v1, ev1, h⟩ := blet_e h
  obtain ⟨c2, h⟩ := chk_e h
  obtain ⟨M3, eM3, h⟩ := blet_e h
  have hFM3 : Fr [6, 7, 8, 9, 10, 12] [(5, 0)] M M3 := by rw [eM3]; exact hFM.stoA (by simp)
  obtain ⟨c4, h⟩ := chk_e h
  obtain ⟨M5, eM5, h⟩ := blet_e h
  have hFM5 : Fr [6, 7, 8, 9, 10, 12] [(5, 0)] M M5 := by rw [eM5]; exact hFM3.stoA (by simp)
  obtain ⟨c6, h⟩ := chk_e h
  obtain ⟨M7, eM7, h⟩ := blet_e h
  have hFM7 : Fr [6, 7, 8, 9, 10, 12] [(5, 0)] M M7 := by rw [eM7]; exact hFM5.stoA (by simp)
  obtain ⟨c8, h⟩ := chk_e h
  obtain ⟨M9, eM9, h⟩ := blet_e h
  have hFM9 : Fr [6, 7, 8, 9, 10, 12] [(5, 0)] M M9 := by rw [eM9]; exact hFM7.stoA (by simp)
  obtain ⟨c10, h⟩ := chk_e h
  obtain ⟨M11, eM11, h⟩ := blet_e h
  have hFM11 : Fr [6, 7, 8, 9, 10, 12] [(5, 0)] M M11 := by rw [eM11]; exact hFM9.stoA (by simp)
  obtain ⟨c12, h⟩ := chk_e h
  obtain ⟨M13, eM13, h⟩ := blet_e h
  have hFM13 : Fr [6, 7, 8, 9, 10, 12] [(5, 0)] M M13 := by rw [eM13]; exact hFM11.stoA (by simp)
  obtain ⟨v14, ev14, h⟩ := blet_e h
  obtain ⟨M15, eM15, h⟩ := blet_e h
  have hFM15 : Fr [6, 7, 8, 9, 10, 12] [(5, 0)] M M15 := by rw [eM15]; exact hFM13.stoF (by simp)
  cases h; exact hFM15
theorem w_Pr_addElevator {a1 a2 : Int} {M : Mem} {r : Int × Mem} (h : d_Pr_addElevator a1 a2 M = some r) : Fr [13, 14] [(5, 8)] M r.2 := by
  unfold d_Pr_addElevator at h
  have hFM : Fr [13, 14] [(5, 8)] M M := Fr.rfl'
  obtain ⟨v1, ev1, h⟩ := blet_e h
  obtain ⟨c2, h⟩ := chk_e h
  obtain ⟨M3, eM3, h⟩ := blet_e h
  have hFM3 : Fr [13, 14] [(5, 8)] M M3 := by rw [eM3]; exact hFM.stoA (by simp)
  obtain ⟨c4, h⟩ := chk_e h
  obtain ⟨M5, eM5, h⟩ := blet_e h
  have hFM5 : Fr [13, 14] [(5, 8)] M M5 := by rw [eM5]; exact hFM3.stoA (by simp)
  obtain ⟨v6, ev6, h⟩ := blet_e h
  obtain ⟨M7, eM7, h⟩ := blet_e h
  have hFM7 : Fr [13, 14] [(5, 8)] M M7 := by rw [eM7]; exact hFM5.stoF (by simp)
  cases h; exact hFM7
theorem w_Jo_isGone_40  {M : Mem} {r : Int × Mem} (h : k_Jo_isGone_40 M = some r) : Fr [] [] M r.2 := by
  unfold k_Jo_isGone_40 at h
  have hFM : Fr [] [] M M := Fr.rfl'
  cases h; exact hFM
theorem w_Jo_isGone_27  {a2 s0 : Int} {M : Mem} {r : Int × Mem} (h : k_Jo_isGone_27 a2 s0 M = some r) : Fr [] [] M r.2 := by
  unfold k_Jo_isGone_27 at h
  have hFM : Fr [] [] M M := Fr.rfl'
  rcases ite_e h with ⟨c1, h⟩ | ⟨c1, h⟩
  · skip
    obtain ⟨v2, ev2, h⟩ := blet_e h
    rcases ite_e h with ⟨c3, h⟩ | ⟨c3, h⟩
    · skip
      exact hFM.trans (w_Jo_isGone_40 h)
    · skip
      cases h; exact hFM
  · skip
    exact hFM.trans (w_Jo_isGone_40 h)
theorem w_Jo_isGone_26  {a2 : Int} {M : Mem} {r : Int × Mem} (h : k_Jo_isGone_26 a2 M = some r) : Fr [] [] M r.2 := by
  unfold k_Jo_isGone_26 at h
  have hFM : Fr [] [] M M := Fr.rfl'
  exact hFM.trans (w_Jo_isGone_27 h)
theorem w_Jo_isGone {a1 a2 : Int} {M : Mem} {r : Int × Mem} (h : d_Jo_isGone a1 a2 M = some r) : Fr [] [] M r.2 := by
  unfold d_Jo_isGone at h
  have hFM : Fr [] [] M M := Fr.rfl'
  obtain ⟨v1, ev1, h⟩ := blet_e h
  rcases ite_e h with ⟨c2, h⟩ | ⟨c2, h⟩
  · skip
    obtain ⟨v3, ev3, h⟩ := blet_e h
    obtain ⟨c4, h⟩ := chk_e h
    obtain ⟨v5, ev5, h⟩ := blet_e h
    rcases ite_e h with ⟨c6, h⟩ | ⟨c6, h⟩
    · skip
      exact hFM.trans (w_Jo_isGone_27 h)
    · skip
      exact hFM.trans (w_Jo_isGone_26 h)
  · skip
    exact hFM.trans (w_Jo_isGone_26 h)
theorem w_Jo_enter {a1 a2 a3 : Int} {M : Mem} {r : Int × Mem} (h : d_Jo_enter a1 a2 a3 M = some r) : Fr [16, 25, 26] [(15, 0), (15, 1)] M r.2 := by
  unfold d_Jo_enter at h
  have hFM : Fr [16, 25, 26] [(15, 0), (15, 1)] M M := Fr.rfl'
  obtain ⟨v1, ev1, h⟩ := blet_e h
  obtain ⟨c2, h⟩ := chk_e h
  obtain ⟨M3, eM3, h⟩ := blet_e h
  have hFM3 : Fr [16, 25, 26] [(15, 0), (15, 1)] M M3 := by rw [eM3]; exact hFM.stoA (by simp)
  obtain ⟨c4, h⟩ := chk_e h
  obtain ⟨M5, eM5, h⟩ := blet_e h
  have hFM5 : Fr [16, 25, 26] [(15, 0), (15, 1)] M M5 := by rw [eM5]; exact hFM3.stoA (by simp)
  obtain ⟨c6, h⟩ := chk_e h
  obtain ⟨M7, eM7, h⟩ := blet_e h
  have hFM7 : Fr [16, 25, 26] [(15, 0), (15, 1)] M M7 := by rw [eM7]; exact hFM5.stoA (by simp)
  obtain ⟨M8, eM8, h⟩ := blet_e h
  have hFM8 : Fr [16, 25, 26] [(15, 0), (15, 1)] M M8 := by rw [eM8]; exact hFM7.stoF (by simp)
  obtain ⟨v9, ev9, h⟩ := blet_e h
  obtain ⟨M10, eM10, h⟩ := blet_e h
  have hFM10 : Fr [16, 25, 26] [(15, 0), (15, 1)] M M10 := by rw [eM10]; exact hFM8.stoF (by simp)
  cases h; exact hFM10
theorem w_Jo_tellWhat {a1 a2 a3 a4 : Int} {M : Mem} {r : Int × Mem} (h : d_Jo_tellWhat a1 a2 a3 a4 M = some r) : Fr [20, 21, 22] [] M r.2 := by
  unfold d_Jo_tellWhat at h
  have hFM : Fr [20, 21, 22] [] M M := Fr.rfl'
  obtain ⟨c1, h⟩ := chk_e h
  obtain ⟨M2, eM2, h⟩ := blet_e h
  have hFM2 : Fr [20, 21, 22] [] M M2 := by rw [eM2]; exact hFM.stoA (by simp)
  obtain ⟨c3, h⟩ := chk_e h
  obtain ⟨M4, eM4, h⟩ := blet_e h
  have hFM4 : Fr [20, 21, 22] [] M M4 := by rw [eM4]; exact hFM2.stoA (by simp)
  obtain ⟨c5, h⟩ := chk_e h
  obtain ⟨M6, eM6, h⟩ := blet_e h
  have hFM6 : Fr [20, 21, 22] [] M M6 := by rw [eM6]; exact hFM4.stoA (by simp)
  cases h; exact hFM6
theorem w_Jo_enterGrading {a1 a2 a3 a4 : Int} {M : Mem} {r : Int × Mem} (h : d_Jo_enterGrading a1 a2 a3 a4 M = some r) : Fr [27, 28, 29, 31] [(15, 1), (15, 13)] M r.2 := by
  unfold d_Jo_enterGrading at h
  have hFM : Fr [27, 28, 29, 31] [(15, 1), (15, 13)] M M := Fr.rfl'
  obtain ⟨v1, ev1, h⟩ := blet_e h
  obtain ⟨c2, h⟩ := chk_e h
  obtain ⟨M3, eM3, h⟩ := blet_e h
  have hFM3 : Fr [27, 28, 29, 31] [(15, 1), (15, 13)] M M3 := by rw [eM3]; exact hFM.stoA (by simp)
  obtain ⟨c4, h⟩ := chk_e h
  obtain ⟨M5, eM5, h⟩ := blet_e h
  have hFM5 : Fr [27, 28, 29, 31] [(15, 1), (15, 13)] M M5 := by rw [eM5]; exact hFM3.stoA (by simp)
  obtain ⟨c6, h⟩ := chk_e h
  obtain ⟨M7, eM7, h⟩ := blet_e h
  have hFM7 : Fr [27, 28, 29, 31] [(15, 1), (15, 13)] M M7 := by rw [eM7]; exact hFM5.stoA (by simp)
  obtain ⟨c8, h⟩ := chk_e h
  obtain ⟨M9, eM9, h⟩ := blet_e h
  have hFM9 : Fr [27, 28, 29, 31] [(15, 1), (15, 13)] M M9 := by rw [eM9]; exact hFM7.stoA (by simp)
  obtain ⟨M10, eM10, h⟩ := blet_e h
  have hFM10 : Fr [27, 28, 29, 31] [(15, 1), (15, 13)] M M10 := by rw [eM10]; exact hFM9.stoF (by simp)
  obtain ⟨v11, ev11, h⟩ := blet_e h
  obtain ⟨M12, eM12, h⟩ := blet_e h
  have hFM12 : Fr [27, 28, 29, 31] [(15, 1), (15, 13)] M M12 := by rw [eM12]; exact hFM10.stoF (by simp)
  cases h; exact hFM12
theorem w_As_begin_83 {R15 : Int → Int → Mem → Res} (hR15 : ∀ (a1 a2 : Int) (M : Mem) (r : Int × Mem), R15 a1 a2 M = some r → Fr [34] [(32, 2)] M r.2) {a1 a2 : Int} {M : Mem} {r : Int × Mem} (h : k_As_begin_83 R15 a1 a2 M = some r) : Fr [34] [(32, 2)] M r.2 := by
  unfold k_As_begin_83 at h
  have hFM : Fr [34] [(32, 2)] M M := Fr.rfl'
  obtain ⟨v1, ev1, h⟩ := blet_e h
  exact hFM.trans (hR15 a1 v1 M r h)
theorem w_As_begin_78 {R15 : Int → Int → Mem → Res} (hR15 : ∀ (a1 a2 : Int) (M : Mem) (r : Int × Mem), R15 a1 a2 M = some r → Fr [34] [(32, 2)] M r.2) {a1 a2 : Int} {M : Mem} {r : Int × Mem} (h : k_As_begin_78 R15 a1 a2 M = some r) : Fr [34] [(32, 2)] M r.2 := by
  unfold k_As_begin_78 at h
  have hFM : Fr [34] [(32, 2)] M M := Fr.rfl'
  obtain ⟨M1, eM1, h⟩ := blet_e h
  have hFM1 : Fr [34] [(32, 2)] M M1 := by rw [eM1]; exact hFM.stoF (by simp)
  exact hFM1.trans (w_As_begin_83 hR15 h)
theorem w_As_begin_41 {R15 : Int → Int → Mem → Res} (hR15 : ∀ (a1 a2 : Int) (M : Mem) (r : Int × Mem), R15 a1 a2 M = some r → Fr [34] [(32, 2)] M r.2) {a1 a2 s0 : Int} {M : Mem} {r : Int × Mem} (h : k_As_begin_41 R15 a1 a2 s0 M = some r) : Fr [34] [(32, 2)] M r.2 := by
  unfold k_As_begin_41 at h
  have hFM : Fr [34] [(32, 2)] M M := Fr.rfl'
  rcases ite_e h with ⟨c1, h⟩ | ⟨c1, h⟩
  · skip
    exact hFM.trans (w_As_begin_83 hR15 h)
  · skip
    obtain ⟨v2, ev2, h⟩ := blet_e h
    rcases ite_e h with ⟨c3, h⟩ | ⟨c3, h⟩
    · skip
      exact hFM.trans (w_As_begin_78 hR15 h)
    · skip
      obtain ⟨c4, h⟩ := chk_e h
      obtain ⟨v5, ev5, h⟩ := blet_e h
      obtain ⟨v6, ev6, h⟩ := blet_e h
      obtain ⟨c7, h⟩ := chk_e h
      obtain ⟨v8, ev8, h⟩ := blet_e h
      rcases ite_e h with ⟨c9, h⟩ | ⟨c9, h⟩
      · skip
        exact hFM.trans (w_As_begin_83 hR15 h)
      · skip
        exact hFM.trans (w_As_begin_78 hR15 h)
theorem w_As_begin_15 {R15 : Int → Int → Mem → Res} (hR15 : ∀ (a1 a2 : Int) (M : Mem) (r : Int × Mem), R15 a1 a2 M = some r → Fr [34] [(32, 2)] M r.2) {a1 a2 : Int} {M : Mem} {r : Int × Mem} (h : k_As_begin_15 R15 a1 a2 M = some r) : Fr [34] [(32, 2)] M r.2 := by
  unfold k_As_begin_15 at h
  have hFM : Fr [34] [(32, 2)] M M := Fr.rfl'
  obtain ⟨v1, ev1, h⟩ := blet_e h
  rcases ite_e h with ⟨c2, h⟩ | ⟨c2, h⟩
  · skip
    obtain ⟨c3, h⟩ := chk_e h
    obtain ⟨v4, ev4, h⟩ := blet_e h
    rcases ite_e h with ⟨c5, h⟩ | ⟨c5, h⟩
    · skip
      exact hFM.trans (w_As_begin_41 hR15 h)
    · skip
      exact hFM.trans (w_As_begin_41 hR15 h)
  · skip
    cases h; exact hFM
theorem wl_As_begin_15  : ∀ (n : Nat) (a1 a2 : Int) (M : Mem) (r : Int × Mem), fix (fun _ _ _ => none) (k_As_begin_15) n a1 a2 M = some r → Fr [34] [(32, 2)] M r.2 := by
  intro n
  induction n with
  | zero => intro a1 a2 M r h; exact nomatch (show (none : Res) = some r from h)
  | succ n ih => intro a1 a2 M r h; exact w_As_begin_15 ih h
theorem w_As_begin {a1 : Int} {M : Mem} {r : Int × Mem} (h : d_As_begin a1 M = some r) : Fr [34] [(32, 2)] M r.2 := by
  unfold d_As_begin at h
  have hFM : Fr [34] [(32, 2)] M M := Fr.rfl'
  obtain ⟨v1, M2, fv1, h⟩ := bcall_e h
  have hFM2 : Fr [34] [(32, 2)] M M2 := hFM.trans ((w_Ar_fill0 fv1).mono (by simp) (by simp))
  obtain ⟨M3, eM3, h⟩ := blet_e h
  have hFM3 : Fr [34] [(32, 2)] M M3 := by rw [eM3]; exact hFM2.stoF (by simp)
  exact hFM3.trans (wl_As_begin_15 FU a1 0 M3 r h)
theorem w_As_tellWeek {a1 : Int} {M : Mem} {r : Int × Mem} (h : d_As_tellWeek a1 M = some r) : Fr [34] [] M r.2 := by
  unfold d_As_tellWeek at h
  have hFM : Fr [34] [] M M := Fr.rfl'
  obtain ⟨M1, eM1, h⟩ := blet_e h
  have hFM1 : Fr [34] [] M M1 := by rw [eM1]; exact hFM.stoA (by simp)
  obtain ⟨M2, eM2, h⟩ := blet_e h
  have hFM2 : Fr [34] [] M M2 := by rw [eM2]; exact hFM1.stoA (by simp)
  cases h; exact hFM2
theorem w_As_tell {a1 a2 : Int} {M : Mem} {r : Int × Mem} (h : d_As_tell a1 a2 M = some r) : Fr [34] [] M r.2 := by
  unfold d_As_tell at h
  have hFM : Fr [34] [] M M := Fr.rfl'
  obtain ⟨c1, h⟩ := chk_e h
  obtain ⟨M2, eM2, h⟩ := blet_e h
  have hFM2 : Fr [34] [] M M2 := by rw [eM2]; exact hFM.stoA (by simp)
  cases h; exact hFM2
theorem w_Jo_netOf {a1 : Int} {M : Mem} {r : Int × Mem} (h : d_Jo_netOf a1 M = some r) : Fr [] [] M r.2 := by
  unfold d_Jo_netOf at h
  have hFM : Fr [] [] M M := Fr.rfl'
  obtain ⟨c1, h⟩ := chk_e h
  obtain ⟨v2, ev2, h⟩ := blet_e h
  obtain ⟨c3, h⟩ := chk_e h
  obtain ⟨v4, ev4, h⟩ := blet_e h
  cases h; exact hFM
theorem w_Tx_startOf {K : Nat} {a1 : Int} {M : Mem} {r : Int × Mem} (h : d_Tx_startOf K a1 M = some r) : Fr [] [] M r.2 := by
  unfold d_Tx_startOf at h
  have hFM : Fr [] [] M M := Fr.rfl'
  rcases ite_e h with ⟨c1, h⟩ | ⟨c1, h⟩
  · skip
    cases h; exact hFM
  · skip
    obtain ⟨c2, h⟩ := chk_e h
    obtain ⟨v3, ev3, h⟩ := blet_e h
    cases h; exact hFM
theorem w_Tx_stepAt {K : Nat} {a1 : Int} {M : Mem} {r : Int × Mem} (h : d_Tx_stepAt K a1 M = some r) : Fr [] [] M r.2 := by
  unfold d_Tx_stepAt at h
  have hFM : Fr [] [] M M := Fr.rfl'
  obtain ⟨c1, h⟩ := chk_e h
  obtain ⟨v2, ev2, h⟩ := blet_e h
  cases h; exact hFM
theorem w_Tx_numberAt {K : Nat} {a1 : Int} {M : Mem} {r : Int × Mem} (h : d_Tx_numberAt K a1 M = some r) : Fr [] [] M r.2 := by
  unfold d_Tx_numberAt at h
  have hFM : Fr [] [] M M := Fr.rfl'
  obtain ⟨c1, h⟩ := chk_e h
  obtain ⟨v2, ev2, h⟩ := blet_e h
  cases h; exact hFM
theorem w_As_push {a1 a3 : Int} {M : Mem} {r : Int × Mem} (h : d_As_push a1 a3 M = some r) : Fr [37, 38] [(32, 8)] M r.2 := by
  unfold d_As_push at h
  have hFM : Fr [37, 38] [(32, 8)] M M := Fr.rfl'
  obtain ⟨v1, ev1, h⟩ := blet_e h
  rcases ite_e h with ⟨c2, h⟩ | ⟨c2, h⟩
  · skip
    obtain ⟨v3, ev3, h⟩ := blet_e h
    obtain ⟨c4, h⟩ := chk_e h
    obtain ⟨M5, eM5, h⟩ := blet_e h
    have hFM5 : Fr [37, 38] [(32, 8)] M M5 := by rw [eM5]; exact hFM.stoA (by simp)
    obtain ⟨v6, ev6, h⟩ := blet_e h
    obtain ⟨c7, h⟩ := chk_e h
    obtain ⟨M8, eM8, h⟩ := blet_e h
    have hFM8 : Fr [37, 38] [(32, 8)] M M8 := by rw [eM8]; exact hFM5.stoA (by simp)
    obtain ⟨v9, ev9, h⟩ := blet_e h
    obtain ⟨M10, eM10, h⟩ := blet_e h
    have hFM10 : Fr [37, 38] [(32, 8)] M M10 := by rw [eM10]; exact hFM8.stoF (by simp)
    cases h; exact hFM10
  · skip
    cases h; exact hFM
theorem w_As_choose_48  {s0 : Int} {M : Mem} {r : Int × Mem} (h : k_As_choose_48 s0 M = some r) : Fr [37, 38] [(32, 8)] M r.2 := by
  unfold k_As_choose_48 at h
  have hFM : Fr [37, 38] [(32, 8)] M M := Fr.rfl'
  obtain ⟨v1, ev1, h⟩ := blet_e h
  obtain ⟨c2, h⟩ := chk_e h
  obtain ⟨v3, ev3, h⟩ := blet_e h
  obtain ⟨c4, h⟩ := chk_e h
  obtain ⟨M5, eM5, h⟩ := blet_e h
  have hFM5 : Fr [37, 38] [(32, 8)] M M5 := by rw [eM5]; exact hFM.stoA (by simp)
  obtain ⟨v6, ev6, h⟩ := blet_e h
  obtain ⟨c7, h⟩ := chk_e h
  obtain ⟨v8, ev8, h⟩ := blet_e h
  obtain ⟨c9, h⟩ := chk_e h
  obtain ⟨M10, eM10, h⟩ := blet_e h
  have hFM10 : Fr [37, 38] [(32, 8)] M M10 := by rw [eM10]; exact hFM5.stoA (by simp)
  cases h; exact hFM10
theorem w_As_choose {M : Mem} {r : Int × Mem} (h : d_As_choose M = some r) : Fr [37, 38] [(32, 8)] M r.2 := by
  unfold d_As_choose at h
  have hFM : Fr [37, 38] [(32, 8)] M M := Fr.rfl'
  obtain ⟨v1, ev1, h⟩ := blet_e h
  rcases ite_e h with ⟨c2, h⟩ | ⟨c2, h⟩
  · skip
    cases h; exact hFM
  · skip
    obtain ⟨v3, ev3, h⟩ := blet_e h
    obtain ⟨M4, eM4, h⟩ := blet_e h
    have hFM4 : Fr [37, 38] [(32, 8)] M M4 := by rw [eM4]; exact hFM.stoF (by simp)
    obtain ⟨v5, ev5, h⟩ := blet_e h
    obtain ⟨c6, h⟩ := chk_e h
    obtain ⟨v7, ev7, h⟩ := blet_e h
    rcases ite_e h with ⟨c8, h⟩ | ⟨c8, h⟩
    · skip
      obtain ⟨v9, ev9, h⟩ := blet_e h
      exact hFM4.trans (w_As_choose_48 h)
    · skip
      obtain ⟨v10, ev10, h⟩ := blet_e h
      exact hFM4.trans (w_As_choose_48 h)
theorem w_As_joinTests_69  {s1 s2 : Int} {M : Mem} {r : Int × Mem} (h : k_As_joinTests_69 s1 s2 M = some r) : Fr [37] [(32, 8)] M r.2 := by
  unfold k_As_joinTests_69 at h
  have hFM : Fr [37] [(32, 8)] M M := Fr.rfl'
  obtain ⟨c1, h⟩ := chk_e h
  obtain ⟨M2, eM2, h⟩ := blet_e h
  have hFM2 : Fr [37] [(32, 8)] M M2 := by rw [eM2]; exact hFM.stoA (by simp)
  cases h; exact hFM2
theorem w_As_joinTests {a1 : Int} {M : Mem} {r : Int × Mem} (h : d_As_joinTests a1 M = some r) : Fr [37] [(32, 8)] M r.2 := by
  unfold d_As_joinTests at h
  have hFM : Fr [37] [(32, 8)] M M := Fr.rfl'
  obtain ⟨v1, ev1, h⟩ := blet_e h
  rcases ite_e h with ⟨c2, h⟩ | ⟨c2, h⟩
  · skip
    cases h; exact hFM
  · skip
    obtain ⟨v3, ev3, h⟩ := blet_e h
    obtain ⟨M4, eM4, h⟩ := blet_e h
    have hFM4 : Fr [37] [(32, 8)] M M4 := by rw [eM4]; exact hFM.stoF (by simp)
    obtain ⟨v5, ev5, h⟩ := blet_e h
    obtain ⟨c6, h⟩ := chk_e h
    obtain ⟨v7, ev7, h⟩ := blet_e h
    obtain ⟨v8, ev8, h⟩ := blet_e h
    obtain ⟨c9, h⟩ := chk_e h
    obtain ⟨v10, ev10, h⟩ := blet_e h
    obtain ⟨v11, ev11, h⟩ := blet_e h
    rcases ite_e h with ⟨c12, h⟩ | ⟨c12, h⟩
    · skip
      exact hFM4.trans (w_As_joinTests_69 h)
    · skip
      exact hFM4.trans (w_As_joinTests_69 h)
theorem w_As_compare_151  {s1 s2 : Int} {M : Mem} {r : Int × Mem} (h : k_As_compare_151 s1 s2 M = some r) : Fr [37, 38] [(32, 8)] M r.2 := by
  unfold k_As_compare_151 at h
  have hFM : Fr [37, 38] [(32, 8)] M M := Fr.rfl'
  obtain ⟨c1, h⟩ := chk_e h
  obtain ⟨M2, eM2, h⟩ := blet_e h
  have hFM2 : Fr [37, 38] [(32, 8)] M M2 := by rw [eM2]; exact hFM.stoA (by simp)
  obtain ⟨v3, ev3, h⟩ := blet_e h
  obtain ⟨c4, h⟩ := chk_e h
  obtain ⟨M5, eM5, h⟩ := blet_e h
  have hFM5 : Fr [37, 38] [(32, 8)] M M5 := by rw [eM5]; exact hFM2.stoA (by simp)
  cases h; exact hFM5
theorem w_As_compare_150  {s1 : Int} {M : Mem} {r : Int × Mem} (h : k_As_compare_150 s1 M = some r) : Fr [37, 38] [(32, 8)] M r.2 := by
  unfold k_As_compare_150 at h
  have hFM : Fr [37, 38] [(32, 8)] M M := Fr.rfl'
  exact hFM.trans (w_As_compare_151 h)
theorem w_As_compare_124  {a2 a3 s0 : Int} {M : Mem} {r : Int × Mem} (h : k_As_compare_124 a2 a3 s0 M = some r) : Fr [37, 38] [(32, 8)] M r.2 := by
  unfold k_As_compare_124 at h
  have hFM : Fr [37, 38] [(32, 8)] M M := Fr.rfl'
  obtain ⟨v1, ev1, h⟩ := blet_e h
  rcases ite_e h with ⟨c2, h⟩ | ⟨c2, h⟩
  · skip
    rcases ite_e h with ⟨c3, h⟩ | ⟨c3, h⟩
    · skip
      exact hFM.trans (w_As_compare_150 h)
    · skip
      exact hFM.trans (w_As_compare_151 h)
  · skip
    exact hFM.trans (w_As_compare_150 h)
theorem w_As_compare_50  {a1 a2 s0 : Int} {M : Mem} {r : Int × Mem} (h : k_As_compare_50 a1 a2 s0 M = some r) : Fr [37, 38] [(32, 8)] M r.2 := by
  unfold k_As_compare_50 at h
  have hFM : Fr [37, 38] [(32, 8)] M M := Fr.rfl'
  obtain ⟨v1, ev1, h⟩ := blet_e h
  obtain ⟨c2, h⟩ := chk_e h
  obtain ⟨v3, ev3, h⟩ := blet_e h
  obtain ⟨v4, ev4, h⟩ := blet_e h
  obtain ⟨c5, h⟩ := chk_e h
  obtain ⟨v6, ev6, h⟩ := blet_e h
  obtain ⟨v7, M8, fv7, h⟩ := bcall_e h
  have hFM8 : Fr [37, 38] [(32, 8)] M M8 := hFM.trans ((w_Lo_compare fv7).mono (by simp) (by simp))
  rcases ite_e h with ⟨c9, h⟩ | ⟨c9, h⟩
  · skip
    rcases ite_e h with ⟨c10, h⟩ | ⟨c10, h⟩
    · skip
      exact hFM8.trans (w_As_compare_124 h)
    · skip
      exact hFM8.trans (w_As_compare_124 h)
  · skip
    rcases ite_e h with ⟨c11, h⟩ | ⟨c11, h⟩
    · skip
      rcases ite_e h with ⟨c12, h⟩ | ⟨c12, h⟩
      · skip
        exact hFM8.trans (w_As_compare_124 h)
      · skip
        exact hFM8.trans (w_As_compare_124 h)
    · skip
      rcases ite_e h with ⟨c13, h⟩ | ⟨c13, h⟩
      · skip
        exact hFM8.trans (w_As_compare_124 h)
      · skip
        exact hFM8.trans (w_As_compare_124 h)
theorem w_As_compare_45  {a1 a2 : Int} {M : Mem} {r : Int × Mem} (h : k_As_compare_45 a1 a2 M = some r) : Fr [37, 38] [(32, 8)] M r.2 := by
  unfold k_As_compare_45 at h
  have hFM : Fr [37, 38] [(32, 8)] M M := Fr.rfl'
  exact hFM.trans (w_As_compare_50 h)
theorem w_As_compare {a1 a2 : Int} {M : Mem} {r : Int × Mem} (h : d_As_compare a1 a2 M = some r) : Fr [37, 38] [(32, 8)] M r.2 := by
  unfold d_As_compare at h
  have hFM : Fr [37, 38] [(32, 8)] M M := Fr.rfl'
  obtain ⟨v1, ev1, h⟩ := blet_e h
  rcases ite_e h with ⟨c2, h⟩ | ⟨c2, h⟩
  · skip
    cases h; exact hFM
  · skip
    obtain ⟨v3, ev3, h⟩ := blet_e h
    obtain ⟨M4, eM4, h⟩ := blet_e h
    have hFM4 : Fr [37, 38] [(32, 8)] M M4 := by rw [eM4]; exact hFM.stoF (by simp)
    obtain ⟨v5, ev5, h⟩ := blet_e h
    obtain ⟨c6, h⟩ := chk_e h
    obtain ⟨v7, ev7, h⟩ := blet_e h
    rcases ite_e h with ⟨c8, h⟩ | ⟨c8, h⟩
    · skip
      obtain ⟨v9, ev9, h⟩ := blet_e h
      obtain ⟨c10, h⟩ := chk_e h
      obtain ⟨v11, ev11, h⟩ := blet_e h
      rcases ite_e h with ⟨c12, h⟩ | ⟨c12, h⟩
      · skip
        exact hFM4.trans (w_As_compare_50 h)
      · skip
        exact hFM4.trans (w_As_compare_45 h)
    · skip
      exact hFM4.trans (w_As_compare_45 h)
theorem w_As_joined {a0 a1 a3 : Int} {M : Mem} {r : Int × Mem} (h : d_As_joined a0 a1 a3 M = some r) : Fr [] [] M r.2 := by
  unfold d_As_joined at h
  have hFM : Fr [] [] M M := Fr.rfl'
  rcases ite_e h with ⟨c1, h⟩ | ⟨c1, h⟩
  · skip
    cases h; exact hFM
  · rcases ite_e h with ⟨c2, h⟩ | ⟨c2, h⟩
    · skip
      cases h; exact hFM
    · rcases ite_e h with ⟨c3, h⟩ | ⟨c3, h⟩
      · skip
        cases h; exact hFM
      · rcases ite_e h with ⟨c4, h⟩ | ⟨c4, h⟩
        · skip
          rcases ite_e h with ⟨c5, h⟩ | ⟨c5, h⟩
          · skip
            cases h; exact hFM
          · skip
            obtain ⟨c6, h⟩ := chk_e h
            cases h; exact hFM
        · rcases ite_e h with ⟨c7, h⟩ | ⟨c7, h⟩
          · skip
            rcases ite_e h with ⟨c8, h⟩ | ⟨c8, h⟩
            · skip
              cases h; exact hFM
            · skip
              obtain ⟨c9, h⟩ := chk_e h
              cases h; exact hFM
          · rcases ite_e h with ⟨c10, h⟩ | ⟨c10, h⟩
            · skip
              rcases ite_e h with ⟨c11, h⟩ | ⟨c11, h⟩
              · skip
                cases h; exact hFM
              · skip
                cases h; exact hFM
            · skip
              rcases ite_e h with ⟨c12, h⟩ | ⟨c12, h⟩
              · skip
                cases h; exact hFM
              · skip
                cases h; exact hFM
theorem w_As_joinNumbers_140  {s1 s2 : Int} {M : Mem} {r : Int × Mem} (h : k_As_joinNumbers_140 s1 s2 M = some r) : Fr [37, 38] [(32, 8)] M r.2 := by
  unfold k_As_joinNumbers_140 at h
  have hFM : Fr [37, 38] [(32, 8)] M M := Fr.rfl'
  obtain ⟨c1, h⟩ := chk_e h
  obtain ⟨M2, eM2, h⟩ := blet_e h
  have hFM2 : Fr [37, 38] [(32, 8)] M M2 := by rw [eM2]; exact hFM.stoA (by simp)
  cases h; exact hFM2
theorem w_As_joinNumbers_90  {a1 a2 s0 : Int} {M : Mem} {r : Int × Mem} (h : k_As_joinNumbers_90 a1 a2 s0 M = some r) : Fr [37, 38] [(32, 8)] M r.2 := by
  unfold k_As_joinNumbers_90 at h
  have hFM : Fr [37, 38] [(32, 8)] M M := Fr.rfl'
  obtain ⟨v1, ev1, h⟩ := blet_e h
  obtain ⟨c2, h⟩ := chk_e h
  obtain ⟨M3, eM3, h⟩ := blet_e h
  have hFM3 : Fr [37, 38] [(32, 8)] M M3 := by rw [eM3]; exact hFM.stoA (by simp)
  obtain ⟨v4, ev4, h⟩ := blet_e h
  rcases ite_e h with ⟨c5, h⟩ | ⟨c5, h⟩
  · skip
    obtain ⟨v6, ev6, h⟩ := blet_e h
    obtain ⟨c7, h⟩ := chk_e h
    obtain ⟨v8, ev8, h⟩ := blet_e h
    obtain ⟨v9, M10, fv9, h⟩ := bcall_e h
    have hFM10 : Fr [37, 38] [(32, 8)] M M10 := hFM3.trans ((w_As_joined fv9).mono (by simp) (by simp))
    exact hFM10.trans (w_As_joinNumbers_140 h)
  · skip
    exact hFM3.trans (w_As_joinNumbers_140 h)
theorem w_As_joinNumbers_85  {a1 a2 : Int} {M : Mem} {r : Int × Mem} (h : k_As_joinNumbers_85 a1 a2 M = some r) : Fr [37, 38] [(32, 8)] M r.2 := by
  unfold k_As_joinNumbers_85 at h
  have hFM : Fr [37, 38] [(32, 8)] M M := Fr.rfl'
  exact hFM.trans (w_As_joinNumbers_90 h)
theorem w_As_joinNumbers_52  {a1 a2 s0 : Int} {M : Mem} {r : Int × Mem} (h : k_As_joinNumbers_52 a1 a2 s0 M = some r) : Fr [37, 38] [(32, 8)] M r.2 := by
  unfold k_As_joinNumbers_52 at h
  have hFM : Fr [37, 38] [(32, 8)] M M := Fr.rfl'
  obtain ⟨v1, ev1, h⟩ := blet_e h
  obtain ⟨c2, h⟩ := chk_e h
  obtain ⟨v3, ev3, h⟩ := blet_e h
  rcases ite_e h with ⟨c4, h⟩ | ⟨c4, h⟩
  · skip
    obtain ⟨v5, ev5, h⟩ := blet_e h
    obtain ⟨c6, h⟩ := chk_e h
    obtain ⟨v7, ev7, h⟩ := blet_e h
    rcases ite_e h with ⟨c8, h⟩ | ⟨c8, h⟩
    · skip
      rcases ite_e h with ⟨c9, h⟩ | ⟨c9, h⟩
      · skip
        exact hFM.trans (w_As_joinNumbers_90 h)
      · skip
        exact hFM.trans (w_As_joinNumbers_85 h)
    · skip
      exact hFM.trans (w_As_joinNumbers_85 h)
  · skip
    exact hFM.trans (w_As_joinNumbers_85 h)
theorem w_As_joinNumbers_51  {a1 a2 : Int} {M : Mem} {r : Int × Mem} (h : k_As_joinNumbers_51 a1 a2 M = some r) : Fr [37, 38] [(32, 8)] M r.2 := by
  unfold k_As_joinNumbers_51 at h
  have hFM : Fr [37, 38] [(32, 8)] M M := Fr.rfl'
  exact hFM.trans (w_As_joinNumbers_52 h)
theorem w_As_joinNumbers_47  {a1 a2 : Int} {M : Mem} {r : Int × Mem} (h : k_As_joinNumbers_47 a1 a2 M = some r) : Fr [37, 38] [(32, 8)] M r.2 := by
  unfold k_As_joinNumbers_47 at h
  have hFM : Fr [37, 38] [(32, 8)] M M := Fr.rfl'
  exact hFM.trans (w_As_joinNumbers_52 h)
theorem w_As_joinNumbers {a1 : Int} {M : Mem} {r : Int × Mem} (h : d_As_joinNumbers a1 M = some r) : Fr [37, 38] [(32, 8)] M r.2 := by
  unfold d_As_joinNumbers at h
  have hFM : Fr [37, 38] [(32, 8)] M M := Fr.rfl'
  obtain ⟨v1, ev1, h⟩ := blet_e h
  rcases ite_e h with ⟨c2, h⟩ | ⟨c2, h⟩
  · skip
    cases h; exact hFM
  · skip
    obtain ⟨v3, ev3, h⟩ := blet_e h
    obtain ⟨M4, eM4, h⟩ := blet_e h
    have hFM4 : Fr [37, 38] [(32, 8)] M M4 := by rw [eM4]; exact hFM.stoF (by simp)
    obtain ⟨v5, ev5, h⟩ := blet_e h
    obtain ⟨c6, h⟩ := chk_e h
    obtain ⟨v7, ev7, h⟩ := blet_e h
    rcases ite_e h with ⟨c8, h⟩ | ⟨c8, h⟩
    · skip
      rcases ite_e h with ⟨c9, h⟩ | ⟨c9, h⟩
      · skip
        exact hFM4.trans (w_As_joinNumbers_47 h)
      · skip
        rcases ite_e h with ⟨c10, h⟩ | ⟨c10, h⟩
        · skip
          exact hFM4.trans (w_As_joinNumbers_47 h)
        · skip
          exact hFM4.trans (w_As_joinNumbers_51 h)
    · skip
      exact hFM4.trans (w_As_joinNumbers_51 h)
theorem w_As_playStep_150  {s1 s2 : Int} {M : Mem} {r : Int × Mem} (h : k_As_playStep_150 s1 s2 M = some r) : Fr [37, 38] [(32, 8)] M r.2 := by
  unfold k_As_playStep_150 at h
  have hFM : Fr [37, 38] [(32, 8)] M M := Fr.rfl'
  obtain ⟨v1, M2, fv1, h⟩ := bcall_e h
  have hFM2 : Fr [37, 38] [(32, 8)] M M2 := hFM.trans ((w_As_compare fv1).mono (by simp) (by simp))
  cases h; exact hFM2
theorem w_As_playStep {a1 a2 : Int} {M : Mem} {r : Int × Mem} (h : d_As_playStep a1 a2 M = some r) : Fr [37, 38] [(32, 8)] M r.2 := by
  unfold d_As_playStep at h
  have hFM : Fr [37, 38] [(32, 8)] M M := Fr.rfl'
  rcases ite_e h with ⟨c1, h⟩ | ⟨c1, h⟩
  · skip
    obtain ⟨v2, M3, fv2, h⟩ := bcall_e h
    have hFM3 : Fr [37, 38] [(32, 8)] M M3 := hFM.trans ((w_As_push fv2).mono (by simp) (by simp))
    cases h; exact hFM3
  · rcases ite_e h with ⟨c4, h⟩ | ⟨c4, h⟩
    · skip
      obtain ⟨c5, h⟩ := chk_e h
      obtain ⟨v6, ev6, h⟩ := blet_e h
      obtain ⟨v7, M8, fv7, h⟩ := bcall_e h
      have hFM8 : Fr [37, 38] [(32, 8)] M M8 := hFM.trans ((w_As_push fv7).mono (by simp) (by simp))
      cases h; exact hFM8
    · rcases ite_e h with ⟨c9, h⟩ | ⟨c9, h⟩
      · skip
        obtain ⟨c10, h⟩ := chk_e h
        obtain ⟨v11, ev11, h⟩ := blet_e h
        obtain ⟨c12, h⟩ := chk_e h
        obtain ⟨v13, ev13, h⟩ := blet_e h
        obtain ⟨v14, M15, fv14, h⟩ := bcall_e h
        have hFM15 : Fr [37, 38] [(32, 8)] M M15 := hFM.trans ((w_As_push fv14).mono (by simp) (by simp))
        cases h; exact hFM15
      · rcases ite_e h with ⟨c16, h⟩ | ⟨c16, h⟩
        · skip
          obtain ⟨v17, M18, fv17, h⟩ := bcall_e h
          have hFM18 : Fr [37, 38] [(32, 8)] M M18 := hFM.trans ((w_As_choose fv17).mono (by simp) (by simp))
          cases h; exact hFM18
        · rcases ite_e h with ⟨c19, h⟩ | ⟨c19, h⟩
          · skip
            obtain ⟨v20, M21, fv20, h⟩ := bcall_e h
            have hFM21 : Fr [37, 38] [(32, 8)] M M21 := hFM.trans ((w_As_joinNumbers fv20).mono (by simp) (by simp))
            cases h; exact hFM21
          · rcases ite_e h with ⟨c22, h⟩ | ⟨c22, h⟩
            · skip
              obtain ⟨v23, M24, fv23, h⟩ := bcall_e h
              have hFM24 : Fr [37, 38] [(32, 8)] M M24 := hFM.trans ((w_As_joinNumbers fv23).mono (by simp) (by simp))
              cases h; exact hFM24
            · rcases ite_e h with ⟨c25, h⟩ | ⟨c25, h⟩
              · skip
                obtain ⟨v26, M27, fv26, h⟩ := bcall_e h
                have hFM27 : Fr [37, 38] [(32, 8)] M M27 := hFM.trans ((w_As_joinNumbers fv26).mono (by simp) (by simp))
                cases h; exact hFM27
              · rcases ite_e h with ⟨c28, h⟩ | ⟨c28, h⟩
                · skip
                  obtain ⟨v29, M30, fv29, h⟩ := bcall_e h
                  have hFM30 : Fr [37, 38] [(32, 8)] M M30 := hFM.trans ((w_As_joinNumbers fv29).mono (by simp) (by simp))
                  cases h; exact hFM30
                · rcases ite_e h with ⟨c31, h⟩ | ⟨c31, h⟩
                  · skip
                    obtain ⟨v32, M33, fv32, h⟩ := bcall_e h
                    have hFM33 : Fr [37, 38] [(32, 8)] M M33 := hFM.trans ((w_As_joinNumbers fv32).mono (by simp) (by simp))
                    cases h; exact hFM33
                  · rcases ite_e h with ⟨c34, h⟩ | ⟨c34, h⟩
                    · skip
                      obtain ⟨v35, M36, fv35, h⟩ := bcall_e h
                      have hFM36 : Fr [37, 38] [(32, 8)] M M36 := hFM.trans ((w_As_joinNumbers fv35).mono (by simp) (by simp))
                      cases h; exact hFM36
                    · rcases ite_e h with ⟨c37, h⟩ | ⟨c37, h⟩
                      · skip
                        obtain ⟨v38, M39, fv38, h⟩ := bcall_e h
                        have hFM39 : Fr [37, 38] [(32, 8)] M M39 := hFM.trans ((w_As_joinNumbers fv38).mono (by simp) (by simp))
                        cases h; exact hFM39
                      · rcases ite_e h with ⟨c40, h⟩ | ⟨c40, h⟩
                        · skip
                          obtain ⟨v41, M42, fv41, h⟩ := bcall_e h
                          have hFM42 : Fr [37, 38] [(32, 8)] M M42 := hFM.trans ((w_As_joinTests fv41).mono (by simp) (by simp))
                          cases h; exact hFM42
                        · rcases ite_e h with ⟨c43, h⟩ | ⟨c43, h⟩
                          · skip
                            obtain ⟨v44, M45, fv44, h⟩ := bcall_e h
                            have hFM45 : Fr [37, 38] [(32, 8)] M M45 := hFM.trans ((w_As_joinTests fv44).mono (by simp) (by simp))
                            cases h; exact hFM45
                          · rcases ite_e h with ⟨c46, h⟩ | ⟨c46, h⟩
                            · skip
                              rcases ite_e h with ⟨c47, h⟩ | ⟨c47, h⟩
                              · skip
                                exact hFM.trans (w_As_playStep_150 h)
                              · skip
                                exact hFM.trans (w_As_playStep_150 h)
                            · rcases ite_e h with ⟨c48, h⟩ | ⟨c48, h⟩
                              · skip
                                rcases ite_e h with ⟨c49, h⟩ | ⟨c49, h⟩
                                · skip
                                  exact hFM.trans (w_As_playStep_150 h)
                                · skip
                                  exact hFM.trans (w_As_playStep_150 h)
                              · rcases ite_e h with ⟨c50, h⟩ | ⟨c50, h⟩
                                · skip
                                  rcases ite_e h with ⟨c51, h⟩ | ⟨c51, h⟩
                                  · skip
                                    exact hFM.trans (w_As_playStep_150 h)
                                  · skip
                                    exact hFM.trans (w_As_playStep_150 h)
                                · skip
                                  obtain ⟨v52, M53, fv52, h⟩ := bcall_e h
                                  have hFM53 : Fr [37, 38] [(32, 8)] M M53 := hFM.trans ((w_As_joinNumbers fv52).mono (by simp) (by simp))
                                  cases h; exact hFM53
theorem w_As_reckonDefs_19 {K : Nat} {R2 : Int → Int → Mem → Res} {R19 : Int → Int → Int → Mem → Res} (hR2 : ∀ (a2 a3 : Int) (M : Mem) (r : Int × Mem), R2 a2 a3 M = some r → Fr [35, 36, 37, 38] [(32, 8)] M r.2) (hR19 : ∀ (a2 a3 a4 : Int) (M : Mem) (r : Int × Mem), R19 a2 a3 a4 M = some r → Fr [35, 36, 37, 38] [(32, 8)] M r.2) {a2 a3 a4 : Int} {M : Mem} {r : Int × Mem} (h : k_As_reckonDefs_19 K R2 R19 a2 a3 a4 M = some r) : Fr [35, 36, 37, 38] [(32, 8)] M r.2 := by
  unfold k_As_reckonDefs_19 at h
  have hFM : Fr [35, 36, 37, 38] [(32, 8)] M M := Fr.rfl'
  obtain ⟨c1, h⟩ := chk_e h
  obtain ⟨v2, ev2, h⟩ := blet_e h
  rcases ite_e h with ⟨c3, h⟩ | ⟨c3, h⟩
  · skip
    obtain ⟨v4, M5, fv4, h⟩ := bcall_e h
    have hFM5 : Fr [35, 36, 37, 38] [(32, 8)] M M5 := hFM.trans ((w_Tx_stepAt fv4).mono (by simp) (by simp))
    obtain ⟨v6, M7, fv6, h⟩ := bcall_e h
    have hFM7 : Fr [35, 36, 37, 38] [(32, 8)] M M7 := hFM5.trans ((w_Tx_numberAt fv6).mono (by simp) (by simp))
    obtain ⟨v8, M9, fv8, h⟩ := bcall_e h
    have hFM9 : Fr [35, 36, 37, 38] [(32, 8)] M M9 := hFM7.trans ((w_As_playStep fv8).mono (by simp) (by simp))
    obtain ⟨v10, ev10, h⟩ := blet_e h
    exact hFM9.trans (hR19 a2 a3 v10 M9 r h)
  · skip
    obtain ⟨v11, ev11, h⟩ := blet_e h
    obtain ⟨c12, h⟩ := chk_e h
    obtain ⟨M13, eM13, h⟩ := blet_e h
    have hFM13 : Fr [35, 36, 37, 38] [(32, 8)] M M13 := by rw [eM13]; exact hFM.stoA (by simp)
    obtain ⟨v14, ev14, h⟩ := blet_e h
    obtain ⟨c15, h⟩ := chk_e h
    obtain ⟨M16, eM16, h⟩ := blet_e h
    have hFM16 : Fr [35, 36, 37, 38] [(32, 8)] M M16 := by rw [eM16]; exact hFM13.stoA (by simp)
    obtain ⟨v17, ev17, h⟩ := blet_e h
    exact hFM16.trans (hR2 a2 v17 M16 r h)
theorem wl_As_reckonDefs_19 {K : Nat} {R2 : Int → Int → Mem → Res} (hR2 : ∀ (a2 a3 : Int) (M : Mem) (r : Int × Mem), R2 a2 a3 M = some r → Fr [35, 36, 37, 38] [(32, 8)] M r.2) : ∀ (n : Nat) (a2 a3 a4 : Int) (M : Mem) (r : Int × Mem), fix (fun _ _ _ _ => none) (k_As_reckonDefs_19 K R2) n a2 a3 a4 M = some r → Fr [35, 36, 37, 38] [(32, 8)] M r.2 := by
  intro n
  induction n with
  | zero => intro a2 a3 a4 M r h; exact nomatch (show (none : Res) = some r from h)
  | succ n ih => intro a2 a3 a4 M r h; exact w_As_reckonDefs_19 hR2 ih h
theorem w_As_reckonDefs_2 {K : Nat} {R2 : Int → Int → Mem → Res} (hR2 : ∀ (a2 a3 : Int) (M : Mem) (r : Int × Mem), R2 a2 a3 M = some r → Fr [35, 36, 37, 38] [(32, 8)] M r.2) {a2 a3 : Int} {M : Mem} {r : Int × Mem} (h : k_As_reckonDefs_2 K R2 a2 a3 M = some r) : Fr [35, 36, 37, 38] [(32, 8)] M r.2 := by
  unfold k_As_reckonDefs_2 at h
  have hFM : Fr [35, 36, 37, 38] [(32, 8)] M M := Fr.rfl'
  rcases ite_e h with ⟨c1, h⟩ | ⟨c1, h⟩
  · skip
    cases h; exact hFM
  · skip
    obtain ⟨M2, eM2, h⟩ := blet_e h
    have hFM2 : Fr [35, 36, 37, 38] [(32, 8)] M M2 := by rw [eM2]; exact hFM.stoF (by simp)
    obtain ⟨v3, M4, fv3, h⟩ := bcall_e h
    have hFM4 : Fr [35, 36, 37, 38] [(32, 8)] M M4 := hFM2.trans ((w_Tx_startOf fv3).mono (by simp) (by simp))
    exact hFM4.trans (wl_As_reckonDefs_19 hR2 FU a2 a3 v3 M4 r h)
theorem wl_As_reckonDefs_2 {K : Nat}  : ∀ (n : Nat) (a2 a3 : Int) (M : Mem) (r : Int × Mem), fix (fun _ _ _ => none) (k_As_reckonDefs_2 K) n a2 a3 M = some r → Fr [35, 36, 37, 38] [(32, 8)] M r.2 := by
  intro n
  induction n with
  | zero => intro a2 a3 M r h; exact nomatch (show (none : Res) = some r from h)
  | succ n ih => intro a2 a3 M r h; exact w_As_reckonDefs_2 ih h
theorem w_As_reckonDefs {K : Nat} {a2 : Int} {M : Mem} {r : Int × Mem} (h : d_As_reckonDefs K a2 M = some r) : Fr [35, 36, 37, 38] [(32, 8)] M r.2 := by
  unfold d_As_reckonDefs at h
  have hFM : Fr [35, 36, 37, 38] [(32, 8)] M M := Fr.rfl'
  exact hFM.trans (wl_As_reckonDefs_2 FU a2 0 M r h)
theorem w_As_ask_78  {a1 a2 : Int} {M : Mem} {r : Int × Mem} (h : k_As_ask_78 a1 a2 M = some r) : Fr [35, 36, 37, 38] [(32, 8)] M r.2 := by
  unfold k_As_ask_78 at h
  have hFM : Fr [35, 36, 37, 38] [(32, 8)] M M := Fr.rfl'
  obtain ⟨c1, h⟩ := chk_e h
  obtain ⟨v2, ev2, h⟩ := blet_e h
  obtain ⟨c3, h⟩ := chk_e h
  obtain ⟨v4, ev4, h⟩ := blet_e h
  cases h; exact hFM
theorem w_As_ask_77  {a1 s0 : Int} {M : Mem} {r : Int × Mem} (h : k_As_ask_77 a1 s0 M = some r) : Fr [35, 36, 37, 38] [(32, 8)] M r.2 := by
  unfold k_As_ask_77 at h
  have hFM : Fr [35, 36, 37, 38] [(32, 8)] M M := Fr.rfl'
  exact hFM.trans (w_As_ask_78 h)
theorem w_As_ask_33  {a1 a2 s0 : Int} {M : Mem} {r : Int × Mem} (h : k_As_ask_33 a1 a2 s0 M = some r) : Fr [35, 36, 37, 38] [(32, 8)] M r.2 := by
  unfold k_As_ask_33 at h
  have hFM : Fr [35, 36, 37, 38] [(32, 8)] M M := Fr.rfl'
  rcases ite_e h with ⟨c1, h⟩ | ⟨c1, h⟩
  · skip
    exact hFM.trans (w_As_ask_78 h)
  · skip
    obtain ⟨v2, ev2, h⟩ := blet_e h
    obtain ⟨c3, h⟩ := chk_e h
    obtain ⟨v4, M5, fv4, h⟩ := bcall_e h
    have hFM5 : Fr [35, 36, 37, 38] [(32, 8)] M M5 := hFM.trans ((w_As_reckonDefs fv4).mono (by simp) (by simp))
    obtain ⟨c6, h⟩ := chk_e h
    obtain ⟨v7, ev7, h⟩ := blet_e h
    rcases ite_e h with ⟨c8, h⟩ | ⟨c8, h⟩
    · skip
      obtain ⟨c9, h⟩ := chk_e h
      obtain ⟨v10, ev10, h⟩ := blet_e h
      exact hFM5.trans (w_As_ask_77 h)
    · skip
      exact hFM5.trans (w_As_ask_77 h)
theorem w_As_ask {a1 : Int} {M : Mem} {r : Int × Mem} (h : d_As_ask a1 M = some r) : Fr [35, 36, 37, 38] [(32, 8)] M r.2 := by
  unfold d_As_ask at h
  have hFM : Fr [35, 36, 37, 38] [(32, 8)] M M := Fr.rfl'
  obtain ⟨c1, h⟩ := chk_e h
  obtain ⟨v2, ev2, h⟩ := blet_e h
  obtain ⟨v3, ev3, h⟩ := blet_e h
  obtain ⟨v4, ev4, h⟩ := blet_e h
  rcases ite_e h with ⟨c5, h⟩ | ⟨c5, h⟩
  · skip
    exact hFM.trans (w_As_ask_33 h)
  · skip
    obtain ⟨v6, ev6, h⟩ := blet_e h
    obtain ⟨c7, h⟩ := chk_e h
    obtain ⟨c8, h⟩ := chk_e h
    obtain ⟨v9, ev9, h⟩ := blet_e h
    exact hFM.trans (w_As_ask_33 h)
theorem w_Pl_judge_98 {R19 : Int → Int → Mem → Res} (hR19 : ∀ (a1 a2 : Int) (M : Mem) (r : Int × Mem), R19 a1 a2 M = some r → Fr [77, 78] [] M r.2) {a1 a2 : Int} {M : Mem} {r : Int × Mem} (h : k_Pl_judge_98 R19 a1 a2 M = some r) : Fr [77, 78] [] M r.2 := by
  unfold k_Pl_judge_98 at h
  have hFM : Fr [77, 78] [] M M := Fr.rfl'
  obtain ⟨v1, ev1, h⟩ := blet_e h
  exact hFM.trans (hR19 a1 v1 M r h)
theorem w_Pl_judge_19 {R19 : Int → Int → Mem → Res} (hR19 : ∀ (a1 a2 : Int) (M : Mem) (r : Int × Mem), R19 a1 a2 M = some r → Fr [77, 78] [] M r.2) {a1 a2 : Int} {M : Mem} {r : Int × Mem} (h : k_Pl_judge_19 R19 a1 a2 M = some r) : Fr [77, 78] [] M r.2 := by
  unfold k_Pl_judge_19 at h
  have hFM : Fr [77, 78] [] M M := Fr.rfl'
  obtain ⟨v1, ev1, h⟩ := blet_e h
  rcases ite_e h with ⟨c2, h⟩ | ⟨c2, h⟩
  · skip
    obtain ⟨c3, h⟩ := chk_e h
    obtain ⟨v4, ev4, h⟩ := blet_e h
    obtain ⟨c5, h⟩ := chk_e h
    obtain ⟨v6, ev6, h⟩ := blet_e h
    obtain ⟨c7, h⟩ := chk_e h
    obtain ⟨v8, ev8, h⟩ := blet_e h
    rcases ite_e h with ⟨c9, h⟩ | ⟨c9, h⟩
    · skip
      exact hFM.trans (w_Pl_judge_98 hR19 h)
    · skip
      obtain ⟨c10, h⟩ := chk_e h
      obtain ⟨v11, ev11, h⟩ := blet_e h
      rcases ite_e h with ⟨c12, h⟩ | ⟨c12, h⟩
      · skip
        exact hFM.trans (w_Pl_judge_98 hR19 h)
      · skip
        obtain ⟨c13, h⟩ := chk_e h
        obtain ⟨M14, eM14, h⟩ := blet_e h
        have hFM14 : Fr [77, 78] [] M M14 := by rw [eM14]; exact hFM.stoA (by simp)
        obtain ⟨c15, h⟩ := chk_e h
        obtain ⟨v16, ev16, h⟩ := blet_e h
        obtain ⟨c17, h⟩ := chk_e h
        obtain ⟨M18, eM18, h⟩ := blet_e h
        have hFM18 : Fr [77, 78] [] M M18 := by rw [eM18]; exact hFM14.stoA (by simp)
        exact hFM18.trans (w_Pl_judge_98 hR19 h)
  · skip
    cases h; exact hFM
theorem wl_Pl_judge_19  : ∀ (n : Nat) (a1 a2 : Int) (M : Mem) (r : Int × Mem), fix (fun _ _ _ => none) (k_Pl_judge_19) n a1 a2 M = some r → Fr [77, 78] [] M r.2 := by
  intro n
  induction n with
  | zero => intro a1 a2 M r h; exact nomatch (show (none : Res) = some r from h)
  | succ n ih => intro a1 a2 M r h; exact w_Pl_judge_19 ih h
theorem w_Pl_judge {a1 : Int} {M : Mem} {r : Int × Mem} (h : d_Pl_judge a1 M = some r) : Fr [77, 78] [] M r.2 := by
  unfold d_Pl_judge at h
  have hFM : Fr [77, 78] [] M M := Fr.rfl'
  obtain ⟨v1, M2, fv1, h⟩ := bcall_e h
  have hFM2 : Fr [77, 78] [] M M2 := hFM.trans ((w_Ar_fill1 fv1).mono (by simp) (by simp))
  obtain ⟨v3, M4, fv3, h⟩ := bcall_e h
  have hFM4 : Fr [77, 78] [] M M4 := hFM2.trans ((w_Ar_fill1 fv3).mono (by simp) (by simp))
  exact hFM4.trans (wl_Pl_judge_19 FU a1 0 M4 r h)
theorem w_Jo_countKnownBy_2 {R2 : Int → Int → Mem → Res} (hR2 : ∀ (a1 a2 : Int) (M : Mem) (r : Int × Mem), R2 a1 a2 M = some r → Fr [] [] M r.2) {a1 a2 : Int} {M : Mem} {r : Int × Mem} (h : k_Jo_countKnownBy_2 R2 a1 a2 M = some r) : Fr [] [] M r.2 := by
  unfold k_Jo_countKnownBy_2 at h
  have hFM : Fr [] [] M M := Fr.rfl'
  obtain ⟨v1, ev1, h⟩ := blet_e h
  rcases ite_e h with ⟨c2, h⟩ | ⟨c2, h⟩
  · skip
    obtain ⟨c3, h⟩ := chk_e h
    obtain ⟨v4, ev4, h⟩ := blet_e h
    rcases ite_e h with ⟨c5, h⟩ | ⟨c5, h⟩
    · skip
      cases h; exact hFM
    · skip
      obtain ⟨v6, ev6, h⟩ := blet_e h
      exact hFM.trans (hR2 a1 v6 M r h)
  · skip
    cases h; exact hFM
theorem wl_Jo_countKnownBy_2  : ∀ (n : Nat) (a1 a2 : Int) (M : Mem) (r : Int × Mem), fix (fun _ _ _ => none) (k_Jo_countKnownBy_2) n a1 a2 M = some r → Fr [] [] M r.2 := by
  intro n
  induction n with
  | zero => intro a1 a2 M r h; exact nomatch (show (none : Res) = some r from h)
  | succ n ih => intro a1 a2 M r h; exact w_Jo_countKnownBy_2 ih h
theorem w_Jo_countKnownBy {a1 : Int} {M : Mem} {r : Int × Mem} (h : d_Jo_countKnownBy a1 M = some r) : Fr [] [] M r.2 := by
  unfold d_Jo_countKnownBy at h
  have hFM : Fr [] [] M M := Fr.rfl'
  exact hFM.trans (wl_Jo_countKnownBy_2 FU a1 0 M r h)
theorem w_Pl_slotOfBin {a0 a1 a2 : Int} {M : Mem} {r : Int × Mem} (h : d_Pl_slotOfBin a0 a1 a2 M = some r) : Fr [] [] M r.2 := by
  unfold d_Pl_slotOfBin at h
  have hFM : Fr [] [] M M := Fr.rfl'
  cases h; exact hFM
theorem w_Pl_openRow_59  {a1 : Int} {M : Mem} {r : Int × Mem} (h : k_Pl_openRow_59 a1 M = some r) : Fr [81, 82] [(75, 10)] M r.2 := by
  unfold k_Pl_openRow_59 at h
  have hFM : Fr [81, 82] [(75, 10)] M M := Fr.rfl'
  obtain ⟨c1, h⟩ := chk_e h
  obtain ⟨v2, ev2, h⟩ := blet_e h
  cases h; exact hFM
theorem w_Pl_openRow_22 {R22 : Int → Int → Mem → Res} (hR22 : ∀ (a1 a2 : Int) (M : Mem) (r : Int × Mem), R22 a1 a2 M = some r → Fr [81, 82] [(75, 10)] M r.2) {a1 a2 : Int} {M : Mem} {r : Int × Mem} (h : k_Pl_openRow_22 R22 a1 a2 M = some r) : Fr [81, 82] [(75, 10)] M r.2 := by
  unfold k_Pl_openRow_22 at h
  have hFM : Fr [81, 82] [(75, 10)] M M := Fr.rfl'
  rcases ite_e h with ⟨c1, h⟩ | ⟨c1, h⟩
  · skip
    obtain ⟨v2, ev2, h⟩ := blet_e h
    obtain ⟨c3, h⟩ := chk_e h
    obtain ⟨M4, eM4, h⟩ := blet_e h
    have hFM4 : Fr [81, 82] [(75, 10)] M M4 := by rw [eM4]; exact hFM.stoA (by simp)
    obtain ⟨v5, ev5, h⟩ := blet_e h
    exact hFM4.trans (hR22 a1 v5 M4 r h)
  · skip
    obtain ⟨v6, ev6, h⟩ := blet_e h
    obtain ⟨M7, eM7, h⟩ := blet_e h
    have hFM7 : Fr [81, 82] [(75, 10)] M M7 := by rw [eM7]; exact hFM.stoF (by simp)
    exact hFM7.trans (w_Pl_openRow_59 h)
theorem wl_Pl_openRow_22  : ∀ (n : Nat) (a1 a2 : Int) (M : Mem) (r : Int × Mem), fix (fun _ _ _ => none) (k_Pl_openRow_22) n a1 a2 M = some r → Fr [81, 82] [(75, 10)] M r.2 := by
  intro n
  induction n with
  | zero => intro a1 a2 M r h; exact nomatch (show (none : Res) = some r from h)
  | succ n ih => intro a1 a2 M r h; exact w_Pl_openRow_22 ih h
theorem w_Pl_openRow {a1 : Int} {M : Mem} {r : Int × Mem} (h : d_Pl_openRow a1 M = some r) : Fr [81, 82] [(75, 10)] M r.2 := by
  unfold d_Pl_openRow at h
  have hFM : Fr [81, 82] [(75, 10)] M M := Fr.rfl'
  obtain ⟨c1, h⟩ := chk_e h
  obtain ⟨v2, ev2, h⟩ := blet_e h
  rcases ite_e h with ⟨c3, h⟩ | ⟨c3, h⟩
  · skip
    obtain ⟨v4, ev4, h⟩ := blet_e h
    obtain ⟨c5, h⟩ := chk_e h
    obtain ⟨M6, eM6, h⟩ := blet_e h
    have hFM6 : Fr [81, 82] [(75, 10)] M M6 := by rw [eM6]; exact hFM.stoA (by simp)
    exact hFM6.trans (wl_Pl_openRow_22 FU a1 0 M6 r h)
  · skip
    exact hFM.trans (w_Pl_openRow_59 h)
theorem w_Pl_bring {a1 a2 : Int} {M : Mem} {r : Int × Mem} (h : d_Pl_bring a1 a2 M = some r) : Fr [76, 81, 82, 83, 84] [(75, 10)] M r.2 := by
  unfold d_Pl_bring at h
  have hFM : Fr [76, 81, 82, 83, 84] [(75, 10)] M M := Fr.rfl'
  obtain ⟨c1, h⟩ := chk_e h
  obtain ⟨v2, ev2, h⟩ := blet_e h
  obtain ⟨v3, M4, fv3, h⟩ := bcall_e h
  have hFM4 : Fr [76, 81, 82, 83, 84] [(75, 10)] M M4 := hFM.trans ((w_Jo_netOf fv3).mono (by simp) (by simp))
  obtain ⟨c5, h⟩ := chk_e h
  obtain ⟨v6, ev6, h⟩ := blet_e h
  obtain ⟨c7, h⟩ := chk_e h
  obtain ⟨v8, ev8, h⟩ := blet_e h
  obtain ⟨v9, ev9, h⟩ := blet_e h
  obtain ⟨c10, h⟩ := chk_e h
  obtain ⟨M11, eM11, h⟩ := blet_e h
  have hFM11 : Fr [76, 81, 82, 83, 84] [(75, 10)] M M11 := by rw [eM11]; exact hFM4.stoA (by simp)
  obtain ⟨c12, h⟩ := chk_e h
  obtain ⟨v13, ev13, h⟩ := blet_e h
  obtain ⟨c14, h⟩ := chk_e h
  obtain ⟨M15, eM15, h⟩ := blet_e h
  have hFM15 : Fr [76, 81, 82, 83, 84] [(75, 10)] M M15 := by rw [eM15]; exact hFM11.stoA (by simp)
  obtain ⟨c16, h⟩ := chk_e h
  obtain ⟨v17, ev17, h⟩ := blet_e h
  obtain ⟨c18, h⟩ := chk_e h
  obtain ⟨v19, ev19, h⟩ := blet_e h
  obtain ⟨c20, h⟩ := chk_e h
  obtain ⟨M21, eM21, h⟩ := blet_e h
  have hFM21 : Fr [76, 81, 82, 83, 84] [(75, 10)] M M21 := by rw [eM21]; exact hFM15.stoA (by simp)
  obtain ⟨c22, h⟩ := chk_e h
  obtain ⟨v23, ev23, h⟩ := blet_e h
  obtain ⟨c24, h⟩ := chk_e h
  obtain ⟨M25, eM25, h⟩ := blet_e h
  have hFM25 : Fr [76, 81, 82, 83, 84] [(75, 10)] M M25 := by rw [eM25]; exact hFM21.stoA (by simp)
  obtain ⟨c26, h⟩ := chk_e h
  obtain ⟨v27, ev27, h⟩ := blet_e h
  obtain ⟨c28, h⟩ := chk_e h
  obtain ⟨v29, ev29, h⟩ := blet_e h
  obtain ⟨v30, M31, fv30, h⟩ := bcall_e h
  have hFM31 : Fr [76, 81, 82, 83, 84] [(75, 10)] M M31 := hFM25.trans ((w_Pl_slotOfBin fv30).mono (by simp) (by simp))
  obtain ⟨v32, M33, fv32, h⟩ := bcall_e h
  have hFM33 : Fr [76, 81, 82, 83, 84] [(75, 10)] M M33 := hFM31.trans ((w_Pl_openRow fv32).mono (by simp) (by simp))
  obtain ⟨c34, h⟩ := chk_e h
  obtain ⟨v35, ev35, h⟩ := blet_e h
  obtain ⟨c36, h⟩ := chk_e h
  obtain ⟨M37, eM37, h⟩ := blet_e h
  have hFM37 : Fr [76, 81, 82, 83, 84] [(75, 10)] M M37 := by rw [eM37]; exact hFM33.stoA (by simp)
  cases h; exact hFM37
theorem w_Pl_bushelsAt_38 {R38 : Int → Int → Int → Mem → Res} (hR38 : ∀ (a3 a4 a6 : Int) (M : Mem) (r : Int × Mem), R38 a3 a4 a6 M = some r → Fr [] [] M r.2) {a3 a4 a6 : Int} {M : Mem} {r : Int × Mem} (h : k_Pl_bushelsAt_38 R38 a3 a4 a6 M = some r) : Fr [] [] M r.2 := by
  unfold k_Pl_bushelsAt_38 at h
  have hFM : Fr [] [] M M := Fr.rfl'
  rcases ite_e h with ⟨c1, h⟩ | ⟨c1, h⟩
  · skip
    obtain ⟨c2, h⟩ := chk_e h
    obtain ⟨v3, ev3, h⟩ := blet_e h
    obtain ⟨v4, ev4, h⟩ := blet_e h
    obtain ⟨v5, ev5, h⟩ := blet_e h
    exact hFM.trans (hR38 a3 v4 v5 M r h)
  · skip
    cases h; exact hFM
theorem wl_Pl_bushelsAt_38  : ∀ (n : Nat) (a3 a4 a6 : Int) (M : Mem) (r : Int × Mem), fix (fun _ _ _ _ => none) (k_Pl_bushelsAt_38) n a3 a4 a6 M = some r → Fr [] [] M r.2 := by
  intro n
  induction n with
  | zero => intro a3 a4 a6 M r h; exact nomatch (show (none : Res) = some r from h)
  | succ n ih => intro a3 a4 a6 M r h; exact w_Pl_bushelsAt_38 ih h
theorem w_Pl_bushelsAt {a1 a2 : Int} {M : Mem} {r : Int × Mem} (h : d_Pl_bushelsAt a1 a2 M = some r) : Fr [] [] M r.2 := by
  unfold d_Pl_bushelsAt at h
  have hFM : Fr [] [] M M := Fr.rfl'
  obtain ⟨c1, h⟩ := chk_e h
  obtain ⟨v2, ev2, h⟩ := blet_e h
  rcases ite_e h with ⟨c3, h⟩ | ⟨c3, h⟩
  · skip
    cases h; exact hFM
  · skip
    rcases ite_e h with ⟨c4, h⟩ | ⟨c4, h⟩
    · skip
      exact hFM.trans (wl_Pl_bushelsAt_38 FU v2 0 0 M r h)
    · skip
      obtain ⟨c5, h⟩ := chk_e h
      obtain ⟨v6, ev6, h⟩ := blet_e h
      cases h; exact hFM
theorem w_Pl_placeOfGreatest_22 {k0 : Nat} {R4 : Int → Int → Mem → Res} (hR4 : ∀ (a1 a2 : Int) (M : Mem) (r : Int × Mem), R4 a1 a2 M = some r → Fr [] [] M r.2) {a1 a2 : Int} {M : Mem} {r : Int × Mem} (h : k_Pl_placeOfGreatest_22 k0 R4 a1 a2 M = some r) : Fr [] [] M r.2 := by
  unfold k_Pl_placeOfGreatest_22 at h
  have hFM : Fr [] [] M M := Fr.rfl'
  obtain ⟨v1, ev1, h⟩ := blet_e h
  exact hFM.trans (hR4 a1 v1 M r h)
theorem w_Pl_placeOfGreatest_4 {k0 : Nat} {R4 : Int → Int → Mem → Res} (hR4 : ∀ (a1 a2 : Int) (M : Mem) (r : Int × Mem), R4 a1 a2 M = some r → Fr [] [] M r.2) {a1 a2 : Int} {M : Mem} {r : Int × Mem} (h : k_Pl_placeOfGreatest_4 k0 R4 a1 a2 M = some r) : Fr [] [] M r.2 := by
  unfold k_Pl_placeOfGreatest_4 at h
  have hFM : Fr [] [] M M := Fr.rfl'
  rcases ite_e h with ⟨c1, h⟩ | ⟨c1, h⟩
  · skip
    obtain ⟨c2, h⟩ := chk_e h
    obtain ⟨v3, ev3, h⟩ := blet_e h
    obtain ⟨c4, h⟩ := chk_e h
    obtain ⟨v5, ev5, h⟩ := blet_e h
    rcases ite_e h with ⟨c6, h⟩ | ⟨c6, h⟩
    · skip
      exact hFM.trans (w_Pl_placeOfGreatest_22 hR4 h)
    · skip
      exact hFM.trans (w_Pl_placeOfGreatest_22 hR4 h)
  · skip
    cases h; exact hFM
theorem wl_Pl_placeOfGreatest_4 {k0 : Nat}  : ∀ (n : Nat) (a1 a2 : Int) (M : Mem) (r : Int × Mem), fix (fun _ _ _ => none) (k_Pl_placeOfGreatest_4 k0) n a1 a2 M = some r → Fr [] [] M r.2 := by
  intro n
  induction n with
  | zero => intro a1 a2 M r h; exact nomatch (show (none : Res) = some r from h)
  | succ n ih => intro a1 a2 M r h; exact w_Pl_placeOfGreatest_4 ih h
theorem w_Pl_placeOfGreatest {k0 : Nat} {M : Mem} {r : Int × Mem} (h : d_Pl_placeOfGreatest k0 M = some r) : Fr [] [] M r.2 := by
  unfold d_Pl_placeOfGreatest at h
  have hFM : Fr [] [] M M := Fr.rfl'
  exact hFM.trans (wl_Pl_placeOfGreatest_4 FU 0 1 M r h)
theorem w_Pl_part_104 {k3 : Nat} {k4 : Nat} {R104 : Int → Int → Mem → Res} (hR104 : ∀ (a7 a9 : Int) (M : Mem) (r : Int × Mem), R104 a7 a9 M = some r → Fr [87, k4] [] M r.2) {a7 a9 : Int} {M : Mem} {r : Int × Mem} (h : k_Pl_part_104 k3 k4 R104 a7 a9 M = some r) : Fr [87, k4] [] M r.2 := by
  unfold k_Pl_part_104 at h
  have hFM : Fr [87, k4] [] M M := Fr.rfl'
  rcases ite_e h with ⟨c1, h⟩ | ⟨c1, h⟩
  · skip
    rcases ite_e h with ⟨c2, h⟩ | ⟨c2, h⟩
    · skip
      obtain ⟨v3, M4, fv3, h⟩ := bcall_e h
      have hFM4 : Fr [87, k4] [] M M4 := hFM.trans ((w_Pl_placeOfGreatest fv3).mono (by simp) (by simp))
      obtain ⟨c5, h⟩ := chk_e h
      obtain ⟨v6, ev6, h⟩ := blet_e h
      obtain ⟨c7, h⟩ := chk_e h
      obtain ⟨M8, eM8, h⟩ := blet_e h
      have hFM8 : Fr [87, k4] [] M M8 := by rw [eM8]; exact hFM4.stoA (by simp)
      obtain ⟨c9, h⟩ := chk_e h
      obtain ⟨M10, eM10, h⟩ := blet_e h
      have hFM10 : Fr [87, k4] [] M M10 := by rw [eM10]; exact hFM8.stoA (by simp)
      obtain ⟨v11, ev11, h⟩ := blet_e h
      exact hFM10.trans (hR104 a7 v11 M10 r h)
    · skip
      cases h; exact hFM
  · skip
    cases h; exact hFM
theorem wl_Pl_part_104 {k3 : Nat} {k4 : Nat}  : ∀ (n : Nat) (a7 a9 : Int) (M : Mem) (r : Int × Mem), fix (fun _ _ _ => none) (k_Pl_part_104 k3 k4) n a7 a9 M = some r → Fr [87, k4] [] M r.2 := by
  intro n
  induction n with
  | zero => intro a7 a9 M r h; exact nomatch (show (none : Res) = some r from h)
  | succ n ih => intro a7 a9 M r h; exact w_Pl_part_104 ih h
theorem w_Pl_part_48 {k3 : Nat} {k4 : Nat} {R48 : Int → Int → Int → Int → Mem → Res} (hR48 : ∀ (a1 a5 a7 a9 : Int) (M : Mem) (r : Int × Mem), R48 a1 a5 a7 a9 M = some r → Fr [87, k4] [] M r.2) {a1 a5 a7 a9 : Int} {M : Mem} {r : Int × Mem} (h : k_Pl_part_48 k3 k4 R48 a1 a5 a7 a9 M = some r) : Fr [87, k4] [] M r.2 := by
  unfold k_Pl_part_48 at h
  have hFM : Fr [87, k4] [] M M := Fr.rfl'
  rcases ite_e h with ⟨c1, h⟩ | ⟨c1, h⟩
  · skip
    obtain ⟨c2, h⟩ := chk_e h
    obtain ⟨v3, ev3, h⟩ := blet_e h
    obtain ⟨c4, h⟩ := chk_e h
    obtain ⟨c5, h⟩ := chk_e h
    obtain ⟨M6, eM6, h⟩ := blet_e h
    have hFM6 : Fr [87, k4] [] M M6 := by rw [eM6]; exact hFM.stoA (by simp)
    obtain ⟨c7, h⟩ := chk_e h
    obtain ⟨v8, ev8, h⟩ := blet_e h
    obtain ⟨c9, h⟩ := chk_e h
    obtain ⟨c10, h⟩ := chk_e h
    obtain ⟨M11, eM11, h⟩ := blet_e h
    have hFM11 : Fr [87, k4] [] M M11 := by rw [eM11]; exact hFM6.stoA (by simp)
    obtain ⟨c12, h⟩ := chk_e h
    obtain ⟨v13, ev13, h⟩ := blet_e h
    obtain ⟨v14, ev14, h⟩ := blet_e h
    obtain ⟨v15, ev15, h⟩ := blet_e h
    exact hFM11.trans (hR48 a1 a5 v14 v15 M11 r h)
  · skip
    exact hFM.trans (wl_Pl_part_104 FU a7 0 M r h)
theorem wl_Pl_part_48 {k3 : Nat} {k4 : Nat}  : ∀ (n : Nat) (a1 a5 a7 a9 : Int) (M : Mem) (r : Int × Mem), fix (fun _ _ _ _ _ => none) (k_Pl_part_48 k3 k4) n a1 a5 a7 a9 M = some r → Fr [87, k4] [] M r.2 := by
  intro n
  induction n with
  | zero => intro a1 a5 a7 a9 M r h; exact nomatch (show (none : Res) = some r from h)
  | succ n ih => intro a1 a5 a7 a9 M r h; exact w_Pl_part_48 ih h
theorem w_Pl_part_6 {k3 : Nat} {k4 : Nat} {R6 : Int → Int → Int → Mem → Res} (hR6 : ∀ (a1 a5 a7 : Int) (M : Mem) (r : Int × Mem), R6 a1 a5 a7 M = some r → Fr [87, k4] [] M r.2) {a1 a5 a7 : Int} {M : Mem} {r : Int × Mem} (h : k_Pl_part_6 k3 k4 R6 a1 a5 a7 M = some r) : Fr [87, k4] [] M r.2 := by
  unfold k_Pl_part_6 at h
  have hFM : Fr [87, k4] [] M M := Fr.rfl'
  rcases ite_e h with ⟨c1, h⟩ | ⟨c1, h⟩
  · skip
    obtain ⟨c2, h⟩ := chk_e h
    obtain ⟨v3, ev3, h⟩ := blet_e h
    obtain ⟨v4, ev4, h⟩ := blet_e h
    obtain ⟨c5, h⟩ := chk_e h
    obtain ⟨M6, eM6, h⟩ := blet_e h
    have hFM6 : Fr [87, k4] [] M M6 := by rw [eM6]; exact hFM.stoA (by simp)
    obtain ⟨v7, ev7, h⟩ := blet_e h
    exact hFM6.trans (hR6 a1 v4 v7 M6 r h)
  · skip
    rcases ite_e h with ⟨c8, h⟩ | ⟨c8, h⟩
    · skip
      exact hFM.trans (wl_Pl_part_48 FU a1 a5 a1 0 M r h)
    · skip
      cases h; exact hFM
theorem wl_Pl_part_6 {k3 : Nat} {k4 : Nat}  : ∀ (n : Nat) (a1 a5 a7 : Int) (M : Mem) (r : Int × Mem), fix (fun _ _ _ _ => none) (k_Pl_part_6 k3 k4) n a1 a5 a7 M = some r → Fr [87, k4] [] M r.2 := by
  intro n
  induction n with
  | zero => intro a1 a5 a7 M r h; exact nomatch (show (none : Res) = some r from h)
  | succ n ih => intro a1 a5 a7 M r h; exact w_Pl_part_6 ih h
theorem w_Pl_part {k3 : Nat} {k4 : Nat} {a1 : Int} {M : Mem} {r : Int × Mem} (h : d_Pl_part k3 k4 a1 M = some r) : Fr [87, k4] [] M r.2 := by
  unfold d_Pl_part at h
  have hFM : Fr [87, k4] [] M M := Fr.rfl'
  exact hFM.trans (wl_Pl_part_6 FU a1 0 0 M r h)
theorem w_Pl_takeParts_103 {R103 : Int → Int → Mem → Res} (hR103 : ∀ (a5 a6 : Int) (M : Mem) (r : Int × Mem), R103 a5 a6 M = some r → Fr [76, 82, 85, 86, 87] [(75, 14)] M r.2) {a5 a6 : Int} {M : Mem} {r : Int × Mem} (h : k_Pl_takeParts_103 R103 a5 a6 M = some r) : Fr [76, 82, 85, 86, 87] [(75, 14)] M r.2 := by
  unfold k_Pl_takeParts_103 at h
  have hFM : Fr [76, 82, 85, 86, 87] [(75, 14)] M M := Fr.rfl'
  rcases ite_e h with ⟨c1, h⟩ | ⟨c1, h⟩
  · skip
    obtain ⟨c2, h⟩ := chk_e h
    obtain ⟨v3, ev3, h⟩ := blet_e h
    obtain ⟨c4, h⟩ := chk_e h
    obtain ⟨v5, ev5, h⟩ := blet_e h
    obtain ⟨c6, h⟩ := chk_e h
    obtain ⟨M7, eM7, h⟩ := blet_e h
    have hFM7 : Fr [76, 82, 85, 86, 87] [(75, 14)] M M7 := by rw [eM7]; exact hFM.stoA (by simp)
    obtain ⟨v8, ev8, h⟩ := blet_e h
    exact hFM7.trans (hR103 a5 v8 M7 r h)
  · skip
    cases h; exact hFM
theorem wl_Pl_takeParts_103  : ∀ (n : Nat) (a5 a6 : Int) (M : Mem) (r : Int × Mem), fix (fun _ _ _ => none) (k_Pl_takeParts_103) n a5 a6 M = some r → Fr [76, 82, 85, 86, 87] [(75, 14)] M r.2 := by
  intro n
  induction n with
  | zero => intro a5 a6 M r h; exact nomatch (show (none : Res) = some r from h)
  | succ n ih => intro a5 a6 M r h; exact w_Pl_takeParts_103 ih h
theorem w_Pl_takeParts {a1 a2 : Int} {M : Mem} {r : Int × Mem} (h : d_Pl_takeParts a1 a2 M = some r) : Fr [76, 82, 85, 86, 87] [(75, 14)] M r.2 := by
  unfold d_Pl_takeParts at h
  have hFM : Fr [76, 82, 85, 86, 87] [(75, 14)] M M := Fr.rfl'
  obtain ⟨c1, h⟩ := chk_e h
  obtain ⟨v2, ev2, h⟩ := blet_e h
  obtain ⟨v3, M4, fv3, h⟩ := bcall_e h
  have hFM4 : Fr [76, 82, 85, 86, 87] [(75, 14)] M M4 := hFM.trans ((w_Pl_bushelsAt fv3).mono (by simp) (by simp))
  obtain ⟨v5, ev5, h⟩ := blet_e h
  obtain ⟨c6, h⟩ := chk_e h
  obtain ⟨M7, eM7, h⟩ := blet_e h
  have hFM7 : Fr [76, 82, 85, 86, 87] [(75, 14)] M M7 := by rw [eM7]; exact hFM4.stoA (by simp)
  obtain ⟨v8, ev8, h⟩ := blet_e h
  obtain ⟨M9, eM9, h⟩ := blet_e h
  have hFM9 : Fr [76, 82, 85, 86, 87] [(75, 14)] M M9 := by rw [eM9]; exact hFM7.stoF (by simp)
  obtain ⟨v10, M11, fv10, h⟩ := bcall_e h
  have hFM11 : Fr [76, 82, 85, 86, 87] [(75, 14)] M M11 := hFM9.trans ((w_Ar_fill0 fv10).mono (by simp) (by simp))
  obtain ⟨c12, h⟩ := chk_e h
  obtain ⟨v13, ev13, h⟩ := blet_e h
  rcases ite_e h with ⟨c14, h⟩ | ⟨c14, h⟩
  · skip
    cases h; exact hFM11
  · skip
    obtain ⟨c15, h⟩ := chk_e h
    obtain ⟨M16, eM16, h⟩ := blet_e h
    have hFM16 : Fr [76, 82, 85, 86, 87] [(75, 14)] M M16 := by rw [eM16]; exact hFM11.copy (by simp)
    obtain ⟨v17, M18, fv17, h⟩ := bcall_e h
    have hFM18 : Fr [76, 82, 85, 86, 87] [(75, 14)] M M18 := hFM16.trans ((w_Pl_part fv17).mono (by simp) (by simp))
    exact hFM18.trans (wl_Pl_takeParts_103 FU v13 0 M18 r h)
theorem w_Pl_slotOfPort {a0 a1 a2 : Int} {M : Mem} {r : Int × Mem} (h : d_Pl_slotOfPort a0 a1 a2 M = some r) : Fr [] [] M r.2 := by
  unfold d_Pl_slotOfPort at h
  have hFM : Fr [] [] M M := Fr.rfl'
  obtain ⟨v1, M2, fv1, h⟩ := bcall_e h
  have hFM2 : Fr [] [] M M2 := hFM.trans ((w_Pl_slotOfBin fv1).mono (by simp) (by simp))
  cases h; exact hFM2
theorem w_Pl_addParts_2 {R2 : Int → Int → Mem → Res} (hR2 : ∀ (a1 a2 : Int) (M : Mem) (r : Int × Mem), R2 a1 a2 M = some r → Fr [82] [] M r.2) {a1 a2 : Int} {M : Mem} {r : Int × Mem} (h : k_Pl_addParts_2 R2 a1 a2 M = some r) : Fr [82] [] M r.2 := by
  unfold k_Pl_addParts_2 at h
  have hFM : Fr [82] [] M M := Fr.rfl'
  rcases ite_e h with ⟨c1, h⟩ | ⟨c1, h⟩
  · skip
    obtain ⟨c2, h⟩ := chk_e h
    obtain ⟨v3, ev3, h⟩ := blet_e h
    obtain ⟨c4, h⟩ := chk_e h
    obtain ⟨v5, ev5, h⟩ := blet_e h
    obtain ⟨c6, h⟩ := chk_e h
    obtain ⟨M7, eM7, h⟩ := blet_e h
    have hFM7 : Fr [82] [] M M7 := by rw [eM7]; exact hFM.stoA (by simp)
    obtain ⟨v8, ev8, h⟩ := blet_e h
    exact hFM7.trans (hR2 a1 v8 M7 r h)
  · skip
    cases h; exact hFM
theorem wl_Pl_addParts_2  : ∀ (n : Nat) (a1 a2 : Int) (M : Mem) (r : Int × Mem), fix (fun _ _ _ => none) (k_Pl_addParts_2) n a1 a2 M = some r → Fr [82] [] M r.2 := by
  intro n
  induction n with
  | zero => intro a1 a2 M r h; exact nomatch (show (none : Res) = some r from h)
  | succ n ih => intro a1 a2 M r h; exact w_Pl_addParts_2 ih h
theorem w_Pl_addParts {a1 : Int} {M : Mem} {r : Int × Mem} (h : d_Pl_addParts a1 M = some r) : Fr [82] [] M r.2 := by
  unfold d_Pl_addParts at h
  have hFM : Fr [82] [] M M := Fr.rfl'
  exact hFM.trans (wl_Pl_addParts_2 FU a1 0 M r h)
theorem w_Pl_countParts_2 {R2 : Int → Int → Mem → Res} (hR2 : ∀ (a1 a2 : Int) (M : Mem) (r : Int × Mem), R2 a1 a2 M = some r → Fr [84] [] M r.2) {a1 a2 : Int} {M : Mem} {r : Int × Mem} (h : k_Pl_countParts_2 R2 a1 a2 M = some r) : Fr [84] [] M r.2 := by
  unfold k_Pl_countParts_2 at h
  have hFM : Fr [84] [] M M := Fr.rfl'
  rcases ite_e h with ⟨c1, h⟩ | ⟨c1, h⟩
  · skip
    obtain ⟨c2, h⟩ := chk_e h
    obtain ⟨v3, ev3, h⟩ := blet_e h
    obtain ⟨c4, h⟩ := chk_e h
    obtain ⟨v5, ev5, h⟩ := blet_e h
    obtain ⟨c6, h⟩ := chk_e h
    obtain ⟨M7, eM7, h⟩ := blet_e h
    have hFM7 : Fr [84] [] M M7 := by rw [eM7]; exact hFM.stoA (by simp)
    obtain ⟨v8, ev8, h⟩ := blet_e h
    exact hFM7.trans (hR2 a1 v8 M7 r h)
  · skip
    cases h; exact hFM
theorem wl_Pl_countParts_2  : ∀ (n : Nat) (a1 a2 : Int) (M : Mem) (r : Int × Mem), fix (fun _ _ _ => none) (k_Pl_countParts_2) n a1 a2 M = some r → Fr [84] [] M r.2 := by
  intro n
  induction n with
  | zero => intro a1 a2 M r h; exact nomatch (show (none : Res) = some r from h)
  | succ n ih => intro a1 a2 M r h; exact w_Pl_countParts_2 ih h
theorem w_Pl_countParts {a1 : Int} {M : Mem} {r : Int × Mem} (h : d_Pl_countParts a1 M = some r) : Fr [84] [] M r.2 := by
  unfold d_Pl_countParts at h
  have hFM : Fr [84] [] M M := Fr.rfl'
  exact hFM.trans (wl_Pl_countParts_2 FU a1 0 M r h)
theorem w_Pl_playEvent {a1 : Int} {M : Mem} {r : Int × Mem} (h : d_Pl_playEvent a1 M = some r) : Fr [76, 81, 82, 83, 84, 85, 86, 87] [(75, 10), (75, 14)] M r.2 := by
  unfold d_Pl_playEvent at h
  have hFM : Fr [76, 81, 82, 83, 84, 85, 86, 87] [(75, 10), (75, 14)] M M := Fr.rfl'
  obtain ⟨c1, h⟩ := chk_e h
  obtain ⟨v2, ev2, h⟩ := blet_e h
  obtain ⟨c3, h⟩ := chk_e h
  obtain ⟨v4, ev4, h⟩ := blet_e h
  obtain ⟨c5, h⟩ := chk_e h
  obtain ⟨v6, ev6, h⟩ := blet_e h
  obtain ⟨c7, h⟩ := chk_e h
  obtain ⟨v8, ev8, h⟩ := blet_e h
  obtain ⟨c9, h⟩ := chk_e h
  obtain ⟨v10, ev10, h⟩ := blet_e h
  rcases ite_e h with ⟨c11, h⟩ | ⟨c11, h⟩
  · skip
    obtain ⟨v12, M13, fv12, h⟩ := bcall_e h
    have hFM13 : Fr [76, 81, 82, 83, 84, 85, 86, 87] [(75, 10), (75, 14)] M M13 := hFM.trans ((w_Pl_bring fv12).mono (by simp) (by simp))
    cases h; exact hFM13
  · rcases ite_e h with ⟨c14, h⟩ | ⟨c14, h⟩
    · skip
      obtain ⟨v15, M16, fv15, h⟩ := bcall_e h
      have hFM16 : Fr [76, 81, 82, 83, 84, 85, 86, 87] [(75, 10), (75, 14)] M M16 := hFM.trans ((w_Pl_slotOfBin fv15).mono (by simp) (by simp))
      obtain ⟨v17, M18, fv17, h⟩ := bcall_e h
      have hFM18 : Fr [76, 81, 82, 83, 84, 85, 86, 87] [(75, 10), (75, 14)] M M18 := hFM16.trans ((w_Pl_takeParts fv17).mono (by simp) (by simp))
      obtain ⟨c19, h⟩ := chk_e h
      obtain ⟨v20, ev20, h⟩ := blet_e h
      obtain ⟨c21, h⟩ := chk_e h
      obtain ⟨v22, ev22, h⟩ := blet_e h
      obtain ⟨c23, h⟩ := chk_e h
      obtain ⟨M24, eM24, h⟩ := blet_e h
      have hFM24 : Fr [76, 81, 82, 83, 84, 85, 86, 87] [(75, 10), (75, 14)] M M24 := by rw [eM24]; exact hFM18.stoA (by simp)
      obtain ⟨v25, M26, fv25, h⟩ := bcall_e h
      have hFM26 : Fr [76, 81, 82, 83, 84, 85, 86, 87] [(75, 10), (75, 14)] M M26 := hFM24.trans ((w_Pl_slotOfPort fv25).mono (by simp) (by simp))
      obtain ⟨v27, M28, fv27, h⟩ := bcall_e h
      have hFM28 : Fr [76, 81, 82, 83, 84, 85, 86, 87] [(75, 10), (75, 14)] M M28 := hFM26.trans ((w_Pl_openRow fv27).mono (by simp) (by simp))
      obtain ⟨v29, M30, fv29, h⟩ := bcall_e h
      have hFM30 : Fr [76, 81, 82, 83, 84, 85, 86, 87] [(75, 10), (75, 14)] M M30 := hFM28.trans ((w_Pl_addParts fv29).mono (by simp) (by simp))
      cases h; exact hFM30
    · rcases ite_e h with ⟨c31, h⟩ | ⟨c31, h⟩
      · skip
        obtain ⟨v32, M33, fv32, h⟩ := bcall_e h
        have hFM33 : Fr [76, 81, 82, 83, 84, 85, 86, 87] [(75, 10), (75, 14)] M M33 := hFM.trans ((w_Pl_slotOfPort fv32).mono (by simp) (by simp))
        obtain ⟨v34, M35, fv34, h⟩ := bcall_e h
        have hFM35 : Fr [76, 81, 82, 83, 84, 85, 86, 87] [(75, 10), (75, 14)] M M35 := hFM33.trans ((w_Pl_takeParts fv34).mono (by simp) (by simp))
        obtain ⟨v36, M37, fv36, h⟩ := bcall_e h
        have hFM37 : Fr [76, 81, 82, 83, 84, 85, 86, 87] [(75, 10), (75, 14)] M M37 := hFM35.trans ((w_Pl_countParts fv36).mono (by simp) (by simp))
        cases h; exact hFM37
      · skip
        obtain ⟨v38, M39, fv38, h⟩ := bcall_e h
        have hFM39 : Fr [76, 81, 82, 83, 84, 85, 86, 87] [(75, 10), (75, 14)] M M39 := hFM.trans ((w_Pl_slotOfBin fv38).mono (by simp) (by simp))
        obtain ⟨v40, M41, fv40, h⟩ := bcall_e h
        have hFM41 : Fr [76, 81, 82, 83, 84, 85, 86, 87] [(75, 10), (75, 14)] M M41 := hFM39.trans ((w_Pl_takeParts fv40).mono (by simp) (by simp))
        obtain ⟨c42, h⟩ := chk_e h
        obtain ⟨v43, ev43, h⟩ := blet_e h
        obtain ⟨c44, h⟩ := chk_e h
        obtain ⟨v45, ev45, h⟩ := blet_e h
        obtain ⟨c46, h⟩ := chk_e h
        obtain ⟨M47, eM47, h⟩ := blet_e h
        have hFM47 : Fr [76, 81, 82, 83, 84, 85, 86, 87] [(75, 10), (75, 14)] M M47 := by rw [eM47]; exact hFM41.stoA (by simp)
        obtain ⟨v48, M49, fv48, h⟩ := bcall_e h
        have hFM49 : Fr [76, 81, 82, 83, 84, 85, 86, 87] [(75, 10), (75, 14)] M M49 := hFM47.trans ((w_Pl_countParts fv48).mono (by simp) (by simp))
        cases h; exact hFM49
theorem w_Pl_replay_53 {R53 : Int → Mem → Res} (hR53 : ∀ (a2 : Int) (M : Mem) (r : Int × Mem), R53 a2 M = some r → Fr [76, 77, 78, 81, 82, 83, 84, 85, 86, 87] [(75, 3), (75, 10), (75, 14)] M r.2) {a2 : Int} {M : Mem} {r : Int × Mem} (h : k_Pl_replay_53 R53 a2 M = some r) : Fr [76, 77, 78, 81, 82, 83, 84, 85, 86, 87] [(75, 3), (75, 10), (75, 14)] M r.2 := by
  unfold k_Pl_replay_53 at h
  have hFM : Fr [76, 77, 78, 81, 82, 83, 84, 85, 86, 87] [(75, 3), (75, 10), (75, 14)] M M := Fr.rfl'
  obtain ⟨v1, ev1, h⟩ := blet_e h
  rcases ite_e h with ⟨c2, h⟩ | ⟨c2, h⟩
  · skip
    obtain ⟨v3, M4, fv3, h⟩ := bcall_e h
    have hFM4 : Fr [76, 77, 78, 81, 82, 83, 84, 85, 86, 87] [(75, 3), (75, 10), (75, 14)] M M4 := hFM.trans ((w_Pl_playEvent fv3).mono (by simp) (by simp))
    obtain ⟨v5, ev5, h⟩ := blet_e h
    exact hFM4.trans (hR53 v5 M4 r h)
  · skip
    cases h; exact hFM
theorem wl_Pl_replay_53  : ∀ (n : Nat) (a2 : Int) (M : Mem) (r : Int × Mem), fix (fun _ _ => none) (k_Pl_replay_53) n a2 M = some r → Fr [76, 77, 78, 81, 82, 83, 84, 85, 86, 87] [(75, 3), (75, 10), (75, 14)] M r.2 := by
  intro n
  induction n with
  | zero => intro a2 M r h; exact nomatch (show (none : Res) = some r from h)
  | succ n ih => intro a2 M r h; exact w_Pl_replay_53 ih h
theorem w_Pl_replay {a1 : Int} {M : Mem} {r : Int × Mem} (h : d_Pl_replay a1 M = some r) : Fr [76, 77, 78, 81, 82, 83, 84, 85, 86, 87] [(75, 3), (75, 10), (75, 14)] M r.2 := by
  unfold d_Pl_replay at h
  have hFM : Fr [76, 77, 78, 81, 82, 83, 84, 85, 86, 87] [(75, 3), (75, 10), (75, 14)] M M := Fr.rfl'
  obtain ⟨v1, M2, fv1, h⟩ := bcall_e h
  have hFM2 : Fr [76, 77, 78, 81, 82, 83, 84, 85, 86, 87] [(75, 3), (75, 10), (75, 14)] M M2 := hFM.trans ((w_Ar_fill1 fv1).mono (by simp) (by simp))
  obtain ⟨M3, eM3, h⟩ := blet_e h
  have hFM3 : Fr [76, 77, 78, 81, 82, 83, 84, 85, 86, 87] [(75, 3), (75, 10), (75, 14)] M M3 := by rw [eM3]; exact hFM2.stoF (by simp)
  obtain ⟨v4, M5, fv4, h⟩ := bcall_e h
  have hFM5 : Fr [76, 77, 78, 81, 82, 83, 84, 85, 86, 87] [(75, 3), (75, 10), (75, 14)] M M5 := hFM3.trans ((w_Ar_fill1 fv4).mono (by simp) (by simp))
  obtain ⟨v6, M7, fv6, h⟩ := bcall_e h
  have hFM7 : Fr [76, 77, 78, 81, 82, 83, 84, 85, 86, 87] [(75, 3), (75, 10), (75, 14)] M M7 := hFM5.trans ((w_Ar_fill1 fv6).mono (by simp) (by simp))
  obtain ⟨M8, eM8, h⟩ := blet_e h
  have hFM8 : Fr [76, 77, 78, 81, 82, 83, 84, 85, 86, 87] [(75, 3), (75, 10), (75, 14)] M M8 := by rw [eM8]; exact hFM7.stoF (by simp)
  obtain ⟨v9, M10, fv9, h⟩ := bcall_e h
  have hFM10 : Fr [76, 77, 78, 81, 82, 83, 84, 85, 86, 87] [(75, 3), (75, 10), (75, 14)] M M10 := hFM8.trans ((w_Pl_judge fv9).mono (by simp) (by simp))
  obtain ⟨v11, M12, fv11, h⟩ := bcall_e h
  have hFM12 : Fr [76, 77, 78, 81, 82, 83, 84, 85, 86, 87] [(75, 3), (75, 10), (75, 14)] M M12 := hFM10.trans ((w_Jo_countKnownBy fv11).mono (by simp) (by simp))
  obtain ⟨M13, eM13, h⟩ := blet_e h
  have hFM13 : Fr [76, 77, 78, 81, 82, 83, 84, 85, 86, 87] [(75, 3), (75, 10), (75, 14)] M M13 := by rw [eM13]; exact hFM12.stoF (by simp)
  exact hFM13.trans (wl_Pl_replay_53 FU 0 M13 r h)
theorem w_Pl_totalOf_32 {R32 : Int → Int → Int → Mem → Res} (hR32 : ∀ (a1 a3 a4 : Int) (M : Mem) (r : Int × Mem), R32 a1 a3 a4 M = some r → Fr [] [] M r.2) {a1 a3 a4 : Int} {M : Mem} {r : Int × Mem} (h : k_Pl_totalOf_32 R32 a1 a3 a4 M = some r) : Fr [] [] M r.2 := by
  unfold k_Pl_totalOf_32 at h
  have hFM : Fr [] [] M M := Fr.rfl'
  rcases ite_e h with ⟨c1, h⟩ | ⟨c1, h⟩
  · skip
    obtain ⟨c2, h⟩ := chk_e h
    obtain ⟨v3, ev3, h⟩ := blet_e h
    obtain ⟨v4, ev4, h⟩ := blet_e h
    obtain ⟨v5, ev5, h⟩ := blet_e h
    exact hFM.trans (hR32 a1 v4 v5 M r h)
  · skip
    cases h; exact hFM
theorem wl_Pl_totalOf_32  : ∀ (n : Nat) (a1 a3 a4 : Int) (M : Mem) (r : Int × Mem), fix (fun _ _ _ _ => none) (k_Pl_totalOf_32) n a1 a3 a4 M = some r → Fr [] [] M r.2 := by
  intro n
  induction n with
  | zero => intro a1 a3 a4 M r h; exact nomatch (show (none : Res) = some r from h)
  | succ n ih => intro a1 a3 a4 M r h; exact w_Pl_totalOf_32 ih h
theorem w_Pl_totalOf {a1 a2 : Int} {M : Mem} {r : Int × Mem} (h : d_Pl_totalOf a1 a2 M = some r) : Fr [] [] M r.2 := by
  unfold d_Pl_totalOf at h
  have hFM : Fr [] [] M M := Fr.rfl'
  rcases ite_e h with ⟨c1, h⟩ | ⟨c1, h⟩
  · skip
    obtain ⟨v2, ev2, h⟩ := blet_e h
    cases h; exact hFM
  · skip
    rcases ite_e h with ⟨c3, h⟩ | ⟨c3, h⟩
    · skip
      exact hFM.trans (wl_Pl_totalOf_32 FU a1 0 0 M r h)
    · skip
      obtain ⟨c4, h⟩ := chk_e h
      obtain ⟨v5, ev5, h⟩ := blet_e h
      cases h; exact hFM
theorem w_Pa_hasRoomToFeed {M : Mem} {r : Int × Mem} (h : d_Pa_hasRoomToFeed M = some r) : Fr [] [] M r.2 := by
  unfold d_Pa_hasRoomToFeed at h
  have hFM : Fr [] [] M M := Fr.rfl'
  obtain ⟨v1, ev1, h⟩ := blet_e h
  rcases ite_e h with ⟨c2, h⟩ | ⟨c2, h⟩
  · skip
    cases h; exact hFM
  · skip
    cases h; exact hFM
theorem w_Pa_take_40 {R3 : Int → Int → Mem → Res} (hR3 : ∀ (a1 a2 : Int) (M : Mem) (r : Int × Mem), R3 a1 a2 M = some r → Fr [56] [(55, 1)] M r.2) {a1 a2 : Int} {M : Mem} {r : Int × Mem} (h : k_Pa_take_40 R3 a1 a2 M = some r) : Fr [56] [(55, 1)] M r.2 := by
  unfold k_Pa_take_40 at h
  have hFM : Fr [56] [(55, 1)] M M := Fr.rfl'
  obtain ⟨v1, ev1, h⟩ := blet_e h
  exact hFM.trans (hR3 a1 v1 M r h)
theorem w_Pa_take_3 {R3 : Int → Int → Mem → Res} (hR3 : ∀ (a1 a2 : Int) (M : Mem) (r : Int × Mem), R3 a1 a2 M = some r → Fr [56] [(55, 1)] M r.2) {a1 a2 : Int} {M : Mem} {r : Int × Mem} (h : k_Pa_take_3 R3 a1 a2 M = some r) : Fr [56] [(55, 1)] M r.2 := by
  unfold k_Pa_take_3 at h
  have hFM : Fr [56] [(55, 1)] M M := Fr.rfl'
  rcases ite_e h with ⟨c1, h⟩ | ⟨c1, h⟩
  · skip
    cases h; exact hFM
  · skip
    obtain ⟨v2, ev2, h⟩ := blet_e h
    rcases ite_e h with ⟨c3, h⟩ | ⟨c3, h⟩
    · skip
      obtain ⟨v4, ev4, h⟩ := blet_e h
      obtain ⟨c5, h⟩ := chk_e h
      obtain ⟨M6, eM6, h⟩ := blet_e h
      have hFM6 : Fr [56] [(55, 1)] M M6 := by rw [eM6]; exact hFM.stoA (by simp)
      obtain ⟨v7, ev7, h⟩ := blet_e h
      obtain ⟨M8, eM8, h⟩ := blet_e h
      have hFM8 : Fr [56] [(55, 1)] M M8 := by rw [eM8]; exact hFM6.stoF (by simp)
      exact hFM8.trans (w_Pa_take_40 hR3 h)
    · skip
      exact hFM.trans (w_Pa_take_40 hR3 h)
theorem wl_Pa_take_3  : ∀ (n : Nat) (a1 a2 : Int) (M : Mem) (r : Int × Mem), fix (fun _ _ _ => none) (k_Pa_take_3) n a1 a2 M = some r → Fr [56] [(55, 1)] M r.2 := by
  intro n
  induction n with
  | zero => intro a1 a2 M r h; exact nomatch (show (none : Res) = some r from h)
  | succ n ih => intro a1 a2 M r h; exact w_Pa_take_3 ih h
theorem w_Pa_take {a1 : Int} {M : Mem} {r : Int × Mem} (h : d_Pa_take a1 M = some r) : Fr [56] [(55, 1)] M r.2 := by
  unfold d_Pa_take at h
  have hFM : Fr [56] [(55, 1)] M M := Fr.rfl'
  exact hFM.trans (wl_Pa_take_3 FU a1 24 M r h)
theorem w_Tx_empty {K : Nat} {M : Mem} {r : Int × Mem} (h : d_Tx_empty K M = some r) : Fr [(K + 3), K] [] M r.2 := by
  unfold d_Tx_empty at h
  have hFM : Fr [(K + 3), K] [] M M := Fr.rfl'
  obtain ⟨M1, eM1, h⟩ := blet_e h
  have hFM1 : Fr [(K + 3), K] [] M M1 := by rw [eM1]; exact hFM.stoA (by simp)
  obtain ⟨M2, eM2, h⟩ := blet_e h
  have hFM2 : Fr [(K + 3), K] [] M M2 := by rw [eM2]; exact hFM1.stoA (by simp)
  obtain ⟨v3, M4, fv3, h⟩ := bcall_e h
  have hFM4 : Fr [(K + 3), K] [] M M4 := hFM2.trans ((w_Ar_fill1 fv3).mono (by simp) (by simp))
  cases h; exact hFM4
theorem w_Pa_isLetter {a0 : Int} {M : Mem} {r : Int × Mem} (h : d_Pa_isLetter a0 M = some r) : Fr [] [] M r.2 := by
  unfold d_Pa_isLetter at h
  have hFM : Fr [] [] M M := Fr.rfl'
  rcases ite_e h with ⟨c1, h⟩ | ⟨c1, h⟩
  · skip
    cases h; exact hFM
  · skip
    rcases ite_e h with ⟨c2, h⟩ | ⟨c2, h⟩
    · skip
      cases h; exact hFM
    · skip
      cases h; exact hFM
theorem w_Pa_find_67 {i0 : Nat} {R8 : Int → Int → Int → Int → Mem → Res} (hR8 : ∀ (a1 a3 a4 a6 : Int) (M : Mem) (r : Int × Mem), R8 a1 a3 a4 a6 M = some r → Fr [] [] M r.2) {a1 a3 a4 a6 : Int} {M : Mem} {r : Int × Mem} (h : k_Pa_find_67 i0 R8 a1 a3 a4 a6 M = some r) : Fr [] [] M r.2 := by
  unfold k_Pa_find_67 at h
  have hFM : Fr [] [] M M := Fr.rfl'
  obtain ⟨v1, ev1, h⟩ := blet_e h
  exact hFM.trans (hR8 a1 a3 a4 v1 M r h)
theorem w_Pa_find_8 {i0 : Nat} {R8 : Int → Int → Int → Int → Mem → Res} (hR8 : ∀ (a1 a3 a4 a6 : Int) (M : Mem) (r : Int × Mem), R8 a1 a3 a4 a6 M = some r → Fr [] [] M r.2) {a1 a3 a4 a6 : Int} {M : Mem} {r : Int × Mem} (h : k_Pa_find_8 i0 R8 a1 a3 a4 a6 M = some r) : Fr [] [] M r.2 := by
  unfold k_Pa_find_8 at h
  have hFM : Fr [] [] M M := Fr.rfl'
  obtain ⟨v1, M2, fv1, h⟩ := bcall_e h
  have hFM2 : Fr [] [] M M2 := hFM.trans ((w_St_length fv1).mono (by simp) (by simp))
  rcases ite_e h with ⟨c3, h⟩ | ⟨c3, h⟩
  · skip
    obtain ⟨v4, M5, fv4, h⟩ := bcall_e h
    have hFM5 : Fr [] [] M M5 := hFM2.trans ((w_St_charAt fv4).mono (by simp) (by simp))
    rcases ite_e h with ⟨c6, h⟩ | ⟨c6, h⟩
    · skip
      rcases ite_e h with ⟨c7, h⟩ | ⟨c7, h⟩
      · skip
        cases h; exact hFM5
      · skip
        obtain ⟨v8, ev8, h⟩ := blet_e h
        exact hFM5.trans (w_Pa_find_67 hR8 h)
    · skip
      obtain ⟨v9, ev9, h⟩ := blet_e h
      exact hFM5.trans (w_Pa_find_67 hR8 h)
  · skip
    rcases ite_e h with ⟨c10, h⟩ | ⟨c10, h⟩
    · skip
      cases h; exact hFM2
    · skip
      cases h; exact hFM2
theorem wl_Pa_find_8 {i0 : Nat}  : ∀ (n : Nat) (a1 a3 a4 a6 : Int) (M : Mem) (r : Int × Mem), fix (fun _ _ _ _ _ => none) (k_Pa_find_8 i0) n a1 a3 a4 a6 M = some r → Fr [] [] M r.2 := by
  intro n
  induction n with
  | zero => intro a1 a3 a4 a6 M r h; exact nomatch (show (none : Res) = some r from h)
  | succ n ih => intro a1 a3 a4 a6 M r h; exact w_Pa_find_8 ih h
theorem w_Pa_find {i0 : Nat} {a1 : Int} {M : Mem} {r : Int × Mem} (h : d_Pa_find i0 a1 M = some r) : Fr [] [] M r.2 := by
  unfold d_Pa_find at h
  have hFM : Fr [] [] M M := Fr.rfl'
  exact hFM.trans (wl_Pa_find_8 FU a1 0 0 0 M r h)
theorem w_Pa_scanWord_111  {s1 : Int} {M : Mem} {r : Int × Mem} (h : k_Pa_scanWord_111 s1 M = some r) : Fr [] [(55, 7), (55, 8), (55, 11)] M r.2 := by
  unfold k_Pa_scanWord_111 at h
  have hFM : Fr [] [(55, 7), (55, 8), (55, 11)] M M := Fr.rfl'
  obtain ⟨M1, eM1, h⟩ := blet_e h
  have hFM1 : Fr [] [(55, 7), (55, 8), (55, 11)] M M1 := by rw [eM1]; exact hFM.stoF (by simp)
  cases h; exact hFM1
theorem w_Pa_scanWord_85  {s1 : Int} {M : Mem} {r : Int × Mem} (h : k_Pa_scanWord_85 s1 M = some r) : Fr [] [(55, 7), (55, 8), (55, 11)] M r.2 := by
  unfold k_Pa_scanWord_85 at h
  have hFM : Fr [] [(55, 7), (55, 8), (55, 11)] M M := Fr.rfl'
  obtain ⟨M1, eM1, h⟩ := blet_e h
  have hFM1 : Fr [] [(55, 7), (55, 8), (55, 11)] M M1 := by rw [eM1]; exact hFM.stoF (by simp)
  obtain ⟨v2, ev2, h⟩ := blet_e h
  obtain ⟨v3, M4, fv3, h⟩ := bcall_e h
  have hFM4 : Fr [] [(55, 7), (55, 8), (55, 11)] M M4 := hFM1.trans ((w_Pa_find fv3).mono (by simp) (by simp))
  rcases ite_e h with ⟨c5, h⟩ | ⟨c5, h⟩
  · skip
    exact hFM4.trans (w_Pa_scanWord_111 h)
  · skip
    exact hFM4.trans (w_Pa_scanWord_111 h)
theorem w_Pa_scanWord_63  {a1 : Int} {M : Mem} {r : Int × Mem} (h : k_Pa_scanWord_63 a1 M = some r) : Fr [] [(55, 7), (55, 8), (55, 11)] M r.2 := by
  unfold k_Pa_scanWord_63 at h
  have hFM : Fr [] [(55, 7), (55, 8), (55, 11)] M M := Fr.rfl'
  obtain ⟨v1, ev1, h⟩ := blet_e h
  obtain ⟨v2, ev2, h⟩ := blet_e h
  rcases ite_e h with ⟨c3, h⟩ | ⟨c3, h⟩
  · skip
    exact hFM.trans (w_Pa_scanWord_85 h)
  · skip
    exact hFM.trans (w_Pa_scanWord_85 h)
theorem w_Pa_scanWord_2 {R2 : Int → Mem → Res} (hR2 : ∀ (a1 : Int) (M : Mem) (r : Int × Mem), R2 a1 M = some r → Fr [] [(55, 7), (55, 8), (55, 11)] M r.2) {a1 : Int} {M : Mem} {r : Int × Mem} (h : k_Pa_scanWord_2 R2 a1 M = some r) : Fr [] [(55, 7), (55, 8), (55, 11)] M r.2 := by
  unfold k_Pa_scanWord_2 at h
  have hFM : Fr [] [(55, 7), (55, 8), (55, 11)] M M := Fr.rfl'
  obtain ⟨v1, ev1, h⟩ := blet_e h
  obtain ⟨v2, ev2, h⟩ := blet_e h
  rcases ite_e h with ⟨c3, h⟩ | ⟨c3, h⟩
  · skip
    obtain ⟨v4, ev4, h⟩ := blet_e h
    obtain ⟨c5, h⟩ := chk_e h
    obtain ⟨v6, ev6, h⟩ := blet_e h
    obtain ⟨v7, M8, fv7, h⟩ := bcall_e h
    have hFM8 : Fr [] [(55, 7), (55, 8), (55, 11)] M M8 := hFM.trans ((w_Pa_isLetter fv7).mono (by simp) (by simp))
    rcases ite_e h with ⟨c9, h⟩ | ⟨c9, h⟩
    · skip
      exact hFM8.trans (w_Pa_scanWord_63 h)
    · skip
      obtain ⟨v10, ev10, h⟩ := blet_e h
      obtain ⟨c11, h⟩ := chk_e h
      obtain ⟨v12, ev12, h⟩ := blet_e h
      obtain ⟨v13, ev13, h⟩ := blet_e h
      obtain ⟨v14, ev14, h⟩ := blet_e h
      obtain ⟨M15, eM15, h⟩ := blet_e h
      have hFM15 : Fr [] [(55, 7), (55, 8), (55, 11)] M M15 := by rw [eM15]; exact hFM8.stoF (by simp)
      exact hFM15.trans (hR2 v13 M15 r h)
  · skip
    exact hFM.trans (w_Pa_scanWord_63 h)
theorem wl_Pa_scanWord_2  : ∀ (n : Nat) (a1 : Int) (M : Mem) (r : Int × Mem), fix (fun _ _ => none) (k_Pa_scanWord_2) n a1 M = some r → Fr [] [(55, 7), (55, 8), (55, 11)] M r.2 := by
  intro n
  induction n with
  | zero => intro a1 M r h; exact nomatch (show (none : Res) = some r from h)
  | succ n ih => intro a1 M r h; exact w_Pa_scanWord_2 ih h
theorem w_Pa_scanWord {M : Mem} {r : Int × Mem} (h : d_Pa_scanWord M = some r) : Fr [] [(55, 7), (55, 8), (55, 11)] M r.2 := by
  unfold d_Pa_scanWord at h
  have hFM : Fr [] [(55, 7), (55, 8), (55, 11)] M M := Fr.rfl'
  exact hFM.trans (wl_Pa_scanWord_2 FU 0 M r h)
theorem w_Pa_isDigit {a0 : Int} {M : Mem} {r : Int × Mem} (h : d_Pa_isDigit a0 M = some r) : Fr [] [] M r.2 := by
  unfold d_Pa_isDigit at h
  have hFM : Fr [] [] M M := Fr.rfl'
  rcases ite_e h with ⟨c1, h⟩ | ⟨c1, h⟩
  · skip
    cases h; exact hFM
  · skip
    rcases ite_e h with ⟨c2, h⟩ | ⟨c2, h⟩
    · skip
      cases h; exact hFM
    · skip
      cases h; exact hFM
theorem w_Pa_fail_20  {M : Mem} {r : Int × Mem} (h : k_Pa_fail_20 M = some r) : Fr [] [(55, 2), (55, 3), (55, 8)] M r.2 := by
  unfold k_Pa_fail_20 at h
  have hFM : Fr [] [(55, 2), (55, 3), (55, 8)] M M := Fr.rfl'
  obtain ⟨M1, eM1, h⟩ := blet_e h
  have hFM1 : Fr [] [(55, 2), (55, 3), (55, 8)] M M1 := by rw [eM1]; exact hFM.stoF (by simp)
  cases h; exact hFM1
theorem w_Pa_fail {a1 : Int} {M : Mem} {r : Int × Mem} (h : d_Pa_fail a1 M = some r) : Fr [] [(55, 2), (55, 3), (55, 8)] M r.2 := by
  unfold d_Pa_fail at h
  have hFM : Fr [] [(55, 2), (55, 3), (55, 8)] M M := Fr.rfl'
  obtain ⟨v1, ev1, h⟩ := blet_e h
  rcases ite_e h with ⟨c2, h⟩ | ⟨c2, h⟩
  · skip
    obtain ⟨M3, eM3, h⟩ := blet_e h
    have hFM3 : Fr [] [(55, 2), (55, 3), (55, 8)] M M3 := by rw [eM3]; exact hFM.stoF (by simp)
    obtain ⟨v4, ev4, h⟩ := blet_e h
    obtain ⟨M5, eM5, h⟩ := blet_e h
    have hFM5 : Fr [] [(55, 2), (55, 3), (55, 8)] M M5 := by rw [eM5]; exact hFM3.stoF (by simp)
    exact hFM5.trans (w_Pa_fail_20 h)
  · skip
    exact hFM.trans (w_Pa_fail_20 h)
theorem w_Pa_scanNumber_68  {M : Mem} {r : Int × Mem} (h : k_Pa_scanNumber_68 M = some r) : Fr [] [(55, 2), (55, 3), (55, 7), (55, 8), (55, 10)] M r.2 := by
  unfold k_Pa_scanNumber_68 at h
  have hFM : Fr [] [(55, 2), (55, 3), (55, 7), (55, 8), (55, 10)] M M := Fr.rfl'
  obtain ⟨M1, eM1, h⟩ := blet_e h
  have hFM1 : Fr [] [(55, 2), (55, 3), (55, 7), (55, 8), (55, 10)] M M1 := by rw [eM1]; exact hFM.stoF (by simp)
  obtain ⟨v2, ev2, h⟩ := blet_e h
  obtain ⟨v3, ev3, h⟩ := blet_e h
  rcases ite_e h with ⟨c4, h⟩ | ⟨c4, h⟩
  · skip
    obtain ⟨v5, M6, fv5, h⟩ := bcall_e h
    have hFM6 : Fr [] [(55, 2), (55, 3), (55, 7), (55, 8), (55, 10)] M M6 := hFM1.trans ((w_Pa_fail fv5).mono (by simp) (by simp))
    cases h; exact hFM6
  · skip
    cases h; exact hFM1
theorem w_Pa_scanNumber_5 {R5 : Mem → Res} (hR5 : ∀ (M : Mem) (r : Int × Mem), R5  M = some r → Fr [] [(55, 2), (55, 3), (55, 7), (55, 8), (55, 10)] M r.2) {M : Mem} {r : Int × Mem} (h : k_Pa_scanNumber_5 R5 M = some r) : Fr [] [(55, 2), (55, 3), (55, 7), (55, 8), (55, 10)] M r.2 := by
  unfold k_Pa_scanNumber_5 at h
  have hFM : Fr [] [(55, 2), (55, 3), (55, 7), (55, 8), (55, 10)] M M := Fr.rfl'
  obtain ⟨v1, ev1, h⟩ := blet_e h
  obtain ⟨v2, ev2, h⟩ := blet_e h
  rcases ite_e h with ⟨c3, h⟩ | ⟨c3, h⟩
  · skip
    obtain ⟨v4, ev4, h⟩ := blet_e h
    obtain ⟨c5, h⟩ := chk_e h
    obtain ⟨v6, ev6, h⟩ := blet_e h
    obtain ⟨v7, M8, fv7, h⟩ := bcall_e h
    have hFM8 : Fr [] [(55, 2), (55, 3), (55, 7), (55, 8), (55, 10)] M M8 := hFM.trans ((w_Pa_isDigit fv7).mono (by simp) (by simp))
    rcases ite_e h with ⟨c9, h⟩ | ⟨c9, h⟩
    · skip
      exact hFM8.trans (w_Pa_scanNumber_68 h)
    · skip
      obtain ⟨v10, ev10, h⟩ := blet_e h
      obtain ⟨v11, ev11, h⟩ := blet_e h
      obtain ⟨c12, h⟩ := chk_e h
      obtain ⟨v13, ev13, h⟩ := blet_e h
      obtain ⟨M14, eM14, h⟩ := blet_e h
      have hFM14 : Fr [] [(55, 2), (55, 3), (55, 7), (55, 8), (55, 10)] M M14 := by rw [eM14]; exact hFM8.stoF (by simp)
      obtain ⟨v15, ev15, h⟩ := blet_e h
      obtain ⟨M16, eM16, h⟩ := blet_e h
      have hFM16 : Fr [] [(55, 2), (55, 3), (55, 7), (55, 8), (55, 10)] M M16 := by rw [eM16]; exact hFM14.stoF (by simp)
      exact hFM16.trans (hR5  M16 r h)
  · skip
    exact hFM.trans (w_Pa_scanNumber_68 h)
theorem wl_Pa_scanNumber_5  : ∀ (n : Nat) (M : Mem) (r : Int × Mem), fix (fun _ => none) (k_Pa_scanNumber_5) n M = some r → Fr [] [(55, 2), (55, 3), (55, 7), (55, 8), (55, 10)] M r.2 := by
  intro n
  induction n with
  | zero => intro M r h; exact nomatch (show (none : Res) = some r from h)
  | succ n ih => intro M r h; exact w_Pa_scanNumber_5 ih h
theorem w_Pa_scanNumber {M : Mem} {r : Int × Mem} (h : d_Pa_scanNumber M = some r) : Fr [] [(55, 2), (55, 3), (55, 7), (55, 8), (55, 10)] M r.2 := by
  unfold d_Pa_scanNumber at h
  have hFM : Fr [] [(55, 2), (55, 3), (55, 7), (55, 8), (55, 10)] M M := Fr.rfl'
  obtain ⟨M1, eM1, h⟩ := blet_e h
  have hFM1 : Fr [] [(55, 2), (55, 3), (55, 7), (55, 8), (55, 10)] M M1 := by rw [eM1]; exact hFM.stoF (by simp)
  exact hFM1.trans (wl_Pa_scanNumber_5 FU  M1 r h)
theorem w_Pa_isSign {a0 : Int} {M : Mem} {r : Int × Mem} (h : d_Pa_isSign a0 M = some r) : Fr [] [] M r.2 := by
  unfold d_Pa_isSign at h
  have hFM : Fr [] [] M M := Fr.rfl'
  rcases ite_e h with ⟨c1, h⟩ | ⟨c1, h⟩
  · skip
    obtain ⟨v2, M3, fv2, h⟩ := bcall_e h
    have hFM3 : Fr [] [] M M3 := hFM.trans ((w_St_indexOf0 fv2).mono (by simp) (by simp))
    rcases ite_e h with ⟨c4, h⟩ | ⟨c4, h⟩
    · skip
      cases h; exact hFM3
    · skip
      cases h; exact hFM3
  · skip
    cases h; exact hFM
theorem w_Pa_advance_60  {M : Mem} {r : Int × Mem} (h : k_Pa_advance_60 M = some r) : Fr [] [(55, 2), (55, 3), (55, 7), (55, 8), (55, 9), (55, 10), (55, 11)] M r.2 := by
  unfold k_Pa_advance_60 at h
  have hFM : Fr [] [(55, 2), (55, 3), (55, 7), (55, 8), (55, 9), (55, 10), (55, 11)] M M := Fr.rfl'
  obtain ⟨v1, ev1, h⟩ := blet_e h
  obtain ⟨M2, eM2, h⟩ := blet_e h
  have hFM2 : Fr [] [(55, 2), (55, 3), (55, 7), (55, 8), (55, 9), (55, 10), (55, 11)] M M2 := by rw [eM2]; exact hFM.stoF (by simp)
  obtain ⟨v3, ev3, h⟩ := blet_e h
  obtain ⟨v4, ev4, h⟩ := blet_e h
  rcases ite_e h with ⟨c5, h⟩ | ⟨c5, h⟩
  · skip
    obtain ⟨v6, ev6, h⟩ := blet_e h
    obtain ⟨c7, h⟩ := chk_e h
    obtain ⟨v8, ev8, h⟩ := blet_e h
    obtain ⟨v9, M10, fv9, h⟩ := bcall_e h
    have hFM10 : Fr [] [(55, 2), (55, 3), (55, 7), (55, 8), (55, 9), (55, 10), (55, 11)] M M10 := hFM2.trans ((w_Pa_isLetter fv9).mono (by simp) (by simp))
    rcases ite_e h with ⟨c11, h⟩ | ⟨c11, h⟩
    · skip
      obtain ⟨v12, ev12, h⟩ := blet_e h
      obtain ⟨c13, h⟩ := chk_e h
      obtain ⟨v14, ev14, h⟩ := blet_e h
      obtain ⟨v15, M16, fv15, h⟩ := bcall_e h
      have hFM16 : Fr [] [(55, 2), (55, 3), (55, 7), (55, 8), (55, 9), (55, 10), (55, 11)] M M16 := hFM10.trans ((w_Pa_isDigit fv15).mono (by simp) (by simp))
      rcases ite_e h with ⟨c17, h⟩ | ⟨c17, h⟩
      · skip
        obtain ⟨v18, ev18, h⟩ := blet_e h
        obtain ⟨c19, h⟩ := chk_e h
        obtain ⟨v20, ev20, h⟩ := blet_e h
        obtain ⟨v21, M22, fv21, h⟩ := bcall_e h
        have hFM22 : Fr [] [(55, 2), (55, 3), (55, 7), (55, 8), (55, 9), (55, 10), (55, 11)] M M22 := hFM16.trans ((w_Pa_isSign fv21).mono (by simp) (by simp))
        rcases ite_e h with ⟨c23, h⟩ | ⟨c23, h⟩
        · skip
          obtain ⟨v24, M25, fv24, h⟩ := bcall_e h
          have hFM25 : Fr [] [(55, 2), (55, 3), (55, 7), (55, 8), (55, 9), (55, 10), (55, 11)] M M25 := hFM22.trans ((w_Pa_fail fv24).mono (by simp) (by simp))
          cases h; exact hFM25
        · skip
          obtain ⟨v26, ev26, h⟩ := blet_e h
          obtain ⟨c27, h⟩ := chk_e h
          obtain ⟨v28, ev28, h⟩ := blet_e h
          obtain ⟨M29, eM29, h⟩ := blet_e h
          have hFM29 : Fr [] [(55, 2), (55, 3), (55, 7), (55, 8), (55, 9), (55, 10), (55, 11)] M M29 := by rw [eM29]; exact hFM22.stoF (by simp)
          obtain ⟨v30, ev30, h⟩ := blet_e h
          obtain ⟨M31, eM31, h⟩ := blet_e h
          have hFM31 : Fr [] [(55, 2), (55, 3), (55, 7), (55, 8), (55, 9), (55, 10), (55, 11)] M M31 := by rw [eM31]; exact hFM29.stoF (by simp)
          cases h; exact hFM31
      · skip
        obtain ⟨v32, M33, fv32, h⟩ := bcall_e h
        have hFM33 : Fr [] [(55, 2), (55, 3), (55, 7), (55, 8), (55, 9), (55, 10), (55, 11)] M M33 := hFM16.trans ((w_Pa_scanNumber fv32).mono (by simp) (by simp))
        cases h; exact hFM33
    · skip
      obtain ⟨v34, M35, fv34, h⟩ := bcall_e h
      have hFM35 : Fr [] [(55, 2), (55, 3), (55, 7), (55, 8), (55, 9), (55, 10), (55, 11)] M M35 := hFM10.trans ((w_Pa_scanWord fv34).mono (by simp) (by simp))
      cases h; exact hFM35
  · skip
    obtain ⟨M36, eM36, h⟩ := blet_e h
    have hFM36 : Fr [] [(55, 2), (55, 3), (55, 7), (55, 8), (55, 9), (55, 10), (55, 11)] M M36 := by rw [eM36]; exact hFM2.stoF (by simp)
    cases h; exact hFM36
theorem w_Pa_advance_47 {R8 : Mem → Res} (hR8 : ∀ (M : Mem) (r : Int × Mem), R8  M = some r → Fr [] [(55, 2), (55, 3), (55, 7), (55, 8), (55, 9), (55, 10), (55, 11)] M r.2) {M : Mem} {r : Int × Mem} (h : k_Pa_advance_47 R8 M = some r) : Fr [] [(55, 2), (55, 3), (55, 7), (55, 8), (55, 9), (55, 10), (55, 11)] M r.2 := by
  unfold k_Pa_advance_47 at h
  have hFM : Fr [] [(55, 2), (55, 3), (55, 7), (55, 8), (55, 9), (55, 10), (55, 11)] M M := Fr.rfl'
  obtain ⟨v1, ev1, h⟩ := blet_e h
  obtain ⟨M2, eM2, h⟩ := blet_e h
  have hFM2 : Fr [] [(55, 2), (55, 3), (55, 7), (55, 8), (55, 9), (55, 10), (55, 11)] M M2 := by rw [eM2]; exact hFM.stoF (by simp)
  exact hFM2.trans (hR8  M2 r h)
theorem w_Pa_advance_8 {R8 : Mem → Res} (hR8 : ∀ (M : Mem) (r : Int × Mem), R8  M = some r → Fr [] [(55, 2), (55, 3), (55, 7), (55, 8), (55, 9), (55, 10), (55, 11)] M r.2) {M : Mem} {r : Int × Mem} (h : k_Pa_advance_8 R8 M = some r) : Fr [] [(55, 2), (55, 3), (55, 7), (55, 8), (55, 9), (55, 10), (55, 11)] M r.2 := by
  unfold k_Pa_advance_8 at h
  have hFM : Fr [] [(55, 2), (55, 3), (55, 7), (55, 8), (55, 9), (55, 10), (55, 11)] M M := Fr.rfl'
  obtain ⟨v1, ev1, h⟩ := blet_e h
  obtain ⟨v2, ev2, h⟩ := blet_e h
  rcases ite_e h with ⟨c3, h⟩ | ⟨c3, h⟩
  · skip
    obtain ⟨v4, ev4, h⟩ := blet_e h
    obtain ⟨c5, h⟩ := chk_e h
    obtain ⟨v6, ev6, h⟩ := blet_e h
    rcases ite_e h with ⟨c7, h⟩ | ⟨c7, h⟩
    · skip
      exact hFM.trans (w_Pa_advance_47 hR8 h)
    · skip
      obtain ⟨v8, ev8, h⟩ := blet_e h
      obtain ⟨c9, h⟩ := chk_e h
      obtain ⟨v10, ev10, h⟩ := blet_e h
      rcases ite_e h with ⟨c11, h⟩ | ⟨c11, h⟩
      · skip
        exact hFM.trans (w_Pa_advance_47 hR8 h)
      · skip
        exact hFM.trans (w_Pa_advance_60 h)
  · skip
    exact hFM.trans (w_Pa_advance_60 h)
theorem wl_Pa_advance_8  : ∀ (n : Nat) (M : Mem) (r : Int × Mem), fix (fun _ => none) (k_Pa_advance_8) n M = some r → Fr [] [(55, 2), (55, 3), (55, 7), (55, 8), (55, 9), (55, 10), (55, 11)] M r.2 := by
  intro n
  induction n with
  | zero => intro M r h; exact nomatch (show (none : Res) = some r from h)
  | succ n ih => intro M r h; exact w_Pa_advance_8 ih h
theorem w_Pa_advance {M : Mem} {r : Int × Mem} (h : d_Pa_advance M = some r) : Fr [] [(55, 2), (55, 3), (55, 7), (55, 8), (55, 9), (55, 10), (55, 11)] M r.2 := by
  unfold d_Pa_advance at h
  have hFM : Fr [] [(55, 2), (55, 3), (55, 7), (55, 8), (55, 9), (55, 10), (55, 11)] M M := Fr.rfl'
  obtain ⟨v1, ev1, h⟩ := blet_e h
  rcases ite_e h with ⟨c2, h⟩ | ⟨c2, h⟩
  · skip
    exact hFM.trans (wl_Pa_advance_8 FU  M r h)
  · skip
    cases h; exact hFM
theorem w_Pa_findDef_2 {R2 : Int → Int → Mem → Res} (hR2 : ∀ (a1 a3 : Int) (M : Mem) (r : Int × Mem), R2 a1 a3 M = some r → Fr [] [] M r.2) {a1 a3 : Int} {M : Mem} {r : Int × Mem} (h : k_Pa_findDef_2 R2 a1 a3 M = some r) : Fr [] [] M r.2 := by
  unfold k_Pa_findDef_2 at h
  have hFM : Fr [] [] M M := Fr.rfl'
  obtain ⟨v1, ev1, h⟩ := blet_e h
  rcases ite_e h with ⟨c2, h⟩ | ⟨c2, h⟩
  · skip
    obtain ⟨c3, h⟩ := chk_e h
    obtain ⟨v4, ev4, h⟩ := blet_e h
    rcases ite_e h with ⟨c5, h⟩ | ⟨c5, h⟩
    · skip
      cases h; exact hFM
    · skip
      obtain ⟨v6, ev6, h⟩ := blet_e h
      exact hFM.trans (hR2 a1 v6 M r h)
  · skip
    cases h; exact hFM
theorem wl_Pa_findDef_2  : ∀ (n : Nat) (a1 a3 : Int) (M : Mem) (r : Int × Mem), fix (fun _ _ _ => none) (k_Pa_findDef_2) n a1 a3 M = some r → Fr [] [] M r.2 := by
  intro n
  induction n with
  | zero => intro a1 a3 M r h; exact nomatch (show (none : Res) = some r from h)
  | succ n ih => intro a1 a3 M r h; exact w_Pa_findDef_2 ih h
theorem w_Pa_findDef {a1 : Int} {M : Mem} {r : Int × Mem} (h : d_Pa_findDef a1 M = some r) : Fr [] [] M r.2 := by
  unfold d_Pa_findDef at h
  have hFM : Fr [] [] M M := Fr.rfl'
  exact hFM.trans (wl_Pa_findDef_2 FU a1 0 M r h)
theorem w_Pa_parseName_137  {M : Mem} {r : Int × Mem} (h : k_Pa_parseName_137 M = some r) : Fr [60, 61] [(55, 2), (55, 3), (55, 7), (55, 8), (55, 9), (55, 10), (55, 11)] M r.2 := by
  unfold k_Pa_parseName_137 at h
  have hFM : Fr [60, 61] [(55, 2), (55, 3), (55, 7), (55, 8), (55, 9), (55, 10), (55, 11)] M M := Fr.rfl'
  obtain ⟨v1, M2, fv1, h⟩ := bcall_e h
  have hFM2 : Fr [60, 61] [(55, 2), (55, 3), (55, 7), (55, 8), (55, 9), (55, 10), (55, 11)] M M2 := hFM.trans ((w_Pa_advance fv1).mono (by simp) (by simp))
  cases h; exact hFM2
theorem w_Pa_parseName_37  {s0 : Int} {M : Mem} {r : Int × Mem} (h : k_Pa_parseName_37 s0 M = some r) : Fr [60, 61] [(55, 2), (55, 3), (55, 7), (55, 8), (55, 9), (55, 10), (55, 11)] M r.2 := by
  unfold k_Pa_parseName_37 at h
  have hFM : Fr [60, 61] [(55, 2), (55, 3), (55, 7), (55, 8), (55, 9), (55, 10), (55, 11)] M M := Fr.rfl'
  rcases ite_e h with ⟨c1, h⟩ | ⟨c1, h⟩
  · skip
    obtain ⟨v2, M3, fv2, h⟩ := bcall_e h
    have hFM3 : Fr [60, 61] [(55, 2), (55, 3), (55, 7), (55, 8), (55, 9), (55, 10), (55, 11)] M M3 := hFM.trans ((w_Pa_fail fv2).mono (by simp) (by simp))
    cases h; exact hFM3
  · skip
    obtain ⟨v4, ev4, h⟩ := blet_e h
    rcases ite_e h with ⟨c5, h⟩ | ⟨c5, h⟩
    · skip
      obtain ⟨v6, ev6, h⟩ := blet_e h
      obtain ⟨v7, M8, fv7, h⟩ := bcall_e h
      have hFM8 : Fr [60, 61] [(55, 2), (55, 3), (55, 7), (55, 8), (55, 9), (55, 10), (55, 11)] M M8 := hFM.trans ((w_Pa_findDef fv7).mono (by simp) (by simp))
      rcases ite_e h with ⟨c9, h⟩ | ⟨c9, h⟩
      · skip
        obtain ⟨v10, ev10, h⟩ := blet_e h
        obtain ⟨v11, ev11, h⟩ := blet_e h
        obtain ⟨c12, h⟩ := chk_e h
        obtain ⟨M13, eM13, h⟩ := blet_e h
        have hFM13 : Fr [60, 61] [(55, 2), (55, 3), (55, 7), (55, 8), (55, 9), (55, 10), (55, 11)] M M13 := by rw [eM13]; exact hFM8.stoA (by simp)
        obtain ⟨v14, ev14, h⟩ := blet_e h
        obtain ⟨v15, M16, fv15, h⟩ := bcall_e h
        have hFM16 : Fr [60, 61] [(55, 2), (55, 3), (55, 7), (55, 8), (55, 9), (55, 10), (55, 11)] M M16 := hFM13.trans ((w_Pa_find fv15).mono (by simp) (by simp))
        rcases ite_e h with ⟨c17, h⟩ | ⟨c17, h⟩
        · skip
          exact hFM16.trans (w_Pa_parseName_137 h)
        · skip
          obtain ⟨v18, ev18, h⟩ := blet_e h
          obtain ⟨c19, h⟩ := chk_e h
          obtain ⟨M20, eM20, h⟩ := blet_e h
          have hFM20 : Fr [60, 61] [(55, 2), (55, 3), (55, 7), (55, 8), (55, 9), (55, 10), (55, 11)] M M20 := by rw [eM20]; exact hFM16.stoA (by simp)
          exact hFM20.trans (w_Pa_parseName_137 h)
      · skip
        obtain ⟨v21, M22, fv21, h⟩ := bcall_e h
        have hFM22 : Fr [60, 61] [(55, 2), (55, 3), (55, 7), (55, 8), (55, 9), (55, 10), (55, 11)] M M22 := hFM8.trans ((w_Pa_fail fv21).mono (by simp) (by simp))
        cases h; exact hFM22
    · skip
      obtain ⟨v23, M24, fv23, h⟩ := bcall_e h
      have hFM24 : Fr [60, 61] [(55, 2), (55, 3), (55, 7), (55, 8), (55, 9), (55, 10), (55, 11)] M M24 := hFM.trans ((w_Pa_fail fv23).mono (by simp) (by simp))
      cases h; exact hFM24
theorem w_Pa_parseName_36  {M : Mem} {r : Int × Mem} (h : k_Pa_parseName_36 M = some r) : Fr [60, 61] [(55, 2), (55, 3), (55, 7), (55, 8), (55, 9), (55, 10), (55, 11)] M r.2 := by
  unfold k_Pa_parseName_36 at h
  have hFM : Fr [60, 61] [(55, 2), (55, 3), (55, 7), (55, 8), (55, 9), (55, 10), (55, 11)] M M := Fr.rfl'
  exact hFM.trans (w_Pa_parseName_37 h)
theorem w_Pa_parseName {M : Mem} {r : Int × Mem} (h : d_Pa_parseName M = some r) : Fr [60, 61] [(55, 2), (55, 3), (55, 7), (55, 8), (55, 9), (55, 10), (55, 11)] M r.2 := by
  unfold d_Pa_parseName at h
  have hFM : Fr [60, 61] [(55, 2), (55, 3), (55, 7), (55, 8), (55, 9), (55, 10), (55, 11)] M M := Fr.rfl'
  obtain ⟨v1, ev1, h⟩ := blet_e h
  rcases ite_e h with ⟨c2, h⟩ | ⟨c2, h⟩
  · skip
    obtain ⟨v3, ev3, h⟩ := blet_e h
    rcases ite_e h with ⟨c4, h⟩ | ⟨c4, h⟩
    · skip
      exact hFM.trans (w_Pa_parseName_36 h)
    · skip
      obtain ⟨v5, ev5, h⟩ := blet_e h
      obtain ⟨v6, M7, fv6, h⟩ := bcall_e h
      have hFM7 : Fr [60, 61] [(55, 2), (55, 3), (55, 7), (55, 8), (55, 9), (55, 10), (55, 11)] M M7 := hFM.trans ((w_Pa_find fv6).mono (by simp) (by simp))
      rcases ite_e h with ⟨c8, h⟩ | ⟨c8, h⟩
      · skip
        exact hFM7.trans (w_Pa_parseName_37 h)
      · skip
        exact hFM7.trans (w_Pa_parseName_36 h)
  · skip
    exact hFM.trans (w_Pa_parseName_36 h)
theorem w_Pa_expect {a1 : Int} {M : Mem} {r : Int × Mem} (h : d_Pa_expect a1 M = some r) : Fr [] [(55, 2), (55, 3), (55, 7), (55, 8), (55, 9), (55, 10), (55, 11)] M r.2 := by
  unfold d_Pa_expect at h
  have hFM : Fr [] [(55, 2), (55, 3), (55, 7), (55, 8), (55, 9), (55, 10), (55, 11)] M M := Fr.rfl'
  obtain ⟨v1, ev1, h⟩ := blet_e h
  rcases ite_e h with ⟨c2, h⟩ | ⟨c2, h⟩
  · skip
    obtain ⟨v3, M4, fv3, h⟩ := bcall_e h
    have hFM4 : Fr [] [(55, 2), (55, 3), (55, 7), (55, 8), (55, 9), (55, 10), (55, 11)] M M4 := hFM.trans ((w_Pa_advance fv3).mono (by simp) (by simp))
    cases h; exact hFM4
  · skip
    obtain ⟨v5, M6, fv5, h⟩ := bcall_e h
    have hFM6 : Fr [] [(55, 2), (55, 3), (55, 7), (55, 8), (55, 9), (55, 10), (55, 11)] M M6 := hFM.trans ((w_Pa_fail fv5).mono (by simp) (by simp))
    cases h; exact hFM6
theorem w_Pa_beginsSum_43  {M : Mem} {r : Int × Mem} (h : k_Pa_beginsSum_43 M = some r) : Fr [] [] M r.2 := by
  unfold k_Pa_beginsSum_43 at h
  have hFM : Fr [] [] M M := Fr.rfl'
  cases h; exact hFM
theorem w_Pa_beginsSum {M : Mem} {r : Int × Mem} (h : d_Pa_beginsSum M = some r) : Fr [] [] M r.2 := by
  unfold d_Pa_beginsSum at h
  have hFM : Fr [] [] M M := Fr.rfl'
  obtain ⟨v1, ev1, h⟩ := blet_e h
  rcases ite_e h with ⟨c2, h⟩ | ⟨c2, h⟩
  · skip
    exact hFM.trans (w_Pa_beginsSum_43 h)
  · skip
    obtain ⟨v3, ev3, h⟩ := blet_e h
    rcases ite_e h with ⟨c4, h⟩ | ⟨c4, h⟩
    · skip
      exact hFM.trans (w_Pa_beginsSum_43 h)
    · skip
      obtain ⟨v5, ev5, h⟩ := blet_e h
      rcases ite_e h with ⟨c6, h⟩ | ⟨c6, h⟩
      · skip
        exact hFM.trans (w_Pa_beginsSum_43 h)
      · skip
        obtain ⟨v7, ev7, h⟩ := blet_e h
        rcases ite_e h with ⟨c8, h⟩ | ⟨c8, h⟩
        · skip
          exact hFM.trans (w_Pa_beginsSum_43 h)
        · skip
          obtain ⟨v9, ev9, h⟩ := blet_e h
          rcases ite_e h with ⟨c10, h⟩ | ⟨c10, h⟩
          · skip
            exact hFM.trans (w_Pa_beginsSum_43 h)
          · skip
            cases h; exact hFM
theorem w_Pa_mayBegin_23  {M : Mem} {r : Int × Mem} (h : k_Pa_mayBegin_23 M = some r) : Fr [] [(55, 2), (55, 3), (55, 8)] M r.2 := by
  unfold k_Pa_mayBegin_23 at h
  have hFM : Fr [] [(55, 2), (55, 3), (55, 8)] M M := Fr.rfl'
  obtain ⟨v1, ev1, h⟩ := blet_e h
  rcases ite_e h with ⟨c2, h⟩ | ⟨c2, h⟩
  · skip
    cases h; exact hFM
  · skip
    cases h; exact hFM
theorem w_Pa_mayBegin {a1 a2 : Int} {M : Mem} {r : Int × Mem} (h : d_Pa_mayBegin a1 a2 M = some r) : Fr [] [(55, 2), (55, 3), (55, 8)] M r.2 := by
  unfold d_Pa_mayBegin at h
  have hFM : Fr [] [(55, 2), (55, 3), (55, 8)] M M := Fr.rfl'
  rcases ite_e h with ⟨c1, h⟩ | ⟨c1, h⟩
  · skip
    obtain ⟨v2, M3, fv2, h⟩ := bcall_e h
    have hFM3 : Fr [] [(55, 2), (55, 3), (55, 8)] M M3 := hFM.trans ((w_Pa_fail fv2).mono (by simp) (by simp))
    exact hFM3.trans (w_Pa_mayBegin_23 h)
  · skip
    rcases ite_e h with ⟨c4, h⟩ | ⟨c4, h⟩
    · skip
      obtain ⟨v5, M6, fv5, h⟩ := bcall_e h
      have hFM6 : Fr [] [(55, 2), (55, 3), (55, 8)] M M6 := hFM.trans ((w_Pa_fail fv5).mono (by simp) (by simp))
      exact hFM6.trans (w_Pa_mayBegin_23 h)
    · skip
      exact hFM.trans (w_Pa_mayBegin_23 h)
theorem w_Tx_add {K : Nat} {a1 a2 : Int} {M : Mem} {r : Int × Mem} (h : d_Tx_add K a1 a2 M = some r) : Fr [(K + 1), K] [] M r.2 := by
  unfold d_Tx_add at h
  have hFM : Fr [(K + 1), K] [] M M := Fr.rfl'
  obtain ⟨v1, ev1, h⟩ := blet_e h
  rcases ite_e h with ⟨c2, h⟩ | ⟨c2, h⟩
  · skip
    obtain ⟨v3, ev3, h⟩ := blet_e h
    obtain ⟨c4, h⟩ := chk_e h
    obtain ⟨M5, eM5, h⟩ := blet_e h
    have hFM5 : Fr [(K + 1), K] [] M M5 := by rw [eM5]; exact hFM.stoA (by simp)
    obtain ⟨v6, ev6, h⟩ := blet_e h
    obtain ⟨M7, eM7, h⟩ := blet_e h
    have hFM7 : Fr [(K + 1), K] [] M M7 := by rw [eM7]; exact hFM5.stoA (by simp)
    cases h; exact hFM7
  · skip
    cases h; exact hFM
theorem w_Pa_addWord {M : Mem} {r : Int × Mem} (h : d_Pa_addWord M = some r) : Fr [57, (57 + 1)] [(55, 2), (55, 3), (55, 8)] M r.2 := by
  unfold d_Pa_addWord at h
  have hFM : Fr [57, (57 + 1)] [(55, 2), (55, 3), (55, 8)] M M := Fr.rfl'
  obtain ⟨v1, ev1, h⟩ := blet_e h
  obtain ⟨v2, M3, fv2, h⟩ := bcall_e h
  have hFM3 : Fr [57, (57 + 1)] [(55, 2), (55, 3), (55, 8)] M M3 := hFM.trans ((w_Pa_find fv2).mono (by simp) (by simp))
  obtain ⟨v4, ev4, h⟩ := blet_e h
  obtain ⟨v5, M6, fv5, h⟩ := bcall_e h
  have hFM6 : Fr [57, (57 + 1)] [(55, 2), (55, 3), (55, 8)] M M6 := hFM3.trans ((w_Pa_findDef fv5).mono (by simp) (by simp))
  rcases ite_e h with ⟨c7, h⟩ | ⟨c7, h⟩
  · skip
    rcases ite_e h with ⟨c8, h⟩ | ⟨c8, h⟩
    · skip
      obtain ⟨v9, M10, fv9, h⟩ := bcall_e h
      have hFM10 : Fr [57, (57 + 1)] [(55, 2), (55, 3), (55, 8)] M M10 := hFM6.trans ((w_Pa_fail fv9).mono (by simp) (by simp))
      cases h; exact hFM10
    · skip
      obtain ⟨v11, M12, fv11, h⟩ := bcall_e h
      have hFM12 : Fr [57, (57 + 1)] [(55, 2), (55, 3), (55, 8)] M M12 := hFM6.trans ((w_Tx_add fv11).mono (by simp) (by simp))
      cases h; exact hFM12
  · skip
    obtain ⟨v13, M14, fv13, h⟩ := bcall_e h
    have hFM14 : Fr [57, (57 + 1)] [(55, 2), (55, 3), (55, 8)] M M14 := hFM6.trans ((w_Tx_add fv13).mono (by simp) (by simp))
    cases h; exact hFM14
theorem w_Pa_parseAtom {RW : Int → Mem → Res} {RF : Int → Mem → Res} (hRW : ∀ {a1 : Int} {M : Mem} {r : Int × Mem}, RW a1 M = some r → Fr [57, (57 + 1)] [(55, 2), (55, 3), (55, 7), (55, 8), (55, 9), (55, 10), (55, 11)] M r.2) (hRF : ∀ {a1 : Int} {M : Mem} {r : Int × Mem}, RF a1 M = some r → Fr [57, (57 + 1)] [(55, 2), (55, 3), (55, 7), (55, 8), (55, 9), (55, 10), (55, 11)] M r.2) {a1 : Int} {M : Mem} {r : Int × Mem} (h : d_Pa_parseAtom RW RF a1 M = some r) : Fr [57, (57 + 1)] [(55, 2), (55, 3), (55, 7), (55, 8), (55, 9), (55, 10), (55, 11)] M r.2 := by
  unfold d_Pa_parseAtom at h
  have hFM : Fr [57, (57 + 1)] [(55, 2), (55, 3), (55, 7), (55, 8), (55, 9), (55, 10), (55, 11)] M M := Fr.rfl'
  obtain ⟨v1, ev1, h⟩ := blet_e h
  rcases ite_e h with ⟨c2, h⟩ | ⟨c2, h⟩
  · skip
    obtain ⟨v3, ev3, h⟩ := blet_e h
    obtain ⟨v4, M5, fv4, h⟩ := bcall_e h
    have hFM5 : Fr [57, (57 + 1)] [(55, 2), (55, 3), (55, 7), (55, 8), (55, 9), (55, 10), (55, 11)] M M5 := hFM.trans ((w_Tx_add fv4).mono (by simp) (by simp))
    obtain ⟨v6, M7, fv6, h⟩ := bcall_e h
    have hFM7 : Fr [57, (57 + 1)] [(55, 2), (55, 3), (55, 7), (55, 8), (55, 9), (55, 10), (55, 11)] M M7 := hFM5.trans ((w_Pa_advance fv6).mono (by simp) (by simp))
    cases h; exact hFM7
  · rcases ite_e h with ⟨c8, h⟩ | ⟨c8, h⟩
    · skip
      obtain ⟨v9, M10, fv9, h⟩ := bcall_e h
      have hFM10 : Fr [57, (57 + 1)] [(55, 2), (55, 3), (55, 7), (55, 8), (55, 9), (55, 10), (55, 11)] M M10 := hFM.trans ((w_Pa_addWord fv9).mono (by simp) (by simp))
      obtain ⟨v11, M12, fv11, h⟩ := bcall_e h
      have hFM12 : Fr [57, (57 + 1)] [(55, 2), (55, 3), (55, 7), (55, 8), (55, 9), (55, 10), (55, 11)] M M12 := hFM10.trans ((w_Pa_advance fv11).mono (by simp) (by simp))
      cases h; exact hFM12
    · rcases ite_e h with ⟨c13, h⟩ | ⟨c13, h⟩
      · skip
        obtain ⟨v14, M15, fv14, h⟩ := bcall_e h
        have hFM15 : Fr [57, (57 + 1)] [(55, 2), (55, 3), (55, 7), (55, 8), (55, 9), (55, 10), (55, 11)] M M15 := hFM.trans (hRF fv14)
        cases h; exact hFM15
      · rcases ite_e h with ⟨c16, h⟩ | ⟨c16, h⟩
        · skip
          obtain ⟨v17, M18, fv17, h⟩ := bcall_e h
          have hFM18 : Fr [57, (57 + 1)] [(55, 2), (55, 3), (55, 7), (55, 8), (55, 9), (55, 10), (55, 11)] M M18 := hFM.trans (hRF fv17)
          cases h; exact hFM18
        · rcases ite_e h with ⟨c19, h⟩ | ⟨c19, h⟩
          · skip
            obtain ⟨v20, M21, fv20, h⟩ := bcall_e h
            have hFM21 : Fr [57, (57 + 1)] [(55, 2), (55, 3), (55, 7), (55, 8), (55, 9), (55, 10), (55, 11)] M M21 := hFM.trans ((w_Pa_advance fv20).mono (by simp) (by simp))
            obtain ⟨v22, M23, fv22, h⟩ := bcall_e h
            have hFM23 : Fr [57, (57 + 1)] [(55, 2), (55, 3), (55, 7), (55, 8), (55, 9), (55, 10), (55, 11)] M M23 := hFM21.trans (hRW fv22)
            obtain ⟨v24, M25, fv24, h⟩ := bcall_e h
            have hFM25 : Fr [57, (57 + 1)] [(55, 2), (55, 3), (55, 7), (55, 8), (55, 9), (55, 10), (55, 11)] M M25 := hFM23.trans ((w_Pa_expect fv24).mono (by simp) (by simp))
            cases h; exact hFM25
          · skip
            obtain ⟨v26, M27, fv26, h⟩ := bcall_e h
            have hFM27 : Fr [57, (57 + 1)] [(55, 2), (55, 3), (55, 7), (55, 8), (55, 9), (55, 10), (55, 11)] M M27 := hFM.trans ((w_Pa_fail fv26).mono (by simp) (by simp))
            cases h; exact hFM27
theorem w_Pa_stepOfItem {a0 : Int} {M : Mem} {r : Int × Mem} (h : d_Pa_stepOfItem a0 M = some r) : Fr [] [] M r.2 := by
  unfold d_Pa_stepOfItem at h
  have hFM : Fr [] [] M M := Fr.rfl'
  rcases ite_e h with ⟨c1, h⟩ | ⟨c1, h⟩
  · skip
    cases h; exact hFM
  · rcases ite_e h with ⟨c2, h⟩ | ⟨c2, h⟩
    · skip
      cases h; exact hFM
    · rcases ite_e h with ⟨c3, h⟩ | ⟨c3, h⟩
      · skip
        cases h; exact hFM
      · skip
        cases h; exact hFM
theorem w_Pa_parseItem_7 {RW : Int → Mem → Res} {RF : Int → Mem → Res} (hRW : ∀ {a1 : Int} {M : Mem} {r : Int × Mem}, RW a1 M = some r → Fr [57, (57 + 1)] [(55, 2), (55, 3), (55, 7), (55, 8), (55, 9), (55, 10), (55, 11)] M r.2) (hRF : ∀ {a1 : Int} {M : Mem} {r : Int × Mem}, RF a1 M = some r → Fr [57, (57 + 1)] [(55, 2), (55, 3), (55, 7), (55, 8), (55, 9), (55, 10), (55, 11)] M r.2) {R7 : Int → Int → Mem → Res} (hR7 : ∀ (a1 a2 : Int) (M : Mem) (r : Int × Mem), R7 a1 a2 M = some r → Fr [57, (57 + 1)] [(55, 2), (55, 3), (55, 7), (55, 8), (55, 9), (55, 10), (55, 11)] M r.2) {a1 a2 : Int} {M : Mem} {r : Int × Mem} (h : k_Pa_parseItem_7 RW RF R7 a1 a2 M = some r) : Fr [57, (57 + 1)] [(55, 2), (55, 3), (55, 7), (55, 8), (55, 9), (55, 10), (55, 11)] M r.2 := by
  unfold k_Pa_parseItem_7 at h
  have hFM : Fr [57, (57 + 1)] [(55, 2), (55, 3), (55, 7), (55, 8), (55, 9), (55, 10), (55, 11)] M M := Fr.rfl'
  obtain ⟨v1, ev1, h⟩ := blet_e h
  rcases ite_e h with ⟨c2, h⟩ | ⟨c2, h⟩
  · skip
    obtain ⟨v3, ev3, h⟩ := blet_e h
    obtain ⟨v4, M5, fv4, h⟩ := bcall_e h
    have hFM5 : Fr [57, (57 + 1)] [(55, 2), (55, 3), (55, 7), (55, 8), (55, 9), (55, 10), (55, 11)] M M5 := hFM.trans ((w_Pa_stepOfItem fv4).mono (by simp) (by simp))
    rcases ite_e h with ⟨c6, h⟩ | ⟨c6, h⟩
    · skip
      cases h; exact hFM5
    · skip
      obtain ⟨v7, ev7, h⟩ := blet_e h
      obtain ⟨v8, M9, fv8, h⟩ := bcall_e h
      have hFM9 : Fr [57, (57 + 1)] [(55, 2), (55, 3), (55, 7), (55, 8), (55, 9), (55, 10), (55, 11)] M M9 := hFM5.trans ((w_Pa_stepOfItem fv8).mono (by simp) (by simp))
      obtain ⟨v10, M11, fv10, h⟩ := bcall_e h
      have hFM11 : Fr [57, (57 + 1)] [(55, 2), (55, 3), (55, 7), (55, 8), (55, 9), (55, 10), (55, 11)] M M11 := hFM9.trans ((w_Pa_advance fv10).mono (by simp) (by simp))
      obtain ⟨v12, M13, fv12, h⟩ := bcall_e h
      have hFM13 : Fr [57, (57 + 1)] [(55, 2), (55, 3), (55, 7), (55, 8), (55, 9), (55, 10), (55, 11)] M M13 := hFM11.trans ((w_Pa_parseAtom hRW hRF fv12).mono (by simp) (by simp))
      obtain ⟨v14, M15, fv14, h⟩ := bcall_e h
      have hFM15 : Fr [57, (57 + 1)] [(55, 2), (55, 3), (55, 7), (55, 8), (55, 9), (55, 10), (55, 11)] M M15 := hFM13.trans ((w_Tx_add fv14).mono (by simp) (by simp))
      obtain ⟨v16, ev16, h⟩ := blet_e h
      exact hFM15.trans (hR7 a1 v16 M15 r h)
  · skip
    cases h; exact hFM
theorem wl_Pa_parseItem_7 {RW : Int → Mem → Res} {RF : Int → Mem → Res} (hRW : ∀ {a1 : Int} {M : Mem} {r : Int × Mem}, RW a1 M = some r → Fr [57, (57 + 1)] [(55, 2), (55, 3), (55, 7), (55, 8), (55, 9), (55, 10), (55, 11)] M r.2) (hRF : ∀ {a1 : Int} {M : Mem} {r : Int × Mem}, RF a1 M = some r → Fr [57, (57 + 1)] [(55, 2), (55, 3), (55, 7), (55, 8), (55, 9), (55, 10), (55, 11)] M r.2)  : ∀ (n : Nat) (a1 a2 : Int) (M : Mem) (r : Int × Mem), fix (fun _ _ _ => none) (k_Pa_parseItem_7 RW RF) n a1 a2 M = some r → Fr [57, (57 + 1)] [(55, 2), (55, 3), (55, 7), (55, 8), (55, 9), (55, 10), (55, 11)] M r.2 := by
  intro n
  induction n with
  | zero => intro a1 a2 M r h; exact nomatch (show (none : Res) = some r from h)
  | succ n ih => intro a1 a2 M r h; exact w_Pa_parseItem_7 hRW hRF ih h
theorem w_Pa_parseItem {RW : Int → Mem → Res} {RF : Int → Mem → Res} (hRW : ∀ {a1 : Int} {M : Mem} {r : Int × Mem}, RW a1 M = some r → Fr [57, (57 + 1)] [(55, 2), (55, 3), (55, 7), (55, 8), (55, 9), (55, 10), (55, 11)] M r.2) (hRF : ∀ {a1 : Int} {M : Mem} {r : Int × Mem}, RF a1 M = some r → Fr [57, (57 + 1)] [(55, 2), (55, 3), (55, 7), (55, 8), (55, 9), (55, 10), (55, 11)] M r.2) {a1 : Int} {M : Mem} {r : Int × Mem} (h : d_Pa_parseItem RW RF a1 M = some r) : Fr [57, (57 + 1)] [(55, 2), (55, 3), (55, 7), (55, 8), (55, 9), (55, 10), (55, 11)] M r.2 := by
  unfold d_Pa_parseItem at h
  have hFM : Fr [57, (57 + 1)] [(55, 2), (55, 3), (55, 7), (55, 8), (55, 9), (55, 10), (55, 11)] M M := Fr.rfl'
  obtain ⟨v1, M2, fv1, h⟩ := bcall_e h
  have hFM2 : Fr [57, (57 + 1)] [(55, 2), (55, 3), (55, 7), (55, 8), (55, 9), (55, 10), (55, 11)] M M2 := hFM.trans ((w_Pa_parseAtom hRW hRF fv1).mono (by simp) (by simp))
  exact hFM2.trans (wl_Pa_parseItem_7 hRW hRF FU a1 0 M2 r h)
theorem w_Pa_parseSum_47 {RW : Int → Mem → Res} {RF : Int → Mem → Res} (hRW : ∀ {a1 : Int} {M : Mem} {r : Int × Mem}, RW a1 M = some r → Fr [57, (57 + 1)] [(55, 2), (55, 3), (55, 7), (55, 8), (55, 9), (55, 10), (55, 11)] M r.2) (hRF : ∀ {a1 : Int} {M : Mem} {r : Int × Mem}, RF a1 M = some r → Fr [57, (57 + 1)] [(55, 2), (55, 3), (55, 7), (55, 8), (55, 9), (55, 10), (55, 11)] M r.2) {R7 : Int → Int → Mem → Res} (hR7 : ∀ (a1 a2 : Int) (M : Mem) (r : Int × Mem), R7 a1 a2 M = some r → Fr [57, (57 + 1)] [(55, 2), (55, 3), (55, 7), (55, 8), (55, 9), (55, 10), (55, 11)] M r.2) {a1 a2 s0 : Int} {M : Mem} {r : Int × Mem} (h : k_Pa_parseSum_47 RW RF R7 a1 a2 s0 M = some r) : Fr [57, (57 + 1)] [(55, 2), (55, 3), (55, 7), (55, 8), (55, 9), (55, 10), (55, 11)] M r.2 := by
  unfold k_Pa_parseSum_47 at h
  have hFM : Fr [57, (57 + 1)] [(55, 2), (55, 3), (55, 7), (55, 8), (55, 9), (55, 10), (55, 11)] M M := Fr.rfl'
  obtain ⟨v1, M2, fv1, h⟩ := bcall_e h
  have hFM2 : Fr [57, (57 + 1)] [(55, 2), (55, 3), (55, 7), (55, 8), (55, 9), (55, 10), (55, 11)] M M2 := hFM.trans ((w_Pa_advance fv1).mono (by simp) (by simp))
  obtain ⟨v3, M4, fv3, h⟩ := bcall_e h
  have hFM4 : Fr [57, (57 + 1)] [(55, 2), (55, 3), (55, 7), (55, 8), (55, 9), (55, 10), (55, 11)] M M4 := hFM2.trans ((w_Pa_parseItem hRW hRF fv3).mono (by simp) (by simp))
  obtain ⟨v5, M6, fv5, h⟩ := bcall_e h
  have hFM6 : Fr [57, (57 + 1)] [(55, 2), (55, 3), (55, 7), (55, 8), (55, 9), (55, 10), (55, 11)] M M6 := hFM4.trans ((w_Tx_add fv5).mono (by simp) (by simp))
  obtain ⟨v7, ev7, h⟩ := blet_e h
  exact hFM6.trans (hR7 a1 v7 M6 r h)
theorem w_Pa_parseSum_33 {RW : Int → Mem → Res} {RF : Int → Mem → Res} (hRW : ∀ {a1 : Int} {M : Mem} {r : Int × Mem}, RW a1 M = some r → Fr [57, (57 + 1)] [(55, 2), (55, 3), (55, 7), (55, 8), (55, 9), (55, 10), (55, 11)] M r.2) (hRF : ∀ {a1 : Int} {M : Mem} {r : Int × Mem}, RF a1 M = some r → Fr [57, (57 + 1)] [(55, 2), (55, 3), (55, 7), (55, 8), (55, 9), (55, 10), (55, 11)] M r.2) {R7 : Int → Int → Mem → Res} (hR7 : ∀ (a1 a2 : Int) (M : Mem) (r : Int × Mem), R7 a1 a2 M = some r → Fr [57, (57 + 1)] [(55, 2), (55, 3), (55, 7), (55, 8), (55, 9), (55, 10), (55, 11)] M r.2) {a1 a2 : Int} {M : Mem} {r : Int × Mem} (h : k_Pa_parseSum_33 RW RF R7 a1 a2 M = some r) : Fr [57, (57 + 1)] [(55, 2), (55, 3), (55, 7), (55, 8), (55, 9), (55, 10), (55, 11)] M r.2 := by
  unfold k_Pa_parseSum_33 at h
  have hFM : Fr [57, (57 + 1)] [(55, 2), (55, 3), (55, 7), (55, 8), (55, 9), (55, 10), (55, 11)] M M := Fr.rfl'
  obtain ⟨v1, ev1, h⟩ := blet_e h
  rcases ite_e h with ⟨c2, h⟩ | ⟨c2, h⟩
  · skip
    exact hFM.trans (w_Pa_parseSum_47 hRW hRF hR7 h)
  · skip
    exact hFM.trans (w_Pa_parseSum_47 hRW hRF hR7 h)
theorem w_Pa_parseSum_7 {RW : Int → Mem → Res} {RF : Int → Mem → Res} (hRW : ∀ {a1 : Int} {M : Mem} {r : Int × Mem}, RW a1 M = some r → Fr [57, (57 + 1)] [(55, 2), (55, 3), (55, 7), (55, 8), (55, 9), (55, 10), (55, 11)] M r.2) (hRF : ∀ {a1 : Int} {M : Mem} {r : Int × Mem}, RF a1 M = some r → Fr [57, (57 + 1)] [(55, 2), (55, 3), (55, 7), (55, 8), (55, 9), (55, 10), (55, 11)] M r.2) {R7 : Int → Int → Mem → Res} (hR7 : ∀ (a1 a2 : Int) (M : Mem) (r : Int × Mem), R7 a1 a2 M = some r → Fr [57, (57 + 1)] [(55, 2), (55, 3), (55, 7), (55, 8), (55, 9), (55, 10), (55, 11)] M r.2) {a1 a2 : Int} {M : Mem} {r : Int × Mem} (h : k_Pa_parseSum_7 RW RF R7 a1 a2 M = some r) : Fr [57, (57 + 1)] [(55, 2), (55, 3), (55, 7), (55, 8), (55, 9), (55, 10), (55, 11)] M r.2 := by
  unfold k_Pa_parseSum_7 at h
  have hFM : Fr [57, (57 + 1)] [(55, 2), (55, 3), (55, 7), (55, 8), (55, 9), (55, 10), (55, 11)] M M := Fr.rfl'
  obtain ⟨v1, ev1, h⟩ := blet_e h
  rcases ite_e h with ⟨c2, h⟩ | ⟨c2, h⟩
  · skip
    obtain ⟨v3, ev3, h⟩ := blet_e h
    rcases ite_e h with ⟨c4, h⟩ | ⟨c4, h⟩
    · skip
      exact hFM.trans (w_Pa_parseSum_33 hRW hRF hR7 h)
    · skip
      obtain ⟨v5, ev5, h⟩ := blet_e h
      rcases ite_e h with ⟨c6, h⟩ | ⟨c6, h⟩
      · skip
        exact hFM.trans (w_Pa_parseSum_33 hRW hRF hR7 h)
      · skip
        cases h; exact hFM
  · skip
    cases h; exact hFM
theorem wl_Pa_parseSum_7 {RW : Int → Mem → Res} {RF : Int → Mem → Res} (hRW : ∀ {a1 : Int} {M : Mem} {r : Int × Mem}, RW a1 M = some r → Fr [57, (57 + 1)] [(55, 2), (55, 3), (55, 7), (55, 8), (55, 9), (55, 10), (55, 11)] M r.2) (hRF : ∀ {a1 : Int} {M : Mem} {r : Int × Mem}, RF a1 M = some r → Fr [57, (57 + 1)] [(55, 2), (55, 3), (55, 7), (55, 8), (55, 9), (55, 10), (55, 11)] M r.2)  : ∀ (n : Nat) (a1 a2 : Int) (M : Mem) (r : Int × Mem), fix (fun _ _ _ => none) (k_Pa_parseSum_7 RW RF) n a1 a2 M = some r → Fr [57, (57 + 1)] [(55, 2), (55, 3), (55, 7), (55, 8), (55, 9), (55, 10), (55, 11)] M r.2 := by
  intro n
  induction n with
  | zero => intro a1 a2 M r h; exact nomatch (show (none : Res) = some r from h)
  | succ n ih => intro a1 a2 M r h; exact w_Pa_parseSum_7 hRW hRF ih h
theorem w_Pa_parseSum {RW : Int → Mem → Res} {RF : Int → Mem → Res} (hRW : ∀ {a1 : Int} {M : Mem} {r : Int × Mem}, RW a1 M = some r → Fr [57, (57 + 1)] [(55, 2), (55, 3), (55, 7), (55, 8), (55, 9), (55, 10), (55, 11)] M r.2) (hRF : ∀ {a1 : Int} {M : Mem} {r : Int × Mem}, RF a1 M = some r → Fr [57, (57 + 1)] [(55, 2), (55, 3), (55, 7), (55, 8), (55, 9), (55, 10), (55, 11)] M r.2) {a1 : Int} {M : Mem} {r : Int × Mem} (h : d_Pa_parseSum RW RF a1 M = some r) : Fr [57, (57 + 1)] [(55, 2), (55, 3), (55, 7), (55, 8), (55, 9), (55, 10), (55, 11)] M r.2 := by
  unfold d_Pa_parseSum at h
  have hFM : Fr [57, (57 + 1)] [(55, 2), (55, 3), (55, 7), (55, 8), (55, 9), (55, 10), (55, 11)] M M := Fr.rfl'
  obtain ⟨v1, M2, fv1, h⟩ := bcall_e h
  have hFM2 : Fr [57, (57 + 1)] [(55, 2), (55, 3), (55, 7), (55, 8), (55, 9), (55, 10), (55, 11)] M M2 := hFM.trans ((w_Pa_parseItem hRW hRF fv1).mono (by simp) (by simp))
  exact hFM2.trans (wl_Pa_parseSum_7 hRW hRF FU a1 0 M2 r h)
theorem w_Pa_stepOfCompares {a0 : Int} {M : Mem} {r : Int × Mem} (h : d_Pa_stepOfCompares a0 M = some r) : Fr [] [] M r.2 := by
  unfold d_Pa_stepOfCompares at h
  have hFM : Fr [] [] M M := Fr.rfl'
  rcases ite_e h with ⟨c1, h⟩ | ⟨c1, h⟩
  · skip
    cases h; exact hFM
  · rcases ite_e h with ⟨c2, h⟩ | ⟨c2, h⟩
    · skip
      cases h; exact hFM
    · rcases ite_e h with ⟨c3, h⟩ | ⟨c3, h⟩
      · skip
        cases h; exact hFM
      · skip
        cases h; exact hFM
theorem w_Pa_parseOne_24 {RW : Int → Mem → Res} {RF : Int → Mem → Res} (hRW : ∀ {a1 : Int} {M : Mem} {r : Int × Mem}, RW a1 M = some r → Fr [57, (57 + 1)] [(55, 2), (55, 3), (55, 7), (55, 8), (55, 9), (55, 10), (55, 11)] M r.2) (hRF : ∀ {a1 : Int} {M : Mem} {r : Int × Mem}, RF a1 M = some r → Fr [57, (57 + 1)] [(55, 2), (55, 3), (55, 7), (55, 8), (55, 9), (55, 10), (55, 11)] M r.2)  {a1 a2 : Int} {M : Mem} {r : Int × Mem} (h : k_Pa_parseOne_24 RW RF a1 a2 M = some r) : Fr [57, (57 + 1)] [(55, 2), (55, 3), (55, 7), (55, 8), (55, 9), (55, 10), (55, 11)] M r.2 := by
  unfold k_Pa_parseOne_24 at h
  have hFM : Fr [57, (57 + 1)] [(55, 2), (55, 3), (55, 7), (55, 8), (55, 9), (55, 10), (55, 11)] M M := Fr.rfl'
  obtain ⟨v1, M2, fv1, h⟩ := bcall_e h
  have hFM2 : Fr [57, (57 + 1)] [(55, 2), (55, 3), (55, 7), (55, 8), (55, 9), (55, 10), (55, 11)] M M2 := hFM.trans ((w_Pa_parseSum hRW hRF fv1).mono (by simp) (by simp))
  obtain ⟨v3, ev3, h⟩ := blet_e h
  obtain ⟨v4, M5, fv4, h⟩ := bcall_e h
  have hFM5 : Fr [57, (57 + 1)] [(55, 2), (55, 3), (55, 7), (55, 8), (55, 9), (55, 10), (55, 11)] M M5 := hFM2.trans ((w_Pa_stepOfCompares fv4).mono (by simp) (by simp))
  rcases ite_e h with ⟨c6, h⟩ | ⟨c6, h⟩
  · skip
    obtain ⟨v7, M8, fv7, h⟩ := bcall_e h
    have hFM8 : Fr [57, (57 + 1)] [(55, 2), (55, 3), (55, 7), (55, 8), (55, 9), (55, 10), (55, 11)] M M8 := hFM5.trans ((w_Pa_fail fv7).mono (by simp) (by simp))
    cases h; exact hFM8
  · skip
    obtain ⟨v9, M10, fv9, h⟩ := bcall_e h
    have hFM10 : Fr [57, (57 + 1)] [(55, 2), (55, 3), (55, 7), (55, 8), (55, 9), (55, 10), (55, 11)] M M10 := hFM5.trans ((w_Pa_advance fv9).mono (by simp) (by simp))
    obtain ⟨v11, M12, fv11, h⟩ := bcall_e h
    have hFM12 : Fr [57, (57 + 1)] [(55, 2), (55, 3), (55, 7), (55, 8), (55, 9), (55, 10), (55, 11)] M M12 := hFM10.trans ((w_Pa_parseSum hRW hRF fv11).mono (by simp) (by simp))
    obtain ⟨v13, M14, fv13, h⟩ := bcall_e h
    have hFM14 : Fr [57, (57 + 1)] [(55, 2), (55, 3), (55, 7), (55, 8), (55, 9), (55, 10), (55, 11)] M M14 := hFM12.trans ((w_Tx_add fv13).mono (by simp) (by simp))
    cases h; exact hFM14
theorem w_Pa_parseOne_14 {RW : Int → Mem → Res} {RF : Int → Mem → Res} (hRW : ∀ {a1 : Int} {M : Mem} {r : Int × Mem}, RW a1 M = some r → Fr [57, (57 + 1)] [(55, 2), (55, 3), (55, 7), (55, 8), (55, 9), (55, 10), (55, 11)] M r.2) (hRF : ∀ {a1 : Int} {M : Mem} {r : Int × Mem}, RF a1 M = some r → Fr [57, (57 + 1)] [(55, 2), (55, 3), (55, 7), (55, 8), (55, 9), (55, 10), (55, 11)] M r.2)  {a1 s0 : Int} {M : Mem} {r : Int × Mem} (h : k_Pa_parseOne_14 RW RF a1 s0 M = some r) : Fr [57, (57 + 1)] [(55, 2), (55, 3), (55, 7), (55, 8), (55, 9), (55, 10), (55, 11)] M r.2 := by
  unfold k_Pa_parseOne_14 at h
  have hFM : Fr [57, (57 + 1)] [(55, 2), (55, 3), (55, 7), (55, 8), (55, 9), (55, 10), (55, 11)] M M := Fr.rfl'
  rcases ite_e h with ⟨c1, h⟩ | ⟨c1, h⟩
  · skip
    obtain ⟨v2, M3, fv2, h⟩ := bcall_e h
    have hFM3 : Fr [57, (57 + 1)] [(55, 2), (55, 3), (55, 7), (55, 8), (55, 9), (55, 10), (55, 11)] M M3 := hFM.trans ((w_Pa_advance fv2).mono (by simp) (by simp))
    exact hFM3.trans (w_Pa_parseOne_24 hRW hRF h)
  · skip
    exact hFM.trans (w_Pa_parseOne_24 hRW hRF h)
theorem w_Pa_parseOne {RW : Int → Mem → Res} {RF : Int → Mem → Res} (hRW : ∀ {a1 : Int} {M : Mem} {r : Int × Mem}, RW a1 M = some r → Fr [57, (57 + 1)] [(55, 2), (55, 3), (55, 7), (55, 8), (55, 9), (55, 10), (55, 11)] M r.2) (hRF : ∀ {a1 : Int} {M : Mem} {r : Int × Mem}, RF a1 M = some r → Fr [57, (57 + 1)] [(55, 2), (55, 3), (55, 7), (55, 8), (55, 9), (55, 10), (55, 11)] M r.2) {a1 : Int} {M : Mem} {r : Int × Mem} (h : d_Pa_parseOne RW RF a1 M = some r) : Fr [57, (57 + 1)] [(55, 2), (55, 3), (55, 7), (55, 8), (55, 9), (55, 10), (55, 11)] M r.2 := by
  unfold d_Pa_parseOne at h
  have hFM : Fr [57, (57 + 1)] [(55, 2), (55, 3), (55, 7), (55, 8), (55, 9), (55, 10), (55, 11)] M M := Fr.rfl'
  obtain ⟨v1, ev1, h⟩ := blet_e h
  rcases ite_e h with ⟨c2, h⟩ | ⟨c2, h⟩
  · skip
    exact hFM.trans (w_Pa_parseOne_14 hRW hRF h)
  · skip
    exact hFM.trans (w_Pa_parseOne_14 hRW hRF h)
theorem w_Pa_parseTest_67 {RW : Int → Mem → Res} {RF : Int → Mem → Res} (hRW : ∀ {a1 : Int} {M : Mem} {r : Int × Mem}, RW a1 M = some r → Fr [57, (57 + 1)] [(55, 2), (55, 3), (55, 7), (55, 8), (55, 9), (55, 10), (55, 11)] M r.2) (hRF : ∀ {a1 : Int} {M : Mem} {r : Int × Mem}, RF a1 M = some r → Fr [57, (57 + 1)] [(55, 2), (55, 3), (55, 7), (55, 8), (55, 9), (55, 10), (55, 11)] M r.2) {R25 : Int → Int → Int → Mem → Res} (hR25 : ∀ (a1 a2 a3 : Int) (M : Mem) (r : Int × Mem), R25 a1 a2 a3 M = some r → Fr [57, (57 + 1)] [(55, 2), (55, 3), (55, 7), (55, 8), (55, 9), (55, 10), (55, 11)] M r.2) {a1 a2 a3 s1 : Int} {M : Mem} {r : Int × Mem} (h : k_Pa_parseTest_67 RW RF R25 a1 a2 a3 s1 M = some r) : Fr [57, (57 + 1)] [(55, 2), (55, 3), (55, 7), (55, 8), (55, 9), (55, 10), (55, 11)] M r.2 := by
  unfold k_Pa_parseTest_67 at h
  have hFM : Fr [57, (57 + 1)] [(55, 2), (55, 3), (55, 7), (55, 8), (55, 9), (55, 10), (55, 11)] M M := Fr.rfl'
  obtain ⟨v1, M2, fv1, h⟩ := bcall_e h
  have hFM2 : Fr [57, (57 + 1)] [(55, 2), (55, 3), (55, 7), (55, 8), (55, 9), (55, 10), (55, 11)] M M2 := hFM.trans ((w_Tx_add fv1).mono (by simp) (by simp))
  obtain ⟨v3, ev3, h⟩ := blet_e h
  exact hFM2.trans (hR25 a1 a2 v3 M2 r h)
theorem w_Pa_parseTest_25 {RW : Int → Mem → Res} {RF : Int → Mem → Res} (hRW : ∀ {a1 : Int} {M : Mem} {r : Int × Mem}, RW a1 M = some r → Fr [57, (57 + 1)] [(55, 2), (55, 3), (55, 7), (55, 8), (55, 9), (55, 10), (55, 11)] M r.2) (hRF : ∀ {a1 : Int} {M : Mem} {r : Int × Mem}, RF a1 M = some r → Fr [57, (57 + 1)] [(55, 2), (55, 3), (55, 7), (55, 8), (55, 9), (55, 10), (55, 11)] M r.2) {R25 : Int → Int → Int → Mem → Res} (hR25 : ∀ (a1 a2 a3 : Int) (M : Mem) (r : Int × Mem), R25 a1 a2 a3 M = some r → Fr [57, (57 + 1)] [(55, 2), (55, 3), (55, 7), (55, 8), (55, 9), (55, 10), (55, 11)] M r.2) {a1 a2 a3 : Int} {M : Mem} {r : Int × Mem} (h : k_Pa_parseTest_25 RW RF R25 a1 a2 a3 M = some r) : Fr [57, (57 + 1)] [(55, 2), (55, 3), (55, 7), (55, 8), (55, 9), (55, 10), (55, 11)] M r.2 := by
  unfold k_Pa_parseTest_25 at h
  have hFM : Fr [57, (57 + 1)] [(55, 2), (55, 3), (55, 7), (55, 8), (55, 9), (55, 10), (55, 11)] M M := Fr.rfl'
  obtain ⟨v1, ev1, h⟩ := blet_e h
  rcases ite_e h with ⟨c2, h⟩ | ⟨c2, h⟩
  · skip
    obtain ⟨v3, ev3, h⟩ := blet_e h
    rcases ite_e h with ⟨c4, h⟩ | ⟨c4, h⟩
    · skip
      obtain ⟨v5, M6, fv5, h⟩ := bcall_e h
      have hFM6 : Fr [57, (57 + 1)] [(55, 2), (55, 3), (55, 7), (55, 8), (55, 9), (55, 10), (55, 11)] M M6 := hFM.trans ((w_Pa_advance fv5).mono (by simp) (by simp))
      obtain ⟨v7, M8, fv7, h⟩ := bcall_e h
      have hFM8 : Fr [57, (57 + 1)] [(55, 2), (55, 3), (55, 7), (55, 8), (55, 9), (55, 10), (55, 11)] M M8 := hFM6.trans ((w_Pa_parseOne hRW hRF fv7).mono (by simp) (by simp))
      rcases ite_e h with ⟨c9, h⟩ | ⟨c9, h⟩
      · skip
        exact hFM8.trans (w_Pa_parseTest_67 hRW hRF hR25 h)
      · skip
        exact hFM8.trans (w_Pa_parseTest_67 hRW hRF hR25 h)
    · skip
      cases h; exact hFM
  · skip
    cases h; exact hFM
theorem wl_Pa_parseTest_25 {RW : Int → Mem → Res} {RF : Int → Mem → Res} (hRW : ∀ {a1 : Int} {M : Mem} {r : Int × Mem}, RW a1 M = some r → Fr [57, (57 + 1)] [(55, 2), (55, 3), (55, 7), (55, 8), (55, 9), (55, 10), (55, 11)] M r.2) (hRF : ∀ {a1 : Int} {M : Mem} {r : Int × Mem}, RF a1 M = some r → Fr [57, (57 + 1)] [(55, 2), (55, 3), (55, 7), (55, 8), (55, 9), (55, 10), (55, 11)] M r.2)  : ∀ (n : Nat) (a1 a2 a3 : Int) (M : Mem) (r : Int × Mem), fix (fun _ _ _ _ => none) (k_Pa_parseTest_25 RW RF) n a1 a2 a3 M = some r → Fr [57, (57 + 1)] [(55, 2), (55, 3), (55, 7), (55, 8), (55, 9), (55, 10), (55, 11)] M r.2 := by
  intro n
  induction n with
  | zero => intro a1 a2 a3 M r h; exact nomatch (show (none : Res) = some r from h)
  | succ n ih => intro a1 a2 a3 M r h; exact w_Pa_parseTest_25 hRW hRF ih h
theorem w_Pa_parseTest_23 {RW : Int → Mem → Res} {RF : Int → Mem → Res} (hRW : ∀ {a1 : Int} {M : Mem} {r : Int × Mem}, RW a1 M = some r → Fr [57, (57 + 1)] [(55, 2), (55, 3), (55, 7), (55, 8), (55, 9), (55, 10), (55, 11)] M r.2) (hRF : ∀ {a1 : Int} {M : Mem} {r : Int × Mem}, RF a1 M = some r → Fr [57, (57 + 1)] [(55, 2), (55, 3), (55, 7), (55, 8), (55, 9), (55, 10), (55, 11)] M r.2)  {a1 a2 : Int} {M : Mem} {r : Int × Mem} (h : k_Pa_parseTest_23 RW RF a1 a2 M = some r) : Fr [57, (57 + 1)] [(55, 2), (55, 3), (55, 7), (55, 8), (55, 9), (55, 10), (55, 11)] M r.2 := by
  unfold k_Pa_parseTest_23 at h
  have hFM : Fr [57, (57 + 1)] [(55, 2), (55, 3), (55, 7), (55, 8), (55, 9), (55, 10), (55, 11)] M M := Fr.rfl'
  exact hFM.trans (wl_Pa_parseTest_25 hRW hRF FU a1 a2 0 M r h)
theorem w_Pa_parseTest {RW : Int → Mem → Res} {RF : Int → Mem → Res} (hRW : ∀ {a1 : Int} {M : Mem} {r : Int × Mem}, RW a1 M = some r → Fr [57, (57 + 1)] [(55, 2), (55, 3), (55, 7), (55, 8), (55, 9), (55, 10), (55, 11)] M r.2) (hRF : ∀ {a1 : Int} {M : Mem} {r : Int × Mem}, RF a1 M = some r → Fr [57, (57 + 1)] [(55, 2), (55, 3), (55, 7), (55, 8), (55, 9), (55, 10), (55, 11)] M r.2) {a1 : Int} {M : Mem} {r : Int × Mem} (h : d_Pa_parseTest RW RF a1 M = some r) : Fr [57, (57 + 1)] [(55, 2), (55, 3), (55, 7), (55, 8), (55, 9), (55, 10), (55, 11)] M r.2 := by
  unfold d_Pa_parseTest at h
  have hFM : Fr [57, (57 + 1)] [(55, 2), (55, 3), (55, 7), (55, 8), (55, 9), (55, 10), (55, 11)] M M := Fr.rfl'
  obtain ⟨v1, M2, fv1, h⟩ := bcall_e h
  have hFM2 : Fr [57, (57 + 1)] [(55, 2), (55, 3), (55, 7), (55, 8), (55, 9), (55, 10), (55, 11)] M M2 := hFM.trans ((w_Pa_parseOne hRW hRF fv1).mono (by simp) (by simp))
  obtain ⟨v3, ev3, h⟩ := blet_e h
  rcases ite_e h with ⟨c4, h⟩ | ⟨c4, h⟩
  · skip
    exact hFM2.trans (w_Pa_parseTest_23 hRW hRF h)
  · skip
    rcases ite_e h with ⟨c5, h⟩ | ⟨c5, h⟩
    · skip
      exact hFM2.trans (w_Pa_parseTest_23 hRW hRF h)
    · skip
      cases h; exact hFM2
theorem w_Pa_parseWhole_21 {RW : Int → Mem → Res} {RF : Int → Mem → Res} (hRW : ∀ {a1 : Int} {M : Mem} {r : Int × Mem}, RW a1 M = some r → Fr [57, (57 + 1)] [(55, 2), (55, 3), (55, 7), (55, 8), (55, 9), (55, 10), (55, 11)] M r.2) (hRF : ∀ {a1 : Int} {M : Mem} {r : Int × Mem}, RF a1 M = some r → Fr [57, (57 + 1)] [(55, 2), (55, 3), (55, 7), (55, 8), (55, 9), (55, 10), (55, 11)] M r.2)  {a1 s1 : Int} {M : Mem} {r : Int × Mem} (h : k_Pa_parseWhole_21 RW RF a1 s1 M = some r) : Fr [57, (57 + 1)] [(55, 2), (55, 3), (55, 7), (55, 8), (55, 9), (55, 10), (55, 11)] M r.2 := by
  unfold k_Pa_parseWhole_21 at h
  have hFM : Fr [57, (57 + 1)] [(55, 2), (55, 3), (55, 7), (55, 8), (55, 9), (55, 10), (55, 11)] M M := Fr.rfl'
  obtain ⟨v1, M2, fv1, h⟩ := bcall_e h
  have hFM2 : Fr [57, (57 + 1)] [(55, 2), (55, 3), (55, 7), (55, 8), (55, 9), (55, 10), (55, 11)] M M2 := hFM.trans ((w_Pa_mayBegin fv1).mono (by simp) (by simp))
  rcases ite_e h with ⟨c3, h⟩ | ⟨c3, h⟩
  · skip
    cases h; exact hFM2
  · skip
    obtain ⟨v4, ev4, h⟩ := blet_e h
    rcases ite_e h with ⟨c5, h⟩ | ⟨c5, h⟩
    · skip
      obtain ⟨v6, M7, fv6, h⟩ := bcall_e h
      have hFM7 : Fr [57, (57 + 1)] [(55, 2), (55, 3), (55, 7), (55, 8), (55, 9), (55, 10), (55, 11)] M M7 := hFM2.trans ((w_Pa_advance fv6).mono (by simp) (by simp))
      obtain ⟨v8, M9, fv8, h⟩ := bcall_e h
      have hFM9 : Fr [57, (57 + 1)] [(55, 2), (55, 3), (55, 7), (55, 8), (55, 9), (55, 10), (55, 11)] M M9 := hFM7.trans ((w_Pa_parseTest hRW hRF fv8).mono (by simp) (by simp))
      obtain ⟨v10, M11, fv10, h⟩ := bcall_e h
      have hFM11 : Fr [57, (57 + 1)] [(55, 2), (55, 3), (55, 7), (55, 8), (55, 9), (55, 10), (55, 11)] M M11 := hFM9.trans ((w_Pa_expect fv10).mono (by simp) (by simp))
      obtain ⟨v12, M13, fv12, h⟩ := bcall_e h
      have hFM13 : Fr [57, (57 + 1)] [(55, 2), (55, 3), (55, 7), (55, 8), (55, 9), (55, 10), (55, 11)] M M13 := hFM11.trans (hRW fv12)
      obtain ⟨v14, M15, fv14, h⟩ := bcall_e h
      have hFM15 : Fr [57, (57 + 1)] [(55, 2), (55, 3), (55, 7), (55, 8), (55, 9), (55, 10), (55, 11)] M M15 := hFM13.trans ((w_Pa_expect fv14).mono (by simp) (by simp))
      obtain ⟨v16, M17, fv16, h⟩ := bcall_e h
      have hFM17 : Fr [57, (57 + 1)] [(55, 2), (55, 3), (55, 7), (55, 8), (55, 9), (55, 10), (55, 11)] M M17 := hFM15.trans (hRW fv16)
      obtain ⟨v18, M19, fv18, h⟩ := bcall_e h
      have hFM19 : Fr [57, (57 + 1)] [(55, 2), (55, 3), (55, 7), (55, 8), (55, 9), (55, 10), (55, 11)] M M19 := hFM17.trans ((w_Tx_add fv18).mono (by simp) (by simp))
      cases h; exact hFM19
    · skip
      obtain ⟨v20, M21, fv20, h⟩ := bcall_e h
      have hFM21 : Fr [57, (57 + 1)] [(55, 2), (55, 3), (55, 7), (55, 8), (55, 9), (55, 10), (55, 11)] M M21 := hFM2.trans ((w_Pa_parseSum hRW hRF fv20).mono (by simp) (by simp))
      cases h; exact hFM21
theorem w_Pa_parseWhole_16 {RW : Int → Mem → Res} {RF : Int → Mem → Res} (hRW : ∀ {a1 : Int} {M : Mem} {r : Int × Mem}, RW a1 M = some r → Fr [57, (57 + 1)] [(55, 2), (55, 3), (55, 7), (55, 8), (55, 9), (55, 10), (55, 11)] M r.2) (hRF : ∀ {a1 : Int} {M : Mem} {r : Int × Mem}, RF a1 M = some r → Fr [57, (57 + 1)] [(55, 2), (55, 3), (55, 7), (55, 8), (55, 9), (55, 10), (55, 11)] M r.2)  {a1 : Int} {M : Mem} {r : Int × Mem} (h : k_Pa_parseWhole_16 RW RF a1 M = some r) : Fr [57, (57 + 1)] [(55, 2), (55, 3), (55, 7), (55, 8), (55, 9), (55, 10), (55, 11)] M r.2 := by
  unfold k_Pa_parseWhole_16 at h
  have hFM : Fr [57, (57 + 1)] [(55, 2), (55, 3), (55, 7), (55, 8), (55, 9), (55, 10), (55, 11)] M M := Fr.rfl'
  exact hFM.trans (w_Pa_parseWhole_21 hRW hRF h)
theorem w_Pa_parseWhole {RW : Int → Mem → Res} {RF : Int → Mem → Res} (hRW : ∀ {a1 : Int} {M : Mem} {r : Int × Mem}, RW a1 M = some r → Fr [57, (57 + 1)] [(55, 2), (55, 3), (55, 7), (55, 8), (55, 9), (55, 10), (55, 11)] M r.2) (hRF : ∀ {a1 : Int} {M : Mem} {r : Int × Mem}, RF a1 M = some r → Fr [57, (57 + 1)] [(55, 2), (55, 3), (55, 7), (55, 8), (55, 9), (55, 10), (55, 11)] M r.2) {a1 : Int} {M : Mem} {r : Int × Mem} (h : d_Pa_parseWhole RW RF a1 M = some r) : Fr [57, (57 + 1)] [(55, 2), (55, 3), (55, 7), (55, 8), (55, 9), (55, 10), (55, 11)] M r.2 := by
  unfold d_Pa_parseWhole at h
  have hFM : Fr [57, (57 + 1)] [(55, 2), (55, 3), (55, 7), (55, 8), (55, 9), (55, 10), (55, 11)] M M := Fr.rfl'
  obtain ⟨v1, ev1, h⟩ := blet_e h
  rcases ite_e h with ⟨c2, h⟩ | ⟨c2, h⟩
  · skip
    exact hFM.trans (w_Pa_parseWhole_16 hRW hRF h)
  · skip
    obtain ⟨v3, M4, fv3, h⟩ := bcall_e h
    have hFM4 : Fr [57, (57 + 1)] [(55, 2), (55, 3), (55, 7), (55, 8), (55, 9), (55, 10), (55, 11)] M M4 := hFM.trans ((w_Pa_beginsSum fv3).mono (by simp) (by simp))
    rcases ite_e h with ⟨c5, h⟩ | ⟨c5, h⟩
    · skip
      exact hFM4.trans (w_Pa_parseWhole_21 hRW hRF h)
    · skip
      exact hFM4.trans (w_Pa_parseWhole_16 hRW hRF h)
theorem w_Tx_endDef {K : Nat} {M : Mem} {r : Int × Mem} (h : d_Tx_endDef K M = some r) : Fr [(K + 2), K] [] M r.2 := by
  unfold d_Tx_endDef at h
  have hFM : Fr [(K + 2), K] [] M M := Fr.rfl'
  obtain ⟨v1, ev1, h⟩ := blet_e h
  rcases ite_e h with ⟨c2, h⟩ | ⟨c2, h⟩
  · skip
    obtain ⟨v3, ev3, h⟩ := blet_e h
    obtain ⟨v4, ev4, h⟩ := blet_e h
    obtain ⟨c5, h⟩ := chk_e h
    obtain ⟨M6, eM6, h⟩ := blet_e h
    have hFM6 : Fr [(K + 2), K] [] M M6 := by rw [eM6]; exact hFM.stoA (by simp)
    obtain ⟨v7, ev7, h⟩ := blet_e h
    obtain ⟨M8, eM8, h⟩ := blet_e h
    have hFM8 : Fr [(K + 2), K] [] M M8 := by rw [eM8]; exact hFM6.stoA (by simp)
    cases h; exact hFM8
  · skip
    cases h; exact hFM
theorem w_Tx_copyFrom {K : Nat} {K2 : Nat} {M : Mem} {r : Int × Mem} (h : d_Tx_copyFrom K K2 M = some r) : Fr [(K + 1), (K + 2), (K + 3), K] [] M r.2 := by
  unfold d_Tx_copyFrom at h
  have hFM : Fr [(K + 1), (K + 2), (K + 3), K] [] M M := Fr.rfl'
  obtain ⟨v1, ev1, h⟩ := blet_e h
  obtain ⟨M2, eM2, h⟩ := blet_e h
  have hFM2 : Fr [(K + 1), (K + 2), (K + 3), K] [] M M2 := by rw [eM2]; exact hFM.stoA (by simp)
  obtain ⟨v3, ev3, h⟩ := blet_e h
  obtain ⟨M4, eM4, h⟩ := blet_e h
  have hFM4 : Fr [(K + 1), (K + 2), (K + 3), K] [] M M4 := by rw [eM4]; exact hFM2.stoA (by simp)
  obtain ⟨M5, eM5, h⟩ := blet_e h
  have hFM5 : Fr [(K + 1), (K + 2), (K + 3), K] [] M M5 := by rw [eM5]; exact hFM4.copy (by simp)
  obtain ⟨M6, eM6, h⟩ := blet_e h
  have hFM6 : Fr [(K + 1), (K + 2), (K + 3), K] [] M M6 := by rw [eM6]; exact hFM5.copy (by simp)
  obtain ⟨M7, eM7, h⟩ := blet_e h
  have hFM7 : Fr [(K + 1), (K + 2), (K + 3), K] [] M M7 := by rw [eM7]; exact hFM6.copy (by simp)
  cases h; exact hFM7
theorem w_As_adopt {K : Nat} {a2 : Int} {M : Mem} {r : Int × Mem} (h : d_As_adopt K a2 M = some r) : Fr [39, 40, 41, 42, 43, 44, 45, 46, 47, 48, 49, 50, 51, 52, 53, 54] [(32, 0)] M r.2 := by
  unfold d_As_adopt at h
  have hFM : Fr [39, 40, 41, 42, 43, 44, 45, 46, 47, 48, 49, 50, 51, 52, 53, 54] [(32, 0)] M M := Fr.rfl'
  obtain ⟨v1, ev1, h⟩ := blet_e h
  obtain ⟨c2, h⟩ := chk_e h
  obtain ⟨v3, M4, fv3, h⟩ := bcall_e h
  have hFM4 : Fr [39, 40, 41, 42, 43, 44, 45, 46, 47, 48, 49, 50, 51, 52, 53, 54] [(32, 0)] M M4 := hFM.trans ((w_Tx_copyFrom fv3).mono (by have hq := ix_lt4 c2; simp; omega) (by simp))
  obtain ⟨v5, ev5, h⟩ := blet_e h
  obtain ⟨c6, h⟩ := chk_e h
  obtain ⟨M7, eM7, h⟩ := blet_e h
  have hFM7 : Fr [39, 40, 41, 42, 43, 44, 45, 46, 47, 48, 49, 50, 51, 52, 53, 54] [(32, 0)] M M7 := by rw [eM7]; exact hFM4.stoA (by have hq := ix_lt4 c6; simp; omega)
  obtain ⟨v8, ev8, h⟩ := blet_e h
  obtain ⟨M9, eM9, h⟩ := blet_e h
  have hFM9 : Fr [39, 40, 41, 42, 43, 44, 45, 46, 47, 48, 49, 50, 51, 52, 53, 54] [(32, 0)] M M9 := by rw [eM9]; exact hFM7.stoF (by simp)
  cases h; exact hFM9
theorem w_Pa_parseSumOfFew {RW : Int → Mem → Res} {RF : Int → Mem → Res} (hRW : ∀ {a1 : Int} {M : Mem} {r : Int × Mem}, RW a1 M = some r → Fr [57, (57 + 1)] [(55, 2), (55, 3), (55, 7), (55, 8), (55, 9), (55, 10), (55, 11)] M r.2) (hRF : ∀ {a1 : Int} {M : Mem} {r : Int × Mem}, RF a1 M = some r → Fr [57, (57 + 1)] [(55, 2), (55, 3), (55, 7), (55, 8), (55, 9), (55, 10), (55, 11)] M r.2) {a1 : Int} {M : Mem} {r : Int × Mem} (h : d_Pa_parseSumOfFew RW RF a1 M = some r) : Fr [57, (57 + 1)] [(55, 2), (55, 3), (55, 7), (55, 8), (55, 9), (55, 10), (55, 11)] M r.2 := by
  unfold d_Pa_parseSumOfFew at h
  have hFM : Fr [57, (57 + 1)] [(55, 2), (55, 3), (55, 7), (55, 8), (55, 9), (55, 10), (55, 11)] M M := Fr.rfl'
  obtain ⟨v1, M2, fv1, h⟩ := bcall_e h
  have hFM2 : Fr [57, (57 + 1)] [(55, 2), (55, 3), (55, 7), (55, 8), (55, 9), (55, 10), (55, 11)] M M2 := hFM.trans ((w_Pa_beginsSum fv1).mono (by simp) (by simp))
  obtain ⟨v3, M4, fv3, h⟩ := bcall_e h
  have hFM4 : Fr [57, (57 + 1)] [(55, 2), (55, 3), (55, 7), (55, 8), (55, 9), (55, 10), (55, 11)] M M4 := hFM2.trans ((w_Pa_mayBegin fv3).mono (by simp) (by simp))
  rcases ite_e h with ⟨c5, h⟩ | ⟨c5, h⟩
  · skip
    cases h; exact hFM4
  · skip
    obtain ⟨v6, M7, fv6, h⟩ := bcall_e h
    have hFM7 : Fr [57, (57 + 1)] [(55, 2), (55, 3), (55, 7), (55, 8), (55, 9), (55, 10), (55, 11)] M M7 := hFM4.trans ((w_Pa_parseSum hRW hRF fv6).mono (by simp) (by simp))
    cases h; exact hFM7
theorem w_Pa_parseFew_16 {RW : Int → Mem → Res} {RF : Int → Mem → Res} (hRW : ∀ {a1 : Int} {M : Mem} {r : Int × Mem}, RW a1 M = some r → Fr [57, (57 + 1)] [(55, 2), (55, 3), (55, 7), (55, 8), (55, 9), (55, 10), (55, 11)] M r.2) (hRF : ∀ {a1 : Int} {M : Mem} {r : Int × Mem}, RF a1 M = some r → Fr [57, (57 + 1)] [(55, 2), (55, 3), (55, 7), (55, 8), (55, 9), (55, 10), (55, 11)] M r.2)  {a1 s0 : Int} {M : Mem} {r : Int × Mem} (h : k_Pa_parseFew_16 RW RF a1 s0 M = some r) : Fr [57, (57 + 1)] [(55, 2), (55, 3), (55, 7), (55, 8), (55, 9), (55, 10), (55, 11)] M r.2 := by
  unfold k_Pa_parseFew_16 at h
  have hFM : Fr [57, (57 + 1)] [(55, 2), (55, 3), (55, 7), (55, 8), (55, 9), (55, 10), (55, 11)] M M := Fr.rfl'
  obtain ⟨v1, M2, fv1, h⟩ := bcall_e h
  have hFM2 : Fr [57, (57 + 1)] [(55, 2), (55, 3), (55, 7), (55, 8), (55, 9), (55, 10), (55, 11)] M M2 := hFM.trans ((w_Pa_advance fv1).mono (by simp) (by simp))
  obtain ⟨v3, M4, fv3, h⟩ := bcall_e h
  have hFM4 : Fr [57, (57 + 1)] [(55, 2), (55, 3), (55, 7), (55, 8), (55, 9), (55, 10), (55, 11)] M M4 := hFM2.trans ((w_Pa_expect fv3).mono (by simp) (by simp))
  obtain ⟨v5, M6, fv5, h⟩ := bcall_e h
  have hFM6 : Fr [57, (57 + 1)] [(55, 2), (55, 3), (55, 7), (55, 8), (55, 9), (55, 10), (55, 11)] M M6 := hFM4.trans ((w_Pa_parseSumOfFew hRW hRF fv5).mono (by simp) (by simp))
  obtain ⟨v7, M8, fv7, h⟩ := bcall_e h
  have hFM8 : Fr [57, (57 + 1)] [(55, 2), (55, 3), (55, 7), (55, 8), (55, 9), (55, 10), (55, 11)] M M8 := hFM6.trans ((w_Pa_expect fv7).mono (by simp) (by simp))
  obtain ⟨v9, M10, fv9, h⟩ := bcall_e h
  have hFM10 : Fr [57, (57 + 1)] [(55, 2), (55, 3), (55, 7), (55, 8), (55, 9), (55, 10), (55, 11)] M M10 := hFM8.trans ((w_Pa_parseSumOfFew hRW hRF fv9).mono (by simp) (by simp))
  obtain ⟨v11, M12, fv11, h⟩ := bcall_e h
  have hFM12 : Fr [57, (57 + 1)] [(55, 2), (55, 3), (55, 7), (55, 8), (55, 9), (55, 10), (55, 11)] M M12 := hFM10.trans ((w_Pa_expect fv11).mono (by simp) (by simp))
  obtain ⟨v13, M14, fv13, h⟩ := bcall_e h
  have hFM14 : Fr [57, (57 + 1)] [(55, 2), (55, 3), (55, 7), (55, 8), (55, 9), (55, 10), (55, 11)] M M14 := hFM12.trans ((w_Tx_add fv13).mono (by simp) (by simp))
  cases h; exact hFM14
theorem w_Pa_parseFew {RW : Int → Mem → Res} {RF : Int → Mem → Res} (hRW : ∀ {a1 : Int} {M : Mem} {r : Int × Mem}, RW a1 M = some r → Fr [57, (57 + 1)] [(55, 2), (55, 3), (55, 7), (55, 8), (55, 9), (55, 10), (55, 11)] M r.2) (hRF : ∀ {a1 : Int} {M : Mem} {r : Int × Mem}, RF a1 M = some r → Fr [57, (57 + 1)] [(55, 2), (55, 3), (55, 7), (55, 8), (55, 9), (55, 10), (55, 11)] M r.2) {a1 : Int} {M : Mem} {r : Int × Mem} (h : d_Pa_parseFew RW RF a1 M = some r) : Fr [57, (57 + 1)] [(55, 2), (55, 3), (55, 7), (55, 8), (55, 9), (55, 10), (55, 11)] M r.2 := by
  unfold d_Pa_parseFew at h
  have hFM : Fr [57, (57 + 1)] [(55, 2), (55, 3), (55, 7), (55, 8), (55, 9), (55, 10), (55, 11)] M M := Fr.rfl'
  obtain ⟨v1, ev1, h⟩ := blet_e h
  rcases ite_e h with ⟨c2, h⟩ | ⟨c2, h⟩
  · skip
    exact hFM.trans (w_Pa_parseFew_16 hRW hRF h)
  · skip
    exact hFM.trans (w_Pa_parseFew_16 hRW hRF h)
theorem pwG_w : ∀ n : Nat, (∀ {a1 : Int} {M : Mem} {r : Int × Mem}, (pwG n).1 a1 M = some r → Fr [57, (57 + 1)] [(55, 2), (55, 3), (55, 7), (55, 8), (55, 9), (55, 10), (55, 11)] M r.2) ∧ (∀ {a1 : Int} {M : Mem} {r : Int × Mem}, (pwG n).2 a1 M = some r → Fr [57, (57 + 1)] [(55, 2), (55, 3), (55, 7), (55, 8), (55, 9), (55, 10), (55, 11)] M r.2) := by
  intro n
  induction n with
  | zero => exact ⟨(fun h => nomatch (show (none : Res) = some _ from h)), (fun h => nomatch (show (none : Res) = some _ from h))⟩
  | succ n ih => exact ⟨fun h => w_Pa_parseWhole ih.1 ih.2 h, fun h => w_Pa_parseFew ih.1 ih.2 h⟩
theorem w_Pa_parseWholeC {a1 : Int} {M : Mem} {r : Int × Mem} (h : d_Pa_parseWholeC a1 M = some r) : Fr [57, (57 + 1)] [(55, 2), (55, 3), (55, 7), (55, 8), (55, 9), (55, 10), (55, 11)] M r.2 := (pwG_w 16).1 h
theorem w_Pa_parse_94  {M : Mem} {r : Int × Mem} (h : k_Pa_parse_94 M = some r) : Fr [57, 60, 61, (57 + 1), (57 + 2), (57 + 3)] [(55, 1), (55, 2), (55, 3), (55, 6), (55, 7), (55, 8), (55, 9), (55, 10), (55, 11)] M r.2 := by
  unfold k_Pa_parse_94 at h
  have hFM : Fr [57, 60, 61, (57 + 1), (57 + 2), (57 + 3)] [(55, 1), (55, 2), (55, 3), (55, 6), (55, 7), (55, 8), (55, 9), (55, 10), (55, 11)] M M := Fr.rfl'
  obtain ⟨M1, eM1, h⟩ := blet_e h
  have hFM1 : Fr [57, 60, 61, (57 + 1), (57 + 2), (57 + 3)] [(55, 1), (55, 2), (55, 3), (55, 6), (55, 7), (55, 8), (55, 9), (55, 10), (55, 11)] M M1 := by rw [eM1]; exact hFM.stoF (by simp)
  cases h; exact hFM1
theorem w_Pa_parse_88 {R33 : Int → Mem → Res} (hR33 : ∀ (a2 : Int) (M : Mem) (r : Int × Mem), R33 a2 M = some r → Fr [57, 60, 61, (57 + 1), (57 + 2), (57 + 3)] [(55, 1), (55, 2), (55, 3), (55, 6), (55, 7), (55, 8), (55, 9), (55, 10), (55, 11)] M r.2) {a2 : Int} {M : Mem} {r : Int × Mem} (h : k_Pa_parse_88 R33 a2 M = some r) : Fr [57, 60, 61, (57 + 1), (57 + 2), (57 + 3)] [(55, 1), (55, 2), (55, 3), (55, 6), (55, 7), (55, 8), (55, 9), (55, 10), (55, 11)] M r.2 := by
  unfold k_Pa_parse_88 at h
  have hFM : Fr [57, 60, 61, (57 + 1), (57 + 2), (57 + 3)] [(55, 1), (55, 2), (55, 3), (55, 6), (55, 7), (55, 8), (55, 9), (55, 10), (55, 11)] M M := Fr.rfl'
  obtain ⟨v1, ev1, h⟩ := blet_e h
  exact hFM.trans (hR33 v1 M r h)
theorem w_Pa_parse_33 {R33 : Int → Mem → Res} (hR33 : ∀ (a2 : Int) (M : Mem) (r : Int × Mem), R33 a2 M = some r → Fr [57, 60, 61, (57 + 1), (57 + 2), (57 + 3)] [(55, 1), (55, 2), (55, 3), (55, 6), (55, 7), (55, 8), (55, 9), (55, 10), (55, 11)] M r.2) {a2 : Int} {M : Mem} {r : Int × Mem} (h : k_Pa_parse_33 R33 a2 M = some r) : Fr [57, 60, 61, (57 + 1), (57 + 2), (57 + 3)] [(55, 1), (55, 2), (55, 3), (55, 6), (55, 7), (55, 8), (55, 9), (55, 10), (55, 11)] M r.2 := by
  unfold k_Pa_parse_33 at h
  have hFM : Fr [57, 60, 61, (57 + 1), (57 + 2), (57 + 3)] [(55, 1), (55, 2), (55, 3), (55, 6), (55, 7), (55, 8), (55, 9), (55, 10), (55, 11)] M M := Fr.rfl'
  rcases ite_e h with ⟨c1, h⟩ | ⟨c1, h⟩
  · skip
    exact hFM.trans (w_Pa_parse_94 h)
  · skip
    obtain ⟨v2, ev2, h⟩ := blet_e h
    rcases ite_e h with ⟨c3, h⟩ | ⟨c3, h⟩
    · skip
      exact hFM.trans (w_Pa_parse_94 h)
    · skip
      obtain ⟨v4, ev4, h⟩ := blet_e h
      rcases ite_e h with ⟨c5, h⟩ | ⟨c5, h⟩
      · skip
        obtain ⟨v6, M7, fv6, h⟩ := bcall_e h
        have hFM7 : Fr [57, 60, 61, (57 + 1), (57 + 2), (57 + 3)] [(55, 1), (55, 2), (55, 3), (55, 6), (55, 7), (55, 8), (55, 9), (55, 10), (55, 11)] M M7 := hFM.trans ((w_Pa_parseName fv6).mono (by simp) (by simp))
        obtain ⟨v8, M9, fv8, h⟩ := bcall_e h
        have hFM9 : Fr [57, 60, 61, (57 + 1), (57 + 2), (57 + 3)] [(55, 1), (55, 2), (55, 3), (55, 6), (55, 7), (55, 8), (55, 9), (55, 10), (55, 11)] M M9 := hFM7.trans ((w_Pa_expect fv8).mono (by simp) (by simp))
        obtain ⟨v10, M11, fv10, h⟩ := bcall_e h
        have hFM11 : Fr [57, 60, 61, (57 + 1), (57 + 2), (57 + 3)] [(55, 1), (55, 2), (55, 3), (55, 6), (55, 7), (55, 8), (55, 9), (55, 10), (55, 11)] M M11 := hFM9.trans ((w_Pa_parseWholeC fv10).mono (by simp) (by simp))
        obtain ⟨v12, M13, fv12, h⟩ := bcall_e h
        have hFM13 : Fr [57, 60, 61, (57 + 1), (57 + 2), (57 + 3)] [(55, 1), (55, 2), (55, 3), (55, 6), (55, 7), (55, 8), (55, 9), (55, 10), (55, 11)] M M13 := hFM11.trans ((w_Pa_expect fv12).mono (by simp) (by simp))
        obtain ⟨v14, ev14, h⟩ := blet_e h
        rcases ite_e h with ⟨c15, h⟩ | ⟨c15, h⟩
        · skip
          obtain ⟨v16, M17, fv16, h⟩ := bcall_e h
          have hFM17 : Fr [57, 60, 61, (57 + 1), (57 + 2), (57 + 3)] [(55, 1), (55, 2), (55, 3), (55, 6), (55, 7), (55, 8), (55, 9), (55, 10), (55, 11)] M M17 := hFM13.trans ((w_Tx_endDef fv16).mono (by simp) (by simp))
          exact hFM17.trans (w_Pa_parse_88 hR33 h)
        · skip
          exact hFM13.trans (w_Pa_parse_88 hR33 h)
      · skip
        exact hFM.trans (w_Pa_parse_94 h)
theorem wl_Pa_parse_33  : ∀ (n : Nat) (a2 : Int) (M : Mem) (r : Int × Mem), fix (fun _ _ => none) (k_Pa_parse_33) n a2 M = some r → Fr [57, 60, 61, (57 + 1), (57 + 2), (57 + 3)] [(55, 1), (55, 2), (55, 3), (55, 6), (55, 7), (55, 8), (55, 9), (55, 10), (55, 11)] M r.2 := by
  intro n
  induction n with
  | zero => intro a2 M r h; exact nomatch (show (none : Res) = some r from h)
  | succ n ih => intro a2 M r h; exact w_Pa_parse_33 ih h
theorem w_Pa_parse {a1 : Int} {M : Mem} {r : Int × Mem} (h : d_Pa_parse a1 M = some r) : Fr [57, 60, 61, (57 + 1), (57 + 2), (57 + 3)] [(55, 1), (55, 2), (55, 3), (55, 6), (55, 7), (55, 8), (55, 9), (55, 10), (55, 11)] M r.2 := by
  unfold d_Pa_parse at h
  have hFM : Fr [57, 60, 61, (57 + 1), (57 + 2), (57 + 3)] [(55, 1), (55, 2), (55, 3), (55, 6), (55, 7), (55, 8), (55, 9), (55, 10), (55, 11)] M M := Fr.rfl'
  obtain ⟨M1, eM1, h⟩ := blet_e h
  have hFM1 : Fr [57, 60, 61, (57 + 1), (57 + 2), (57 + 3)] [(55, 1), (55, 2), (55, 3), (55, 6), (55, 7), (55, 8), (55, 9), (55, 10), (55, 11)] M M1 := by rw [eM1]; exact hFM.stoF (by simp)
  obtain ⟨M2, eM2, h⟩ := blet_e h
  have hFM2 : Fr [57, 60, 61, (57 + 1), (57 + 2), (57 + 3)] [(55, 1), (55, 2), (55, 3), (55, 6), (55, 7), (55, 8), (55, 9), (55, 10), (55, 11)] M M2 := by rw [eM2]; exact hFM1.stoF (by simp)
  obtain ⟨M3, eM3, h⟩ := blet_e h
  have hFM3 : Fr [57, 60, 61, (57 + 1), (57 + 2), (57 + 3)] [(55, 1), (55, 2), (55, 3), (55, 6), (55, 7), (55, 8), (55, 9), (55, 10), (55, 11)] M M3 := by rw [eM3]; exact hFM2.stoF (by simp)
  obtain ⟨M4, eM4, h⟩ := blet_e h
  have hFM4 : Fr [57, 60, 61, (57 + 1), (57 + 2), (57 + 3)] [(55, 1), (55, 2), (55, 3), (55, 6), (55, 7), (55, 8), (55, 9), (55, 10), (55, 11)] M M4 := by rw [eM4]; exact hFM3.stoF (by simp)
  obtain ⟨v5, M6, fv5, h⟩ := bcall_e h
  have hFM6 : Fr [57, 60, 61, (57 + 1), (57 + 2), (57 + 3)] [(55, 1), (55, 2), (55, 3), (55, 6), (55, 7), (55, 8), (55, 9), (55, 10), (55, 11)] M M6 := hFM4.trans ((w_Tx_empty fv5).mono (by simp) (by simp))
  obtain ⟨v7, M8, fv7, h⟩ := bcall_e h
  have hFM8 : Fr [57, 60, 61, (57 + 1), (57 + 2), (57 + 3)] [(55, 1), (55, 2), (55, 3), (55, 6), (55, 7), (55, 8), (55, 9), (55, 10), (55, 11)] M M8 := hFM6.trans ((w_Pa_advance fv7).mono (by simp) (by simp))
  exact hFM8.trans (wl_Pa_parse_33 FU 0 M8 r h)
theorem w_Py_gather {a1 : Int} {M : Mem} {r : Int × Mem} (h : d_Py_gather a1 M = some r) : Fr [92, 94] [] M r.2 := by
  unfold d_Py_gather at h
  have hFM : Fr [92, 94] [] M M := Fr.rfl'
  obtain ⟨c1, h⟩ := chk_e h
  obtain ⟨v2, ev2, h⟩ := blet_e h
  obtain ⟨c3, h⟩ := chk_e h
  obtain ⟨v4, ev4, h⟩ := blet_e h
  rcases ite_e h with ⟨c5, h⟩ | ⟨c5, h⟩
  · skip
    obtain ⟨c6, h⟩ := chk_e h
    obtain ⟨v7, ev7, h⟩ := blet_e h
    obtain ⟨c8, h⟩ := chk_e h
    obtain ⟨v9, ev9, h⟩ := blet_e h
    obtain ⟨c10, h⟩ := chk_e h
    obtain ⟨v11, ev11, h⟩ := blet_e h
    obtain ⟨c12, h⟩ := chk_e h
    obtain ⟨M13, eM13, h⟩ := blet_e h
    have hFM13 : Fr [92, 94] [] M M13 := by rw [eM13]; exact hFM.stoA (by simp)
    cases h; exact hFM13
  · skip
    obtain ⟨c14, h⟩ := chk_e h
    obtain ⟨v15, ev15, h⟩ := blet_e h
    rcases ite_e h with ⟨c16, h⟩ | ⟨c16, h⟩
    · skip
      obtain ⟨c17, h⟩ := chk_e h
      obtain ⟨v18, ev18, h⟩ := blet_e h
      obtain ⟨c19, h⟩ := chk_e h
      obtain ⟨v20, ev20, h⟩ := blet_e h
      obtain ⟨c21, h⟩ := chk_e h
      obtain ⟨v22, ev22, h⟩ := blet_e h
      obtain ⟨c23, h⟩ := chk_e h
      obtain ⟨M24, eM24, h⟩ := blet_e h
      have hFM24 : Fr [92, 94] [] M M24 := by rw [eM24]; exact hFM.stoA (by simp)
      cases h; exact hFM24
    · skip
      cases h; exact hFM
theorem w_Py_beginLastWeekOf {a1 : Int} {M : Mem} {r : Int × Mem} (h : d_Py_beginLastWeekOf a1 M = some r) : Fr [34] [(32, 2)] M r.2 := by
  unfold d_Py_beginLastWeekOf at h
  have hFM : Fr [34] [(32, 2)] M M := Fr.rfl'
  obtain ⟨v1, M2, fv1, h⟩ := bcall_e h
  have hFM2 : Fr [34] [(32, 2)] M M2 := hFM.trans ((w_As_begin fv1).mono (by simp) (by simp))
  obtain ⟨v3, M4, fv3, h⟩ := bcall_e h
  have hFM4 : Fr [34] [(32, 2)] M M4 := hFM2.trans ((w_As_tell fv3).mono (by simp) (by simp))
  cases h; exact hFM4
theorem w_Py_payFor_100 {R100 : Int → Int → Mem → Res} (hR100 : ∀ (a3 a5 : Int) (M : Mem) (r : Int × Mem), R100 a3 a5 M = some r → Fr [34, 35, 36, 37, 38, 87, 90, 93, 95, 96, 97] [(32, 2), (32, 8)] M r.2) {a3 a5 : Int} {M : Mem} {r : Int × Mem} (h : k_Py_payFor_100 R100 a3 a5 M = some r) : Fr [34, 35, 36, 37, 38, 87, 90, 93, 95, 96, 97] [(32, 2), (32, 8)] M r.2 := by
  unfold k_Py_payFor_100 at h
  have hFM : Fr [34, 35, 36, 37, 38, 87, 90, 93, 95, 96, 97] [(32, 2), (32, 8)] M M := Fr.rfl'
  rcases ite_e h with ⟨c1, h⟩ | ⟨c1, h⟩
  · skip
    obtain ⟨c2, h⟩ := chk_e h
    obtain ⟨v3, ev3, h⟩ := blet_e h
    obtain ⟨c4, h⟩ := chk_e h
    obtain ⟨v5, ev5, h⟩ := blet_e h
    obtain ⟨c6, h⟩ := chk_e h
    obtain ⟨M7, eM7, h⟩ := blet_e h
    have hFM7 : Fr [34, 35, 36, 37, 38, 87, 90, 93, 95, 96, 97] [(32, 2), (32, 8)] M M7 := by rw [eM7]; exact hFM.stoA (by simp)
    obtain ⟨c8, h⟩ := chk_e h
    obtain ⟨v9, ev9, h⟩ := blet_e h
    obtain ⟨c10, h⟩ := chk_e h
    obtain ⟨v11, ev11, h⟩ := blet_e h
    obtain ⟨c12, h⟩ := chk_e h
    obtain ⟨M13, eM13, h⟩ := blet_e h
    have hFM13 : Fr [34, 35, 36, 37, 38, 87, 90, 93, 95, 96, 97] [(32, 2), (32, 8)] M M13 := by rw [eM13]; exact hFM7.stoA (by simp)
    obtain ⟨v14, ev14, h⟩ := blet_e h
    exact hFM13.trans (hR100 a3 v14 M13 r h)
  · skip
    cases h; exact hFM
theorem wl_Py_payFor_100  : ∀ (n : Nat) (a3 a5 : Int) (M : Mem) (r : Int × Mem), fix (fun _ _ _ => none) (k_Py_payFor_100) n a3 a5 M = some r → Fr [34, 35, 36, 37, 38, 87, 90, 93, 95, 96, 97] [(32, 2), (32, 8)] M r.2 := by
  intro n
  induction n with
  | zero => intro a3 a5 M r h; exact nomatch (show (none : Res) = some r from h)
  | succ n ih => intro a3 a5 M r h; exact w_Py_payFor_100 ih h
theorem w_Py_payFor {a1 a2 : Int} {M : Mem} {r : Int × Mem} (h : d_Py_payFor a1 a2 M = some r) : Fr [34, 35, 36, 37, 38, 87, 90, 93, 95, 96, 97] [(32, 2), (32, 8)] M r.2 := by
  unfold d_Py_payFor at h
  have hFM : Fr [34, 35, 36, 37, 38, 87, 90, 93, 95, 96, 97] [(32, 2), (32, 8)] M M := Fr.rfl'
  obtain ⟨v1, M2, fv1, h⟩ := bcall_e h
  have hFM2 : Fr [34, 35, 36, 37, 38, 87, 90, 93, 95, 96, 97] [(32, 2), (32, 8)] M M2 := hFM.trans ((w_Py_beginLastWeekOf fv1).mono (by simp) (by simp))
  obtain ⟨v3, M4, fv3, h⟩ := bcall_e h
  have hFM4 : Fr [34, 35, 36, 37, 38, 87, 90, 93, 95, 96, 97] [(32, 2), (32, 8)] M M4 := hFM2.trans ((w_As_tell fv3).mono (by simp) (by simp))
  obtain ⟨v5, M6, fv5, h⟩ := bcall_e h
  have hFM6 : Fr [34, 35, 36, 37, 38, 87, 90, 93, 95, 96, 97] [(32, 2), (32, 8)] M M6 := hFM4.trans ((w_As_ask fv5).mono (by simp) (by simp))
  obtain ⟨v7, ev7, h⟩ := blet_e h
  obtain ⟨c8, h⟩ := chk_e h
  obtain ⟨v9, ev9, h⟩ := blet_e h
  obtain ⟨v10, M11, fv10, h⟩ := bcall_e h
  have hFM11 : Fr [34, 35, 36, 37, 38, 87, 90, 93, 95, 96, 97] [(32, 2), (32, 8)] M M11 := hFM6.trans ((w_As_ask fv10).mono (by simp) (by simp))
  obtain ⟨c12, h⟩ := chk_e h
  obtain ⟨M13, eM13, h⟩ := blet_e h
  have hFM13 : Fr [34, 35, 36, 37, 38, 87, 90, 93, 95, 96, 97] [(32, 2), (32, 8)] M M13 := by rw [eM13]; exact hFM11.stoA (by simp)
  obtain ⟨c14, h⟩ := chk_e h
  obtain ⟨M15, eM15, h⟩ := blet_e h
  have hFM15 : Fr [34, 35, 36, 37, 38, 87, 90, 93, 95, 96, 97] [(32, 2), (32, 8)] M M15 := by rw [eM15]; exact hFM13.copy (by simp)
  obtain ⟨c16, h⟩ := chk_e h
  obtain ⟨v17, ev17, h⟩ := blet_e h
  obtain ⟨c18, h⟩ := chk_e h
  obtain ⟨v19, ev19, h⟩ := blet_e h
  obtain ⟨v20, M21, fv20, h⟩ := bcall_e h
  have hFM21 : Fr [34, 35, 36, 37, 38, 87, 90, 93, 95, 96, 97] [(32, 2), (32, 8)] M M21 := hFM15.trans ((w_Pl_part fv20).mono (by simp) (by simp))
  exact hFM21.trans (wl_Py_payFor_100 FU v7 0 M21 r h)
theorem w_Py_reckon_82 {R82 : Int → Int → Mem → Res} (hR82 : ∀ (a1 a3 : Int) (M : Mem) (r : Int × Mem), R82 a1 a3 M = some r → Fr [34, 35, 36, 37, 38, 76, 77, 78, 81, 82, 83, 84, 85, 86, 87, 90, 92, 93, 94, 95, 96, 97] [(32, 2), (32, 8), (75, 3), (75, 10), (75, 14)] M r.2) {a1 a3 : Int} {M : Mem} {r : Int × Mem} (h : k_Py_reckon_82 R82 a1 a3 M = some r) : Fr [34, 35, 36, 37, 38, 76, 77, 78, 81, 82, 83, 84, 85, 86, 87, 90, 92, 93, 94, 95, 96, 97] [(32, 2), (32, 8), (75, 3), (75, 10), (75, 14)] M r.2 := by
  unfold k_Py_reckon_82 at h
  have hFM : Fr [34, 35, 36, 37, 38, 76, 77, 78, 81, 82, 83, 84, 85, 86, 87, 90, 92, 93, 94, 95, 96, 97] [(32, 2), (32, 8), (75, 3), (75, 10), (75, 14)] M M := Fr.rfl'
  rcases ite_e h with ⟨c1, h⟩ | ⟨c1, h⟩
  · skip
    obtain ⟨v2, M3, fv2, h⟩ := bcall_e h
    have hFM3 : Fr [34, 35, 36, 37, 38, 76, 77, 78, 81, 82, 83, 84, 85, 86, 87, 90, 92, 93, 94, 95, 96, 97] [(32, 2), (32, 8), (75, 3), (75, 10), (75, 14)] M M3 := hFM.trans ((w_Py_payFor fv2).mono (by simp) (by simp))
    obtain ⟨v4, ev4, h⟩ := blet_e h
    exact hFM3.trans (hR82 a1 v4 M3 r h)
  · skip
    cases h; exact hFM
theorem wl_Py_reckon_82  : ∀ (n : Nat) (a1 a3 : Int) (M : Mem) (r : Int × Mem), fix (fun _ _ _ => none) (k_Py_reckon_82) n a1 a3 M = some r → Fr [34, 35, 36, 37, 38, 76, 77, 78, 81, 82, 83, 84, 85, 86, 87, 90, 92, 93, 94, 95, 96, 97] [(32, 2), (32, 8), (75, 3), (75, 10), (75, 14)] M r.2 := by
  intro n
  induction n with
  | zero => intro a1 a3 M r h; exact nomatch (show (none : Res) = some r from h)
  | succ n ih => intro a1 a3 M r h; exact w_Py_reckon_82 ih h
theorem w_Py_reckon_58 {R26 : Int → Int → Mem → Res} (hR26 : ∀ (a1 a3 : Int) (M : Mem) (r : Int × Mem), R26 a1 a3 M = some r → Fr [34, 35, 36, 37, 38, 76, 77, 78, 81, 82, 83, 84, 85, 86, 87, 90, 92, 93, 94, 95, 96, 97] [(32, 2), (32, 8), (75, 3), (75, 10), (75, 14)] M r.2) {a1 a3 : Int} {M : Mem} {r : Int × Mem} (h : k_Py_reckon_58 R26 a1 a3 M = some r) : Fr [34, 35, 36, 37, 38, 76, 77, 78, 81, 82, 83, 84, 85, 86, 87, 90, 92, 93, 94, 95, 96, 97] [(32, 2), (32, 8), (75, 3), (75, 10), (75, 14)] M r.2 := by
  unfold k_Py_reckon_58 at h
  have hFM : Fr [34, 35, 36, 37, 38, 76, 77, 78, 81, 82, 83, 84, 85, 86, 87, 90, 92, 93, 94, 95, 96, 97] [(32, 2), (32, 8), (75, 3), (75, 10), (75, 14)] M M := Fr.rfl'
  obtain ⟨v1, ev1, h⟩ := blet_e h
  exact hFM.trans (hR26 a1 v1 M r h)
theorem w_Py_reckon_26 {R26 : Int → Int → Mem → Res} (hR26 : ∀ (a1 a3 : Int) (M : Mem) (r : Int × Mem), R26 a1 a3 M = some r → Fr [34, 35, 36, 37, 38, 76, 77, 78, 81, 82, 83, 84, 85, 86, 87, 90, 92, 93, 94, 95, 96, 97] [(32, 2), (32, 8), (75, 3), (75, 10), (75, 14)] M r.2) {a1 a3 : Int} {M : Mem} {r : Int × Mem} (h : k_Py_reckon_26 R26 a1 a3 M = some r) : Fr [34, 35, 36, 37, 38, 76, 77, 78, 81, 82, 83, 84, 85, 86, 87, 90, 92, 93, 94, 95, 96, 97] [(32, 2), (32, 8), (75, 3), (75, 10), (75, 14)] M r.2 := by
  unfold k_Py_reckon_26 at h
  have hFM : Fr [34, 35, 36, 37, 38, 76, 77, 78, 81, 82, 83, 84, 85, 86, 87, 90, 92, 93, 94, 95, 96, 97] [(32, 2), (32, 8), (75, 3), (75, 10), (75, 14)] M M := Fr.rfl'
  obtain ⟨v1, ev1, h⟩ := blet_e h
  rcases ite_e h with ⟨c2, h⟩ | ⟨c2, h⟩
  · skip
    obtain ⟨c3, h⟩ := chk_e h
    obtain ⟨v4, ev4, h⟩ := blet_e h
    rcases ite_e h with ⟨c5, h⟩ | ⟨c5, h⟩
    · skip
      obtain ⟨v6, M7, fv6, h⟩ := bcall_e h
      have hFM7 : Fr [34, 35, 36, 37, 38, 76, 77, 78, 81, 82, 83, 84, 85, 86, 87, 90, 92, 93, 94, 95, 96, 97] [(32, 2), (32, 8), (75, 3), (75, 10), (75, 14)] M M7 := hFM.trans ((w_Py_gather fv6).mono (by simp) (by simp))
      exact hFM7.trans (w_Py_reckon_58 hR26 h)
    · skip
      exact hFM.trans (w_Py_reckon_58 hR26 h)
  · skip
    obtain ⟨v8, M9, fv8, h⟩ := bcall_e h
    have hFM9 : Fr [34, 35, 36, 37, 38, 76, 77, 78, 81, 82, 83, 84, 85, 86, 87, 90, 92, 93, 94, 95, 96, 97] [(32, 2), (32, 8), (75, 3), (75, 10), (75, 14)] M M9 := hFM.trans ((w_Ar_fill0 fv8).mono (by simp) (by simp))
    obtain ⟨v10, M11, fv10, h⟩ := bcall_e h
    have hFM11 : Fr [34, 35, 36, 37, 38, 76, 77, 78, 81, 82, 83, 84, 85, 86, 87, 90, 92, 93, 94, 95, 96, 97] [(32, 2), (32, 8), (75, 3), (75, 10), (75, 14)] M M11 := hFM9.trans ((w_Ar_fill0 fv10).mono (by simp) (by simp))
    exact hFM11.trans (wl_Py_reckon_82 FU a1 0 M11 r h)
theorem wl_Py_reckon_26  : ∀ (n : Nat) (a1 a3 : Int) (M : Mem) (r : Int × Mem), fix (fun _ _ _ => none) (k_Py_reckon_26) n a1 a3 M = some r → Fr [34, 35, 36, 37, 38, 76, 77, 78, 81, 82, 83, 84, 85, 86, 87, 90, 92, 93, 94, 95, 96, 97] [(32, 2), (32, 8), (75, 3), (75, 10), (75, 14)] M r.2 := by
  intro n
  induction n with
  | zero => intro a1 a3 M r h; exact nomatch (show (none : Res) = some r from h)
  | succ n ih => intro a1 a3 M r h; exact w_Py_reckon_26 ih h
theorem w_Py_reckon {a1 a2 : Int} {M : Mem} {r : Int × Mem} (h : d_Py_reckon a1 a2 M = some r) : Fr [34, 35, 36, 37, 38, 76, 77, 78, 81, 82, 83, 84, 85, 86, 87, 90, 92, 93, 94, 95, 96, 97] [(32, 2), (32, 8), (75, 3), (75, 10), (75, 14)] M r.2 := by
  unfold d_Py_reckon at h
  have hFM : Fr [34, 35, 36, 37, 38, 76, 77, 78, 81, 82, 83, 84, 85, 86, 87, 90, 92, 93, 94, 95, 96, 97] [(32, 2), (32, 8), (75, 3), (75, 10), (75, 14)] M M := Fr.rfl'
  obtain ⟨v1, M2, fv1, h⟩ := bcall_e h
  have hFM2 : Fr [34, 35, 36, 37, 38, 76, 77, 78, 81, 82, 83, 84, 85, 86, 87, 90, 92, 93, 94, 95, 96, 97] [(32, 2), (32, 8), (75, 3), (75, 10), (75, 14)] M M2 := hFM.trans ((w_Pl_replay fv1).mono (by simp) (by simp))
  obtain ⟨v3, M4, fv3, h⟩ := bcall_e h
  have hFM4 : Fr [34, 35, 36, 37, 38, 76, 77, 78, 81, 82, 83, 84, 85, 86, 87, 90, 92, 93, 94, 95, 96, 97] [(32, 2), (32, 8), (75, 3), (75, 10), (75, 14)] M M4 := hFM2.trans ((w_Ar_fill0 fv3).mono (by simp) (by simp))
  obtain ⟨v5, M6, fv5, h⟩ := bcall_e h
  have hFM6 : Fr [34, 35, 36, 37, 38, 76, 77, 78, 81, 82, 83, 84, 85, 86, 87, 90, 92, 93, 94, 95, 96, 97] [(32, 2), (32, 8), (75, 3), (75, 10), (75, 14)] M M6 := hFM4.trans ((w_Ar_fill0 fv5).mono (by simp) (by simp))
  exact hFM6.trans (wl_Py_reckon_26 FU a1 0 M6 r h)
theorem w_Py_broughtOfGrade_5 {R5 : Int → Int → Int → Mem → Res} (hR5 : ∀ (a1 a2 a4 : Int) (M : Mem) (r : Int × Mem), R5 a1 a2 a4 M = some r → Fr [] [] M r.2) {a1 a2 a4 : Int} {M : Mem} {r : Int × Mem} (h : k_Py_broughtOfGrade_5 R5 a1 a2 a4 M = some r) : Fr [] [] M r.2 := by
  unfold k_Py_broughtOfGrade_5 at h
  have hFM : Fr [] [] M M := Fr.rfl'
  rcases ite_e h with ⟨c1, h⟩ | ⟨c1, h⟩
  · skip
    obtain ⟨c2, h⟩ := chk_e h
    obtain ⟨v3, ev3, h⟩ := blet_e h
    obtain ⟨v4, ev4, h⟩ := blet_e h
    obtain ⟨v5, ev5, h⟩ := blet_e h
    exact hFM.trans (hR5 a1 v4 v5 M r h)
  · skip
    cases h; exact hFM
theorem wl_Py_broughtOfGrade_5  : ∀ (n : Nat) (a1 a2 a4 : Int) (M : Mem) (r : Int × Mem), fix (fun _ _ _ _ => none) (k_Py_broughtOfGrade_5) n a1 a2 a4 M = some r → Fr [] [] M r.2 := by
  intro n
  induction n with
  | zero => intro a1 a2 a4 M r h; exact nomatch (show (none : Res) = some r from h)
  | succ n ih => intro a1 a2 a4 M r h; exact w_Py_broughtOfGrade_5 ih h
theorem w_Py_broughtOfGrade {a1 : Int} {M : Mem} {r : Int × Mem} (h : d_Py_broughtOfGrade a1 M = some r) : Fr [] [] M r.2 := by
  unfold d_Py_broughtOfGrade at h
  have hFM : Fr [] [] M M := Fr.rfl'
  exact hFM.trans (wl_Py_broughtOfGrade_5 FU a1 0 0 M r h)
theorem w_Py_ofGrade {a1 a2 : Int} {M : Mem} {r : Int × Mem} (h : d_Py_ofGrade a1 a2 M = some r) : Fr [] [] M r.2 := by
  unfold d_Py_ofGrade at h
  have hFM : Fr [] [] M M := Fr.rfl'
  rcases ite_e h with ⟨c1, h⟩ | ⟨c1, h⟩
  · skip
    obtain ⟨c2, h⟩ := chk_e h
    obtain ⟨v3, ev3, h⟩ := blet_e h
    cases h; exact hFM
  · skip
    rcases ite_e h with ⟨c4, h⟩ | ⟨c4, h⟩
    · skip
      obtain ⟨c5, h⟩ := chk_e h
      obtain ⟨v6, ev6, h⟩ := blet_e h
      cases h; exact hFM
    · skip
      obtain ⟨v7, M8, fv7, h⟩ := bcall_e h
      have hFM8 : Fr [] [] M M8 := hFM.trans ((w_Py_broughtOfGrade fv7).mono (by simp) (by simp))
      cases h; exact hFM8
theorem w_Py_lastOf {a1 : Int} {M : Mem} {r : Int × Mem} (h : d_Py_lastOf a1 M = some r) : Fr [] [] M r.2 := by
  unfold d_Py_lastOf at h
  have hFM : Fr [] [] M M := Fr.rfl'
  obtain ⟨c1, h⟩ := chk_e h
  obtain ⟨v2, ev2, h⟩ := blet_e h
  obtain ⟨c3, h⟩ := chk_e h
  obtain ⟨v4, ev4, h⟩ := blet_e h
  cases h; exact hFM
theorem w_Py_reckonOwed_5 {R5 : Int → Int → Int → Mem → Res} (hR5 : ∀ (a1 a2 a4 : Int) (M : Mem) (r : Int × Mem), R5 a1 a2 a4 M = some r → Fr [34, 35, 36, 37, 38, 87, 91, 96] [(32, 2), (32, 8), (88, 4), (88, 5)] M r.2) {a1 a2 a4 : Int} {M : Mem} {r : Int × Mem} (h : k_Py_reckonOwed_5 R5 a1 a2 a4 M = some r) : Fr [34, 35, 36, 37, 38, 87, 91, 96] [(32, 2), (32, 8), (88, 4), (88, 5)] M r.2 := by
  unfold k_Py_reckonOwed_5 at h
  have hFM : Fr [34, 35, 36, 37, 38, 87, 91, 96] [(32, 2), (32, 8), (88, 4), (88, 5)] M M := Fr.rfl'
  rcases ite_e h with ⟨c1, h⟩ | ⟨c1, h⟩
  · skip
    obtain ⟨v2, M3, fv2, h⟩ := bcall_e h
    have hFM3 : Fr [34, 35, 36, 37, 38, 87, 91, 96] [(32, 2), (32, 8), (88, 4), (88, 5)] M M3 := hFM.trans ((w_Py_lastOf fv2).mono (by simp) (by simp))
    obtain ⟨v4, ev4, h⟩ := blet_e h
    obtain ⟨v5, M6, fv5, h⟩ := bcall_e h
    have hFM6 : Fr [34, 35, 36, 37, 38, 87, 91, 96] [(32, 2), (32, 8), (88, 4), (88, 5)] M M6 := hFM3.trans ((w_Py_lastOf fv5).mono (by simp) (by simp))
    obtain ⟨c7, h⟩ := chk_e h
    obtain ⟨M8, eM8, h⟩ := blet_e h
    have hFM8 : Fr [34, 35, 36, 37, 38, 87, 91, 96] [(32, 2), (32, 8), (88, 4), (88, 5)] M M8 := by rw [eM8]; exact hFM6.stoA (by simp)
    obtain ⟨v9, ev9, h⟩ := blet_e h
    exact hFM8.trans (hR5 a1 v4 v9 M8 r h)
  · skip
    obtain ⟨M10, eM10, h⟩ := blet_e h
    have hFM10 : Fr [34, 35, 36, 37, 38, 87, 91, 96] [(32, 2), (32, 8), (88, 4), (88, 5)] M M10 := by rw [eM10]; exact hFM.stoF (by simp)
    obtain ⟨v11, M12, fv11, h⟩ := bcall_e h
    have hFM12 : Fr [34, 35, 36, 37, 38, 87, 91, 96] [(32, 2), (32, 8), (88, 4), (88, 5)] M M12 := hFM10.trans ((w_Py_beginLastWeekOf fv11).mono (by simp) (by simp))
    obtain ⟨v13, ev13, h⟩ := blet_e h
    obtain ⟨v14, M15, fv14, h⟩ := bcall_e h
    have hFM15 : Fr [34, 35, 36, 37, 38, 87, 91, 96] [(32, 2), (32, 8), (88, 4), (88, 5)] M M15 := hFM12.trans ((w_As_ask fv14).mono (by simp) (by simp))
    obtain ⟨M16, eM16, h⟩ := blet_e h
    have hFM16 : Fr [34, 35, 36, 37, 38, 87, 91, 96] [(32, 2), (32, 8), (88, 4), (88, 5)] M M16 := by rw [eM16]; exact hFM15.stoF (by simp)
    obtain ⟨v17, ev17, h⟩ := blet_e h
    obtain ⟨v18, ev18, h⟩ := blet_e h
    obtain ⟨v19, M20, fv19, h⟩ := bcall_e h
    have hFM20 : Fr [34, 35, 36, 37, 38, 87, 91, 96] [(32, 2), (32, 8), (88, 4), (88, 5)] M M20 := hFM16.trans ((w_Pl_part fv19).mono (by simp) (by simp))
    cases h; exact hFM20
theorem wl_Py_reckonOwed_5  : ∀ (n : Nat) (a1 a2 a4 : Int) (M : Mem) (r : Int × Mem), fix (fun _ _ _ _ => none) (k_Py_reckonOwed_5) n a1 a2 a4 M = some r → Fr [34, 35, 36, 37, 38, 87, 91, 96] [(32, 2), (32, 8), (88, 4), (88, 5)] M r.2 := by
  intro n
  induction n with
  | zero => intro a1 a2 a4 M r h; exact nomatch (show (none : Res) = some r from h)
  | succ n ih => intro a1 a2 a4 M r h; exact w_Py_reckonOwed_5 ih h
theorem w_Py_reckonOwed {a1 : Int} {M : Mem} {r : Int × Mem} (h : d_Py_reckonOwed a1 M = some r) : Fr [34, 35, 36, 37, 38, 87, 91, 96] [(32, 2), (32, 8), (88, 4), (88, 5)] M r.2 := by
  unfold d_Py_reckonOwed at h
  have hFM : Fr [34, 35, 36, 37, 38, 87, 91, 96] [(32, 2), (32, 8), (88, 4), (88, 5)] M M := Fr.rfl'
  exact hFM.trans (wl_Py_reckonOwed_5 FU a1 0 0 M r h)
theorem w_Pl_waitsAt {a1 : Int} {M : Mem} {r : Int × Mem} (h : d_Pl_waitsAt a1 M = some r) : Fr [] [] M r.2 := by
  unfold d_Pl_waitsAt at h
  have hFM : Fr [] [] M M := Fr.rfl'
  obtain ⟨c1, h⟩ := chk_e h
  obtain ⟨v2, ev2, h⟩ := blet_e h
  obtain ⟨c3, h⟩ := chk_e h
  obtain ⟨v4, ev4, h⟩ := blet_e h
  cases h; exact hFM
theorem w_Pl_turnOf {a1 : Int} {M : Mem} {r : Int × Mem} (h : d_Pl_turnOf a1 M = some r) : Fr [34, 35, 36, 37, 38] [(32, 8)] M r.2 := by
  unfold d_Pl_turnOf at h
  have hFM : Fr [34, 35, 36, 37, 38] [(32, 8)] M M := Fr.rfl'
  obtain ⟨c1, h⟩ := chk_e h
  obtain ⟨v2, ev2, h⟩ := blet_e h
  obtain ⟨v3, M4, fv3, h⟩ := bcall_e h
  have hFM4 : Fr [34, 35, 36, 37, 38] [(32, 8)] M M4 := hFM.trans ((w_As_tell fv3).mono (by simp) (by simp))
  obtain ⟨v5, M6, fv5, h⟩ := bcall_e h
  have hFM6 : Fr [34, 35, 36, 37, 38] [(32, 8)] M M6 := hFM4.trans ((w_Pl_waitsAt fv5).mono (by simp) (by simp))
  obtain ⟨v7, M8, fv7, h⟩ := bcall_e h
  have hFM8 : Fr [34, 35, 36, 37, 38] [(32, 8)] M M8 := hFM6.trans ((w_As_tell fv7).mono (by simp) (by simp))
  obtain ⟨c9, h⟩ := chk_e h
  obtain ⟨v10, ev10, h⟩ := blet_e h
  obtain ⟨v11, M12, fv11, h⟩ := bcall_e h
  have hFM12 : Fr [34, 35, 36, 37, 38] [(32, 8)] M M12 := hFM8.trans ((w_As_tell fv11).mono (by simp) (by simp))
  obtain ⟨v13, M14, fv13, h⟩ := bcall_e h
  have hFM14 : Fr [34, 35, 36, 37, 38] [(32, 8)] M M14 := hFM12.trans ((w_As_ask fv13).mono (by simp) (by simp))
  cases h; exact hFM14
theorem w_Pl_nextForCar_45 {R4 : Int → Int → Mem → Res} (hR4 : ∀ (a1 a2 : Int) (M : Mem) (r : Int × Mem), R4 a1 a2 M = some r → Fr [] [] M r.2) {a1 a2 : Int} {M : Mem} {r : Int × Mem} (h : k_Pl_nextForCar_45 R4 a1 a2 M = some r) : Fr [] [] M r.2 := by
  unfold k_Pl_nextForCar_45 at h
  have hFM : Fr [] [] M M := Fr.rfl'
  obtain ⟨v1, ev1, h⟩ := blet_e h
  exact hFM.trans (hR4 a1 v1 M r h)
theorem w_Pl_nextForCar_43 {R4 : Int → Int → Mem → Res} (hR4 : ∀ (a1 a2 : Int) (M : Mem) (r : Int × Mem), R4 a1 a2 M = some r → Fr [] [] M r.2) {a2 : Int} {M : Mem} {r : Int × Mem} (h : k_Pl_nextForCar_43 R4 a2 M = some r) : Fr [] [] M r.2 := by
  unfold k_Pl_nextForCar_43 at h
  have hFM : Fr [] [] M M := Fr.rfl'
  exact hFM.trans (w_Pl_nextForCar_45 hR4 h)
theorem w_Pl_nextForCar_4 {R4 : Int → Int → Mem → Res} (hR4 : ∀ (a1 a2 : Int) (M : Mem) (r : Int × Mem), R4 a1 a2 M = some r → Fr [] [] M r.2) {a1 a2 : Int} {M : Mem} {r : Int × Mem} (h : k_Pl_nextForCar_4 R4 a1 a2 M = some r) : Fr [] [] M r.2 := by
  unfold k_Pl_nextForCar_4 at h
  have hFM : Fr [] [] M M := Fr.rfl'
  obtain ⟨v1, ev1, h⟩ := blet_e h
  rcases ite_e h with ⟨c2, h⟩ | ⟨c2, h⟩
  · skip
    obtain ⟨v3, M4, fv3, h⟩ := bcall_e h
    have hFM4 : Fr [] [] M M4 := hFM.trans ((w_Pl_waitsAt fv3).mono (by simp) (by simp))
    rcases ite_e h with ⟨c5, h⟩ | ⟨c5, h⟩
    · skip
      rcases ite_e h with ⟨c6, h⟩ | ⟨c6, h⟩
      · skip
        exact hFM4.trans (w_Pl_nextForCar_43 hR4 h)
      · skip
        obtain ⟨c7, h⟩ := chk_e h
        obtain ⟨v8, ev8, h⟩ := blet_e h
        obtain ⟨c9, h⟩ := chk_e h
        obtain ⟨v10, ev10, h⟩ := blet_e h
        rcases ite_e h with ⟨c11, h⟩ | ⟨c11, h⟩
        · skip
          exact hFM4.trans (w_Pl_nextForCar_43 hR4 h)
        · skip
          exact hFM4.trans (w_Pl_nextForCar_45 hR4 h)
    · skip
      exact hFM4.trans (w_Pl_nextForCar_45 hR4 h)
  · skip
    cases h; exact hFM
theorem wl_Pl_nextForCar_4  : ∀ (n : Nat) (a1 a2 : Int) (M : Mem) (r : Int × Mem), fix (fun _ _ _ => none) (k_Pl_nextForCar_4) n a1 a2 M = some r → Fr [] [] M r.2 := by
  intro n
  induction n with
  | zero => intro a1 a2 M r h; exact nomatch (show (none : Res) = some r from h)
  | succ n ih => intro a1 a2 M r h; exact w_Pl_nextForCar_4 ih h
theorem w_Pl_nextForCar {M : Mem} {r : Int × Mem} (h : d_Pl_nextForCar M = some r) : Fr [] [] M r.2 := by
  unfold d_Pl_nextForCar at h
  have hFM : Fr [] [] M M := Fr.rfl'
  exact hFM.trans (wl_Pl_nextForCar_4 FU (-1) 0 M r h)
theorem w_Pl_giveCars_56 {R56 : Int → Int → Mem → Res} (hR56 : ∀ (a2 a3 : Int) (M : Mem) (r : Int × Mem), R56 a2 a3 M = some r → Fr [34, 35, 36, 37, 38, 79, 80] [(32, 2), (32, 8)] M r.2) {a2 a3 : Int} {M : Mem} {r : Int × Mem} (h : k_Pl_giveCars_56 R56 a2 a3 M = some r) : Fr [34, 35, 36, 37, 38, 79, 80] [(32, 2), (32, 8)] M r.2 := by
  unfold k_Pl_giveCars_56 at h
  have hFM : Fr [34, 35, 36, 37, 38, 79, 80] [(32, 2), (32, 8)] M M := Fr.rfl'
  rcases ite_e h with ⟨c1, h⟩ | ⟨c1, h⟩
  · skip
    obtain ⟨v2, M3, fv2, h⟩ := bcall_e h
    have hFM3 : Fr [34, 35, 36, 37, 38, 79, 80] [(32, 2), (32, 8)] M M3 := hFM.trans ((w_Pl_nextForCar fv2).mono (by simp) (by simp))
    rcases ite_e h with ⟨c4, h⟩ | ⟨c4, h⟩
    · skip
      cases h; exact hFM3
    · skip
      obtain ⟨c5, h⟩ := chk_e h
      obtain ⟨v6, ev6, h⟩ := blet_e h
      obtain ⟨c7, h⟩ := chk_e h
      obtain ⟨M8, eM8, h⟩ := blet_e h
      have hFM8 : Fr [34, 35, 36, 37, 38, 79, 80] [(32, 2), (32, 8)] M M8 := by rw [eM8]; exact hFM3.stoA (by simp)
      obtain ⟨v9, M10, fv9, h⟩ := bcall_e h
      have hFM10 : Fr [34, 35, 36, 37, 38, 79, 80] [(32, 2), (32, 8)] M M10 := hFM8.trans ((w_Pl_turnOf fv9).mono (by simp) (by simp))
      obtain ⟨c11, h⟩ := chk_e h
      obtain ⟨M12, eM12, h⟩ := blet_e h
      have hFM12 : Fr [34, 35, 36, 37, 38, 79, 80] [(32, 2), (32, 8)] M M12 := by rw [eM12]; exact hFM10.stoA (by simp)
      obtain ⟨v13, ev13, h⟩ := blet_e h
      exact hFM12.trans (hR56 a2 v13 M12 r h)
  · skip
    cases h; exact hFM
theorem wl_Pl_giveCars_56  : ∀ (n : Nat) (a2 a3 : Int) (M : Mem) (r : Int × Mem), fix (fun _ _ _ => none) (k_Pl_giveCars_56) n a2 a3 M = some r → Fr [34, 35, 36, 37, 38, 79, 80] [(32, 2), (32, 8)] M r.2 := by
  intro n
  induction n with
  | zero => intro a2 a3 M r h; exact nomatch (show (none : Res) = some r from h)
  | succ n ih => intro a2 a3 M r h; exact w_Pl_giveCars_56 ih h
theorem w_Pl_giveCars_26 {R26 : Int → Int → Mem → Res} (hR26 : ∀ (a2 a3 : Int) (M : Mem) (r : Int × Mem), R26 a2 a3 M = some r → Fr [34, 35, 36, 37, 38, 79, 80] [(32, 2), (32, 8)] M r.2) {a2 a3 : Int} {M : Mem} {r : Int × Mem} (h : k_Pl_giveCars_26 R26 a2 a3 M = some r) : Fr [34, 35, 36, 37, 38, 79, 80] [(32, 2), (32, 8)] M r.2 := by
  unfold k_Pl_giveCars_26 at h
  have hFM : Fr [34, 35, 36, 37, 38, 79, 80] [(32, 2), (32, 8)] M M := Fr.rfl'
  obtain ⟨v1, ev1, h⟩ := blet_e h
  rcases ite_e h with ⟨c2, h⟩ | ⟨c2, h⟩
  · skip
    obtain ⟨v3, M4, fv3, h⟩ := bcall_e h
    have hFM4 : Fr [34, 35, 36, 37, 38, 79, 80] [(32, 2), (32, 8)] M M4 := hFM.trans ((w_Pl_turnOf fv3).mono (by simp) (by simp))
    obtain ⟨c5, h⟩ := chk_e h
    obtain ⟨M6, eM6, h⟩ := blet_e h
    have hFM6 : Fr [34, 35, 36, 37, 38, 79, 80] [(32, 2), (32, 8)] M M6 := by rw [eM6]; exact hFM4.stoA (by simp)
    obtain ⟨v7, ev7, h⟩ := blet_e h
    exact hFM6.trans (hR26 a2 v7 M6 r h)
  · skip
    exact hFM.trans (wl_Pl_giveCars_56 FU a2 0 M r h)
theorem wl_Pl_giveCars_26  : ∀ (n : Nat) (a2 a3 : Int) (M : Mem) (r : Int × Mem), fix (fun _ _ _ => none) (k_Pl_giveCars_26) n a2 a3 M = some r → Fr [34, 35, 36, 37, 38, 79, 80] [(32, 2), (32, 8)] M r.2 := by
  intro n
  induction n with
  | zero => intro a2 a3 M r h; exact nomatch (show (none : Res) = some r from h)
  | succ n ih => intro a2 a3 M r h; exact w_Pl_giveCars_26 ih h
theorem w_Pl_giveCars {a1 a2 : Int} {M : Mem} {r : Int × Mem} (h : d_Pl_giveCars a1 a2 M = some r) : Fr [34, 35, 36, 37, 38, 79, 80] [(32, 2), (32, 8)] M r.2 := by
  unfold d_Pl_giveCars at h
  have hFM : Fr [34, 35, 36, 37, 38, 79, 80] [(32, 2), (32, 8)] M M := Fr.rfl'
  obtain ⟨v1, M2, fv1, h⟩ := bcall_e h
  have hFM2 : Fr [34, 35, 36, 37, 38, 79, 80] [(32, 2), (32, 8)] M M2 := hFM.trans ((w_Ar_fill1 fv1).mono (by simp) (by simp))
  obtain ⟨v3, M4, fv3, h⟩ := bcall_e h
  have hFM4 : Fr [34, 35, 36, 37, 38, 79, 80] [(32, 2), (32, 8)] M M4 := hFM2.trans ((w_As_begin fv3).mono (by simp) (by simp))
  obtain ⟨v5, M6, fv5, h⟩ := bcall_e h
  have hFM6 : Fr [34, 35, 36, 37, 38, 79, 80] [(32, 2), (32, 8)] M M6 := hFM4.trans ((w_As_tellWeek fv5).mono (by simp) (by simp))
  exact hFM6.trans (wl_Pl_giveCars_26 FU a2 0 M6 r h)
theorem w_Ou_add {a1 a2 a3 a4 : Int} {M : Mem} {r : Int × Mem} (h : d_Ou_add a1 a2 a3 a4 M = some r) : Fr [99, 100, 101, 102] [(98, 0)] M r.2 := by
  unfold d_Ou_add at h
  have hFM : Fr [99, 100, 101, 102] [(98, 0)] M M := Fr.rfl'
  obtain ⟨v1, ev1, h⟩ := blet_e h
  obtain ⟨c2, h⟩ := chk_e h
  obtain ⟨M3, eM3, h⟩ := blet_e h
  have hFM3 : Fr [99, 100, 101, 102] [(98, 0)] M M3 := by rw [eM3]; exact hFM.stoA (by simp)
  obtain ⟨c4, h⟩ := chk_e h
  obtain ⟨M5, eM5, h⟩ := blet_e h
  have hFM5 : Fr [99, 100, 101, 102] [(98, 0)] M M5 := by rw [eM5]; exact hFM3.stoA (by simp)
  obtain ⟨c6, h⟩ := chk_e h
  obtain ⟨M7, eM7, h⟩ := blet_e h
  have hFM7 : Fr [99, 100, 101, 102] [(98, 0)] M M7 := by rw [eM7]; exact hFM5.stoA (by simp)
  obtain ⟨c8, h⟩ := chk_e h
  obtain ⟨M9, eM9, h⟩ := blet_e h
  have hFM9 : Fr [99, 100, 101, 102] [(98, 0)] M M9 := by rw [eM9]; exact hFM7.stoA (by simp)
  obtain ⟨v10, ev10, h⟩ := blet_e h
  obtain ⟨M11, eM11, h⟩ := blet_e h
  have hFM11 : Fr [99, 100, 101, 102] [(98, 0)] M M11 := by rw [eM11]; exact hFM9.stoF (by simp)
  cases h; exact hFM11
theorem w_Pr_tellOf {a1 : Int} {M : Mem} {r : Int × Mem} (h : d_Pr_tellOf a1 M = some r) : Fr [34] [] M r.2 := by
  unfold d_Pr_tellOf at h
  have hFM : Fr [34] [] M M := Fr.rfl'
  obtain ⟨c1, h⟩ := chk_e h
  obtain ⟨v2, ev2, h⟩ := blet_e h
  obtain ⟨v3, M4, fv3, h⟩ := bcall_e h
  have hFM4 : Fr [34] [] M M4 := hFM.trans ((w_As_tell fv3).mono (by simp) (by simp))
  obtain ⟨c5, h⟩ := chk_e h
  obtain ⟨v6, ev6, h⟩ := blet_e h
  obtain ⟨v7, M8, fv7, h⟩ := bcall_e h
  have hFM8 : Fr [34] [] M M8 := hFM4.trans ((w_As_tell fv7).mono (by simp) (by simp))
  obtain ⟨c9, h⟩ := chk_e h
  obtain ⟨v10, ev10, h⟩ := blet_e h
  obtain ⟨v11, M12, fv11, h⟩ := bcall_e h
  have hFM12 : Fr [34] [] M M12 := hFM8.trans ((w_As_tell fv11).mono (by simp) (by simp))
  cases h; exact hFM12
theorem w_Py_priceOf {a1 : Int} {M : Mem} {r : Int × Mem} (h : d_Py_priceOf a1 M = some r) : Fr [] [] M r.2 := by
  unfold d_Py_priceOf at h
  have hFM : Fr [] [] M M := Fr.rfl'
  obtain ⟨c1, h⟩ := chk_e h
  obtain ⟨v2, ev2, h⟩ := blet_e h
  obtain ⟨v3, ev3, h⟩ := blet_e h
  obtain ⟨v4, ev4, h⟩ := blet_e h
  obtain ⟨c5, h⟩ := chk_e h
  obtain ⟨v6, ev6, h⟩ := blet_e h
  obtain ⟨c7, h⟩ := chk_e h
  obtain ⟨v8, ev8, h⟩ := blet_e h
  obtain ⟨v9, ev9, h⟩ := blet_e h
  cases h; exact hFM
theorem w_Py_aloneOf_94 {R14 : Int → Int → Int → Int → Mem → Res} (hR14 : ∀ (a1 a2 a4 a6 : Int) (M : Mem) (r : Int × Mem), R14 a1 a2 a4 a6 M = some r → Fr [] [] M r.2) {a1 a2 a4 a6 : Int} {M : Mem} {r : Int × Mem} (h : k_Py_aloneOf_94 R14 a1 a2 a4 a6 M = some r) : Fr [] [] M r.2 := by
  unfold k_Py_aloneOf_94 at h
  have hFM : Fr [] [] M M := Fr.rfl'
  obtain ⟨v1, ev1, h⟩ := blet_e h
  exact hFM.trans (hR14 a1 a2 a4 v1 M r h)
theorem w_Py_aloneOf_41 {R14 : Int → Int → Int → Int → Mem → Res} (hR14 : ∀ (a1 a2 a4 a6 : Int) (M : Mem) (r : Int × Mem), R14 a1 a2 a4 a6 M = some r → Fr [] [] M r.2) {a1 a2 a4 a6 s0 : Int} {M : Mem} {r : Int × Mem} (h : k_Py_aloneOf_41 R14 a1 a2 a4 a6 s0 M = some r) : Fr [] [] M r.2 := by
  unfold k_Py_aloneOf_41 at h
  have hFM : Fr [] [] M M := Fr.rfl'
  rcases ite_e h with ⟨c1, h⟩ | ⟨c1, h⟩
  · skip
    exact hFM.trans (w_Py_aloneOf_94 hR14 h)
  · skip
    obtain ⟨c2, h⟩ := chk_e h
    obtain ⟨v3, ev3, h⟩ := blet_e h
    rcases ite_e h with ⟨c4, h⟩ | ⟨c4, h⟩
    · skip
      obtain ⟨c5, h⟩ := chk_e h
      obtain ⟨v6, ev6, h⟩ := blet_e h
      rcases ite_e h with ⟨c7, h⟩ | ⟨c7, h⟩
      · skip
        obtain ⟨c8, h⟩ := chk_e h
        obtain ⟨v9, ev9, h⟩ := blet_e h
        obtain ⟨v10, M11, fv10, h⟩ := bcall_e h
        have hFM11 : Fr [] [] M M11 := hFM.trans ((w_Py_priceOf fv10).mono (by simp) (by simp))
        obtain ⟨v12, ev12, h⟩ := blet_e h
        exact hFM11.trans (w_Py_aloneOf_94 hR14 h)
      · skip
        exact hFM.trans (w_Py_aloneOf_94 hR14 h)
    · skip
      exact hFM.trans (w_Py_aloneOf_94 hR14 h)
theorem w_Py_aloneOf_14 {R14 : Int → Int → Int → Int → Mem → Res} (hR14 : ∀ (a1 a2 a4 a6 : Int) (M : Mem) (r : Int × Mem), R14 a1 a2 a4 a6 M = some r → Fr [] [] M r.2) {a1 a2 a4 a6 : Int} {M : Mem} {r : Int × Mem} (h : k_Py_aloneOf_14 R14 a1 a2 a4 a6 M = some r) : Fr [] [] M r.2 := by
  unfold k_Py_aloneOf_14 at h
  have hFM : Fr [] [] M M := Fr.rfl'
  obtain ⟨v1, ev1, h⟩ := blet_e h
  rcases ite_e h with ⟨c2, h⟩ | ⟨c2, h⟩
  · skip
    obtain ⟨c3, h⟩ := chk_e h
    obtain ⟨v4, ev4, h⟩ := blet_e h
    rcases ite_e h with ⟨c5, h⟩ | ⟨c5, h⟩
    · skip
      exact hFM.trans (w_Py_aloneOf_41 hR14 h)
    · skip
      exact hFM.trans (w_Py_aloneOf_41 hR14 h)
  · skip
    cases h; exact hFM
theorem wl_Py_aloneOf_14  : ∀ (n : Nat) (a1 a2 a4 a6 : Int) (M : Mem) (r : Int × Mem), fix (fun _ _ _ _ _ => none) (k_Py_aloneOf_14) n a1 a2 a4 a6 M = some r → Fr [] [] M r.2 := by
  intro n
  induction n with
  | zero => intro a1 a2 a4 a6 M r h; exact nomatch (show (none : Res) = some r from h)
  | succ n ih => intro a1 a2 a4 a6 M r h; exact w_Py_aloneOf_14 ih h
theorem w_Py_aloneOf {a1 a2 : Int} {M : Mem} {r : Int × Mem} (h : d_Py_aloneOf a1 a2 M = some r) : Fr [] [] M r.2 := by
  unfold d_Py_aloneOf at h
  have hFM : Fr [] [] M M := Fr.rfl'
  exact hFM.trans (wl_Py_aloneOf_14 FU a1 a2 0 0 M r h)
theorem w_Py_countBetterOff_29 {R4 : Int → Int → Int → Mem → Res} (hR4 : ∀ (a1 a2 a3 : Int) (M : Mem) (r : Int × Mem), R4 a1 a2 a3 M = some r → Fr [] [] M r.2) {a1 a2 a3 : Int} {M : Mem} {r : Int × Mem} (h : k_Py_countBetterOff_29 R4 a1 a2 a3 M = some r) : Fr [] [] M r.2 := by
  unfold k_Py_countBetterOff_29 at h
  have hFM : Fr [] [] M M := Fr.rfl'
  obtain ⟨v1, ev1, h⟩ := blet_e h
  exact hFM.trans (hR4 a1 a2 v1 M r h)
theorem w_Py_countBetterOff_4 {R4 : Int → Int → Int → Mem → Res} (hR4 : ∀ (a1 a2 a3 : Int) (M : Mem) (r : Int × Mem), R4 a1 a2 a3 M = some r → Fr [] [] M r.2) {a1 a2 a3 : Int} {M : Mem} {r : Int × Mem} (h : k_Py_countBetterOff_4 R4 a1 a2 a3 M = some r) : Fr [] [] M r.2 := by
  unfold k_Py_countBetterOff_4 at h
  have hFM : Fr [] [] M M := Fr.rfl'
  rcases ite_e h with ⟨c1, h⟩ | ⟨c1, h⟩
  · skip
    obtain ⟨c2, h⟩ := chk_e h
    obtain ⟨v3, ev3, h⟩ := blet_e h
    obtain ⟨v4, M5, fv4, h⟩ := bcall_e h
    have hFM5 : Fr [] [] M M5 := hFM.trans ((w_Py_aloneOf fv4).mono (by simp) (by simp))
    rcases ite_e h with ⟨c6, h⟩ | ⟨c6, h⟩
    · skip
      obtain ⟨v7, ev7, h⟩ := blet_e h
      exact hFM5.trans (w_Py_countBetterOff_29 hR4 h)
    · skip
      exact hFM5.trans (w_Py_countBetterOff_29 hR4 h)
  · skip
    cases h; exact hFM
theorem wl_Py_countBetterOff_4  : ∀ (n : Nat) (a1 a2 a3 : Int) (M : Mem) (r : Int × Mem), fix (fun _ _ _ _ => none) (k_Py_countBetterOff_4) n a1 a2 a3 M = some r → Fr [] [] M r.2 := by
  intro n
  induction n with
  | zero => intro a1 a2 a3 M r h; exact nomatch (show (none : Res) = some r from h)
  | succ n ih => intro a1 a2 a3 M r h; exact w_Py_countBetterOff_4 ih h
theorem w_Py_countBetterOff {a1 : Int} {M : Mem} {r : Int × Mem} (h : d_Py_countBetterOff a1 M = some r) : Fr [] [] M r.2 := by
  unfold d_Py_countBetterOff at h
  have hFM : Fr [] [] M M := Fr.rfl'
  exact hFM.trans (wl_Py_countBetterOff_4 FU a1 0 0 M r h)
theorem w_Ba_count_138 {R26 : Int → Mem → Res} (hR26 : ∀ (a2 : Int) (M : Mem) (r : Int × Mem), R26 a2 M = some r → Fr [34, 35, 36, 37, 38, 104, 105] [(32, 2), (32, 8)] M r.2) {a2 : Int} {M : Mem} {r : Int × Mem} (h : k_Ba_count_138 R26 a2 M = some r) : Fr [34, 35, 36, 37, 38, 104, 105] [(32, 2), (32, 8)] M r.2 := by
  unfold k_Ba_count_138 at h
  have hFM : Fr [34, 35, 36, 37, 38, 104, 105] [(32, 2), (32, 8)] M M := Fr.rfl'
  obtain ⟨v1, ev1, h⟩ := blet_e h
  exact hFM.trans (hR26 v1 M r h)
theorem w_Ba_count_26 {R26 : Int → Mem → Res} (hR26 : ∀ (a2 : Int) (M : Mem) (r : Int × Mem), R26 a2 M = some r → Fr [34, 35, 36, 37, 38, 104, 105] [(32, 2), (32, 8)] M r.2) {a2 : Int} {M : Mem} {r : Int × Mem} (h : k_Ba_count_26 R26 a2 M = some r) : Fr [34, 35, 36, 37, 38, 104, 105] [(32, 2), (32, 8)] M r.2 := by
  unfold k_Ba_count_26 at h
  have hFM : Fr [34, 35, 36, 37, 38, 104, 105] [(32, 2), (32, 8)] M M := Fr.rfl'
  obtain ⟨v1, ev1, h⟩ := blet_e h
  rcases ite_e h with ⟨c2, h⟩ | ⟨c2, h⟩
  · skip
    obtain ⟨v3, M4, fv3, h⟩ := bcall_e h
    have hFM4 : Fr [34, 35, 36, 37, 38, 104, 105] [(32, 2), (32, 8)] M M4 := hFM.trans ((w_Pr_tellOf fv3).mono (by simp) (by simp))
    obtain ⟨v5, M6, fv5, h⟩ := bcall_e h
    have hFM6 : Fr [34, 35, 36, 37, 38, 104, 105] [(32, 2), (32, 8)] M M6 := hFM4.trans ((w_As_ask fv5).mono (by simp) (by simp))
    obtain ⟨c7, h⟩ := chk_e h
    obtain ⟨M8, eM8, h⟩ := blet_e h
    have hFM8 : Fr [34, 35, 36, 37, 38, 104, 105] [(32, 2), (32, 8)] M M8 := by rw [eM8]; exact hFM6.stoA (by simp)
    obtain ⟨c9, h⟩ := chk_e h
    obtain ⟨v10, ev10, h⟩ := blet_e h
    rcases ite_e h with ⟨c11, h⟩ | ⟨c11, h⟩
    · skip
      obtain ⟨c12, h⟩ := chk_e h
      obtain ⟨v13, ev13, h⟩ := blet_e h
      obtain ⟨c14, h⟩ := chk_e h
      obtain ⟨v15, ev15, h⟩ := blet_e h
      obtain ⟨c16, h⟩ := chk_e h
      obtain ⟨v17, ev17, h⟩ := blet_e h
      obtain ⟨c18, h⟩ := chk_e h
      obtain ⟨M19, eM19, h⟩ := blet_e h
      have hFM19 : Fr [34, 35, 36, 37, 38, 104, 105] [(32, 2), (32, 8)] M M19 := by rw [eM19]; exact hFM8.stoA (by simp)
      exact hFM19.trans (w_Ba_count_138 hR26 h)
    · skip
      obtain ⟨c20, h⟩ := chk_e h
      obtain ⟨v21, ev21, h⟩ := blet_e h
      rcases ite_e h with ⟨c22, h⟩ | ⟨c22, h⟩
      · skip
        obtain ⟨c23, h⟩ := chk_e h
        obtain ⟨v24, ev24, h⟩ := blet_e h
        obtain ⟨c25, h⟩ := chk_e h
        obtain ⟨v26, ev26, h⟩ := blet_e h
        obtain ⟨c27, h⟩ := chk_e h
        obtain ⟨v28, ev28, h⟩ := blet_e h
        obtain ⟨c29, h⟩ := chk_e h
        obtain ⟨M30, eM30, h⟩ := blet_e h
        have hFM30 : Fr [34, 35, 36, 37, 38, 104, 105] [(32, 2), (32, 8)] M M30 := by rw [eM30]; exact hFM8.stoA (by simp)
        exact hFM30.trans (w_Ba_count_138 hR26 h)
      · skip
        exact hFM8.trans (w_Ba_count_138 hR26 h)
  · skip
    cases h; exact hFM
theorem wl_Ba_count_26  : ∀ (n : Nat) (a2 : Int) (M : Mem) (r : Int × Mem), fix (fun _ _ => none) (k_Ba_count_26) n a2 M = some r → Fr [34, 35, 36, 37, 38, 104, 105] [(32, 2), (32, 8)] M r.2 := by
  intro n
  induction n with
  | zero => intro a2 M r h; exact nomatch (show (none : Res) = some r from h)
  | succ n ih => intro a2 M r h; exact w_Ba_count_26 ih h
theorem w_Ba_count {a1 : Int} {M : Mem} {r : Int × Mem} (h : d_Ba_count a1 M = some r) : Fr [34, 35, 36, 37, 38, 104, 105] [(32, 2), (32, 8)] M r.2 := by
  unfold d_Ba_count at h
  have hFM : Fr [34, 35, 36, 37, 38, 104, 105] [(32, 2), (32, 8)] M M := Fr.rfl'
  obtain ⟨v1, M2, fv1, h⟩ := bcall_e h
  have hFM2 : Fr [34, 35, 36, 37, 38, 104, 105] [(32, 2), (32, 8)] M M2 := hFM.trans ((w_Ar_fill1 fv1).mono (by simp) (by simp))
  obtain ⟨v3, M4, fv3, h⟩ := bcall_e h
  have hFM4 : Fr [34, 35, 36, 37, 38, 104, 105] [(32, 2), (32, 8)] M M4 := hFM2.trans ((w_As_begin fv3).mono (by simp) (by simp))
  obtain ⟨v5, M6, fv5, h⟩ := bcall_e h
  have hFM6 : Fr [34, 35, 36, 37, 38, 104, 105] [(32, 2), (32, 8)] M M6 := hFM4.trans ((w_As_tellWeek fv5).mono (by simp) (by simp))
  exact hFM6.trans (wl_Ba_count_26 FU 0 M6 r h)
theorem w_Ba_isWholeFor_4 {R4 : Int → Int → Mem → Res} (hR4 : ∀ (a1 a2 : Int) (M : Mem) (r : Int × Mem), R4 a1 a2 M = some r → Fr [] [] M r.2) {a1 a2 : Int} {M : Mem} {r : Int × Mem} (h : k_Ba_isWholeFor_4 R4 a1 a2 M = some r) : Fr [] [] M r.2 := by
  unfold k_Ba_isWholeFor_4 at h
  have hFM : Fr [] [] M M := Fr.rfl'
  rcases ite_e h with ⟨c1, h⟩ | ⟨c1, h⟩
  · skip
    obtain ⟨c2, h⟩ := chk_e h
    obtain ⟨v3, ev3, h⟩ := blet_e h
    obtain ⟨v4, M5, fv4, h⟩ := bcall_e h
    have hFM5 : Fr [] [] M M5 := hFM.trans ((w_In_compare fv4).mono (by simp) (by simp))
    obtain ⟨v6, ev6, h⟩ := blet_e h
    obtain ⟨v7, ev7, h⟩ := blet_e h
    exact hFM5.trans (hR4 v6 v7 M5 r h)
  · skip
    rcases ite_e h with ⟨c8, h⟩ | ⟨c8, h⟩
    · skip
      cases h; exact hFM
    · skip
      cases h; exact hFM
theorem wl_Ba_isWholeFor_4  : ∀ (n : Nat) (a1 a2 : Int) (M : Mem) (r : Int × Mem), fix (fun _ _ _ => none) (k_Ba_isWholeFor_4) n a1 a2 M = some r → Fr [] [] M r.2 := by
  intro n
  induction n with
  | zero => intro a1 a2 M r h; exact nomatch (show (none : Res) = some r from h)
  | succ n ih => intro a1 a2 M r h; exact w_Ba_isWholeFor_4 ih h
theorem w_Ba_isWholeFor {M : Mem} {r : Int × Mem} (h : d_Ba_isWholeFor M = some r) : Fr [] [] M r.2 := by
  unfold d_Ba_isWholeFor at h
  have hFM : Fr [] [] M M := Fr.rfl'
  exact hFM.trans (wl_Ba_isWholeFor_4 FU 0 0 M r h)
theorem w_Ba_sortIn_48  {a1 a2 : Int} {M : Mem} {r : Int × Mem} (h : k_Ba_sortIn_48 a1 a2 M = some r) : Fr [106] [] M r.2 := by
  unfold k_Ba_sortIn_48 at h
  have hFM : Fr [106] [] M M := Fr.rfl'
  obtain ⟨c1, h⟩ := chk_e h
  obtain ⟨M2, eM2, h⟩ := blet_e h
  have hFM2 : Fr [106] [] M M2 := by rw [eM2]; exact hFM.stoA (by simp)
  cases h; exact hFM2
theorem w_Ba_sortIn_2 {R2 : Int → Int → Mem → Res} (hR2 : ∀ (a1 a2 : Int) (M : Mem) (r : Int × Mem), R2 a1 a2 M = some r → Fr [106] [] M r.2) {a1 a2 : Int} {M : Mem} {r : Int × Mem} (h : k_Ba_sortIn_2 R2 a1 a2 M = some r) : Fr [106] [] M r.2 := by
  unfold k_Ba_sortIn_2 at h
  have hFM : Fr [106] [] M M := Fr.rfl'
  rcases ite_e h with ⟨c1, h⟩ | ⟨c1, h⟩
  · skip
    obtain ⟨c2, h⟩ := chk_e h
    obtain ⟨v3, ev3, h⟩ := blet_e h
    obtain ⟨c4, h⟩ := chk_e h
    obtain ⟨v5, ev5, h⟩ := blet_e h
    obtain ⟨c6, h⟩ := chk_e h
    obtain ⟨v7, ev7, h⟩ := blet_e h
    rcases ite_e h with ⟨c8, h⟩ | ⟨c8, h⟩
    · skip
      obtain ⟨c9, h⟩ := chk_e h
      obtain ⟨v10, ev10, h⟩ := blet_e h
      obtain ⟨c11, h⟩ := chk_e h
      obtain ⟨M12, eM12, h⟩ := blet_e h
      have hFM12 : Fr [106] [] M M12 := by rw [eM12]; exact hFM.stoA (by simp)
      obtain ⟨v13, ev13, h⟩ := blet_e h
      exact hFM12.trans (hR2 a1 v13 M12 r h)
    · skip
      exact hFM.trans (w_Ba_sortIn_48 h)
  · skip
    exact hFM.trans (w_Ba_sortIn_48 h)
theorem wl_Ba_sortIn_2  : ∀ (n : Nat) (a1 a2 : Int) (M : Mem) (r : Int × Mem), fix (fun _ _ _ => none) (k_Ba_sortIn_2) n a1 a2 M = some r → Fr [106] [] M r.2 := by
  intro n
  induction n with
  | zero => intro a1 a2 M r h; exact nomatch (show (none : Res) = some r from h)
  | succ n ih => intro a1 a2 M r h; exact w_Ba_sortIn_2 ih h
theorem w_Ba_sortIn {a1 : Int} {M : Mem} {r : Int × Mem} (h : d_Ba_sortIn a1 M = some r) : Fr [106] [] M r.2 := by
  unfold d_Ba_sortIn at h
  have hFM : Fr [106] [] M M := Fr.rfl'
  exact hFM.trans (wl_Ba_sortIn_2 FU a1 a1 M r h)
theorem w_Ba_prepareToTurn_81 {R47 : Int → Int → Mem → Res} (hR47 : ∀ (a1 a2 : Int) (M : Mem) (r : Int × Mem), R47 a1 a2 M = some r → Fr [106, 107, 108] [] M r.2) {a1 a2 s1 s2 : Int} {M : Mem} {r : Int × Mem} (h : k_Ba_prepareToTurn_81 R47 a1 a2 s1 s2 M = some r) : Fr [106, 107, 108] [] M r.2 := by
  unfold k_Ba_prepareToTurn_81 at h
  have hFM : Fr [106, 107, 108] [] M M := Fr.rfl'
  obtain ⟨c1, h⟩ := chk_e h
  obtain ⟨M2, eM2, h⟩ := blet_e h
  have hFM2 : Fr [106, 107, 108] [] M M2 := by rw [eM2]; exact hFM.stoA (by simp)
  obtain ⟨v3, M4, fv3, h⟩ := bcall_e h
  have hFM4 : Fr [106, 107, 108] [] M M4 := hFM2.trans ((w_Ba_sortIn fv3).mono (by simp) (by simp))
  obtain ⟨v5, ev5, h⟩ := blet_e h
  exact hFM4.trans (hR47 a1 v5 M4 r h)
theorem w_Ba_prepareToTurn_47 {R47 : Int → Int → Mem → Res} (hR47 : ∀ (a1 a2 : Int) (M : Mem) (r : Int × Mem), R47 a1 a2 M = some r → Fr [106, 107, 108] [] M r.2) {a1 a2 : Int} {M : Mem} {r : Int × Mem} (h : k_Ba_prepareToTurn_47 R47 a1 a2 M = some r) : Fr [106, 107, 108] [] M r.2 := by
  unfold k_Ba_prepareToTurn_47 at h
  have hFM : Fr [106, 107, 108] [] M M := Fr.rfl'
  obtain ⟨v1, ev1, h⟩ := blet_e h
  rcases ite_e h with ⟨c2, h⟩ | ⟨c2, h⟩
  · skip
    obtain ⟨c3, h⟩ := chk_e h
    obtain ⟨v4, ev4, h⟩ := blet_e h
    rcases ite_e h with ⟨c5, h⟩ | ⟨c5, h⟩
    · skip
      exact hFM.trans (w_Ba_prepareToTurn_81 hR47 h)
    · skip
      exact hFM.trans (w_Ba_prepareToTurn_81 hR47 h)
  · skip
    rcases ite_e h with ⟨c6, h⟩ | ⟨c6, h⟩
    · skip
      cases h; exact hFM
    · skip
      cases h; exact hFM
theorem wl_Ba_prepareToTurn_47  : ∀ (n : Nat) (a1 a2 : Int) (M : Mem) (r : Int × Mem), fix (fun _ _ _ => none) (k_Ba_prepareToTurn_47) n a1 a2 M = some r → Fr [106, 107, 108] [] M r.2 := by
  intro n
  induction n with
  | zero => intro a1 a2 M r h; exact nomatch (show (none : Res) = some r from h)
  | succ n ih => intro a1 a2 M r h; exact w_Ba_prepareToTurn_47 ih h
theorem w_Ba_prepareToTurn_38 {R7 : Int → Int → Mem → Res} (hR7 : ∀ (a1 a2 : Int) (M : Mem) (r : Int × Mem), R7 a1 a2 M = some r → Fr [106, 107, 108] [] M r.2) {a1 a2 s1 s2 : Int} {M : Mem} {r : Int × Mem} (h : k_Ba_prepareToTurn_38 R7 a1 a2 s1 s2 M = some r) : Fr [106, 107, 108] [] M r.2 := by
  unfold k_Ba_prepareToTurn_38 at h
  have hFM : Fr [106, 107, 108] [] M M := Fr.rfl'
  obtain ⟨c1, h⟩ := chk_e h
  obtain ⟨M2, eM2, h⟩ := blet_e h
  have hFM2 : Fr [106, 107, 108] [] M M2 := by rw [eM2]; exact hFM.stoA (by simp)
  obtain ⟨v3, ev3, h⟩ := blet_e h
  exact hFM2.trans (hR7 a1 v3 M2 r h)
theorem w_Ba_prepareToTurn_7 {R7 : Int → Int → Mem → Res} (hR7 : ∀ (a1 a2 : Int) (M : Mem) (r : Int × Mem), R7 a1 a2 M = some r → Fr [106, 107, 108] [] M r.2) {a1 a2 : Int} {M : Mem} {r : Int × Mem} (h : k_Ba_prepareToTurn_7 R7 a1 a2 M = some r) : Fr [106, 107, 108] [] M r.2 := by
  unfold k_Ba_prepareToTurn_7 at h
  have hFM : Fr [106, 107, 108] [] M M := Fr.rfl'
  rcases ite_e h with ⟨c1, h⟩ | ⟨c1, h⟩
  · skip
    rcases ite_e h with ⟨c2, h⟩ | ⟨c2, h⟩
    · skip
      obtain ⟨c3, h⟩ := chk_e h
      obtain ⟨v4, ev4, h⟩ := blet_e h
      exact hFM.trans (w_Ba_prepareToTurn_38 hR7 h)
    · skip
      obtain ⟨c5, h⟩ := chk_e h
      obtain ⟨v6, ev6, h⟩ := blet_e h
      exact hFM.trans (w_Ba_prepareToTurn_38 hR7 h)
  · skip
    exact hFM.trans (wl_Ba_prepareToTurn_47 FU a1 0 M r h)
theorem wl_Ba_prepareToTurn_7  : ∀ (n : Nat) (a1 a2 : Int) (M : Mem) (r : Int × Mem), fix (fun _ _ _ => none) (k_Ba_prepareToTurn_7) n a1 a2 M = some r → Fr [106, 107, 108] [] M r.2 := by
  intro n
  induction n with
  | zero => intro a1 a2 M r h; exact nomatch (show (none : Res) = some r from h)
  | succ n ih => intro a1 a2 M r h; exact w_Ba_prepareToTurn_7 ih h
theorem w_Ba_prepareToTurn {M : Mem} {r : Int × Mem} (h : d_Ba_prepareToTurn M = some r) : Fr [106, 107, 108] [] M r.2 := by
  unfold d_Ba_prepareToTurn at h
  have hFM : Fr [106, 107, 108] [] M M := Fr.rfl'
  obtain ⟨v1, M2, fv1, h⟩ := bcall_e h
  have hFM2 : Fr [106, 107, 108] [] M M2 := hFM.trans ((w_Ba_isWholeFor fv1).mono (by simp) (by simp))
  exact hFM2.trans (wl_Ba_prepareToTurn_7 FU v1 0 M2 r h)
theorem w_Ba_fewestToGain_82  {a2 a3 a4 : Int} {M : Mem} {r : Int × Mem} (h : k_Ba_fewestToGain_82 a2 a3 a4 M = some r) : Fr [] [] M r.2 := by
  unfold k_Ba_fewestToGain_82 at h
  have hFM : Fr [] [] M M := Fr.rfl'
  rcases ite_e h with ⟨c1, h⟩ | ⟨c1, h⟩
  · skip
    cases h; exact hFM
  · skip
    cases h; exact hFM
theorem w_Ba_fewestToGain_76 {R13 : Int → Int → Int → Int → Int → Mem → Res} (hR13 : ∀ (a1 a2 a3 a4 a5 : Int) (M : Mem) (r : Int × Mem), R13 a1 a2 a3 a4 a5 M = some r → Fr [] [] M r.2) {a1 a2 a3 a4 a5 : Int} {M : Mem} {r : Int × Mem} (h : k_Ba_fewestToGain_76 R13 a1 a2 a3 a4 a5 M = some r) : Fr [] [] M r.2 := by
  unfold k_Ba_fewestToGain_76 at h
  have hFM : Fr [] [] M M := Fr.rfl'
  obtain ⟨v1, ev1, h⟩ := blet_e h
  exact hFM.trans (hR13 a1 a2 a3 a4 v1 M r h)
theorem w_Ba_fewestToGain_13 {R13 : Int → Int → Int → Int → Int → Mem → Res} (hR13 : ∀ (a1 a2 a3 a4 a5 : Int) (M : Mem) (r : Int × Mem), R13 a1 a2 a3 a4 a5 M = some r → Fr [] [] M r.2) {a1 a2 a3 a4 a5 : Int} {M : Mem} {r : Int × Mem} (h : k_Ba_fewestToGain_13 R13 a1 a2 a3 a4 a5 M = some r) : Fr [] [] M r.2 := by
  unfold k_Ba_fewestToGain_13 at h
  have hFM : Fr [] [] M M := Fr.rfl'
  obtain ⟨v1, ev1, h⟩ := blet_e h
  rcases ite_e h with ⟨c2, h⟩ | ⟨c2, h⟩
  · skip
    rcases ite_e h with ⟨c3, h⟩ | ⟨c3, h⟩
    · skip
      obtain ⟨c4, h⟩ := chk_e h
      obtain ⟨v5, ev5, h⟩ := blet_e h
      obtain ⟨c6, h⟩ := chk_e h
      obtain ⟨v7, ev7, h⟩ := blet_e h
      rcases ite_e h with ⟨c8, h⟩ | ⟨c8, h⟩
      · skip
        exact hFM.trans (w_Ba_fewestToGain_76 hR13 h)
      · skip
        obtain ⟨c9, h⟩ := chk_e h
        obtain ⟨v10, ev10, h⟩ := blet_e h
        rcases ite_e h with ⟨c11, h⟩ | ⟨c11, h⟩
        · skip
          obtain ⟨c12, h⟩ := chk_e h
          obtain ⟨v13, ev13, h⟩ := blet_e h
          obtain ⟨v14, ev14, h⟩ := blet_e h
          obtain ⟨v15, ev15, h⟩ := blet_e h
          exact hFM.trans (w_Ba_fewestToGain_76 hR13 h)
        · skip
          exact hFM.trans (w_Ba_fewestToGain_76 hR13 h)
    · skip
      exact hFM.trans (w_Ba_fewestToGain_82 h)
  · skip
    exact hFM.trans (w_Ba_fewestToGain_82 h)
theorem wl_Ba_fewestToGain_13  : ∀ (n : Nat) (a1 a2 a3 a4 a5 : Int) (M : Mem) (r : Int × Mem), fix (fun _ _ _ _ _ _ => none) (k_Ba_fewestToGain_13) n a1 a2 a3 a4 a5 M = some r → Fr [] [] M r.2 := by
  intro n
  induction n with
  | zero => intro a1 a2 a3 a4 a5 M r h; exact nomatch (show (none : Res) = some r from h)
  | succ n ih => intro a1 a2 a3 a4 a5 M r h; exact w_Ba_fewestToGain_13 ih h
theorem w_Ba_fewestToGain {a1 a2 : Int} {M : Mem} {r : Int × Mem} (h : d_Ba_fewestToGain a1 a2 M = some r) : Fr [] [] M r.2 := by
  unfold d_Ba_fewestToGain at h
  have hFM : Fr [] [] M M := Fr.rfl'
  obtain ⟨c1, h⟩ := chk_e h
  obtain ⟨v2, ev2, h⟩ := blet_e h
  exact hFM.trans (wl_Ba_fewestToGain_13 FU a1 a2 v2 0 0 M r h)
theorem w_Ba_fewestToReach_164 {R164 : Int → Int → Mem → Res} (hR164 : ∀ (a2 a3 : Int) (M : Mem) (r : Int × Mem), R164 a2 a3 M = some r → Fr [109, 110] [] M r.2) {a2 a3 : Int} {M : Mem} {r : Int × Mem} (h : k_Ba_fewestToReach_164 R164 a2 a3 M = some r) : Fr [109, 110] [] M r.2 := by
  unfold k_Ba_fewestToReach_164 at h
  have hFM : Fr [109, 110] [] M M := Fr.rfl'
  rcases ite_e h with ⟨c1, h⟩ | ⟨c1, h⟩
  · skip
    obtain ⟨c2, h⟩ := chk_e h
    obtain ⟨v3, ev3, h⟩ := blet_e h
    obtain ⟨v4, ev4, h⟩ := blet_e h
    obtain ⟨v5, ev5, h⟩ := blet_e h
    exact hFM.trans (hR164 v4 v5 M r h)
  · skip
    cases h; exact hFM
theorem wl_Ba_fewestToReach_164  : ∀ (n : Nat) (a2 a3 : Int) (M : Mem) (r : Int × Mem), fix (fun _ _ _ => none) (k_Ba_fewestToReach_164) n a2 a3 M = some r → Fr [109, 110] [] M r.2 := by
  intro n
  induction n with
  | zero => intro a2 a3 M r h; exact nomatch (show (none : Res) = some r from h)
  | succ n ih => intro a2 a3 M r h; exact w_Ba_fewestToReach_164 ih h
theorem w_Ba_fewestToReach_115 {R20 : Int → Int → Mem → Res} {R59 : Int → Int → Int → Int → Int → Mem → Res} (hR20 : ∀ (a1 a2 : Int) (M : Mem) (r : Int × Mem), R20 a1 a2 M = some r → Fr [109, 110] [] M r.2) (hR59 : ∀ (a1 a2 a3 a4 a5 : Int) (M : Mem) (r : Int × Mem), R59 a1 a2 a3 a4 a5 M = some r → Fr [109, 110] [] M r.2) {a1 a2 a3 a4 a5 a6 s0 : Int} {M : Mem} {r : Int × Mem} (h : k_Ba_fewestToReach_115 R20 R59 a1 a2 a3 a4 a5 a6 s0 M = some r) : Fr [109, 110] [] M r.2 := by
  unfold k_Ba_fewestToReach_115 at h
  have hFM : Fr [109, 110] [] M M := Fr.rfl'
  obtain ⟨c1, h⟩ := chk_e h
  obtain ⟨v2, ev2, h⟩ := blet_e h
  obtain ⟨c3, h⟩ := chk_e h
  obtain ⟨M4, eM4, h⟩ := blet_e h
  have hFM4 : Fr [109, 110] [] M M4 := by rw [eM4]; exact hFM.stoA (by simp)
  obtain ⟨v5, ev5, h⟩ := blet_e h
  exact hFM4.trans (hR59 a1 a2 a3 a4 v5 M4 r h)
theorem w_Ba_fewestToReach_90 {R20 : Int → Int → Mem → Res} {R59 : Int → Int → Int → Int → Int → Mem → Res} (hR20 : ∀ (a1 a2 : Int) (M : Mem) (r : Int × Mem), R20 a1 a2 M = some r → Fr [109, 110] [] M r.2) (hR59 : ∀ (a1 a2 a3 a4 a5 : Int) (M : Mem) (r : Int × Mem), R59 a1 a2 a3 a4 a5 M = some r → Fr [109, 110] [] M r.2) {a1 a2 a3 a4 a5 s0 : Int} {M : Mem} {r : Int × Mem} (h : k_Ba_fewestToReach_90 R20 R59 a1 a2 a3 a4 a5 s0 M = some r) : Fr [109, 110] [] M r.2 := by
  unfold k_Ba_fewestToReach_90 at h
  have hFM : Fr [109, 110] [] M M := Fr.rfl'
  rcases ite_e h with ⟨c1, h⟩ | ⟨c1, h⟩
  · skip
    obtain ⟨c2, h⟩ := chk_e h
    obtain ⟨v3, ev3, h⟩ := blet_e h
    exact hFM.trans (w_Ba_fewestToReach_115 hR20 hR59 h)
  · skip
    exact hFM.trans (w_Ba_fewestToReach_115 hR20 hR59 h)
theorem w_Ba_fewestToReach_59 {R20 : Int → Int → Mem → Res} {R59 : Int → Int → Int → Int → Int → Mem → Res} (hR20 : ∀ (a1 a2 : Int) (M : Mem) (r : Int × Mem), R20 a1 a2 M = some r → Fr [109, 110] [] M r.2) (hR59 : ∀ (a1 a2 a3 a4 a5 : Int) (M : Mem) (r : Int × Mem), R59 a1 a2 a3 a4 a5 M = some r → Fr [109, 110] [] M r.2) {a1 a2 a3 a4 a5 : Int} {M : Mem} {r : Int × Mem} (h : k_Ba_fewestToReach_59 R20 R59 a1 a2 a3 a4 a5 M = some r) : Fr [109, 110] [] M r.2 := by
  unfold k_Ba_fewestToReach_59 at h
  have hFM : Fr [109, 110] [] M M := Fr.rfl'
  rcases ite_e h with ⟨c1, h⟩ | ⟨c1, h⟩
  · skip
    rcases ite_e h with ⟨c2, h⟩ | ⟨c2, h⟩
    · skip
      obtain ⟨c3, h⟩ := chk_e h
      obtain ⟨v4, ev4, h⟩ := blet_e h
      exact hFM.trans (w_Ba_fewestToReach_90 hR20 hR59 h)
    · skip
      exact hFM.trans (w_Ba_fewestToReach_90 hR20 hR59 h)
  · skip
    obtain ⟨v5, ev5, h⟩ := blet_e h
    exact hFM.trans (hR20 a1 v5 M r h)
theorem wl_Ba_fewestToReach_59 {R20 : Int → Int → Mem → Res} (hR20 : ∀ (a1 a2 : Int) (M : Mem) (r : Int × Mem), R20 a1 a2 M = some r → Fr [109, 110] [] M r.2) : ∀ (n : Nat) (a1 a2 a3 a4 a5 : Int) (M : Mem) (r : Int × Mem), fix (fun _ _ _ _ _ _ => none) (k_Ba_fewestToReach_59 R20) n a1 a2 a3 a4 a5 M = some r → Fr [109, 110] [] M r.2 := by
  intro n
  induction n with
  | zero => intro a1 a2 a3 a4 a5 M r h; exact nomatch (show (none : Res) = some r from h)
  | succ n ih => intro a1 a2 a3 a4 a5 M r h; exact w_Ba_fewestToReach_59 hR20 ih h
theorem w_Ba_fewestToReach_20 {R20 : Int → Int → Mem → Res} (hR20 : ∀ (a1 a2 : Int) (M : Mem) (r : Int × Mem), R20 a1 a2 M = some r → Fr [109, 110] [] M r.2) {a1 a2 : Int} {M : Mem} {r : Int × Mem} (h : k_Ba_fewestToReach_20 R20 a1 a2 M = some r) : Fr [109, 110] [] M r.2 := by
  unfold k_Ba_fewestToReach_20 at h
  have hFM : Fr [109, 110] [] M M := Fr.rfl'
  rcases ite_e h with ⟨c1, h⟩ | ⟨c1, h⟩
  · skip
    obtain ⟨M2, eM2, h⟩ := blet_e h
    have hFM2 : Fr [109, 110] [] M M2 := by rw [eM2]; exact hFM.copy (by simp)
    obtain ⟨v3, M4, fv3, h⟩ := bcall_e h
    have hFM4 : Fr [109, 110] [] M M4 := hFM2.trans ((w_Ba_fewestToGain fv3).mono (by simp) (by simp))
    obtain ⟨v5, M6, fv5, h⟩ := bcall_e h
    have hFM6 : Fr [109, 110] [] M M6 := hFM4.trans ((w_Ba_fewestToGain fv5).mono (by simp) (by simp))
    exact hFM6.trans (wl_Ba_fewestToReach_59 hR20 FU a1 a2 v3 v5 0 M6 r h)
  · skip
    obtain ⟨v7, ev7, h⟩ := blet_e h
    exact hFM.trans (wl_Ba_fewestToReach_164 FU 1000 v7 M r h)
theorem wl_Ba_fewestToReach_20  : ∀ (n : Nat) (a1 a2 : Int) (M : Mem) (r : Int × Mem), fix (fun _ _ _ => none) (k_Ba_fewestToReach_20) n a1 a2 M = some r → Fr [109, 110] [] M r.2 := by
  intro n
  induction n with
  | zero => intro a1 a2 M r h; exact nomatch (show (none : Res) = some r from h)
  | succ n ih => intro a1 a2 M r h; exact w_Ba_fewestToReach_20 ih h
theorem w_Ba_fewestToReach {a1 : Int} {M : Mem} {r : Int × Mem} (h : d_Ba_fewestToReach a1 M = some r) : Fr [109, 110] [] M r.2 := by
  unfold d_Ba_fewestToReach at h
  have hFM : Fr [109, 110] [] M M := Fr.rfl'
  obtain ⟨v1, M2, fv1, h⟩ := bcall_e h
  have hFM2 : Fr [109, 110] [] M M2 := hFM.trans ((w_Ar_fill1 fv1).mono (by simp) (by simp))
  obtain ⟨M3, eM3, h⟩ := blet_e h
  have hFM3 : Fr [109, 110] [] M M3 := by rw [eM3]; exact hFM2.stoA (by simp)
  exact hFM3.trans (wl_Ba_fewestToReach_20 FU a1 0 M3 r h)
theorem w_Ba_leastSetThatTurns_104 {R33 : Int → Int → Int → Int → Mem → Res} (hR33 : ∀ (a1 a2 a3 a4 : Int) (M : Mem) (r : Int × Mem), R33 a1 a2 a3 a4 M = some r → Fr [106, 107, 108, 109, 110] [] M r.2) {a1 a2 a3 a4 : Int} {M : Mem} {r : Int × Mem} (h : k_Ba_leastSetThatTurns_104 R33 a1 a2 a3 a4 M = some r) : Fr [106, 107, 108, 109, 110] [] M r.2 := by
  unfold k_Ba_leastSetThatTurns_104 at h
  have hFM : Fr [106, 107, 108, 109, 110] [] M M := Fr.rfl'
  obtain ⟨v1, ev1, h⟩ := blet_e h
  exact hFM.trans (hR33 a1 a2 a3 v1 M r h)
theorem w_Ba_leastSetThatTurns_33 {R33 : Int → Int → Int → Int → Mem → Res} (hR33 : ∀ (a1 a2 a3 a4 : Int) (M : Mem) (r : Int × Mem), R33 a1 a2 a3 a4 M = some r → Fr [106, 107, 108, 109, 110] [] M r.2) {a1 a2 a3 a4 : Int} {M : Mem} {r : Int × Mem} (h : k_Ba_leastSetThatTurns_33 R33 a1 a2 a3 a4 M = some r) : Fr [106, 107, 108, 109, 110] [] M r.2 := by
  unfold k_Ba_leastSetThatTurns_33 at h
  have hFM : Fr [106, 107, 108, 109, 110] [] M M := Fr.rfl'
  rcases ite_e h with ⟨c1, h⟩ | ⟨c1, h⟩
  · skip
    cases h; exact hFM
  · skip
    obtain ⟨c2, h⟩ := chk_e h
    obtain ⟨v3, ev3, h⟩ := blet_e h
    obtain ⟨c4, h⟩ := chk_e h
    obtain ⟨M5, eM5, h⟩ := blet_e h
    have hFM5 : Fr [106, 107, 108, 109, 110] [] M M5 := by rw [eM5]; exact hFM.stoA (by simp)
    rcases ite_e h with ⟨c6, h⟩ | ⟨c6, h⟩
    · skip
      exact hFM5.trans (w_Ba_leastSetThatTurns_104 hR33 h)
    · skip
      obtain ⟨v7, M8, fv7, h⟩ := bcall_e h
      have hFM8 : Fr [106, 107, 108, 109, 110] [] M M8 := hFM5.trans ((w_Ba_fewestToReach fv7).mono (by simp) (by simp))
      rcases ite_e h with ⟨c9, h⟩ | ⟨c9, h⟩
      · skip
        obtain ⟨v10, ev10, h⟩ := blet_e h
        obtain ⟨c11, h⟩ := chk_e h
        obtain ⟨v12, ev12, h⟩ := blet_e h
        obtain ⟨c13, h⟩ := chk_e h
        obtain ⟨v14, ev14, h⟩ := blet_e h
        obtain ⟨c15, h⟩ := chk_e h
        obtain ⟨v16, ev16, h⟩ := blet_e h
        obtain ⟨c17, h⟩ := chk_e h
        obtain ⟨M18, eM18, h⟩ := blet_e h
        have hFM18 : Fr [106, 107, 108, 109, 110] [] M M18 := by rw [eM18]; exact hFM8.stoA (by simp)
        obtain ⟨v19, ev19, h⟩ := blet_e h
        exact hFM18.trans (w_Ba_leastSetThatTurns_104 hR33 h)
      · skip
        exact hFM8.trans (w_Ba_leastSetThatTurns_104 hR33 h)
theorem wl_Ba_leastSetThatTurns_33  : ∀ (n : Nat) (a1 a2 a3 a4 : Int) (M : Mem) (r : Int × Mem), fix (fun _ _ _ _ _ => none) (k_Ba_leastSetThatTurns_33) n a1 a2 a3 a4 M = some r → Fr [106, 107, 108, 109, 110] [] M r.2 := by
  intro n
  induction n with
  | zero => intro a1 a2 a3 a4 M r h; exact nomatch (show (none : Res) = some r from h)
  | succ n ih => intro a1 a2 a3 a4 M r h; exact w_Ba_leastSetThatTurns_33 ih h
theorem w_Ba_leastSetThatTurns {M : Mem} {r : Int × Mem} (h : d_Ba_leastSetThatTurns M = some r) : Fr [106, 107, 108, 109, 110] [] M r.2 := by
  unfold d_Ba_leastSetThatTurns at h
  have hFM : Fr [106, 107, 108, 109, 110] [] M M := Fr.rfl'
  obtain ⟨v1, M2, fv1, h⟩ := bcall_e h
  have hFM2 : Fr [106, 107, 108, 109, 110] [] M M2 := hFM.trans ((w_Ba_prepareToTurn fv1).mono (by simp) (by simp))
  obtain ⟨v3, M4, fv3, h⟩ := bcall_e h
  have hFM4 : Fr [106, 107, 108, 109, 110] [] M M4 := hFM2.trans ((w_Ba_fewestToReach fv3).mono (by simp) (by simp))
  rcases ite_e h with ⟨c5, h⟩ | ⟨c5, h⟩
  · skip
    obtain ⟨v6, ev6, h⟩ := blet_e h
    obtain ⟨v7, ev7, h⟩ := blet_e h
    exact hFM4.trans (wl_Ba_leastSetThatTurns_33 FU v1 v3 0 v7 M4 r h)
  · skip
    cases h; exact hFM4
theorem w_Tr_areIn_3 {R3 : Int → Int → Int → Int → Int → Mem → Res} (hR3 : ∀ (a1 a2 a3 a5 a7 : Int) (M : Mem) (r : Int × Mem), R3 a1 a2 a3 a5 a7 M = some r → Fr [] [] M r.2) {a1 a2 a3 a5 a7 : Int} {M : Mem} {r : Int × Mem} (h : k_Tr_areIn_3 R3 a1 a2 a3 a5 a7 M = some r) : Fr [] [] M r.2 := by
  unfold k_Tr_areIn_3 at h
  have hFM : Fr [] [] M M := Fr.rfl'
  rcases ite_e h with ⟨c1, h⟩ | ⟨c1, h⟩
  · skip
    obtain ⟨v2, M3, fv2, h⟩ := bcall_e h
    have hFM3 : Fr [] [] M M3 := hFM.trans ((w_Tr_get fv2).mono (by simp) (by simp))
    rcases ite_e h with ⟨c4, h⟩ | ⟨c4, h⟩
    · skip
      cases h; exact hFM3
    · skip
      rcases ite_e h with ⟨c5, h⟩ | ⟨c5, h⟩
      · skip
        cases h; exact hFM3
      · skip
        obtain ⟨v6, ev6, h⟩ := blet_e h
        exact hFM3.trans (hR3 a1 a2 a3 a5 v6 M3 r h)
  · skip
    cases h; exact hFM
theorem wl_Tr_areIn_3  : ∀ (n : Nat) (a1 a2 a3 a5 a7 : Int) (M : Mem) (r : Int × Mem), fix (fun _ _ _ _ _ _ => none) (k_Tr_areIn_3) n a1 a2 a3 a5 a7 M = some r → Fr [] [] M r.2 := by
  intro n
  induction n with
  | zero => intro a1 a2 a3 a5 a7 M r h; exact nomatch (show (none : Res) = some r from h)
  | succ n ih => intro a1 a2 a3 a5 a7 M r h; exact w_Tr_areIn_3 ih h
theorem w_Tr_areIn {a1 a2 a3 a5 : Int} {M : Mem} {r : Int × Mem} (h : d_Tr_areIn a1 a2 a3 a5 M = some r) : Fr [] [] M r.2 := by
  unfold d_Tr_areIn at h
  have hFM : Fr [] [] M M := Fr.rfl'
  exact hFM.trans (wl_Tr_areIn_3 FU a1 a2 a3 a5 0 M r h)
theorem w_Ya_savedWith_26  {a1 a2 s0 : Int} {M : Mem} {r : Int × Mem} (h : k_Ya_savedWith_26 a1 a2 s0 M = some r) : Fr [] [] M r.2 := by
  unfold k_Ya_savedWith_26 at h
  have hFM : Fr [] [] M M := Fr.rfl'
  rcases ite_e h with ⟨c1, h⟩ | ⟨c1, h⟩
  · skip
    cases h; exact hFM
  · skip
    obtain ⟨c2, h⟩ := chk_e h
    obtain ⟨v3, ev3, h⟩ := blet_e h
    obtain ⟨c4, h⟩ := chk_e h
    obtain ⟨v5, ev5, h⟩ := blet_e h
    cases h; exact hFM
theorem w_Ya_savedWith_25  {a1 a2 : Int} {M : Mem} {r : Int × Mem} (h : k_Ya_savedWith_25 a1 a2 M = some r) : Fr [] [] M r.2 := by
  unfold k_Ya_savedWith_25 at h
  have hFM : Fr [] [] M M := Fr.rfl'
  exact hFM.trans (w_Ya_savedWith_26 h)
theorem w_Ya_savedWith {a1 a2 : Int} {M : Mem} {r : Int × Mem} (h : d_Ya_savedWith a1 a2 M = some r) : Fr [] [] M r.2 := by
  unfold d_Ya_savedWith at h
  have hFM : Fr [] [] M M := Fr.rfl'
  rcases ite_e h with ⟨c1, h⟩ | ⟨c1, h⟩
  · skip
    obtain ⟨v2, M3, fv2, h⟩ := bcall_e h
    have hFM3 : Fr [] [] M M3 := hFM.trans ((w_In_bitCount fv2).mono (by simp) (by simp))
    obtain ⟨c4, h⟩ := chk_e h
    obtain ⟨v5, ev5, h⟩ := blet_e h
    rcases ite_e h with ⟨c6, h⟩ | ⟨c6, h⟩
    · skip
      exact hFM3.trans (w_Ya_savedWith_26 h)
    · skip
      exact hFM3.trans (w_Ya_savedWith_25 h)
  · skip
    exact hFM.trans (w_Ya_savedWith_25 h)
theorem w_Ya_writePlan_94 {R9 : Int → Int → Int → Mem → Res} (hR9 : ∀ (a1 a2 a3 : Int) (M : Mem) (r : Int × Mem), R9 a1 a2 a3 M = some r → Fr [65] [(62, 2)] M r.2) {a1 a3 s0 s1 : Int} {M : Mem} {r : Int × Mem} (h : k_Ya_writePlan_94 R9 a1 a3 s0 s1 M = some r) : Fr [65] [(62, 2)] M r.2 := by
  unfold k_Ya_writePlan_94 at h
  have hFM : Fr [65] [(62, 2)] M M := Fr.rfl'
  obtain ⟨v1, ev1, h⟩ := blet_e h
  obtain ⟨v2, ev2, h⟩ := blet_e h
  exact hFM.trans (hR9 a1 v1 v2 M r h)
theorem w_Ya_writePlan_71 {R9 : Int → Int → Int → Mem → Res} (hR9 : ∀ (a1 a2 a3 : Int) (M : Mem) (r : Int × Mem), R9 a1 a2 a3 M = some r → Fr [65] [(62, 2)] M r.2) {a1 a2 a3 : Int} {M : Mem} {r : Int × Mem} (h : k_Ya_writePlan_71 R9 a1 a2 a3 M = some r) : Fr [65] [(62, 2)] M r.2 := by
  unfold k_Ya_writePlan_71 at h
  have hFM : Fr [65] [(62, 2)] M M := Fr.rfl'
  obtain ⟨c1, h⟩ := chk_e h
  obtain ⟨v2, ev2, h⟩ := blet_e h
  rcases ite_e h with ⟨c3, h⟩ | ⟨c3, h⟩
  · skip
    exact hFM.trans (w_Ya_writePlan_94 hR9 h)
  · skip
    obtain ⟨c4, h⟩ := chk_e h
    obtain ⟨v5, ev5, h⟩ := blet_e h
    exact hFM.trans (w_Ya_writePlan_94 hR9 h)
theorem w_Ya_writePlan_65 {R9 : Int → Int → Int → Mem → Res} {R27 : Int → Int → Int → Int → Mem → Res} (hR9 : ∀ (a1 a2 a3 : Int) (M : Mem) (r : Int × Mem), R9 a1 a2 a3 M = some r → Fr [65] [(62, 2)] M r.2) (hR27 : ∀ (a1 a2 a3 a4 : Int) (M : Mem) (r : Int × Mem), R27 a1 a2 a3 a4 M = some r → Fr [65] [(62, 2)] M r.2) {a1 a2 a3 a4 : Int} {M : Mem} {r : Int × Mem} (h : k_Ya_writePlan_65 R9 R27 a1 a2 a3 a4 M = some r) : Fr [65] [(62, 2)] M r.2 := by
  unfold k_Ya_writePlan_65 at h
  have hFM : Fr [65] [(62, 2)] M M := Fr.rfl'
  obtain ⟨v1, ev1, h⟩ := blet_e h
  exact hFM.trans (hR27 a1 a2 a3 v1 M r h)
theorem w_Ya_writePlan_27 {R9 : Int → Int → Int → Mem → Res} {R27 : Int → Int → Int → Int → Mem → Res} (hR9 : ∀ (a1 a2 a3 : Int) (M : Mem) (r : Int × Mem), R9 a1 a2 a3 M = some r → Fr [65] [(62, 2)] M r.2) (hR27 : ∀ (a1 a2 a3 a4 : Int) (M : Mem) (r : Int × Mem), R27 a1 a2 a3 a4 M = some r → Fr [65] [(62, 2)] M r.2) {a1 a2 a3 a4 : Int} {M : Mem} {r : Int × Mem} (h : k_Ya_writePlan_27 R9 R27 a1 a2 a3 a4 M = some r) : Fr [65] [(62, 2)] M r.2 := by
  unfold k_Ya_writePlan_27 at h
  have hFM : Fr [65] [(62, 2)] M M := Fr.rfl'
  rcases ite_e h with ⟨c1, h⟩ | ⟨c1, h⟩
  · skip
    exact hFM.trans (w_Ya_writePlan_71 hR9 h)
  · skip
    obtain ⟨c2, h⟩ := chk_e h
    obtain ⟨v3, ev3, h⟩ := blet_e h
    rcases ite_e h with ⟨c4, h⟩ | ⟨c4, h⟩
    · skip
      obtain ⟨v5, M6, fv5, h⟩ := bcall_e h
      have hFM6 : Fr [65] [(62, 2)] M M6 := hFM.trans ((w_Ya_savedWith fv5).mono (by simp) (by simp))
      obtain ⟨c7, h⟩ := chk_e h
      obtain ⟨v8, ev8, h⟩ := blet_e h
      rcases ite_e h with ⟨c9, h⟩ | ⟨c9, h⟩
      · skip
        obtain ⟨c10, h⟩ := chk_e h
        obtain ⟨M11, eM11, h⟩ := blet_e h
        have hFM11 : Fr [65] [(62, 2)] M M11 := by rw [eM11]; exact hFM6.stoA (by simp)
        exact hFM11.trans (w_Ya_writePlan_65 hR9 hR27 h)
      · skip
        exact hFM6.trans (w_Ya_writePlan_65 hR9 hR27 h)
    · skip
      exact hFM.trans (w_Ya_writePlan_71 hR9 h)
theorem wl_Ya_writePlan_27 {R9 : Int → Int → Int → Mem → Res} (hR9 : ∀ (a1 a2 a3 : Int) (M : Mem) (r : Int × Mem), R9 a1 a2 a3 M = some r → Fr [65] [(62, 2)] M r.2) : ∀ (n : Nat) (a1 a2 a3 a4 : Int) (M : Mem) (r : Int × Mem), fix (fun _ _ _ _ _ => none) (k_Ya_writePlan_27 R9) n a1 a2 a3 a4 M = some r → Fr [65] [(62, 2)] M r.2 := by
  intro n
  induction n with
  | zero => intro a1 a2 a3 a4 M r h; exact nomatch (show (none : Res) = some r from h)
  | succ n ih => intro a1 a2 a3 a4 M r h; exact w_Ya_writePlan_27 hR9 ih h
theorem w_Ya_writePlan_9 {R9 : Int → Int → Int → Mem → Res} (hR9 : ∀ (a1 a2 a3 : Int) (M : Mem) (r : Int × Mem), R9 a1 a2 a3 M = some r → Fr [65] [(62, 2)] M r.2) {a1 a2 a3 : Int} {M : Mem} {r : Int × Mem} (h : k_Ya_writePlan_9 R9 a1 a2 a3 M = some r) : Fr [65] [(62, 2)] M r.2 := by
  unfold k_Ya_writePlan_9 at h
  have hFM : Fr [65] [(62, 2)] M M := Fr.rfl'
  rcases ite_e h with ⟨c1, h⟩ | ⟨c1, h⟩
  · skip
    obtain ⟨c2, h⟩ := chk_e h
    obtain ⟨M3, eM3, h⟩ := blet_e h
    have hFM3 : Fr [65] [(62, 2)] M M3 := by rw [eM3]; exact hFM.stoA (by simp)
    obtain ⟨v4, ev4, h⟩ := blet_e h
    exact hFM3.trans (wl_Ya_writePlan_27 hR9 FU a1 a2 a3 v4 M3 r h)
  · skip
    cases h; exact hFM
theorem wl_Ya_writePlan_9  : ∀ (n : Nat) (a1 a2 a3 : Int) (M : Mem) (r : Int × Mem), fix (fun _ _ _ _ => none) (k_Ya_writePlan_9) n a1 a2 a3 M = some r → Fr [65] [(62, 2)] M r.2 := by
  intro n
  induction n with
  | zero => intro a1 a2 a3 M r h; exact nomatch (show (none : Res) = some r from h)
  | succ n ih => intro a1 a2 a3 M r h; exact w_Ya_writePlan_9 ih h
theorem w_Ya_writePlan {a1 : Int} {M : Mem} {r : Int × Mem} (h : d_Ya_writePlan a1 M = some r) : Fr [65] [(62, 2)] M r.2 := by
  unfold d_Ya_writePlan at h
  have hFM : Fr [65] [(62, 2)] M M := Fr.rfl'
  obtain ⟨M1, eM1, h⟩ := blet_e h
  have hFM1 : Fr [65] [(62, 2)] M M1 := by rw [eM1]; exact hFM.stoF (by simp)
  exact hFM1.trans (wl_Ya_writePlan_9 FU a1 0 0 M1 r h)
theorem w_Ya_planTurning_15 {R6 : Int → Int → Mem → Res} {R15 : Int → Int → Int → Int → Mem → Res} (hR6 : ∀ (a1 a2 : Int) (M : Mem) (r : Int × Mem), R6 a1 a2 M = some r → Fr [65, 66] [(62, 2)] M r.2) (hR15 : ∀ (a1 a2 a3 a4 : Int) (M : Mem) (r : Int × Mem), R15 a1 a2 a3 a4 M = some r → Fr [65, 66] [(62, 2)] M r.2) {a1 a2 a3 a4 : Int} {M : Mem} {r : Int × Mem} (h : k_Ya_planTurning_15 R6 R15 a1 a2 a3 a4 M = some r) : Fr [65, 66] [(62, 2)] M r.2 := by
  unfold k_Ya_planTurning_15 at h
  have hFM : Fr [65, 66] [(62, 2)] M M := Fr.rfl'
  rcases ite_e h with ⟨c1, h⟩ | ⟨c1, h⟩
  · skip
    obtain ⟨v2, M3, fv2, h⟩ := bcall_e h
    have hFM3 : Fr [65, 66] [(62, 2)] M M3 := hFM.trans ((w_Ya_savedWith fv2).mono (by simp) (by simp))
    obtain ⟨v4, ev4, h⟩ := blet_e h
    obtain ⟨v5, ev5, h⟩ := blet_e h
    exact hFM3.trans (hR15 a1 a2 v4 v5 M3 r h)
  · skip
    obtain ⟨c6, h⟩ := chk_e h
    obtain ⟨M7, eM7, h⟩ := blet_e h
    have hFM7 : Fr [65, 66] [(62, 2)] M M7 := by rw [eM7]; exact hFM.stoA (by simp)
    obtain ⟨v8, ev8, h⟩ := blet_e h
    exact hFM7.trans (hR6 a1 v8 M7 r h)
theorem wl_Ya_planTurning_15 {R6 : Int → Int → Mem → Res} (hR6 : ∀ (a1 a2 : Int) (M : Mem) (r : Int × Mem), R6 a1 a2 M = some r → Fr [65, 66] [(62, 2)] M r.2) : ∀ (n : Nat) (a1 a2 a3 a4 : Int) (M : Mem) (r : Int × Mem), fix (fun _ _ _ _ _ => none) (k_Ya_planTurning_15 R6) n a1 a2 a3 a4 M = some r → Fr [65, 66] [(62, 2)] M r.2 := by
  intro n
  induction n with
  | zero => intro a1 a2 a3 a4 M r h; exact nomatch (show (none : Res) = some r from h)
  | succ n ih => intro a1 a2 a3 a4 M r h; exact w_Ya_planTurning_15 hR6 ih h
theorem w_Ya_planTurning_6 {R6 : Int → Int → Mem → Res} (hR6 : ∀ (a1 a2 : Int) (M : Mem) (r : Int × Mem), R6 a1 a2 M = some r → Fr [65, 66] [(62, 2)] M r.2) {a1 a2 : Int} {M : Mem} {r : Int × Mem} (h : k_Ya_planTurning_6 R6 a1 a2 M = some r) : Fr [65, 66] [(62, 2)] M r.2 := by
  unfold k_Ya_planTurning_6 at h
  have hFM : Fr [65, 66] [(62, 2)] M M := Fr.rfl'
  rcases ite_e h with ⟨c1, h⟩ | ⟨c1, h⟩
  · skip
    obtain ⟨v2, M3, fv2, h⟩ := bcall_e h
    have hFM3 : Fr [65, 66] [(62, 2)] M M3 := hFM.trans ((w_Ya_writePlan fv2).mono (by simp) (by simp))
    obtain ⟨v4, ev4, h⟩ := blet_e h
    cases h; exact hFM3
  · skip
    exact hFM.trans (wl_Ya_planTurning_15 hR6 FU a1 a2 0 0 M r h)
theorem wl_Ya_planTurning_6  : ∀ (n : Nat) (a1 a2 : Int) (M : Mem) (r : Int × Mem), fix (fun _ _ _ => none) (k_Ya_planTurning_6) n a1 a2 M = some r → Fr [65, 66] [(62, 2)] M r.2 := by
  intro n
  induction n with
  | zero => intro a1 a2 M r h; exact nomatch (show (none : Res) = some r from h)
  | succ n ih => intro a1 a2 M r h; exact w_Ya_planTurning_6 ih h
theorem w_Ya_planTurning {a1 : Int} {M : Mem} {r : Int × Mem} (h : d_Ya_planTurning a1 M = some r) : Fr [65, 66] [(62, 2)] M r.2 := by
  unfold d_Ya_planTurning at h
  have hFM : Fr [65, 66] [(62, 2)] M M := Fr.rfl'
  obtain ⟨v1, ev1, h⟩ := blet_e h
  exact hFM.trans (wl_Ya_planTurning_6 FU a1 v1 M r h)
theorem w_Tr_totalOf_5 {R5 : Int → Int → Int → Int → Mem → Res} (hR5 : ∀ (a1 a2 a3 a5 : Int) (M : Mem) (r : Int × Mem), R5 a1 a2 a3 a5 M = some r → Fr [] [] M r.2) {a1 a2 a3 a5 : Int} {M : Mem} {r : Int × Mem} (h : k_Tr_totalOf_5 R5 a1 a2 a3 a5 M = some r) : Fr [] [] M r.2 := by
  unfold k_Tr_totalOf_5 at h
  have hFM : Fr [] [] M M := Fr.rfl'
  rcases ite_e h with ⟨c1, h⟩ | ⟨c1, h⟩
  · skip
    obtain ⟨v2, M3, fv2, h⟩ := bcall_e h
    have hFM3 : Fr [] [] M M3 := hFM.trans ((w_Tr_get fv2).mono (by simp) (by simp))
    obtain ⟨v4, ev4, h⟩ := blet_e h
    obtain ⟨v5, ev5, h⟩ := blet_e h
    exact hFM3.trans (hR5 a1 a2 v4 v5 M3 r h)
  · skip
    cases h; exact hFM
theorem wl_Tr_totalOf_5  : ∀ (n : Nat) (a1 a2 a3 a5 : Int) (M : Mem) (r : Int × Mem), fix (fun _ _ _ _ _ => none) (k_Tr_totalOf_5) n a1 a2 a3 a5 M = some r → Fr [] [] M r.2 := by
  intro n
  induction n with
  | zero => intro a1 a2 a3 a5 M r h; exact nomatch (show (none : Res) = some r from h)
  | succ n ih => intro a1 a2 a3 a5 M r h; exact w_Tr_totalOf_5 ih h
theorem w_Tr_totalOf {a1 a2 : Int} {M : Mem} {r : Int × Mem} (h : d_Tr_totalOf a1 a2 M = some r) : Fr [] [] M r.2 := by
  unfold d_Tr_totalOf at h
  have hFM : Fr [] [] M M := Fr.rfl'
  exact hFM.trans (wl_Tr_totalOf_5 FU a1 a2 0 0 M r h)
theorem w_Ya_goOn_65  {a1 a2 a3 a4 : Int} {M : Mem} {r : Int × Mem} (h : k_Ya_goOn_65 a1 a2 a3 a4 M = some r) : Fr [71, 72, 73, 74] [] M r.2 := by
  unfold k_Ya_goOn_65 at h
  have hFM : Fr [71, 72, 73, 74] [] M M := Fr.rfl'
  obtain ⟨c1, h⟩ := chk_e h
  obtain ⟨v2, ev2, h⟩ := blet_e h
  rcases ite_e h with ⟨c3, h⟩ | ⟨c3, h⟩
  · skip
    obtain ⟨c4, h⟩ := chk_e h
    obtain ⟨v5, ev5, h⟩ := blet_e h
    obtain ⟨c6, h⟩ := chk_e h
    obtain ⟨v7, ev7, h⟩ := blet_e h
    obtain ⟨c8, h⟩ := chk_e h
    obtain ⟨v9, ev9, h⟩ := blet_e h
    rcases ite_e h with ⟨c10, h⟩ | ⟨c10, h⟩
    · skip
      obtain ⟨c11, h⟩ := chk_e h
      obtain ⟨v12, ev12, h⟩ := blet_e h
      obtain ⟨c13, h⟩ := chk_e h
      obtain ⟨v14, ev14, h⟩ := blet_e h
      obtain ⟨c15, h⟩ := chk_e h
      obtain ⟨M16, eM16, h⟩ := blet_e h
      have hFM16 : Fr [71, 72, 73, 74] [] M M16 := by rw [eM16]; exact hFM.stoA (by simp)
      obtain ⟨c17, h⟩ := chk_e h
      obtain ⟨M18, eM18, h⟩ := blet_e h
      have hFM18 : Fr [71, 72, 73, 74] [] M M18 := by rw [eM18]; exact hFM16.stoA (by simp)
      cases h; exact hFM18
    · skip
      obtain ⟨c19, h⟩ := chk_e h
      cases h; exact hFM
  · skip
    obtain ⟨c20, h⟩ := chk_e h
    cases h; exact hFM
theorem w_Ya_goOn {a1 a2 a3 : Int} {M : Mem} {r : Int × Mem} (h : d_Ya_goOn a1 a2 a3 M = some r) : Fr [71, 72, 73, 74] [] M r.2 := by
  unfold d_Ya_goOn at h
  have hFM : Fr [71, 72, 73, 74] [] M M := Fr.rfl'
  obtain ⟨c1, h⟩ := chk_e h
  obtain ⟨v2, ev2, h⟩ := blet_e h
  rcases ite_e h with ⟨c3, h⟩ | ⟨c3, h⟩
  · skip
    obtain ⟨c4, h⟩ := chk_e h
    obtain ⟨v5, ev5, h⟩ := blet_e h
    obtain ⟨c6, h⟩ := chk_e h
    obtain ⟨v7, ev7, h⟩ := blet_e h
    obtain ⟨c8, h⟩ := chk_e h
    obtain ⟨v9, ev9, h⟩ := blet_e h
    rcases ite_e h with ⟨c10, h⟩ | ⟨c10, h⟩
    · skip
      obtain ⟨c11, h⟩ := chk_e h
      obtain ⟨v12, ev12, h⟩ := blet_e h
      obtain ⟨c13, h⟩ := chk_e h
      obtain ⟨v14, ev14, h⟩ := blet_e h
      obtain ⟨c15, h⟩ := chk_e h
      obtain ⟨M16, eM16, h⟩ := blet_e h
      have hFM16 : Fr [71, 72, 73, 74] [] M M16 := by rw [eM16]; exact hFM.stoA (by simp)
      obtain ⟨c17, h⟩ := chk_e h
      obtain ⟨M18, eM18, h⟩ := blet_e h
      have hFM18 : Fr [71, 72, 73, 74] [] M M18 := by rw [eM18]; exact hFM16.stoA (by simp)
      exact hFM18.trans (w_Ya_goOn_65 h)
    · skip
      exact hFM.trans (w_Ya_goOn_65 h)
  · skip
    exact hFM.trans (w_Ya_goOn_65 h)
theorem w_Ya_findWays_100 {R74 : Int → Int → Int → Int → Mem → Res} {R91 : Int → Int → Int → Int → Int → Mem → Res} {R100 : Int → Int → Int → Int → Int → Int → Mem → Res} (hR74 : ∀ (a1 a2 a3 a4 : Int) (M : Mem) (r : Int × Mem), R74 a1 a2 a3 a4 M = some r → Fr [71, 72, 73, 74] [] M r.2) (hR91 : ∀ (a1 a2 a3 a4 a5 : Int) (M : Mem) (r : Int × Mem), R91 a1 a2 a3 a4 a5 M = some r → Fr [71, 72, 73, 74] [] M r.2) (hR100 : ∀ (a1 a2 a3 a4 a5 a6 : Int) (M : Mem) (r : Int × Mem), R100 a1 a2 a3 a4 a5 a6 M = some r → Fr [71, 72, 73, 74] [] M r.2) {a1 a2 a3 a4 a5 a6 : Int} {M : Mem} {r : Int × Mem} (h : k_Ya_findWays_100 R74 R91 R100 a1 a2 a3 a4 a5 a6 M = some r) : Fr [71, 72, 73, 74] [] M r.2 := by
  unfold k_Ya_findWays_100 at h
  have hFM : Fr [71, 72, 73, 74] [] M M := Fr.rfl'
  rcases ite_e h with ⟨c1, h⟩ | ⟨c1, h⟩
  · skip
    obtain ⟨v2, M3, fv2, h⟩ := bcall_e h
    have hFM3 : Fr [71, 72, 73, 74] [] M M3 := hFM.trans ((w_Ya_goOn fv2).mono (by simp) (by simp))
    obtain ⟨v4, ev4, h⟩ := blet_e h
    obtain ⟨v5, ev5, h⟩ := blet_e h
    exact hFM3.trans (hR100 a1 a2 v4 a4 a5 v5 M3 r h)
  · skip
    obtain ⟨v6, ev6, h⟩ := blet_e h
    exact hFM.trans (hR91 a1 a2 a3 a4 v6 M r h)
theorem wl_Ya_findWays_100 {R74 : Int → Int → Int → Int → Mem → Res} {R91 : Int → Int → Int → Int → Int → Mem → Res} (hR74 : ∀ (a1 a2 a3 a4 : Int) (M : Mem) (r : Int × Mem), R74 a1 a2 a3 a4 M = some r → Fr [71, 72, 73, 74] [] M r.2) (hR91 : ∀ (a1 a2 a3 a4 a5 : Int) (M : Mem) (r : Int × Mem), R91 a1 a2 a3 a4 a5 M = some r → Fr [71, 72, 73, 74] [] M r.2) : ∀ (n : Nat) (a1 a2 a3 a4 a5 a6 : Int) (M : Mem) (r : Int × Mem), fix (fun _ _ _ _ _ _ _ => none) (k_Ya_findWays_100 R74 R91) n a1 a2 a3 a4 a5 a6 M = some r → Fr [71, 72, 73, 74] [] M r.2 := by
  intro n
  induction n with
  | zero => intro a1 a2 a3 a4 a5 a6 M r h; exact nomatch (show (none : Res) = some r from h)
  | succ n ih => intro a1 a2 a3 a4 a5 a6 M r h; exact w_Ya_findWays_100 hR74 hR91 ih h
theorem w_Ya_findWays_91 {R74 : Int → Int → Int → Int → Mem → Res} {R91 : Int → Int → Int → Int → Int → Mem → Res} (hR74 : ∀ (a1 a2 a3 a4 : Int) (M : Mem) (r : Int × Mem), R74 a1 a2 a3 a4 M = some r → Fr [71, 72, 73, 74] [] M r.2) (hR91 : ∀ (a1 a2 a3 a4 a5 : Int) (M : Mem) (r : Int × Mem), R91 a1 a2 a3 a4 a5 M = some r → Fr [71, 72, 73, 74] [] M r.2) {a1 a2 a3 a4 a5 : Int} {M : Mem} {r : Int × Mem} (h : k_Ya_findWays_91 R74 R91 a1 a2 a3 a4 a5 M = some r) : Fr [71, 72, 73, 74] [] M r.2 := by
  unfold k_Ya_findWays_91 at h
  have hFM : Fr [71, 72, 73, 74] [] M M := Fr.rfl'
  rcases ite_e h with ⟨c1, h⟩ | ⟨c1, h⟩
  · skip
    exact hFM.trans (wl_Ya_findWays_100 hR74 hR91 FU a1 a2 a3 a4 a5 0 M r h)
  · skip
    obtain ⟨v2, ev2, h⟩ := blet_e h
    exact hFM.trans (hR74 a1 a2 a3 v2 M r h)
theorem wl_Ya_findWays_91 {R74 : Int → Int → Int → Int → Mem → Res} (hR74 : ∀ (a1 a2 a3 a4 : Int) (M : Mem) (r : Int × Mem), R74 a1 a2 a3 a4 M = some r → Fr [71, 72, 73, 74] [] M r.2) : ∀ (n : Nat) (a1 a2 a3 a4 a5 : Int) (M : Mem) (r : Int × Mem), fix (fun _ _ _ _ _ _ => none) (k_Ya_findWays_91 R74) n a1 a2 a3 a4 a5 M = some r → Fr [71, 72, 73, 74] [] M r.2 := by
  intro n
  induction n with
  | zero => intro a1 a2 a3 a4 a5 M r h; exact nomatch (show (none : Res) = some r from h)
  | succ n ih => intro a1 a2 a3 a4 a5 M r h; exact w_Ya_findWays_91 hR74 ih h
theorem w_Ya_findWays_74 {R74 : Int → Int → Int → Int → Mem → Res} (hR74 : ∀ (a1 a2 a3 a4 : Int) (M : Mem) (r : Int × Mem), R74 a1 a2 a3 a4 M = some r → Fr [71, 72, 73, 74] [] M r.2) {a1 a2 a3 a4 : Int} {M : Mem} {r : Int × Mem} (h : k_Ya_findWays_74 R74 a1 a2 a3 a4 M = some r) : Fr [71, 72, 73, 74] [] M r.2 := by
  unfold k_Ya_findWays_74 at h
  have hFM : Fr [71, 72, 73, 74] [] M M := Fr.rfl'
  rcases ite_e h with ⟨c1, h⟩ | ⟨c1, h⟩
  · skip
    rcases ite_e h with ⟨c2, h⟩ | ⟨c2, h⟩
    · skip
      cases h; exact hFM
    · skip
      exact hFM.trans (wl_Ya_findWays_91 hR74 FU a1 a2 0 a4 0 M r h)
  · skip
    cases h; exact hFM
theorem wl_Ya_findWays_74  : ∀ (n : Nat) (a1 a2 a3 a4 : Int) (M : Mem) (r : Int × Mem), fix (fun _ _ _ _ _ => none) (k_Ya_findWays_74) n a1 a2 a3 a4 M = some r → Fr [71, 72, 73, 74] [] M r.2 := by
  intro n
  induction n with
  | zero => intro a1 a2 a3 a4 M r h; exact nomatch (show (none : Res) = some r from h)
  | succ n ih => intro a1 a2 a3 a4 M r h; exact w_Ya_findWays_74 ih h
theorem w_Ya_findWays_43 {R43 : Int → Int → Int → Mem → Res} (hR43 : ∀ (a1 a2 a3 : Int) (M : Mem) (r : Int × Mem), R43 a1 a2 a3 M = some r → Fr [71, 72, 73, 74] [] M r.2) {a1 a2 a3 : Int} {M : Mem} {r : Int × Mem} (h : k_Ya_findWays_43 R43 a1 a2 a3 M = some r) : Fr [71, 72, 73, 74] [] M r.2 := by
  unfold k_Ya_findWays_43 at h
  have hFM : Fr [71, 72, 73, 74] [] M M := Fr.rfl'
  rcases ite_e h with ⟨c1, h⟩ | ⟨c1, h⟩
  · skip
    obtain ⟨c2, h⟩ := chk_e h
    obtain ⟨M3, eM3, h⟩ := blet_e h
    have hFM3 : Fr [71, 72, 73, 74] [] M M3 := by rw [eM3]; exact hFM.stoA (by simp)
    obtain ⟨c4, h⟩ := chk_e h
    obtain ⟨M5, eM5, h⟩ := blet_e h
    have hFM5 : Fr [71, 72, 73, 74] [] M M5 := by rw [eM5]; exact hFM3.stoA (by simp)
    obtain ⟨v6, ev6, h⟩ := blet_e h
    exact hFM5.trans (hR43 a1 a2 v6 M5 r h)
  · skip
    exact hFM.trans (wl_Ya_findWays_74 FU a1 a2 1 0 M r h)
theorem wl_Ya_findWays_43  : ∀ (n : Nat) (a1 a2 a3 : Int) (M : Mem) (r : Int × Mem), fix (fun _ _ _ _ => none) (k_Ya_findWays_43) n a1 a2 a3 M = some r → Fr [71, 72, 73, 74] [] M r.2 := by
  intro n
  induction n with
  | zero => intro a1 a2 a3 M r h; exact nomatch (show (none : Res) = some r from h)
  | succ n ih => intro a1 a2 a3 M r h; exact w_Ya_findWays_43 ih h
theorem w_Ya_findWays_27 {R2 : Int → Int → Int → Mem → Res} (hR2 : ∀ (a1 a2 a3 : Int) (M : Mem) (r : Int × Mem), R2 a1 a2 a3 M = some r → Fr [71, 72, 73, 74] [] M r.2) {a1 a2 a3 s1 s2 : Int} {M : Mem} {r : Int × Mem} (h : k_Ya_findWays_27 R2 a1 a2 a3 s1 s2 M = some r) : Fr [71, 72, 73, 74] [] M r.2 := by
  unfold k_Ya_findWays_27 at h
  have hFM : Fr [71, 72, 73, 74] [] M M := Fr.rfl'
  obtain ⟨c1, h⟩ := chk_e h
  obtain ⟨M2, eM2, h⟩ := blet_e h
  have hFM2 : Fr [71, 72, 73, 74] [] M M2 := by rw [eM2]; exact hFM.stoA (by simp)
  obtain ⟨c3, h⟩ := chk_e h
  obtain ⟨M4, eM4, h⟩ := blet_e h
  have hFM4 : Fr [71, 72, 73, 74] [] M M4 := by rw [eM4]; exact hFM2.stoA (by simp)
  obtain ⟨v5, ev5, h⟩ := blet_e h
  exact hFM4.trans (hR2 a1 a2 v5 M4 r h)
theorem w_Ya_findWays_2 {R2 : Int → Int → Int → Mem → Res} (hR2 : ∀ (a1 a2 a3 : Int) (M : Mem) (r : Int × Mem), R2 a1 a2 a3 M = some r → Fr [71, 72, 73, 74] [] M r.2) {a1 a2 a3 : Int} {M : Mem} {r : Int × Mem} (h : k_Ya_findWays_2 R2 a1 a2 a3 M = some r) : Fr [71, 72, 73, 74] [] M r.2 := by
  unfold k_Ya_findWays_2 at h
  have hFM : Fr [71, 72, 73, 74] [] M M := Fr.rfl'
  rcases ite_e h with ⟨c1, h⟩ | ⟨c1, h⟩
  · skip
    obtain ⟨c2, h⟩ := chk_e h
    obtain ⟨v3, ev3, h⟩ := blet_e h
    rcases ite_e h with ⟨c4, h⟩ | ⟨c4, h⟩
    · skip
      exact hFM.trans (w_Ya_findWays_27 hR2 h)
    · skip
      exact hFM.trans (w_Ya_findWays_27 hR2 h)
  · skip
    exact hFM.trans (wl_Ya_findWays_43 FU a1 a2 0 M r h)
theorem wl_Ya_findWays_2  : ∀ (n : Nat) (a1 a2 a3 : Int) (M : Mem) (r : Int × Mem), fix (fun _ _ _ _ => none) (k_Ya_findWays_2) n a1 a2 a3 M = some r → Fr [71, 72, 73, 74] [] M r.2 := by
  intro n
  induction n with
  | zero => intro a1 a2 a3 M r h; exact nomatch (show (none : Res) = some r from h)
  | succ n ih => intro a1 a2 a3 M r h; exact w_Ya_findWays_2 ih h
theorem w_Ya_findWays {a1 a2 : Int} {M : Mem} {r : Int × Mem} (h : d_Ya_findWays a1 a2 M = some r) : Fr [71, 72, 73, 74] [] M r.2 := by
  unfold d_Ya_findWays at h
  have hFM : Fr [71, 72, 73, 74] [] M M := Fr.rfl'
  exact hFM.trans (wl_Ya_findWays_2 FU a1 a2 0 M r h)
theorem w_Ya_cheapestOrder_63 {R4 : Int → Int → Int → Mem → Res} (hR4 : ∀ (a1 a2 a3 : Int) (M : Mem) (r : Int × Mem), R4 a1 a2 a3 M = some r → Fr [] [] M r.2) {a1 a2 a3 : Int} {M : Mem} {r : Int × Mem} (h : k_Ya_cheapestOrder_63 R4 a1 a2 a3 M = some r) : Fr [] [] M r.2 := by
  unfold k_Ya_cheapestOrder_63 at h
  have hFM : Fr [] [] M M := Fr.rfl'
  obtain ⟨v1, ev1, h⟩ := blet_e h
  exact hFM.trans (hR4 a1 a2 v1 M r h)
theorem w_Ya_cheapestOrder_61 {R4 : Int → Int → Int → Mem → Res} (hR4 : ∀ (a1 a2 a3 : Int) (M : Mem) (r : Int × Mem), R4 a1 a2 a3 M = some r → Fr [] [] M r.2) {a1 a3 : Int} {M : Mem} {r : Int × Mem} (h : k_Ya_cheapestOrder_61 R4 a1 a3 M = some r) : Fr [] [] M r.2 := by
  unfold k_Ya_cheapestOrder_61 at h
  have hFM : Fr [] [] M M := Fr.rfl'
  exact hFM.trans (w_Ya_cheapestOrder_63 hR4 h)
theorem w_Ya_cheapestOrder_34 {R4 : Int → Int → Int → Mem → Res} (hR4 : ∀ (a1 a2 a3 : Int) (M : Mem) (r : Int × Mem), R4 a1 a2 a3 M = some r → Fr [] [] M r.2) {a1 a2 a3 s0 : Int} {M : Mem} {r : Int × Mem} (h : k_Ya_cheapestOrder_34 R4 a1 a2 a3 s0 M = some r) : Fr [] [] M r.2 := by
  unfold k_Ya_cheapestOrder_34 at h
  have hFM : Fr [] [] M M := Fr.rfl'
  rcases ite_e h with ⟨c1, h⟩ | ⟨c1, h⟩
  · skip
    exact hFM.trans (w_Ya_cheapestOrder_63 hR4 h)
  · skip
    rcases ite_e h with ⟨c2, h⟩ | ⟨c2, h⟩
    · skip
      exact hFM.trans (w_Ya_cheapestOrder_61 hR4 h)
    · skip
      obtain ⟨c3, h⟩ := chk_e h
      obtain ⟨v4, ev4, h⟩ := blet_e h
      obtain ⟨c5, h⟩ := chk_e h
      obtain ⟨v6, ev6, h⟩ := blet_e h
      rcases ite_e h with ⟨c7, h⟩ | ⟨c7, h⟩
      · skip
        exact hFM.trans (w_Ya_cheapestOrder_61 hR4 h)
      · skip
        exact hFM.trans (w_Ya_cheapestOrder_63 hR4 h)
theorem w_Ya_cheapestOrder_33 {R4 : Int → Int → Int → Mem → Res} (hR4 : ∀ (a1 a2 a3 : Int) (M : Mem) (r : Int × Mem), R4 a1 a2 a3 M = some r → Fr [] [] M r.2) {a1 a2 a3 : Int} {M : Mem} {r : Int × Mem} (h : k_Ya_cheapestOrder_33 R4 a1 a2 a3 M = some r) : Fr [] [] M r.2 := by
  unfold k_Ya_cheapestOrder_33 at h
  have hFM : Fr [] [] M M := Fr.rfl'
  exact hFM.trans (w_Ya_cheapestOrder_34 hR4 h)
theorem w_Ya_cheapestOrder_4 {R4 : Int → Int → Int → Mem → Res} (hR4 : ∀ (a1 a2 a3 : Int) (M : Mem) (r : Int × Mem), R4 a1 a2 a3 M = some r → Fr [] [] M r.2) {a1 a2 a3 : Int} {M : Mem} {r : Int × Mem} (h : k_Ya_cheapestOrder_4 R4 a1 a2 a3 M = some r) : Fr [] [] M r.2 := by
  unfold k_Ya_cheapestOrder_4 at h
  have hFM : Fr [] [] M M := Fr.rfl'
  rcases ite_e h with ⟨c1, h⟩ | ⟨c1, h⟩
  · skip
    obtain ⟨c2, h⟩ := chk_e h
    obtain ⟨v3, ev3, h⟩ := blet_e h
    rcases ite_e h with ⟨c4, h⟩ | ⟨c4, h⟩
    · skip
      obtain ⟨c5, h⟩ := chk_e h
      obtain ⟨v6, ev6, h⟩ := blet_e h
      rcases ite_e h with ⟨c7, h⟩ | ⟨c7, h⟩
      · skip
        exact hFM.trans (w_Ya_cheapestOrder_34 hR4 h)
      · skip
        exact hFM.trans (w_Ya_cheapestOrder_33 hR4 h)
    · skip
      exact hFM.trans (w_Ya_cheapestOrder_33 hR4 h)
  · skip
    cases h; exact hFM
theorem wl_Ya_cheapestOrder_4  : ∀ (n : Nat) (a1 a2 a3 : Int) (M : Mem) (r : Int × Mem), fix (fun _ _ _ _ => none) (k_Ya_cheapestOrder_4) n a1 a2 a3 M = some r → Fr [] [] M r.2 := by
  intro n
  induction n with
  | zero => intro a1 a2 a3 M r h; exact nomatch (show (none : Res) = some r from h)
  | succ n ih => intro a1 a2 a3 M r h; exact w_Ya_cheapestOrder_4 ih h
theorem w_Ya_cheapestOrder {a1 : Int} {M : Mem} {r : Int × Mem} (h : d_Ya_cheapestOrder a1 M = some r) : Fr [] [] M r.2 := by
  unfold d_Ya_cheapestOrder at h
  have hFM : Fr [] [] M M := Fr.rfl'
  exact hFM.trans (wl_Ya_cheapestOrder_4 FU a1 (-1) 0 M r h)
theorem w_Ya_greatestLoad_83 {R13 : Int → Int → Int → Int → Mem → Res} (hR13 : ∀ (a2 a3 a4 a5 : Int) (M : Mem) (r : Int × Mem), R13 a2 a3 a4 a5 M = some r → Fr [] [] M r.2) {a2 a4 a5 s0 s1 : Int} {M : Mem} {r : Int × Mem} (h : k_Ya_greatestLoad_83 R13 a2 a4 a5 s0 s1 M = some r) : Fr [] [] M r.2 := by
  unfold k_Ya_greatestLoad_83 at h
  have hFM : Fr [] [] M M := Fr.rfl'
  obtain ⟨v1, ev1, h⟩ := blet_e h
  obtain ⟨v2, ev2, h⟩ := blet_e h
  exact hFM.trans (hR13 a2 v1 a4 v2 M r h)
theorem w_Ya_greatestLoad_13 {R13 : Int → Int → Int → Int → Mem → Res} (hR13 : ∀ (a2 a3 a4 a5 : Int) (M : Mem) (r : Int × Mem), R13 a2 a3 a4 a5 M = some r → Fr [] [] M r.2) {a2 a3 a4 a5 : Int} {M : Mem} {r : Int × Mem} (h : k_Ya_greatestLoad_13 R13 a2 a3 a4 a5 M = some r) : Fr [] [] M r.2 := by
  unfold k_Ya_greatestLoad_13 at h
  have hFM : Fr [] [] M M := Fr.rfl'
  rcases ite_e h with ⟨c1, h⟩ | ⟨c1, h⟩
  · skip
    rcases ite_e h with ⟨c2, h⟩ | ⟨c2, h⟩
    · skip
      cases h; exact hFM
    · skip
      obtain ⟨c3, h⟩ := chk_e h
      obtain ⟨v4, ev4, h⟩ := blet_e h
      rcases ite_e h with ⟨c5, h⟩ | ⟨c5, h⟩
      · skip
        cases h; exact hFM
      · skip
        obtain ⟨c6, h⟩ := chk_e h
        obtain ⟨v7, ev7, h⟩ := blet_e h
        obtain ⟨c8, h⟩ := chk_e h
        obtain ⟨v9, ev9, h⟩ := blet_e h
        rcases ite_e h with ⟨c10, h⟩ | ⟨c10, h⟩
        · skip
          obtain ⟨c11, h⟩ := chk_e h
          obtain ⟨v12, ev12, h⟩ := blet_e h
          exact hFM.trans (w_Ya_greatestLoad_83 hR13 h)
        · skip
          obtain ⟨c13, h⟩ := chk_e h
          obtain ⟨v14, ev14, h⟩ := blet_e h
          exact hFM.trans (w_Ya_greatestLoad_83 hR13 h)
  · skip
    cases h; exact hFM
theorem wl_Ya_greatestLoad_13  : ∀ (n : Nat) (a2 a3 a4 a5 : Int) (M : Mem) (r : Int × Mem), fix (fun _ _ _ _ _ => none) (k_Ya_greatestLoad_13) n a2 a3 a4 a5 M = some r → Fr [] [] M r.2 := by
  intro n
  induction n with
  | zero => intro a2 a3 a4 a5 M r h; exact nomatch (show (none : Res) = some r from h)
  | succ n ih => intro a2 a3 a4 a5 M r h; exact w_Ya_greatestLoad_13 ih h
theorem w_Ya_greatestLoad {a1 a2 : Int} {M : Mem} {r : Int × Mem} (h : d_Ya_greatestLoad a1 a2 M = some r) : Fr [] [] M r.2 := by
  unfold d_Ya_greatestLoad at h
  have hFM : Fr [] [] M M := Fr.rfl'
  obtain ⟨c1, h⟩ := chk_e h
  obtain ⟨v2, ev2, h⟩ := blet_e h
  exact hFM.trans (wl_Ya_greatestLoad_13 FU a2 v2 a1 0 M r h)
theorem w_Ya_carry_109 {R16 : Int → Int → Int → Int → Mem → Res} (hR16 : ∀ (a2 a3 a4 a5 : Int) (M : Mem) (r : Int × Mem), R16 a2 a3 a4 a5 M = some r → Fr [67, 68, 70] [] M r.2) {a2 a3 a4 a5 : Int} {M : Mem} {r : Int × Mem} (h : k_Ya_carry_109 R16 a2 a3 a4 a5 M = some r) : Fr [67, 68, 70] [] M r.2 := by
  unfold k_Ya_carry_109 at h
  have hFM : Fr [67, 68, 70] [] M M := Fr.rfl'
  obtain ⟨v1, ev1, h⟩ := blet_e h
  exact hFM.trans (hR16 a2 a3 a4 v1 M r h)
theorem w_Ya_carry_16 {R16 : Int → Int → Int → Int → Mem → Res} (hR16 : ∀ (a2 a3 a4 a5 : Int) (M : Mem) (r : Int × Mem), R16 a2 a3 a4 a5 M = some r → Fr [67, 68, 70] [] M r.2) {a2 a3 a4 a5 : Int} {M : Mem} {r : Int × Mem} (h : k_Ya_carry_16 R16 a2 a3 a4 a5 M = some r) : Fr [67, 68, 70] [] M r.2 := by
  unfold k_Ya_carry_16 at h
  have hFM : Fr [67, 68, 70] [] M M := Fr.rfl'
  rcases ite_e h with ⟨c1, h⟩ | ⟨c1, h⟩
  · skip
    rcases ite_e h with ⟨c2, h⟩ | ⟨c2, h⟩
    · skip
      cases h; exact hFM
    · skip
      obtain ⟨c3, h⟩ := chk_e h
      obtain ⟨v4, ev4, h⟩ := blet_e h
      rcases ite_e h with ⟨c5, h⟩ | ⟨c5, h⟩
      · skip
        cases h; exact hFM
      · skip
        obtain ⟨c6, h⟩ := chk_e h
        obtain ⟨v7, ev7, h⟩ := blet_e h
        obtain ⟨c8, h⟩ := chk_e h
        obtain ⟨v9, ev9, h⟩ := blet_e h
        obtain ⟨c10, h⟩ := chk_e h
        obtain ⟨M11, eM11, h⟩ := blet_e h
        have hFM11 : Fr [67, 68, 70] [] M M11 := by rw [eM11]; exact hFM.stoA (by simp)
        obtain ⟨c12, h⟩ := chk_e h
        obtain ⟨v13, ev13, h⟩ := blet_e h
        rcases ite_e h with ⟨c14, h⟩ | ⟨c14, h⟩
        · skip
          obtain ⟨c15, h⟩ := chk_e h
          obtain ⟨v16, ev16, h⟩ := blet_e h
          obtain ⟨c17, h⟩ := chk_e h
          obtain ⟨M18, eM18, h⟩ := blet_e h
          have hFM18 : Fr [67, 68, 70] [] M M18 := by rw [eM18]; exact hFM11.stoA (by simp)
          exact hFM18.trans (w_Ya_carry_109 hR16 h)
        · skip
          obtain ⟨c19, h⟩ := chk_e h
          obtain ⟨v20, ev20, h⟩ := blet_e h
          obtain ⟨c21, h⟩ := chk_e h
          obtain ⟨M22, eM22, h⟩ := blet_e h
          have hFM22 : Fr [67, 68, 70] [] M M22 := by rw [eM22]; exact hFM11.stoA (by simp)
          exact hFM22.trans (w_Ya_carry_109 hR16 h)
  · skip
    cases h; exact hFM
theorem wl_Ya_carry_16  : ∀ (n : Nat) (a2 a3 a4 a5 : Int) (M : Mem) (r : Int × Mem), fix (fun _ _ _ _ _ => none) (k_Ya_carry_16) n a2 a3 a4 a5 M = some r → Fr [67, 68, 70] [] M r.2 := by
  intro n
  induction n with
  | zero => intro a2 a3 a4 a5 M r h; exact nomatch (show (none : Res) = some r from h)
  | succ n ih => intro a2 a3 a4 a5 M r h; exact w_Ya_carry_16 ih h
theorem w_Ya_carry {a1 a2 a3 : Int} {M : Mem} {r : Int × Mem} (h : d_Ya_carry a1 a2 a3 M = some r) : Fr [67, 68, 70] [] M r.2 := by
  unfold d_Ya_carry at h
  have hFM : Fr [67, 68, 70] [] M M := Fr.rfl'
  obtain ⟨c1, h⟩ := chk_e h
  obtain ⟨v2, ev2, h⟩ := blet_e h
  obtain ⟨c3, h⟩ := chk_e h
  obtain ⟨M4, eM4, h⟩ := blet_e h
  have hFM4 : Fr [67, 68, 70] [] M M4 := by rw [eM4]; exact hFM.stoA (by simp)
  exact hFM4.trans (wl_Ya_carry_16 FU a2 a3 a1 0 M4 r h)
theorem w_Ya_leastCost_63 {R63 : Int → Int → Int → Int → Mem → Res} (hR63 : ∀ (a1 a2 a3 a4 : Int) (M : Mem) (r : Int × Mem), R63 a1 a2 a3 a4 M = some r → Fr [67, 68, 70, 71, 72, 73, 74] [] M r.2) {a1 a2 a3 a4 : Int} {M : Mem} {r : Int × Mem} (h : k_Ya_leastCost_63 R63 a1 a2 a3 a4 M = some r) : Fr [67, 68, 70, 71, 72, 73, 74] [] M r.2 := by
  unfold k_Ya_leastCost_63 at h
  have hFM : Fr [67, 68, 70, 71, 72, 73, 74] [] M M := Fr.rfl'
  rcases ite_e h with ⟨c1, h⟩ | ⟨c1, h⟩
  · skip
    obtain ⟨c2, h⟩ := chk_e h
    obtain ⟨v3, ev3, h⟩ := blet_e h
    obtain ⟨c4, h⟩ := chk_e h
    obtain ⟨v5, ev5, h⟩ := blet_e h
    obtain ⟨v6, ev6, h⟩ := blet_e h
    obtain ⟨v7, ev7, h⟩ := blet_e h
    exact hFM.trans (hR63 a1 a2 v6 v7 M r h)
  · skip
    cases h; exact hFM
theorem wl_Ya_leastCost_63  : ∀ (n : Nat) (a1 a2 a3 a4 : Int) (M : Mem) (r : Int × Mem), fix (fun _ _ _ _ _ => none) (k_Ya_leastCost_63) n a1 a2 a3 a4 M = some r → Fr [67, 68, 70, 71, 72, 73, 74] [] M r.2 := by
  intro n
  induction n with
  | zero => intro a1 a2 a3 a4 M r h; exact nomatch (show (none : Res) = some r from h)
  | succ n ih => intro a1 a2 a3 a4 M r h; exact w_Ya_leastCost_63 ih h
theorem w_Ya_leastCost_58  {a1 a2 : Int} {M : Mem} {r : Int × Mem} (h : k_Ya_leastCost_58 a1 a2 M = some r) : Fr [67, 68, 70, 71, 72, 73, 74] [] M r.2 := by
  unfold k_Ya_leastCost_58 at h
  have hFM : Fr [67, 68, 70, 71, 72, 73, 74] [] M M := Fr.rfl'
  exact hFM.trans (wl_Ya_leastCost_63 FU a1 a2 0 0 M r h)
theorem w_Ya_leastCost_10 {R10 : Int → Int → Int → Mem → Res} (hR10 : ∀ (a1 a2 a3 : Int) (M : Mem) (r : Int × Mem), R10 a1 a2 a3 M = some r → Fr [67, 68, 70, 71, 72, 73, 74] [] M r.2) {a1 a2 a3 : Int} {M : Mem} {r : Int × Mem} (h : k_Ya_leastCost_10 R10 a1 a2 a3 M = some r) : Fr [67, 68, 70, 71, 72, 73, 74] [] M r.2 := by
  unfold k_Ya_leastCost_10 at h
  have hFM : Fr [67, 68, 70, 71, 72, 73, 74] [] M M := Fr.rfl'
  rcases ite_e h with ⟨c1, h⟩ | ⟨c1, h⟩
  · skip
    obtain ⟨v2, M3, fv2, h⟩ := bcall_e h
    have hFM3 : Fr [67, 68, 70, 71, 72, 73, 74] [] M M3 := hFM.trans ((w_Ya_findWays fv2).mono (by simp) (by simp))
    obtain ⟨v4, M5, fv4, h⟩ := bcall_e h
    have hFM5 : Fr [67, 68, 70, 71, 72, 73, 74] [] M M5 := hFM3.trans ((w_Ya_cheapestOrder fv4).mono (by simp) (by simp))
    rcases ite_e h with ⟨c6, h⟩ | ⟨c6, h⟩
    · skip
      exact hFM5.trans (w_Ya_leastCost_58 h)
    · skip
      obtain ⟨v7, M8, fv7, h⟩ := bcall_e h
      have hFM8 : Fr [67, 68, 70, 71, 72, 73, 74] [] M M8 := hFM5.trans ((w_Ya_greatestLoad fv7).mono (by simp) (by simp))
      obtain ⟨v9, M10, fv9, h⟩ := bcall_e h
      have hFM10 : Fr [67, 68, 70, 71, 72, 73, 74] [] M M10 := hFM8.trans ((w_Ya_carry fv9).mono (by simp) (by simp))
      obtain ⟨v11, ev11, h⟩ := blet_e h
      exact hFM10.trans (hR10 a1 a2 v11 M10 r h)
  · skip
    exact hFM.trans (w_Ya_leastCost_58 h)
theorem wl_Ya_leastCost_10  : ∀ (n : Nat) (a1 a2 a3 : Int) (M : Mem) (r : Int × Mem), fix (fun _ _ _ _ => none) (k_Ya_leastCost_10) n a1 a2 a3 M = some r → Fr [67, 68, 70, 71, 72, 73, 74] [] M r.2 := by
  intro n
  induction n with
  | zero => intro a1 a2 a3 M r h; exact nomatch (show (none : Res) = some r from h)
  | succ n ih => intro a1 a2 a3 M r h; exact w_Ya_leastCost_10 ih h
theorem w_Ya_leastCost {a1 a2 : Int} {M : Mem} {r : Int × Mem} (h : d_Ya_leastCost a1 a2 M = some r) : Fr [67, 68, 70, 71, 72, 73, 74] [] M r.2 := by
  unfold d_Ya_leastCost at h
  have hFM : Fr [67, 68, 70, 71, 72, 73, 74] [] M M := Fr.rfl'
  obtain ⟨v1, M2, fv1, h⟩ := bcall_e h
  have hFM2 : Fr [67, 68, 70, 71, 72, 73, 74] [] M M2 := hFM.trans ((w_Ar_fill1 fv1).mono (by simp) (by simp))
  exact hFM2.trans (wl_Ya_leastCost_10 FU a1 a2 0 M2 r h)
theorem w_PP_status {M : Mem} {r : Int × Mem} (h : d_PP_status M = some r) : Fr [] [] M r.2 := by
  unfold d_PP_status at h
  have hFM : Fr [] [] M M := Fr.rfl'
  obtain ⟨v1, ev1, h⟩ := blet_e h
  cases h; exact hFM
theorem w_PP_isIn {a0 a1 a2 : Int} {M : Mem} {r : Int × Mem} (h : d_PP_isIn a0 a1 a2 M = some r) : Fr [] [] M r.2 := by
  unfold d_PP_isIn at h
  have hFM : Fr [] [] M M := Fr.rfl'
  rcases ite_e h with ⟨c1, h⟩ | ⟨c1, h⟩
  · skip
    cases h; exact hFM
  · skip
    rcases ite_e h with ⟨c2, h⟩ | ⟨c2, h⟩
    · skip
      cases h; exact hFM
    · skip
      cases h; exact hFM
theorem w_Tr_statusOfThree_67  {s0 : Int} {M : Mem} {r : Int × Mem} (h : k_Tr_statusOfThree_67 s0 M = some r) : Fr [] [] M r.2 := by
  unfold k_Tr_statusOfThree_67 at h
  have hFM : Fr [] [] M M := Fr.rfl'
  rcases ite_e h with ⟨c1, h⟩ | ⟨c1, h⟩
  · skip
    cases h; exact hFM
  · skip
    cases h; exact hFM
theorem w_Tr_statusOfThree_62  {M : Mem} {r : Int × Mem} (h : k_Tr_statusOfThree_62 M = some r) : Fr [] [] M r.2 := by
  unfold k_Tr_statusOfThree_62 at h
  have hFM : Fr [] [] M M := Fr.rfl'
  exact hFM.trans (w_Tr_statusOfThree_67 h)
theorem w_Tr_statusOfThree {a1 a2 a3 : Int} {M : Mem} {r : Int × Mem} (h : d_Tr_statusOfThree a1 a2 a3 M = some r) : Fr [] [] M r.2 := by
  unfold d_Tr_statusOfThree at h
  have hFM : Fr [] [] M M := Fr.rfl'
  obtain ⟨v1, M2, fv1, h⟩ := bcall_e h
  have hFM2 : Fr [] [] M M2 := hFM.trans ((w_PP_isIn fv1).mono (by simp) (by simp))
  rcases ite_e h with ⟨c3, h⟩ | ⟨c3, h⟩
  · skip
    cases h; exact hFM2
  · skip
    obtain ⟨v4, M5, fv4, h⟩ := bcall_e h
    have hFM5 : Fr [] [] M M5 := hFM2.trans ((w_PP_isIn fv4).mono (by simp) (by simp))
    rcases ite_e h with ⟨c6, h⟩ | ⟨c6, h⟩
    · skip
      cases h; exact hFM5
    · skip
      obtain ⟨v7, M8, fv7, h⟩ := bcall_e h
      have hFM8 : Fr [] [] M M8 := hFM5.trans ((w_PP_isIn fv7).mono (by simp) (by simp))
      rcases ite_e h with ⟨c9, h⟩ | ⟨c9, h⟩
      · skip
        cases h; exact hFM8
      · skip
        obtain ⟨c10, h⟩ := chk_e h
        obtain ⟨v11, ev11, h⟩ := blet_e h
        rcases ite_e h with ⟨c12, h⟩ | ⟨c12, h⟩
        · skip
          exact hFM8.trans (w_Tr_statusOfThree_62 h)
        · skip
          obtain ⟨c13, h⟩ := chk_e h
          obtain ⟨v14, ev14, h⟩ := blet_e h
          rcases ite_e h with ⟨c15, h⟩ | ⟨c15, h⟩
          · skip
            exact hFM8.trans (w_Tr_statusOfThree_62 h)
          · skip
            obtain ⟨c16, h⟩ := chk_e h
            obtain ⟨v17, ev17, h⟩ := blet_e h
            rcases ite_e h with ⟨c18, h⟩ | ⟨c18, h⟩
            · skip
              exact hFM8.trans (w_Tr_statusOfThree_62 h)
            · skip
              exact hFM8.trans (w_Tr_statusOfThree_67 h)
theorem w_Tr_statusOfTwo {a1 a2 : Int} {M : Mem} {r : Int × Mem} (h : d_Tr_statusOfTwo a1 a2 M = some r) : Fr [] [] M r.2 := by
  unfold d_Tr_statusOfTwo at h
  have hFM : Fr [] [] M M := Fr.rfl'
  obtain ⟨v1, M2, fv1, h⟩ := bcall_e h
  have hFM2 : Fr [] [] M M2 := hFM.trans ((w_Tr_statusOfThree fv1).mono (by simp) (by simp))
  cases h; exact hFM2
theorem w_Tr_statusOfPlace {a1 a2 : Int} {M : Mem} {r : Int × Mem} (h : d_Tr_statusOfPlace a1 a2 M = some r) : Fr [] [] M r.2 := by
  unfold d_Tr_statusOfPlace at h
  have hFM : Fr [] [] M M := Fr.rfl'
  obtain ⟨v1, M2, fv1, h⟩ := bcall_e h
  have hFM2 : Fr [] [] M M2 := hFM.trans ((w_Tr_statusOfTwo fv1).mono (by simp) (by simp))
  rcases ite_e h with ⟨c3, h⟩ | ⟨c3, h⟩
  · skip
    obtain ⟨c4, h⟩ := chk_e h
    obtain ⟨v5, ev5, h⟩ := blet_e h
    obtain ⟨v6, M7, fv6, h⟩ := bcall_e h
    have hFM7 : Fr [] [] M M7 := hFM2.trans ((w_PP_isIn fv6).mono (by simp) (by simp))
    rcases ite_e h with ⟨c8, h⟩ | ⟨c8, h⟩
    · skip
      cases h; exact hFM7
    · skip
      cases h; exact hFM7
  · skip
    cases h; exact hFM2
theorem w_Pr_hasFarm {a1 : Int} {M : Mem} {r : Int × Mem} (h : d_Pr_hasFarm a1 M = some r) : Fr [] [] M r.2 := by
  unfold d_Pr_hasFarm at h
  have hFM : Fr [] [] M M := Fr.rfl'
  obtain ⟨v1, ev1, h⟩ := blet_e h
  obtain ⟨v2, M3, fv2, h⟩ := bcall_e h
  have hFM3 : Fr [] [] M M3 := hFM.trans ((w_PP_isIn fv2).mono (by simp) (by simp))
  obtain ⟨c4, h⟩ := chk_e h
  cases h; exact hFM3
theorem w_Pr_hasElevator {a1 : Int} {M : Mem} {r : Int × Mem} (h : d_Pr_hasElevator a1 M = some r) : Fr [] [] M r.2 := by
  unfold d_Pr_hasElevator at h
  have hFM : Fr [] [] M M := Fr.rfl'
  obtain ⟨v1, ev1, h⟩ := blet_e h
  obtain ⟨v2, M3, fv2, h⟩ := bcall_e h
  have hFM3 : Fr [] [] M M3 := hFM.trans ((w_PP_isIn fv2).mono (by simp) (by simp))
  obtain ⟨c4, h⟩ := chk_e h
  cases h; exact hFM3
theorem w_Jo_hasLoad {a1 : Int} {M : Mem} {r : Int × Mem} (h : d_Jo_hasLoad a1 M = some r) : Fr [] [] M r.2 := by
  unfold d_Jo_hasLoad at h
  have hFM : Fr [] [] M M := Fr.rfl'
  obtain ⟨v1, ev1, h⟩ := blet_e h
  obtain ⟨v2, M3, fv2, h⟩ := bcall_e h
  have hFM3 : Fr [] [] M M3 := hFM.trans ((w_PP_isIn fv2).mono (by simp) (by simp))
  rcases ite_e h with ⟨c4, h⟩ | ⟨c4, h⟩
  · skip
    cases h; exact hFM3
  · skip
    obtain ⟨c5, h⟩ := chk_e h
    obtain ⟨v6, ev6, h⟩ := blet_e h
    rcases ite_e h with ⟨c7, h⟩ | ⟨c7, h⟩
    · skip
      cases h; exact hFM3
    · skip
      cases h; exact hFM3
theorem w_Pr_isBound {a1 a2 : Int} {M : Mem} {r : Int × Mem} (h : d_Pr_isBound a1 a2 M = some r) : Fr [] [] M r.2 := by
  unfold d_Pr_isBound at h
  have hFM : Fr [] [] M M := Fr.rfl'
  obtain ⟨c1, h⟩ := chk_e h
  obtain ⟨v2, ev2, h⟩ := blet_e h
  obtain ⟨c3, h⟩ := chk_e h
  obtain ⟨v4, ev4, h⟩ := blet_e h
  obtain ⟨v5, M6, fv5, h⟩ := bcall_e h
  have hFM6 : Fr [] [] M M6 := hFM.trans ((w_PP_isIn fv5).mono (by simp) (by simp))
  rcases ite_e h with ⟨c7, h⟩ | ⟨c7, h⟩
  · skip
    cases h; exact hFM6
  · skip
    obtain ⟨c8, h⟩ := chk_e h
    obtain ⟨v9, ev9, h⟩ := blet_e h
    rcases ite_e h with ⟨c10, h⟩ | ⟨c10, h⟩
    · skip
      cases h; exact hFM6
    · skip
      cases h; exact hFM6
theorem w_Ou_penceFor {a1 : Int} {M : Mem} {r : Int × Mem} (h : d_Ou_penceFor a1 M = some r) : Fr [34, 35, 36, 37, 38] [(32, 2), (32, 8)] M r.2 := by
  unfold d_Ou_penceFor at h
  have hFM : Fr [34, 35, 36, 37, 38] [(32, 2), (32, 8)] M M := Fr.rfl'
  obtain ⟨c1, h⟩ := chk_e h
  obtain ⟨v2, ev2, h⟩ := blet_e h
  obtain ⟨c3, h⟩ := chk_e h
  obtain ⟨v4, ev4, h⟩ := blet_e h
  obtain ⟨v5, M6, fv5, h⟩ := bcall_e h
  have hFM6 : Fr [34, 35, 36, 37, 38] [(32, 2), (32, 8)] M M6 := hFM.trans ((w_Pr_isBound fv5).mono (by simp) (by simp))
  rcases ite_e h with ⟨c7, h⟩ | ⟨c7, h⟩
  · skip
    cases h; exact hFM6
  · skip
    obtain ⟨c8, h⟩ := chk_e h
    obtain ⟨v9, ev9, h⟩ := blet_e h
    obtain ⟨v10, M11, fv10, h⟩ := bcall_e h
    have hFM11 : Fr [34, 35, 36, 37, 38] [(32, 2), (32, 8)] M M11 := hFM6.trans ((w_As_begin fv10).mono (by simp) (by simp))
    obtain ⟨c12, h⟩ := chk_e h
    obtain ⟨v13, ev13, h⟩ := blet_e h
    obtain ⟨v14, M15, fv14, h⟩ := bcall_e h
    have hFM15 : Fr [34, 35, 36, 37, 38] [(32, 2), (32, 8)] M M15 := hFM11.trans ((w_As_tellWeek fv14).mono (by simp) (by simp))
    obtain ⟨c16, h⟩ := chk_e h
    obtain ⟨v17, ev17, h⟩ := blet_e h
    obtain ⟨v18, M19, fv18, h⟩ := bcall_e h
    have hFM19 : Fr [34, 35, 36, 37, 38] [(32, 2), (32, 8)] M M19 := hFM15.trans ((w_Pr_tellOf fv18).mono (by simp) (by simp))
    obtain ⟨c20, h⟩ := chk_e h
    obtain ⟨v21, ev21, h⟩ := blet_e h
    obtain ⟨v22, M23, fv22, h⟩ := bcall_e h
    have hFM23 : Fr [34, 35, 36, 37, 38] [(32, 2), (32, 8)] M M23 := hFM19.trans ((w_As_tell fv22).mono (by simp) (by simp))
    obtain ⟨c24, h⟩ := chk_e h
    obtain ⟨v25, ev25, h⟩ := blet_e h
    obtain ⟨v26, M27, fv26, h⟩ := bcall_e h
    have hFM27 : Fr [34, 35, 36, 37, 38] [(32, 2), (32, 8)] M M27 := hFM23.trans ((w_As_tell fv26).mono (by simp) (by simp))
    obtain ⟨v28, M29, fv28, h⟩ := bcall_e h
    have hFM29 : Fr [34, 35, 36, 37, 38] [(32, 2), (32, 8)] M M29 := hFM27.trans ((w_As_ask fv28).mono (by simp) (by simp))
    cases h; exact hFM29
theorem w_Ou_costOf_58 {R5 : Int → Int → Int → Int → Mem → Res} (hR5 : ∀ (a1 a2 a3 a5 : Int) (M : Mem) (r : Int × Mem), R5 a1 a2 a3 a5 M = some r → Fr [34, 35, 36, 37, 38] [(32, 2), (32, 8)] M r.2) {a1 a2 a3 a5 : Int} {M : Mem} {r : Int × Mem} (h : k_Ou_costOf_58 R5 a1 a2 a3 a5 M = some r) : Fr [34, 35, 36, 37, 38] [(32, 2), (32, 8)] M r.2 := by
  unfold k_Ou_costOf_58 at h
  have hFM : Fr [34, 35, 36, 37, 38] [(32, 2), (32, 8)] M M := Fr.rfl'
  obtain ⟨v1, ev1, h⟩ := blet_e h
  exact hFM.trans (hR5 a1 a2 a3 v1 M r h)
theorem w_Ou_costOf_5 {R5 : Int → Int → Int → Int → Mem → Res} (hR5 : ∀ (a1 a2 a3 a5 : Int) (M : Mem) (r : Int × Mem), R5 a1 a2 a3 a5 M = some r → Fr [34, 35, 36, 37, 38] [(32, 2), (32, 8)] M r.2) {a1 a2 a3 a5 : Int} {M : Mem} {r : Int × Mem} (h : k_Ou_costOf_5 R5 a1 a2 a3 a5 M = some r) : Fr [34, 35, 36, 37, 38] [(32, 2), (32, 8)] M r.2 := by
  unfold k_Ou_costOf_5 at h
  have hFM : Fr [34, 35, 36, 37, 38] [(32, 2), (32, 8)] M M := Fr.rfl'
  obtain ⟨v1, ev1, h⟩ := blet_e h
  rcases ite_e h with ⟨c2, h⟩ | ⟨c2, h⟩
  · skip
    obtain ⟨c3, h⟩ := chk_e h
    obtain ⟨v4, ev4, h⟩ := blet_e h
    rcases ite_e h with ⟨c5, h⟩ | ⟨c5, h⟩
    · skip
      obtain ⟨c6, h⟩ := chk_e h
      obtain ⟨v7, ev7, h⟩ := blet_e h
      rcases ite_e h with ⟨c8, h⟩ | ⟨c8, h⟩
      · skip
        obtain ⟨v9, M10, fv9, h⟩ := bcall_e h
        have hFM10 : Fr [34, 35, 36, 37, 38] [(32, 2), (32, 8)] M M10 := hFM.trans ((w_Ou_penceFor fv9).mono (by simp) (by simp))
        obtain ⟨c11, h⟩ := chk_e h
        obtain ⟨v12, ev12, h⟩ := blet_e h
        obtain ⟨v13, ev13, h⟩ := blet_e h
        exact hFM10.trans (w_Ou_costOf_58 hR5 h)
      · skip
        exact hFM.trans (w_Ou_costOf_58 hR5 h)
    · skip
      exact hFM.trans (w_Ou_costOf_58 hR5 h)
  · skip
    cases h; exact hFM
theorem wl_Ou_costOf_5  : ∀ (n : Nat) (a1 a2 a3 a5 : Int) (M : Mem) (r : Int × Mem), fix (fun _ _ _ _ _ => none) (k_Ou_costOf_5) n a1 a2 a3 a5 M = some r → Fr [34, 35, 36, 37, 38] [(32, 2), (32, 8)] M r.2 := by
  intro n
  induction n with
  | zero => intro a1 a2 a3 a5 M r h; exact nomatch (show (none : Res) = some r from h)
  | succ n ih => intro a1 a2 a3 a5 M r h; exact w_Ou_costOf_5 ih h
theorem w_Ou_costOf {a1 a2 : Int} {M : Mem} {r : Int × Mem} (h : d_Ou_costOf a1 a2 M = some r) : Fr [34, 35, 36, 37, 38] [(32, 2), (32, 8)] M r.2 := by
  unfold d_Ou_costOf at h
  have hFM : Fr [34, 35, 36, 37, 38] [(32, 2), (32, 8)] M M := Fr.rfl'
  exact hFM.trans (wl_Ou_costOf_5 FU a1 a2 0 0 M r h)
theorem w_PP_tray_55  {a1 a2 a3 s1 : Int} {M : Mem} {r : Int × Mem} (h : k_PP_tray_55 a1 a2 a3 s1 M = some r) : Fr [2, 3, 4] [(0, 0)] M r.2 := by
  unfold k_PP_tray_55 at h
  have hFM : Fr [2, 3, 4] [(0, 0)] M M := Fr.rfl'
  obtain ⟨M1, eM1, h⟩ := blet_e h
  have hFM1 : Fr [2, 3, 4] [(0, 0)] M M1 := by rw [eM1]; exact hFM.stoF (by simp)
  obtain ⟨v2, ev2, h⟩ := blet_e h
  rcases ite_e h with ⟨c3, h⟩ | ⟨c3, h⟩
  · skip
    obtain ⟨v4, M5, fv4, h⟩ := bcall_e h
    have hFM5 : Fr [2, 3, 4] [(0, 0)] M M5 := hFM1.trans ((w_Tr_make fv4).mono (by simp) (by simp))
    cases h; exact hFM5
  · skip
    cases h; exact hFM1
theorem w_PP_tray_23  {a1 a2 a3 s0 : Int} {M : Mem} {r : Int × Mem} (h : k_PP_tray_23 a1 a2 a3 s0 M = some r) : Fr [2, 3, 4] [(0, 0)] M r.2 := by
  unfold k_PP_tray_23 at h
  have hFM : Fr [2, 3, 4] [(0, 0)] M M := Fr.rfl'
  rcases ite_e h with ⟨c1, h⟩ | ⟨c1, h⟩
  · skip
    exact hFM.trans (w_PP_tray_55 h)
  · skip
    rcases ite_e h with ⟨c2, h⟩ | ⟨c2, h⟩
    · skip
      exact hFM.trans (w_PP_tray_55 h)
    · skip
      rcases ite_e h with ⟨c3, h⟩ | ⟨c3, h⟩
      · skip
        exact hFM.trans (w_PP_tray_55 h)
      · skip
        exact hFM.trans (w_PP_tray_55 h)
theorem w_PP_tray_22  {a1 a2 a3 : Int} {M : Mem} {r : Int × Mem} (h : k_PP_tray_22 a1 a2 a3 M = some r) : Fr [2, 3, 4] [(0, 0)] M r.2 := by
  unfold k_PP_tray_22 at h
  have hFM : Fr [2, 3, 4] [(0, 0)] M M := Fr.rfl'
  exact hFM.trans (w_PP_tray_23 h)
theorem w_PP_tray {a1 a2 a3 : Int} {M : Mem} {r : Int × Mem} (h : d_PP_tray a1 a2 a3 M = some r) : Fr [2, 3, 4] [(0, 0)] M r.2 := by
  unfold d_PP_tray at h
  have hFM : Fr [2, 3, 4] [(0, 0)] M M := Fr.rfl'
  obtain ⟨v1, M2, fv1, h⟩ := bcall_e h
  have hFM2 : Fr [2, 3, 4] [(0, 0)] M M2 := hFM.trans ((w_PP_isIn fv1).mono (by simp) (by simp))
  rcases ite_e h with ⟨c3, h⟩ | ⟨c3, h⟩
  · skip
    exact hFM2.trans (w_PP_tray_22 h)
  · skip
    obtain ⟨v4, M5, fv4, h⟩ := bcall_e h
    have hFM5 : Fr [2, 3, 4] [(0, 0)] M M5 := hFM2.trans ((w_PP_isIn fv4).mono (by simp) (by simp))
    rcases ite_e h with ⟨c6, h⟩ | ⟨c6, h⟩
    · skip
      exact hFM5.trans (w_PP_tray_22 h)
    · skip
      exact hFM5.trans (w_PP_tray_23 h)
theorem w_PP_write {a1 a2 a3 : Int} {M : Mem} {r : Int × Mem} (h : d_PP_write a1 a2 a3 M = some r) : Fr [4] [(0, 0)] M r.2 := by
  unfold d_PP_write at h
  have hFM : Fr [4] [(0, 0)] M M := Fr.rfl'
  obtain ⟨v1, M2, fv1, h⟩ := bcall_e h
  have hFM2 : Fr [4] [(0, 0)] M M2 := hFM.trans ((w_Tr_statusOfPlace fv1).mono (by simp) (by simp))
  obtain ⟨M3, eM3, h⟩ := blet_e h
  have hFM3 : Fr [4] [(0, 0)] M M3 := by rw [eM3]; exact hFM2.stoF (by simp)
  obtain ⟨v4, ev4, h⟩ := blet_e h
  rcases ite_e h with ⟨c5, h⟩ | ⟨c5, h⟩
  · skip
    obtain ⟨v6, M7, fv6, h⟩ := bcall_e h
    have hFM7 : Fr [4] [(0, 0)] M M7 := hFM3.trans ((w_Tr_put fv6).mono (by simp) (by simp))
    cases h; exact hFM7
  · skip
    cases h; exact hFM3
theorem w_PP_read {a1 a2 : Int} {M : Mem} {r : Int × Mem} (h : d_PP_read a1 a2 M = some r) : Fr [] [(0, 0)] M r.2 := by
  unfold d_PP_read at h
  have hFM : Fr [] [(0, 0)] M M := Fr.rfl'
  obtain ⟨v1, M2, fv1, h⟩ := bcall_e h
  have hFM2 : Fr [] [(0, 0)] M M2 := hFM.trans ((w_Tr_statusOfPlace fv1).mono (by simp) (by simp))
  obtain ⟨M3, eM3, h⟩ := blet_e h
  have hFM3 : Fr [] [(0, 0)] M M3 := by rw [eM3]; exact hFM2.stoF (by simp)
  obtain ⟨v4, ev4, h⟩ := blet_e h
  rcases ite_e h with ⟨c5, h⟩ | ⟨c5, h⟩
  · skip
    obtain ⟨v6, M7, fv6, h⟩ := bcall_e h
    have hFM7 : Fr [] [(0, 0)] M M7 := hFM3.trans ((w_Tr_get fv6).mono (by simp) (by simp))
    cases h; exact hFM7
  · skip
    cases h; exact hFM3
theorem w_PP_pour_38  {a1 a2 a3 a4 a5 : Int} {M : Mem} {r : Int × Mem} (h : k_PP_pour_38 a1 a2 a3 a4 a5 M = some r) : Fr [4] [(0, 0)] M r.2 := by
  unfold k_PP_pour_38 at h
  have hFM : Fr [4] [(0, 0)] M M := Fr.rfl'
  obtain ⟨v1, ev1, h⟩ := blet_e h
  rcases ite_e h with ⟨c2, h⟩ | ⟨c2, h⟩
  · skip
    obtain ⟨v3, M4, fv3, h⟩ := bcall_e h
    have hFM4 : Fr [4] [(0, 0)] M M4 := hFM.trans ((w_Tr_move fv3).mono (by simp) (by simp))
    cases h; exact hFM4
  · skip
    cases h; exact hFM
theorem w_PP_pour {a1 a2 a3 a4 a5 : Int} {M : Mem} {r : Int × Mem} (h : d_PP_pour a1 a2 a3 a4 a5 M = some r) : Fr [4] [(0, 0)] M r.2 := by
  unfold d_PP_pour at h
  have hFM : Fr [4] [(0, 0)] M M := Fr.rfl'
  obtain ⟨v1, M2, fv1, h⟩ := bcall_e h
  have hFM2 : Fr [4] [(0, 0)] M M2 := hFM.trans ((w_Tr_statusOfTwo fv1).mono (by simp) (by simp))
  obtain ⟨M3, eM3, h⟩ := blet_e h
  have hFM3 : Fr [4] [(0, 0)] M M3 := by rw [eM3]; exact hFM2.stoF (by simp)
  obtain ⟨v4, ev4, h⟩ := blet_e h
  rcases ite_e h with ⟨c5, h⟩ | ⟨c5, h⟩
  · skip
    obtain ⟨v6, M7, fv6, h⟩ := bcall_e h
    have hFM7 : Fr [4] [(0, 0)] M M7 := hFM3.trans ((w_Tr_statusOfPouring fv6).mono (by simp) (by simp))
    obtain ⟨M8, eM8, h⟩ := blet_e h
    have hFM8 : Fr [4] [(0, 0)] M M8 := by rw [eM8]; exact hFM7.stoF (by simp)
    exact hFM8.trans (w_PP_pour_38 h)
  · skip
    exact hFM3.trans (w_PP_pour_38 h)
theorem w_PP_isDistrict {a0 : Int} {M : Mem} {r : Int × Mem} (h : d_PP_isDistrict a0 M = some r) : Fr [] [] M r.2 := by
  unfold d_PP_isDistrict at h
  have hFM : Fr [] [] M M := Fr.rfl'
  obtain ⟨v1, M2, fv1, h⟩ := bcall_e h
  have hFM2 : Fr [] [] M M2 := hFM.trans ((w_PP_isIn fv1).mono (by simp) (by simp))
  obtain ⟨c3, h⟩ := chk_e h
  cases h; exact hFM2
theorem w_PP_passes_18  {s1 : Int} {M : Mem} {r : Int × Mem} (h : k_PP_passes_18 s1 M = some r) : Fr [] [(0, 0)] M r.2 := by
  unfold k_PP_passes_18 at h
  have hFM : Fr [] [(0, 0)] M M := Fr.rfl'
  obtain ⟨M1, eM1, h⟩ := blet_e h
  have hFM1 : Fr [] [(0, 0)] M M1 := by rw [eM1]; exact hFM.stoF (by simp)
  obtain ⟨v2, ev2, h⟩ := blet_e h
  rcases ite_e h with ⟨c3, h⟩ | ⟨c3, h⟩
  · skip
    cases h; exact hFM1
  · skip
    cases h; exact hFM1
theorem w_PP_passes {a1 a2 : Int} {M : Mem} {r : Int × Mem} (h : d_PP_passes a1 a2 M = some r) : Fr [] [(0, 0)] M r.2 := by
  unfold d_PP_passes at h
  have hFM : Fr [] [(0, 0)] M M := Fr.rfl'
  rcases ite_e h with ⟨c1, h⟩ | ⟨c1, h⟩
  · skip
    exact hFM.trans (w_PP_passes_18 h)
  · skip
    rcases ite_e h with ⟨c2, h⟩ | ⟨c2, h⟩
    · skip
      exact hFM.trans (w_PP_passes_18 h)
    · skip
      exact hFM.trans (w_PP_passes_18 h)
theorem w_PP_passesWithRoom_19  {M : Mem} {r : Int × Mem} (h : k_PP_passesWithRoom_19 M = some r) : Fr [] [(0, 0)] M r.2 := by
  unfold k_PP_passesWithRoom_19 at h
  have hFM : Fr [] [(0, 0)] M M := Fr.rfl'
  obtain ⟨v1, ev1, h⟩ := blet_e h
  rcases ite_e h with ⟨c2, h⟩ | ⟨c2, h⟩
  · skip
    cases h; exact hFM
  · skip
    cases h; exact hFM
theorem w_PP_passesWithRoom {a1 a2 a3 : Int} {M : Mem} {r : Int × Mem} (h : d_PP_passesWithRoom a1 a2 a3 M = some r) : Fr [] [(0, 0)] M r.2 := by
  unfold d_PP_passesWithRoom at h
  have hFM : Fr [] [(0, 0)] M M := Fr.rfl'
  obtain ⟨v1, M2, fv1, h⟩ := bcall_e h
  have hFM2 : Fr [] [(0, 0)] M M2 := hFM.trans ((w_PP_passes fv1).mono (by simp) (by simp))
  rcases ite_e h with ⟨c3, h⟩ | ⟨c3, h⟩
  · skip
    exact hFM2.trans (w_PP_passesWithRoom_19 h)
  · skip
    rcases ite_e h with ⟨c4, h⟩ | ⟨c4, h⟩
    · skip
      obtain ⟨M5, eM5, h⟩ := blet_e h
      have hFM5 : Fr [] [(0, 0)] M M5 := by rw [eM5]; exact hFM2.stoF (by simp)
      exact hFM5.trans (w_PP_passesWithRoom_19 h)
    · skip
      exact hFM2.trans (w_PP_passesWithRoom_19 h)
theorem w_PP_farm_52  {a1 a2 a3 s1 s2 s3 : Int} {M : Mem} {r : Int × Mem} (h : k_PP_farm_52 a1 a2 a3 s1 s2 s3 M = some r) : Fr [6, 7, 8, 9, 10, 12] [(0, 0), (5, 0)] M r.2 := by
  unfold k_PP_farm_52 at h
  have hFM : Fr [6, 7, 8, 9, 10, 12] [(0, 0), (5, 0)] M M := Fr.rfl'
  obtain ⟨v1, M2, fv1, h⟩ := bcall_e h
  have hFM2 : Fr [6, 7, 8, 9, 10, 12] [(0, 0), (5, 0)] M M2 := hFM.trans ((w_PP_passesWithRoom fv1).mono (by simp) (by simp))
  rcases ite_e h with ⟨c3, h⟩ | ⟨c3, h⟩
  · skip
    cases h; exact hFM2
  · skip
    obtain ⟨v4, M5, fv4, h⟩ := bcall_e h
    have hFM5 : Fr [6, 7, 8, 9, 10, 12] [(0, 0), (5, 0)] M M5 := hFM2.trans ((w_Pr_addFarm fv4).mono (by simp) (by simp))
    cases h; exact hFM5
theorem w_PP_farm_26  {a1 a2 a3 s0 : Int} {M : Mem} {r : Int × Mem} (h : k_PP_farm_26 a1 a2 a3 s0 M = some r) : Fr [6, 7, 8, 9, 10, 12] [(0, 0), (5, 0)] M r.2 := by
  unfold k_PP_farm_26 at h
  have hFM : Fr [6, 7, 8, 9, 10, 12] [(0, 0), (5, 0)] M M := Fr.rfl'
  obtain ⟨v1, M2, fv1, h⟩ := bcall_e h
  have hFM2 : Fr [6, 7, 8, 9, 10, 12] [(0, 0), (5, 0)] M M2 := hFM.trans ((w_PP_isDistrict fv1).mono (by simp) (by simp))
  obtain ⟨v3, ev3, h⟩ := blet_e h
  rcases ite_e h with ⟨c4, h⟩ | ⟨c4, h⟩
  · skip
    exact hFM2.trans (w_PP_farm_52 h)
  · skip
    exact hFM2.trans (w_PP_farm_52 h)
theorem w_PP_farm_25  {a1 a2 a3 : Int} {M : Mem} {r : Int × Mem} (h : k_PP_farm_25 a1 a2 a3 M = some r) : Fr [6, 7, 8, 9, 10, 12] [(0, 0), (5, 0)] M r.2 := by
  unfold k_PP_farm_25 at h
  have hFM : Fr [6, 7, 8, 9, 10, 12] [(0, 0), (5, 0)] M M := Fr.rfl'
  exact hFM.trans (w_PP_farm_26 h)
theorem w_PP_farm {a1 a2 a3 : Int} {M : Mem} {r : Int × Mem} (h : d_PP_farm a1 a2 a3 M = some r) : Fr [6, 7, 8, 9, 10, 12] [(0, 0), (5, 0)] M r.2 := by
  unfold d_PP_farm at h
  have hFM : Fr [6, 7, 8, 9, 10, 12] [(0, 0), (5, 0)] M M := Fr.rfl'
  obtain ⟨v1, M2, fv1, h⟩ := bcall_e h
  have hFM2 : Fr [6, 7, 8, 9, 10, 12] [(0, 0), (5, 0)] M M2 := hFM.trans ((w_PP_isIn fv1).mono (by simp) (by simp))
  rcases ite_e h with ⟨c3, h⟩ | ⟨c3, h⟩
  · skip
    exact hFM2.trans (w_PP_farm_25 h)
  · skip
    obtain ⟨v4, M5, fv4, h⟩ := bcall_e h
    have hFM5 : Fr [6, 7, 8, 9, 10, 12] [(0, 0), (5, 0)] M M5 := hFM2.trans ((w_PP_isIn fv4).mono (by simp) (by simp))
    rcases ite_e h with ⟨c6, h⟩ | ⟨c6, h⟩
    · skip
      exact hFM5.trans (w_PP_farm_25 h)
    · skip
      exact hFM5.trans (w_PP_farm_26 h)
theorem w_PP_elevator_31  {a1 a2 s1 s2 s3 : Int} {M : Mem} {r : Int × Mem} (h : k_PP_elevator_31 a1 a2 s1 s2 s3 M = some r) : Fr [13, 14] [(0, 0), (5, 8)] M r.2 := by
  unfold k_PP_elevator_31 at h
  have hFM : Fr [13, 14] [(0, 0), (5, 8)] M M := Fr.rfl'
  obtain ⟨v1, M2, fv1, h⟩ := bcall_e h
  have hFM2 : Fr [13, 14] [(0, 0), (5, 8)] M M2 := hFM.trans ((w_PP_passesWithRoom fv1).mono (by simp) (by simp))
  rcases ite_e h with ⟨c3, h⟩ | ⟨c3, h⟩
  · skip
    cases h; exact hFM2
  · skip
    obtain ⟨v4, M5, fv4, h⟩ := bcall_e h
    have hFM5 : Fr [13, 14] [(0, 0), (5, 8)] M M5 := hFM2.trans ((w_Pr_addElevator fv4).mono (by simp) (by simp))
    cases h; exact hFM5
theorem w_PP_elevator {a1 a2 : Int} {M : Mem} {r : Int × Mem} (h : d_PP_elevator a1 a2 M = some r) : Fr [13, 14] [(0, 0), (5, 8)] M r.2 := by
  unfold d_PP_elevator at h
  have hFM : Fr [13, 14] [(0, 0), (5, 8)] M M := Fr.rfl'
  obtain ⟨v1, M2, fv1, h⟩ := bcall_e h
  have hFM2 : Fr [13, 14] [(0, 0), (5, 8)] M M2 := hFM.trans ((w_PP_isIn fv1).mono (by simp) (by simp))
  obtain ⟨v3, M4, fv3, h⟩ := bcall_e h
  have hFM4 : Fr [13, 14] [(0, 0), (5, 8)] M M4 := hFM2.trans ((w_PP_isDistrict fv3).mono (by simp) (by simp))
  obtain ⟨v5, ev5, h⟩ := blet_e h
  rcases ite_e h with ⟨c6, h⟩ | ⟨c6, h⟩
  · skip
    exact hFM4.trans (w_PP_elevator_31 h)
  · skip
    exact hFM4.trans (w_PP_elevator_31 h)
theorem w_PP_isWeek {a0 : Int} {M : Mem} {r : Int × Mem} (h : d_PP_isWeek a0 M = some r) : Fr [] [] M r.2 := by
  unfold d_PP_isWeek at h
  have hFM : Fr [] [] M M := Fr.rfl'
  obtain ⟨v1, M2, fv1, h⟩ := bcall_e h
  have hFM2 : Fr [] [] M M2 := hFM.trans ((w_PP_isIn fv1).mono (by simp) (by simp))
  obtain ⟨c3, h⟩ := chk_e h
  cases h; exact hFM2
theorem w_PP_mayCome_90  {M : Mem} {r : Int × Mem} (h : k_PP_mayCome_90 M = some r) : Fr [] [(0, 0)] M r.2 := by
  unfold k_PP_mayCome_90 at h
  have hFM : Fr [] [(0, 0)] M M := Fr.rfl'
  obtain ⟨v1, ev1, h⟩ := blet_e h
  rcases ite_e h with ⟨c2, h⟩ | ⟨c2, h⟩
  · skip
    cases h; exact hFM
  · skip
    cases h; exact hFM
theorem w_PP_mayCome_63  {a3 a4 a6 s1 s2 : Int} {M : Mem} {r : Int × Mem} (h : k_PP_mayCome_63 a3 a4 a6 s1 s2 M = some r) : Fr [] [(0, 0)] M r.2 := by
  unfold k_PP_mayCome_63 at h
  have hFM : Fr [] [(0, 0)] M M := Fr.rfl'
  obtain ⟨v1, M2, fv1, h⟩ := bcall_e h
  have hFM2 : Fr [] [(0, 0)] M M2 := hFM.trans ((w_PP_passesWithRoom fv1).mono (by simp) (by simp))
  rcases ite_e h with ⟨c3, h⟩ | ⟨c3, h⟩
  · skip
    exact hFM2.trans (w_PP_mayCome_90 h)
  · skip
    obtain ⟨v4, M5, fv4, h⟩ := bcall_e h
    have hFM5 : Fr [] [(0, 0)] M M5 := hFM2.trans ((w_Jo_isGone fv4).mono (by simp) (by simp))
    rcases ite_e h with ⟨c6, h⟩ | ⟨c6, h⟩
    · skip
      exact hFM5.trans (w_PP_mayCome_90 h)
    · skip
      obtain ⟨M7, eM7, h⟩ := blet_e h
      have hFM7 : Fr [] [(0, 0)] M M7 := by rw [eM7]; exact hFM5.stoF (by simp)
      exact hFM7.trans (w_PP_mayCome_90 h)
theorem w_PP_mayCome_62  {a3 a4 a6 s1 : Int} {M : Mem} {r : Int × Mem} (h : k_PP_mayCome_62 a3 a4 a6 s1 M = some r) : Fr [] [(0, 0)] M r.2 := by
  unfold k_PP_mayCome_62 at h
  have hFM : Fr [] [(0, 0)] M M := Fr.rfl'
  exact hFM.trans (w_PP_mayCome_63 h)
theorem w_PP_mayCome_45  {a1 a2 a3 a4 a5 s0 : Int} {M : Mem} {r : Int × Mem} (h : k_PP_mayCome_45 a1 a2 a3 a4 a5 s0 M = some r) : Fr [] [(0, 0)] M r.2 := by
  unfold k_PP_mayCome_45 at h
  have hFM : Fr [] [(0, 0)] M M := Fr.rfl'
  rcases ite_e h with ⟨c1, h⟩ | ⟨c1, h⟩
  · skip
    exact hFM.trans (w_PP_mayCome_62 h)
  · skip
    rcases ite_e h with ⟨c2, h⟩ | ⟨c2, h⟩
    · skip
      exact hFM.trans (w_PP_mayCome_62 h)
    · skip
      exact hFM.trans (w_PP_mayCome_63 h)
theorem w_PP_mayCome_26  {a1 a2 a3 a4 s0 : Int} {M : Mem} {r : Int × Mem} (h : k_PP_mayCome_26 a1 a2 a3 a4 s0 M = some r) : Fr [] [(0, 0)] M r.2 := by
  unfold k_PP_mayCome_26 at h
  have hFM : Fr [] [(0, 0)] M M := Fr.rfl'
  obtain ⟨v1, ev1, h⟩ := blet_e h
  rcases ite_e h with ⟨c2, h⟩ | ⟨c2, h⟩
  · skip
    exact hFM.trans (w_PP_mayCome_45 h)
  · skip
    exact hFM.trans (w_PP_mayCome_45 h)
theorem w_PP_mayCome_25  {a1 a2 a3 a4 : Int} {M : Mem} {r : Int × Mem} (h : k_PP_mayCome_25 a1 a2 a3 a4 M = some r) : Fr [] [(0, 0)] M r.2 := by
  unfold k_PP_mayCome_25 at h
  have hFM : Fr [] [(0, 0)] M M := Fr.rfl'
  exact hFM.trans (w_PP_mayCome_26 h)
theorem w_PP_mayCome {a1 a2 a3 a4 : Int} {M : Mem} {r : Int × Mem} (h : d_PP_mayCome a1 a2 a3 a4 M = some r) : Fr [] [(0, 0)] M r.2 := by
  unfold d_PP_mayCome at h
  have hFM : Fr [] [(0, 0)] M M := Fr.rfl'
  obtain ⟨v1, M2, fv1, h⟩ := bcall_e h
  have hFM2 : Fr [] [(0, 0)] M M2 := hFM.trans ((w_PP_isWeek fv1).mono (by simp) (by simp))
  rcases ite_e h with ⟨c3, h⟩ | ⟨c3, h⟩
  · skip
    exact hFM2.trans (w_PP_mayCome_25 h)
  · skip
    obtain ⟨v4, M5, fv4, h⟩ := bcall_e h
    have hFM5 : Fr [] [(0, 0)] M M5 := hFM2.trans ((w_PP_isWeek fv4).mono (by simp) (by simp))
    rcases ite_e h with ⟨c6, h⟩ | ⟨c6, h⟩
    · skip
      exact hFM5.trans (w_PP_mayCome_25 h)
    · skip
      rcases ite_e h with ⟨c7, h⟩ | ⟨c7, h⟩
      · skip
        exact hFM5.trans (w_PP_mayCome_25 h)
      · skip
        exact hFM5.trans (w_PP_mayCome_26 h)
theorem w_PP_load_57  {a1 a2 a3 a4 a5 a6 a7 s0 : Int} {M : Mem} {r : Int × Mem} (h : k_PP_load_57 a1 a2 a3 a4 a5 a6 a7 s0 M = some r) : Fr [16, 17, 18, 21, 22, 23, 25, 26] [(0, 0), (15, 0), (15, 1)] M r.2 := by
  unfold k_PP_load_57 at h
  have hFM : Fr [16, 17, 18, 21, 22, 23, 25, 26] [(0, 0), (15, 0), (15, 1)] M M := Fr.rfl'
  obtain ⟨v1, M2, fv1, h⟩ := bcall_e h
  have hFM2 : Fr [16, 17, 18, 21, 22, 23, 25, 26] [(0, 0), (15, 0), (15, 1)] M M2 := hFM.trans ((w_PP_mayCome fv1).mono (by simp) (by simp))
  rcases ite_e h with ⟨c3, h⟩ | ⟨c3, h⟩
  · skip
    cases h; exact hFM2
  · skip
    obtain ⟨v4, M5, fv4, h⟩ := bcall_e h
    have hFM5 : Fr [16, 17, 18, 21, 22, 23, 25, 26] [(0, 0), (15, 0), (15, 1)] M M5 := hFM2.trans ((w_Jo_enter fv4).mono (by simp) (by simp))
    obtain ⟨c6, h⟩ := chk_e h
    obtain ⟨M7, eM7, h⟩ := blet_e h
    have hFM7 : Fr [16, 17, 18, 21, 22, 23, 25, 26] [(0, 0), (15, 0), (15, 1)] M M7 := by rw [eM7]; exact hFM5.stoA (by simp)
    obtain ⟨c8, h⟩ := chk_e h
    obtain ⟨M9, eM9, h⟩ := blet_e h
    have hFM9 : Fr [16, 17, 18, 21, 22, 23, 25, 26] [(0, 0), (15, 0), (15, 1)] M M9 := by rw [eM9]; exact hFM7.stoA (by simp)
    obtain ⟨c10, h⟩ := chk_e h
    obtain ⟨M11, eM11, h⟩ := blet_e h
    have hFM11 : Fr [16, 17, 18, 21, 22, 23, 25, 26] [(0, 0), (15, 0), (15, 1)] M M11 := by rw [eM11]; exact hFM9.stoA (by simp)
    obtain ⟨c12, h⟩ := chk_e h
    obtain ⟨M13, eM13, h⟩ := blet_e h
    have hFM13 : Fr [16, 17, 18, 21, 22, 23, 25, 26] [(0, 0), (15, 0), (15, 1)] M M13 := by rw [eM13]; exact hFM11.stoA (by simp)
    obtain ⟨c14, h⟩ := chk_e h
    obtain ⟨M15, eM15, h⟩ := blet_e h
    have hFM15 : Fr [16, 17, 18, 21, 22, 23, 25, 26] [(0, 0), (15, 0), (15, 1)] M M15 := by rw [eM15]; exact hFM13.stoA (by simp)
    cases h; exact hFM15
theorem w_PP_load_56  {a1 a2 a3 a4 a5 a6 a7 : Int} {M : Mem} {r : Int × Mem} (h : k_PP_load_56 a1 a2 a3 a4 a5 a6 a7 M = some r) : Fr [16, 17, 18, 21, 22, 23, 25, 26] [(0, 0), (15, 0), (15, 1)] M r.2 := by
  unfold k_PP_load_56 at h
  have hFM : Fr [16, 17, 18, 21, 22, 23, 25, 26] [(0, 0), (15, 0), (15, 1)] M M := Fr.rfl'
  exact hFM.trans (w_PP_load_57 h)
theorem w_PP_load_27  {a1 a2 a3 a4 a5 a6 s0 : Int} {M : Mem} {r : Int × Mem} (h : k_PP_load_27 a1 a2 a3 a4 a5 a6 s0 M = some r) : Fr [16, 17, 18, 21, 22, 23, 25, 26] [(0, 0), (15, 0), (15, 1)] M r.2 := by
  unfold k_PP_load_27 at h
  have hFM : Fr [16, 17, 18, 21, 22, 23, 25, 26] [(0, 0), (15, 0), (15, 1)] M M := Fr.rfl'
  obtain ⟨v1, M2, fv1, h⟩ := bcall_e h
  have hFM2 : Fr [16, 17, 18, 21, 22, 23, 25, 26] [(0, 0), (15, 0), (15, 1)] M M2 := hFM.trans ((w_PP_isIn fv1).mono (by simp) (by simp))
  rcases ite_e h with ⟨c3, h⟩ | ⟨c3, h⟩
  · skip
    exact hFM2.trans (w_PP_load_56 h)
  · skip
    obtain ⟨v4, M5, fv4, h⟩ := bcall_e h
    have hFM5 : Fr [16, 17, 18, 21, 22, 23, 25, 26] [(0, 0), (15, 0), (15, 1)] M M5 := hFM2.trans ((w_PP_isIn fv4).mono (by simp) (by simp))
    rcases ite_e h with ⟨c6, h⟩ | ⟨c6, h⟩
    · skip
      exact hFM5.trans (w_PP_load_56 h)
    · skip
      exact hFM5.trans (w_PP_load_57 h)
theorem w_PP_load_26  {a1 a2 a3 a4 a5 a6 : Int} {M : Mem} {r : Int × Mem} (h : k_PP_load_26 a1 a2 a3 a4 a5 a6 M = some r) : Fr [16, 17, 18, 21, 22, 23, 25, 26] [(0, 0), (15, 0), (15, 1)] M r.2 := by
  unfold k_PP_load_26 at h
  have hFM : Fr [16, 17, 18, 21, 22, 23, 25, 26] [(0, 0), (15, 0), (15, 1)] M M := Fr.rfl'
  exact hFM.trans (w_PP_load_27 h)
theorem w_PP_load {a1 a2 a3 a4 a5 a6 : Int} {M : Mem} {r : Int × Mem} (h : d_PP_load a1 a2 a3 a4 a5 a6 M = some r) : Fr [16, 17, 18, 21, 22, 23, 25, 26] [(0, 0), (15, 0), (15, 1)] M r.2 := by
  unfold d_PP_load at h
  have hFM : Fr [16, 17, 18, 21, 22, 23, 25, 26] [(0, 0), (15, 0), (15, 1)] M M := Fr.rfl'
  obtain ⟨v1, M2, fv1, h⟩ := bcall_e h
  have hFM2 : Fr [16, 17, 18, 21, 22, 23, 25, 26] [(0, 0), (15, 0), (15, 1)] M M2 := hFM.trans ((w_Pr_hasFarm fv1).mono (by simp) (by simp))
  rcases ite_e h with ⟨c3, h⟩ | ⟨c3, h⟩
  · skip
    exact hFM2.trans (w_PP_load_26 h)
  · skip
    obtain ⟨v4, M5, fv4, h⟩ := bcall_e h
    have hFM5 : Fr [16, 17, 18, 21, 22, 23, 25, 26] [(0, 0), (15, 0), (15, 1)] M M5 := hFM2.trans ((w_Pr_hasElevator fv4).mono (by simp) (by simp))
    rcases ite_e h with ⟨c6, h⟩ | ⟨c6, h⟩
    · skip
      exact hFM5.trans (w_PP_load_26 h)
    · skip
      exact hFM5.trans (w_PP_load_27 h)
theorem w_PP_isPort {a0 : Int} {M : Mem} {r : Int × Mem} (h : d_PP_isPort a0 M = some r) : Fr [] [] M r.2 := by
  unfold d_PP_isPort at h
  have hFM : Fr [] [] M M := Fr.rfl'
  obtain ⟨v1, M2, fv1, h⟩ := bcall_e h
  have hFM2 : Fr [] [] M M2 := hFM.trans ((w_PP_isIn fv1).mono (by simp) (by simp))
  obtain ⟨c3, h⟩ := chk_e h
  cases h; exact hFM2
theorem w_PP_isGrade {a0 : Int} {M : Mem} {r : Int × Mem} (h : d_PP_isGrade a0 M = some r) : Fr [] [] M r.2 := by
  unfold d_PP_isGrade at h
  have hFM : Fr [] [] M M := Fr.rfl'
  obtain ⟨v1, M2, fv1, h⟩ := bcall_e h
  have hFM2 : Fr [] [] M M2 := hFM.trans ((w_PP_isIn fv1).mono (by simp) (by simp))
  obtain ⟨c3, h⟩ := chk_e h
  cases h; exact hFM2
theorem w_PP_isYear {a0 : Int} {M : Mem} {r : Int × Mem} (h : d_PP_isYear a0 M = some r) : Fr [] [] M r.2 := by
  unfold d_PP_isYear at h
  have hFM : Fr [] [] M M := Fr.rfl'
  obtain ⟨v1, M2, fv1, h⟩ := bcall_e h
  have hFM2 : Fr [] [] M M2 := hFM.trans ((w_PP_isIn fv1).mono (by simp) (by simp))
  obtain ⟨c3, h⟩ := chk_e h
  cases h; exact hFM2
theorem w_PP_car_59  {a1 a2 a3 a4 a5 a6 a7 s1 s2 : Int} {M : Mem} {r : Int × Mem} (h : k_PP_car_59 a1 a2 a3 a4 a5 a6 a7 s1 s2 M = some r) : Fr [16, 18, 19, 20, 21, 22, 25, 26] [(0, 0), (15, 0), (15, 1)] M r.2 := by
  unfold k_PP_car_59 at h
  have hFM : Fr [16, 18, 19, 20, 21, 22, 25, 26] [(0, 0), (15, 0), (15, 1)] M M := Fr.rfl'
  obtain ⟨v1, M2, fv1, h⟩ := bcall_e h
  have hFM2 : Fr [16, 18, 19, 20, 21, 22, 25, 26] [(0, 0), (15, 0), (15, 1)] M M2 := hFM.trans ((w_PP_mayCome fv1).mono (by simp) (by simp))
  rcases ite_e h with ⟨c3, h⟩ | ⟨c3, h⟩
  · skip
    cases h; exact hFM2
  · skip
    obtain ⟨v4, M5, fv4, h⟩ := bcall_e h
    have hFM5 : Fr [16, 18, 19, 20, 21, 22, 25, 26] [(0, 0), (15, 0), (15, 1)] M M5 := hFM2.trans ((w_Jo_enter fv4).mono (by simp) (by simp))
    obtain ⟨c6, h⟩ := chk_e h
    obtain ⟨M7, eM7, h⟩ := blet_e h
    have hFM7 : Fr [16, 18, 19, 20, 21, 22, 25, 26] [(0, 0), (15, 0), (15, 1)] M M7 := by rw [eM7]; exact hFM5.stoA (by simp)
    obtain ⟨c8, h⟩ := chk_e h
    obtain ⟨M9, eM9, h⟩ := blet_e h
    have hFM9 : Fr [16, 18, 19, 20, 21, 22, 25, 26] [(0, 0), (15, 0), (15, 1)] M M9 := by rw [eM9]; exact hFM7.stoA (by simp)
    obtain ⟨v10, M11, fv10, h⟩ := bcall_e h
    have hFM11 : Fr [16, 18, 19, 20, 21, 22, 25, 26] [(0, 0), (15, 0), (15, 1)] M M11 := hFM9.trans ((w_Jo_tellWhat fv10).mono (by simp) (by simp))
    cases h; exact hFM11
theorem w_PP_car_58  {a1 a2 a3 a4 a5 a6 a7 s1 : Int} {M : Mem} {r : Int × Mem} (h : k_PP_car_58 a1 a2 a3 a4 a5 a6 a7 s1 M = some r) : Fr [16, 18, 19, 20, 21, 22, 25, 26] [(0, 0), (15, 0), (15, 1)] M r.2 := by
  unfold k_PP_car_58 at h
  have hFM : Fr [16, 18, 19, 20, 21, 22, 25, 26] [(0, 0), (15, 0), (15, 1)] M M := Fr.rfl'
  exact hFM.trans (w_PP_car_59 h)
theorem w_PP_car_30  {a1 a2 a3 a4 a5 a6 a7 s0 : Int} {M : Mem} {r : Int × Mem} (h : k_PP_car_30 a1 a2 a3 a4 a5 a6 a7 s0 M = some r) : Fr [16, 18, 19, 20, 21, 22, 25, 26] [(0, 0), (15, 0), (15, 1)] M r.2 := by
  unfold k_PP_car_30 at h
  have hFM : Fr [16, 18, 19, 20, 21, 22, 25, 26] [(0, 0), (15, 0), (15, 1)] M M := Fr.rfl'
  obtain ⟨v1, M2, fv1, h⟩ := bcall_e h
  have hFM2 : Fr [16, 18, 19, 20, 21, 22, 25, 26] [(0, 0), (15, 0), (15, 1)] M M2 := hFM.trans ((w_PP_isYear fv1).mono (by simp) (by simp))
  rcases ite_e h with ⟨c3, h⟩ | ⟨c3, h⟩
  · skip
    exact hFM2.trans (w_PP_car_58 h)
  · skip
    obtain ⟨v4, M5, fv4, h⟩ := bcall_e h
    have hFM5 : Fr [16, 18, 19, 20, 21, 22, 25, 26] [(0, 0), (15, 0), (15, 1)] M M5 := hFM2.trans ((w_PP_isIn fv4).mono (by simp) (by simp))
    rcases ite_e h with ⟨c6, h⟩ | ⟨c6, h⟩
    · skip
      exact hFM5.trans (w_PP_car_58 h)
    · skip
      exact hFM5.trans (w_PP_car_59 h)
theorem w_PP_car_29  {a1 a2 a3 a4 a5 a6 a7 : Int} {M : Mem} {r : Int × Mem} (h : k_PP_car_29 a1 a2 a3 a4 a5 a6 a7 M = some r) : Fr [16, 18, 19, 20, 21, 22, 25, 26] [(0, 0), (15, 0), (15, 1)] M r.2 := by
  unfold k_PP_car_29 at h
  have hFM : Fr [16, 18, 19, 20, 21, 22, 25, 26] [(0, 0), (15, 0), (15, 1)] M M := Fr.rfl'
  exact hFM.trans (w_PP_car_30 h)
theorem w_PP_car {a1 a2 a3 a4 a5 a6 a7 : Int} {M : Mem} {r : Int × Mem} (h : d_PP_car a1 a2 a3 a4 a5 a6 a7 M = some r) : Fr [16, 18, 19, 20, 21, 22, 25, 26] [(0, 0), (15, 0), (15, 1)] M r.2 := by
  unfold d_PP_car at h
  have hFM : Fr [16, 18, 19, 20, 21, 22, 25, 26] [(0, 0), (15, 0), (15, 1)] M M := Fr.rfl'
  obtain ⟨v1, M2, fv1, h⟩ := bcall_e h
  have hFM2 : Fr [16, 18, 19, 20, 21, 22, 25, 26] [(0, 0), (15, 0), (15, 1)] M M2 := hFM.trans ((w_Pr_hasElevator fv1).mono (by simp) (by simp))
  rcases ite_e h with ⟨c3, h⟩ | ⟨c3, h⟩
  · skip
    exact hFM2.trans (w_PP_car_29 h)
  · skip
    obtain ⟨v4, M5, fv4, h⟩ := bcall_e h
    have hFM5 : Fr [16, 18, 19, 20, 21, 22, 25, 26] [(0, 0), (15, 0), (15, 1)] M M5 := hFM2.trans ((w_PP_isPort fv4).mono (by simp) (by simp))
    rcases ite_e h with ⟨c6, h⟩ | ⟨c6, h⟩
    · skip
      exact hFM5.trans (w_PP_car_29 h)
    · skip
      obtain ⟨v7, M8, fv7, h⟩ := bcall_e h
      have hFM8 : Fr [16, 18, 19, 20, 21, 22, 25, 26] [(0, 0), (15, 0), (15, 1)] M M8 := hFM5.trans ((w_PP_isGrade fv7).mono (by simp) (by simp))
      rcases ite_e h with ⟨c9, h⟩ | ⟨c9, h⟩
      · skip
        exact hFM8.trans (w_PP_car_29 h)
      · skip
        exact hFM8.trans (w_PP_car_30 h)
theorem w_PP_isPence {a0 : Int} {M : Mem} {r : Int × Mem} (h : d_PP_isPence a0 M = some r) : Fr [] [] M r.2 := by
  unfold d_PP_isPence at h
  have hFM : Fr [] [] M M := Fr.rfl'
  obtain ⟨v1, M2, fv1, h⟩ := bcall_e h
  have hFM2 : Fr [] [] M M2 := hFM.trans ((w_PP_isIn fv1).mono (by simp) (by simp))
  obtain ⟨c3, h⟩ := chk_e h
  cases h; exact hFM2
theorem w_PP_sale_53  {a1 a2 a3 a4 a5 a6 a7 a8 s1 : Int} {M : Mem} {r : Int × Mem} (h : k_PP_sale_53 a1 a2 a3 a4 a5 a6 a7 a8 s1 M = some r) : Fr [16, 19, 20, 21, 22, 24, 25, 26] [(0, 0), (15, 0), (15, 1)] M r.2 := by
  unfold k_PP_sale_53 at h
  have hFM : Fr [16, 19, 20, 21, 22, 24, 25, 26] [(0, 0), (15, 0), (15, 1)] M M := Fr.rfl'
  obtain ⟨v1, M2, fv1, h⟩ := bcall_e h
  have hFM2 : Fr [16, 19, 20, 21, 22, 24, 25, 26] [(0, 0), (15, 0), (15, 1)] M M2 := hFM.trans ((w_PP_mayCome fv1).mono (by simp) (by simp))
  rcases ite_e h with ⟨c3, h⟩ | ⟨c3, h⟩
  · skip
    cases h; exact hFM2
  · skip
    obtain ⟨v4, M5, fv4, h⟩ := bcall_e h
    have hFM5 : Fr [16, 19, 20, 21, 22, 24, 25, 26] [(0, 0), (15, 0), (15, 1)] M M5 := hFM2.trans ((w_Jo_enter fv4).mono (by simp) (by simp))
    obtain ⟨c6, h⟩ := chk_e h
    obtain ⟨M7, eM7, h⟩ := blet_e h
    have hFM7 : Fr [16, 19, 20, 21, 22, 24, 25, 26] [(0, 0), (15, 0), (15, 1)] M M7 := by rw [eM7]; exact hFM5.stoA (by simp)
    obtain ⟨c8, h⟩ := chk_e h
    obtain ⟨M9, eM9, h⟩ := blet_e h
    have hFM9 : Fr [16, 19, 20, 21, 22, 24, 25, 26] [(0, 0), (15, 0), (15, 1)] M M9 := by rw [eM9]; exact hFM7.stoA (by simp)
    obtain ⟨v10, M11, fv10, h⟩ := bcall_e h
    have hFM11 : Fr [16, 19, 20, 21, 22, 24, 25, 26] [(0, 0), (15, 0), (15, 1)] M M11 := hFM9.trans ((w_Jo_tellWhat fv10).mono (by simp) (by simp))
    cases h; exact hFM11
theorem w_PP_sale_52  {a1 a2 a3 a4 a5 a6 a7 a8 : Int} {M : Mem} {r : Int × Mem} (h : k_PP_sale_52 a1 a2 a3 a4 a5 a6 a7 a8 M = some r) : Fr [16, 19, 20, 21, 22, 24, 25, 26] [(0, 0), (15, 0), (15, 1)] M r.2 := by
  unfold k_PP_sale_52 at h
  have hFM : Fr [16, 19, 20, 21, 22, 24, 25, 26] [(0, 0), (15, 0), (15, 1)] M M := Fr.rfl'
  exact hFM.trans (w_PP_sale_53 h)
theorem w_PP_sale_31  {a1 a2 a3 a4 a5 a6 a7 s0 : Int} {M : Mem} {r : Int × Mem} (h : k_PP_sale_31 a1 a2 a3 a4 a5 a6 a7 s0 M = some r) : Fr [16, 19, 20, 21, 22, 24, 25, 26] [(0, 0), (15, 0), (15, 1)] M r.2 := by
  unfold k_PP_sale_31 at h
  have hFM : Fr [16, 19, 20, 21, 22, 24, 25, 26] [(0, 0), (15, 0), (15, 1)] M M := Fr.rfl'
  obtain ⟨v1, M2, fv1, h⟩ := bcall_e h
  have hFM2 : Fr [16, 19, 20, 21, 22, 24, 25, 26] [(0, 0), (15, 0), (15, 1)] M M2 := hFM.trans ((w_PP_isPort fv1).mono (by simp) (by simp))
  rcases ite_e h with ⟨c3, h⟩ | ⟨c3, h⟩
  · skip
    exact hFM2.trans (w_PP_sale_52 h)
  · skip
    obtain ⟨v4, M5, fv4, h⟩ := bcall_e h
    have hFM5 : Fr [16, 19, 20, 21, 22, 24, 25, 26] [(0, 0), (15, 0), (15, 1)] M M5 := hFM2.trans ((w_PP_isGrade fv4).mono (by simp) (by simp))
    rcases ite_e h with ⟨c6, h⟩ | ⟨c6, h⟩
    · skip
      exact hFM5.trans (w_PP_sale_52 h)
    · skip
      exact hFM5.trans (w_PP_sale_53 h)
theorem w_PP_sale_30  {a1 a2 a3 a4 a5 a6 a7 : Int} {M : Mem} {r : Int × Mem} (h : k_PP_sale_30 a1 a2 a3 a4 a5 a6 a7 M = some r) : Fr [16, 19, 20, 21, 22, 24, 25, 26] [(0, 0), (15, 0), (15, 1)] M r.2 := by
  unfold k_PP_sale_30 at h
  have hFM : Fr [16, 19, 20, 21, 22, 24, 25, 26] [(0, 0), (15, 0), (15, 1)] M M := Fr.rfl'
  exact hFM.trans (w_PP_sale_31 h)
theorem w_PP_sale {a1 a2 a3 a4 a5 a6 a7 : Int} {M : Mem} {r : Int × Mem} (h : d_PP_sale a1 a2 a3 a4 a5 a6 a7 M = some r) : Fr [16, 19, 20, 21, 22, 24, 25, 26] [(0, 0), (15, 0), (15, 1)] M r.2 := by
  unfold d_PP_sale at h
  have hFM : Fr [16, 19, 20, 21, 22, 24, 25, 26] [(0, 0), (15, 0), (15, 1)] M M := Fr.rfl'
  obtain ⟨v1, M2, fv1, h⟩ := bcall_e h
  have hFM2 : Fr [16, 19, 20, 21, 22, 24, 25, 26] [(0, 0), (15, 0), (15, 1)] M M2 := hFM.trans ((w_PP_isYear fv1).mono (by simp) (by simp))
  rcases ite_e h with ⟨c3, h⟩ | ⟨c3, h⟩
  · skip
    exact hFM2.trans (w_PP_sale_30 h)
  · skip
    obtain ⟨v4, M5, fv4, h⟩ := bcall_e h
    have hFM5 : Fr [16, 19, 20, 21, 22, 24, 25, 26] [(0, 0), (15, 0), (15, 1)] M M5 := hFM2.trans ((w_PP_isIn fv4).mono (by simp) (by simp))
    rcases ite_e h with ⟨c6, h⟩ | ⟨c6, h⟩
    · skip
      exact hFM5.trans (w_PP_sale_30 h)
    · skip
      obtain ⟨v7, M8, fv7, h⟩ := bcall_e h
      have hFM8 : Fr [16, 19, 20, 21, 22, 24, 25, 26] [(0, 0), (15, 0), (15, 1)] M M8 := hFM5.trans ((w_PP_isPence fv7).mono (by simp) (by simp))
      rcases ite_e h with ⟨c9, h⟩ | ⟨c9, h⟩
      · skip
        exact hFM8.trans (w_PP_sale_30 h)
      · skip
        exact hFM8.trans (w_PP_sale_31 h)
theorem w_PP_spoil_51  {a1 a2 a3 a4 a5 a6 s1 s2 : Int} {M : Mem} {r : Int × Mem} (h : k_PP_spoil_51 a1 a2 a3 a4 a5 a6 s1 s2 M = some r) : Fr [16, 18, 20, 21, 22, 25, 26] [(0, 0), (15, 0), (15, 1)] M r.2 := by
  unfold k_PP_spoil_51 at h
  have hFM : Fr [16, 18, 20, 21, 22, 25, 26] [(0, 0), (15, 0), (15, 1)] M M := Fr.rfl'
  obtain ⟨v1, M2, fv1, h⟩ := bcall_e h
  have hFM2 : Fr [16, 18, 20, 21, 22, 25, 26] [(0, 0), (15, 0), (15, 1)] M M2 := hFM.trans ((w_PP_mayCome fv1).mono (by simp) (by simp))
  rcases ite_e h with ⟨c3, h⟩ | ⟨c3, h⟩
  · skip
    cases h; exact hFM2
  · skip
    obtain ⟨v4, M5, fv4, h⟩ := bcall_e h
    have hFM5 : Fr [16, 18, 20, 21, 22, 25, 26] [(0, 0), (15, 0), (15, 1)] M M5 := hFM2.trans ((w_Jo_enter fv4).mono (by simp) (by simp))
    obtain ⟨c6, h⟩ := chk_e h
    obtain ⟨M7, eM7, h⟩ := blet_e h
    have hFM7 : Fr [16, 18, 20, 21, 22, 25, 26] [(0, 0), (15, 0), (15, 1)] M M7 := by rw [eM7]; exact hFM5.stoA (by simp)
    obtain ⟨v8, M9, fv8, h⟩ := bcall_e h
    have hFM9 : Fr [16, 18, 20, 21, 22, 25, 26] [(0, 0), (15, 0), (15, 1)] M M9 := hFM7.trans ((w_Jo_tellWhat fv8).mono (by simp) (by simp))
    cases h; exact hFM9
theorem w_PP_spoil_50  {a1 a2 a3 a4 a5 a6 s1 : Int} {M : Mem} {r : Int × Mem} (h : k_PP_spoil_50 a1 a2 a3 a4 a5 a6 s1 M = some r) : Fr [16, 18, 20, 21, 22, 25, 26] [(0, 0), (15, 0), (15, 1)] M r.2 := by
  unfold k_PP_spoil_50 at h
  have hFM : Fr [16, 18, 20, 21, 22, 25, 26] [(0, 0), (15, 0), (15, 1)] M M := Fr.rfl'
  exact hFM.trans (w_PP_spoil_51 h)
theorem w_PP_spoil_23  {a1 a2 a3 a4 a5 a6 s0 : Int} {M : Mem} {r : Int × Mem} (h : k_PP_spoil_23 a1 a2 a3 a4 a5 a6 s0 M = some r) : Fr [16, 18, 20, 21, 22, 25, 26] [(0, 0), (15, 0), (15, 1)] M r.2 := by
  unfold k_PP_spoil_23 at h
  have hFM : Fr [16, 18, 20, 21, 22, 25, 26] [(0, 0), (15, 0), (15, 1)] M M := Fr.rfl'
  obtain ⟨v1, M2, fv1, h⟩ := bcall_e h
  have hFM2 : Fr [16, 18, 20, 21, 22, 25, 26] [(0, 0), (15, 0), (15, 1)] M M2 := hFM.trans ((w_PP_isYear fv1).mono (by simp) (by simp))
  rcases ite_e h with ⟨c3, h⟩ | ⟨c3, h⟩
  · skip
    exact hFM2.trans (w_PP_spoil_50 h)
  · skip
    obtain ⟨v4, M5, fv4, h⟩ := bcall_e h
    have hFM5 : Fr [16, 18, 20, 21, 22, 25, 26] [(0, 0), (15, 0), (15, 1)] M M5 := hFM2.trans ((w_PP_isIn fv4).mono (by simp) (by simp))
    rcases ite_e h with ⟨c6, h⟩ | ⟨c6, h⟩
    · skip
      exact hFM5.trans (w_PP_spoil_50 h)
    · skip
      exact hFM5.trans (w_PP_spoil_51 h)
theorem w_PP_spoil_22  {a1 a2 a3 a4 a5 a6 : Int} {M : Mem} {r : Int × Mem} (h : k_PP_spoil_22 a1 a2 a3 a4 a5 a6 M = some r) : Fr [16, 18, 20, 21, 22, 25, 26] [(0, 0), (15, 0), (15, 1)] M r.2 := by
  unfold k_PP_spoil_22 at h
  have hFM : Fr [16, 18, 20, 21, 22, 25, 26] [(0, 0), (15, 0), (15, 1)] M M := Fr.rfl'
  exact hFM.trans (w_PP_spoil_23 h)
theorem w_PP_spoil {a1 a2 a3 a4 a5 a6 : Int} {M : Mem} {r : Int × Mem} (h : d_PP_spoil a1 a2 a3 a4 a5 a6 M = some r) : Fr [16, 18, 20, 21, 22, 25, 26] [(0, 0), (15, 0), (15, 1)] M r.2 := by
  unfold d_PP_spoil at h
  have hFM : Fr [16, 18, 20, 21, 22, 25, 26] [(0, 0), (15, 0), (15, 1)] M M := Fr.rfl'
  obtain ⟨v1, M2, fv1, h⟩ := bcall_e h
  have hFM2 : Fr [16, 18, 20, 21, 22, 25, 26] [(0, 0), (15, 0), (15, 1)] M M2 := hFM.trans ((w_Pr_hasElevator fv1).mono (by simp) (by simp))
  rcases ite_e h with ⟨c3, h⟩ | ⟨c3, h⟩
  · skip
    exact hFM2.trans (w_PP_spoil_22 h)
  · skip
    obtain ⟨v4, M5, fv4, h⟩ := bcall_e h
    have hFM5 : Fr [16, 18, 20, 21, 22, 25, 26] [(0, 0), (15, 0), (15, 1)] M M5 := hFM2.trans ((w_PP_isGrade fv4).mono (by simp) (by simp))
    rcases ite_e h with ⟨c6, h⟩ | ⟨c6, h⟩
    · skip
      exact hFM5.trans (w_PP_spoil_22 h)
    · skip
      exact hFM5.trans (w_PP_spoil_23 h)
theorem w_PP_rankOf {a1 : Int} {M : Mem} {r : Int × Mem} (h : d_PP_rankOf a1 M = some r) : Fr [34, 35, 36, 37, 38] [(32, 2), (32, 8)] M r.2 := by
  unfold d_PP_rankOf at h
  have hFM : Fr [34, 35, 36, 37, 38] [(32, 2), (32, 8)] M M := Fr.rfl'
  obtain ⟨c1, h⟩ := chk_e h
  obtain ⟨v2, ev2, h⟩ := blet_e h
  obtain ⟨c3, h⟩ := chk_e h
  obtain ⟨v4, ev4, h⟩ := blet_e h
  obtain ⟨v5, M6, fv5, h⟩ := bcall_e h
  have hFM6 : Fr [34, 35, 36, 37, 38] [(32, 2), (32, 8)] M M6 := hFM.trans ((w_As_begin fv5).mono (by simp) (by simp))
  obtain ⟨v7, M8, fv7, h⟩ := bcall_e h
  have hFM8 : Fr [34, 35, 36, 37, 38] [(32, 2), (32, 8)] M M8 := hFM6.trans ((w_As_tellWeek fv7).mono (by simp) (by simp))
  obtain ⟨c9, h⟩ := chk_e h
  obtain ⟨v10, ev10, h⟩ := blet_e h
  obtain ⟨v11, M12, fv11, h⟩ := bcall_e h
  have hFM12 : Fr [34, 35, 36, 37, 38] [(32, 2), (32, 8)] M M12 := hFM8.trans ((w_As_tell fv11).mono (by simp) (by simp))
  obtain ⟨c13, h⟩ := chk_e h
  obtain ⟨v14, ev14, h⟩ := blet_e h
  obtain ⟨v15, M16, fv15, h⟩ := bcall_e h
  have hFM16 : Fr [34, 35, 36, 37, 38] [(32, 2), (32, 8)] M M16 := hFM12.trans ((w_As_tell fv15).mono (by simp) (by simp))
  obtain ⟨v17, M18, fv17, h⟩ := bcall_e h
  have hFM18 : Fr [34, 35, 36, 37, 38] [(32, 2), (32, 8)] M M18 := hFM16.trans ((w_Jo_netOf fv17).mono (by simp) (by simp))
  obtain ⟨v19, M20, fv19, h⟩ := bcall_e h
  have hFM20 : Fr [34, 35, 36, 37, 38] [(32, 2), (32, 8)] M M20 := hFM18.trans ((w_As_tell fv19).mono (by simp) (by simp))
  obtain ⟨c21, h⟩ := chk_e h
  obtain ⟨v22, ev22, h⟩ := blet_e h
  obtain ⟨c23, h⟩ := chk_e h
  obtain ⟨v24, ev24, h⟩ := blet_e h
  obtain ⟨v25, M26, fv25, h⟩ := bcall_e h
  have hFM26 : Fr [34, 35, 36, 37, 38] [(32, 2), (32, 8)] M M26 := hFM20.trans ((w_As_tell fv25).mono (by simp) (by simp))
  obtain ⟨v27, M28, fv27, h⟩ := bcall_e h
  have hFM28 : Fr [34, 35, 36, 37, 38] [(32, 2), (32, 8)] M M28 := hFM26.trans ((w_As_ask fv27).mono (by simp) (by simp))
  cases h; exact hFM28
theorem w_PP_grading_59  {a1 a2 a3 a4 s1 s2 s3 : Int} {M : Mem} {r : Int × Mem} (h : k_PP_grading_59 a1 a2 a3 a4 s1 s2 s3 M = some r) : Fr [27, 28, 29, 30, 31, 34, 35, 36, 37, 38] [(0, 0), (15, 1), (15, 13), (32, 2), (32, 8)] M r.2 := by
  unfold k_PP_grading_59 at h
  have hFM : Fr [27, 28, 29, 30, 31, 34, 35, 36, 37, 38] [(0, 0), (15, 1), (15, 13), (32, 2), (32, 8)] M M := Fr.rfl'
  obtain ⟨v1, M2, fv1, h⟩ := bcall_e h
  have hFM2 : Fr [27, 28, 29, 30, 31, 34, 35, 36, 37, 38] [(0, 0), (15, 1), (15, 13), (32, 2), (32, 8)] M M2 := hFM.trans ((w_PP_passesWithRoom fv1).mono (by simp) (by simp))
  rcases ite_e h with ⟨c3, h⟩ | ⟨c3, h⟩
  · skip
    cases h; exact hFM2
  · skip
    obtain ⟨v4, ev4, h⟩ := blet_e h
    rcases ite_e h with ⟨c5, h⟩ | ⟨c5, h⟩
    · skip
      obtain ⟨M6, eM6, h⟩ := blet_e h
      have hFM6 : Fr [27, 28, 29, 30, 31, 34, 35, 36, 37, 38] [(0, 0), (15, 1), (15, 13), (32, 2), (32, 8)] M M6 := by rw [eM6]; exact hFM2.stoF (by simp)
      cases h; exact hFM6
    · skip
      obtain ⟨v7, M8, fv7, h⟩ := bcall_e h
      have hFM8 : Fr [27, 28, 29, 30, 31, 34, 35, 36, 37, 38] [(0, 0), (15, 1), (15, 13), (32, 2), (32, 8)] M M8 := hFM2.trans ((w_Jo_enterGrading fv7).mono (by simp) (by simp))
      obtain ⟨v9, M10, fv9, h⟩ := bcall_e h
      have hFM10 : Fr [27, 28, 29, 30, 31, 34, 35, 36, 37, 38] [(0, 0), (15, 1), (15, 13), (32, 2), (32, 8)] M M10 := hFM8.trans ((w_PP_rankOf fv9).mono (by simp) (by simp))
      obtain ⟨c11, h⟩ := chk_e h
      obtain ⟨M12, eM12, h⟩ := blet_e h
      have hFM12 : Fr [27, 28, 29, 30, 31, 34, 35, 36, 37, 38] [(0, 0), (15, 1), (15, 13), (32, 2), (32, 8)] M M12 := by rw [eM12]; exact hFM10.stoA (by simp)
      cases h; exact hFM12
theorem w_PP_grading_32  {a1 a2 a3 a4 s0 : Int} {M : Mem} {r : Int × Mem} (h : k_PP_grading_32 a1 a2 a3 a4 s0 M = some r) : Fr [27, 28, 29, 30, 31, 34, 35, 36, 37, 38] [(0, 0), (15, 1), (15, 13), (32, 2), (32, 8)] M r.2 := by
  unfold k_PP_grading_32 at h
  have hFM : Fr [27, 28, 29, 30, 31, 34, 35, 36, 37, 38] [(0, 0), (15, 1), (15, 13), (32, 2), (32, 8)] M M := Fr.rfl'
  obtain ⟨v1, M2, fv1, h⟩ := bcall_e h
  have hFM2 : Fr [27, 28, 29, 30, 31, 34, 35, 36, 37, 38] [(0, 0), (15, 1), (15, 13), (32, 2), (32, 8)] M M2 := hFM.trans ((w_PP_isWeek fv1).mono (by simp) (by simp))
  obtain ⟨v3, ev3, h⟩ := blet_e h
  rcases ite_e h with ⟨c4, h⟩ | ⟨c4, h⟩
  · skip
    exact hFM2.trans (w_PP_grading_59 h)
  · skip
    exact hFM2.trans (w_PP_grading_59 h)
theorem w_PP_grading_31  {a1 a2 a3 a4 : Int} {M : Mem} {r : Int × Mem} (h : k_PP_grading_31 a1 a2 a3 a4 M = some r) : Fr [27, 28, 29, 30, 31, 34, 35, 36, 37, 38] [(0, 0), (15, 1), (15, 13), (32, 2), (32, 8)] M r.2 := by
  unfold k_PP_grading_31 at h
  have hFM : Fr [27, 28, 29, 30, 31, 34, 35, 36, 37, 38] [(0, 0), (15, 1), (15, 13), (32, 2), (32, 8)] M M := Fr.rfl'
  exact hFM.trans (w_PP_grading_32 h)
theorem w_PP_grading {a1 a2 a3 a4 : Int} {M : Mem} {r : Int × Mem} (h : d_PP_grading a1 a2 a3 a4 M = some r) : Fr [27, 28, 29, 30, 31, 34, 35, 36, 37, 38] [(0, 0), (15, 1), (15, 13), (32, 2), (32, 8)] M r.2 := by
  unfold d_PP_grading at h
  have hFM : Fr [27, 28, 29, 30, 31, 34, 35, 36, 37, 38] [(0, 0), (15, 1), (15, 13), (32, 2), (32, 8)] M M := Fr.rfl'
  obtain ⟨v1, M2, fv1, h⟩ := bcall_e h
  have hFM2 : Fr [27, 28, 29, 30, 31, 34, 35, 36, 37, 38] [(0, 0), (15, 1), (15, 13), (32, 2), (32, 8)] M M2 := hFM.trans ((w_Jo_hasLoad fv1).mono (by simp) (by simp))
  rcases ite_e h with ⟨c3, h⟩ | ⟨c3, h⟩
  · skip
    exact hFM2.trans (w_PP_grading_31 h)
  · skip
    obtain ⟨v4, M5, fv4, h⟩ := bcall_e h
    have hFM5 : Fr [27, 28, 29, 30, 31, 34, 35, 36, 37, 38] [(0, 0), (15, 1), (15, 13), (32, 2), (32, 8)] M M5 := hFM2.trans ((w_PP_isIn fv4).mono (by simp) (by simp))
    rcases ite_e h with ⟨c6, h⟩ | ⟨c6, h⟩
    · skip
      exact hFM5.trans (w_PP_grading_31 h)
    · skip
      obtain ⟨v7, M8, fv7, h⟩ := bcall_e h
      have hFM8 : Fr [27, 28, 29, 30, 31, 34, 35, 36, 37, 38] [(0, 0), (15, 1), (15, 13), (32, 2), (32, 8)] M M8 := hFM5.trans ((w_PP_isGrade fv7).mono (by simp) (by simp))
      rcases ite_e h with ⟨c9, h⟩ | ⟨c9, h⟩
      · skip
        exact hFM8.trans (w_PP_grading_31 h)
      · skip
        exact hFM8.trans (w_PP_grading_32 h)
theorem w_PP_grade {a1 a2 : Int} {M : Mem} {r : Int × Mem} (h : d_PP_grade a1 a2 M = some r) : Fr [77, 78] [(0, 0)] M r.2 := by
  unfold d_PP_grade at h
  have hFM : Fr [77, 78] [(0, 0)] M M := Fr.rfl'
  obtain ⟨v1, M2, fv1, h⟩ := bcall_e h
  have hFM2 : Fr [77, 78] [(0, 0)] M M2 := hFM.trans ((w_Jo_hasLoad fv1).mono (by simp) (by simp))
  obtain ⟨v3, M4, fv3, h⟩ := bcall_e h
  have hFM4 : Fr [77, 78] [(0, 0)] M M4 := hFM2.trans ((w_PP_isWeek fv3).mono (by simp) (by simp))
  obtain ⟨v5, M6, fv5, h⟩ := bcall_e h
  have hFM6 : Fr [77, 78] [(0, 0)] M M6 := hFM4.trans ((w_PP_passes fv5).mono (by simp) (by simp))
  rcases ite_e h with ⟨c7, h⟩ | ⟨c7, h⟩
  · skip
    cases h; exact hFM6
  · skip
    obtain ⟨c8, h⟩ := chk_e h
    obtain ⟨v9, ev9, h⟩ := blet_e h
    rcases ite_e h with ⟨c10, h⟩ | ⟨c10, h⟩
    · skip
      obtain ⟨M11, eM11, h⟩ := blet_e h
      have hFM11 : Fr [77, 78] [(0, 0)] M M11 := by rw [eM11]; exact hFM6.stoF (by simp)
      cases h; exact hFM11
    · skip
      obtain ⟨v12, M13, fv12, h⟩ := bcall_e h
      have hFM13 : Fr [77, 78] [(0, 0)] M M13 := hFM6.trans ((w_Pl_judge fv12).mono (by simp) (by simp))
      obtain ⟨c14, h⟩ := chk_e h
      obtain ⟨v15, ev15, h⟩ := blet_e h
      cases h; exact hFM13
theorem w_PP_isFarmOrNone_16  {M : Mem} {r : Int × Mem} (h : k_PP_isFarmOrNone_16 M = some r) : Fr [] [] M r.2 := by
  unfold k_PP_isFarmOrNone_16 at h
  have hFM : Fr [] [] M M := Fr.rfl'
  cases h; exact hFM
theorem w_PP_isFarmOrNone {a1 : Int} {M : Mem} {r : Int × Mem} (h : d_PP_isFarmOrNone a1 M = some r) : Fr [] [] M r.2 := by
  unfold d_PP_isFarmOrNone at h
  have hFM : Fr [] [] M M := Fr.rfl'
  rcases ite_e h with ⟨c1, h⟩ | ⟨c1, h⟩
  · skip
    exact hFM.trans (w_PP_isFarmOrNone_16 h)
  · skip
    obtain ⟨v2, M3, fv2, h⟩ := bcall_e h
    have hFM3 : Fr [] [] M M3 := hFM.trans ((w_Pr_hasFarm fv2).mono (by simp) (by simp))
    rcases ite_e h with ⟨c4, h⟩ | ⟨c4, h⟩
    · skip
      cases h; exact hFM3
    · skip
      exact hFM3.trans (w_PP_isFarmOrNone_16 h)
theorem w_PP_bin_57  {a1 a2 a3 a4 a5 s1 s2 : Int} {M : Mem} {r : Int × Mem} (h : k_PP_bin_57 a1 a2 a3 a4 a5 s1 s2 M = some r) : Fr [76, 77, 78, 81, 82, 83, 84, 85, 86, 87] [(0, 0), (75, 3), (75, 10), (75, 14)] M r.2 := by
  unfold k_PP_bin_57 at h
  have hFM : Fr [76, 77, 78, 81, 82, 83, 84, 85, 86, 87] [(0, 0), (75, 3), (75, 10), (75, 14)] M M := Fr.rfl'
  obtain ⟨v1, M2, fv1, h⟩ := bcall_e h
  have hFM2 : Fr [76, 77, 78, 81, 82, 83, 84, 85, 86, 87] [(0, 0), (75, 3), (75, 10), (75, 14)] M M2 := hFM.trans ((w_PP_passes fv1).mono (by simp) (by simp))
  rcases ite_e h with ⟨c3, h⟩ | ⟨c3, h⟩
  · skip
    cases h; exact hFM2
  · skip
    obtain ⟨v4, M5, fv4, h⟩ := bcall_e h
    have hFM5 : Fr [76, 77, 78, 81, 82, 83, 84, 85, 86, 87] [(0, 0), (75, 3), (75, 10), (75, 14)] M M5 := hFM2.trans ((w_Pl_replay fv4).mono (by simp) (by simp))
    obtain ⟨v6, M7, fv6, h⟩ := bcall_e h
    have hFM7 : Fr [76, 77, 78, 81, 82, 83, 84, 85, 86, 87] [(0, 0), (75, 3), (75, 10), (75, 14)] M M7 := hFM5.trans ((w_Pl_slotOfBin fv6).mono (by simp) (by simp))
    obtain ⟨v8, M9, fv8, h⟩ := bcall_e h
    have hFM9 : Fr [76, 77, 78, 81, 82, 83, 84, 85, 86, 87] [(0, 0), (75, 3), (75, 10), (75, 14)] M M9 := hFM7.trans ((w_Pl_bushelsAt fv8).mono (by simp) (by simp))
    cases h; exact hFM9
theorem w_PP_bin_56  {a1 a2 a3 a4 a5 s1 : Int} {M : Mem} {r : Int × Mem} (h : k_PP_bin_56 a1 a2 a3 a4 a5 s1 M = some r) : Fr [76, 77, 78, 81, 82, 83, 84, 85, 86, 87] [(0, 0), (75, 3), (75, 10), (75, 14)] M r.2 := by
  unfold k_PP_bin_56 at h
  have hFM : Fr [76, 77, 78, 81, 82, 83, 84, 85, 86, 87] [(0, 0), (75, 3), (75, 10), (75, 14)] M M := Fr.rfl'
  exact hFM.trans (w_PP_bin_57 h)
theorem w_PP_bin_32  {a1 a2 a3 a4 a5 s0 : Int} {M : Mem} {r : Int × Mem} (h : k_PP_bin_32 a1 a2 a3 a4 a5 s0 M = some r) : Fr [76, 77, 78, 81, 82, 83, 84, 85, 86, 87] [(0, 0), (75, 3), (75, 10), (75, 14)] M r.2 := by
  unfold k_PP_bin_32 at h
  have hFM : Fr [76, 77, 78, 81, 82, 83, 84, 85, 86, 87] [(0, 0), (75, 3), (75, 10), (75, 14)] M M := Fr.rfl'
  obtain ⟨v1, M2, fv1, h⟩ := bcall_e h
  have hFM2 : Fr [76, 77, 78, 81, 82, 83, 84, 85, 86, 87] [(0, 0), (75, 3), (75, 10), (75, 14)] M M2 := hFM.trans ((w_PP_isYear fv1).mono (by simp) (by simp))
  rcases ite_e h with ⟨c3, h⟩ | ⟨c3, h⟩
  · skip
    exact hFM2.trans (w_PP_bin_56 h)
  · skip
    obtain ⟨v4, M5, fv4, h⟩ := bcall_e h
    have hFM5 : Fr [76, 77, 78, 81, 82, 83, 84, 85, 86, 87] [(0, 0), (75, 3), (75, 10), (75, 14)] M M5 := hFM2.trans ((w_PP_isWeek fv4).mono (by simp) (by simp))
    rcases ite_e h with ⟨c6, h⟩ | ⟨c6, h⟩
    · skip
      exact hFM5.trans (w_PP_bin_56 h)
    · skip
      exact hFM5.trans (w_PP_bin_57 h)
theorem w_PP_bin_31  {a1 a2 a3 a4 a5 : Int} {M : Mem} {r : Int × Mem} (h : k_PP_bin_31 a1 a2 a3 a4 a5 M = some r) : Fr [76, 77, 78, 81, 82, 83, 84, 85, 86, 87] [(0, 0), (75, 3), (75, 10), (75, 14)] M r.2 := by
  unfold k_PP_bin_31 at h
  have hFM : Fr [76, 77, 78, 81, 82, 83, 84, 85, 86, 87] [(0, 0), (75, 3), (75, 10), (75, 14)] M M := Fr.rfl'
  exact hFM.trans (w_PP_bin_32 h)
theorem w_PP_bin {a1 a2 a3 a4 a5 : Int} {M : Mem} {r : Int × Mem} (h : d_PP_bin a1 a2 a3 a4 a5 M = some r) : Fr [76, 77, 78, 81, 82, 83, 84, 85, 86, 87] [(0, 0), (75, 3), (75, 10), (75, 14)] M r.2 := by
  unfold d_PP_bin at h
  have hFM : Fr [76, 77, 78, 81, 82, 83, 84, 85, 86, 87] [(0, 0), (75, 3), (75, 10), (75, 14)] M M := Fr.rfl'
  obtain ⟨v1, M2, fv1, h⟩ := bcall_e h
  have hFM2 : Fr [76, 77, 78, 81, 82, 83, 84, 85, 86, 87] [(0, 0), (75, 3), (75, 10), (75, 14)] M M2 := hFM.trans ((w_Pr_hasElevator fv1).mono (by simp) (by simp))
  rcases ite_e h with ⟨c3, h⟩ | ⟨c3, h⟩
  · skip
    exact hFM2.trans (w_PP_bin_31 h)
  · skip
    obtain ⟨v4, M5, fv4, h⟩ := bcall_e h
    have hFM5 : Fr [76, 77, 78, 81, 82, 83, 84, 85, 86, 87] [(0, 0), (75, 3), (75, 10), (75, 14)] M M5 := hFM2.trans ((w_PP_isGrade fv4).mono (by simp) (by simp))
    rcases ite_e h with ⟨c6, h⟩ | ⟨c6, h⟩
    · skip
      exact hFM5.trans (w_PP_bin_31 h)
    · skip
      obtain ⟨v7, M8, fv7, h⟩ := bcall_e h
      have hFM8 : Fr [76, 77, 78, 81, 82, 83, 84, 85, 86, 87] [(0, 0), (75, 3), (75, 10), (75, 14)] M M8 := hFM5.trans ((w_PP_isFarmOrNone fv7).mono (by simp) (by simp))
      rcases ite_e h with ⟨c9, h⟩ | ⟨c9, h⟩
      · skip
        exact hFM8.trans (w_PP_bin_31 h)
      · skip
        exact hFM8.trans (w_PP_bin_32 h)
theorem w_PP_port_53  {a1 a2 a3 a4 a5 s1 s2 : Int} {M : Mem} {r : Int × Mem} (h : k_PP_port_53 a1 a2 a3 a4 a5 s1 s2 M = some r) : Fr [76, 77, 78, 81, 82, 83, 84, 85, 86, 87] [(0, 0), (75, 3), (75, 10), (75, 14)] M r.2 := by
  unfold k_PP_port_53 at h
  have hFM : Fr [76, 77, 78, 81, 82, 83, 84, 85, 86, 87] [(0, 0), (75, 3), (75, 10), (75, 14)] M M := Fr.rfl'
  obtain ⟨v1, M2, fv1, h⟩ := bcall_e h
  have hFM2 : Fr [76, 77, 78, 81, 82, 83, 84, 85, 86, 87] [(0, 0), (75, 3), (75, 10), (75, 14)] M M2 := hFM.trans ((w_PP_passes fv1).mono (by simp) (by simp))
  rcases ite_e h with ⟨c3, h⟩ | ⟨c3, h⟩
  · skip
    cases h; exact hFM2
  · skip
    obtain ⟨v4, M5, fv4, h⟩ := bcall_e h
    have hFM5 : Fr [76, 77, 78, 81, 82, 83, 84, 85, 86, 87] [(0, 0), (75, 3), (75, 10), (75, 14)] M M5 := hFM2.trans ((w_Pl_replay fv4).mono (by simp) (by simp))
    obtain ⟨v6, M7, fv6, h⟩ := bcall_e h
    have hFM7 : Fr [76, 77, 78, 81, 82, 83, 84, 85, 86, 87] [(0, 0), (75, 3), (75, 10), (75, 14)] M M7 := hFM5.trans ((w_Pl_slotOfPort fv6).mono (by simp) (by simp))
    obtain ⟨v8, M9, fv8, h⟩ := bcall_e h
    have hFM9 : Fr [76, 77, 78, 81, 82, 83, 84, 85, 86, 87] [(0, 0), (75, 3), (75, 10), (75, 14)] M M9 := hFM7.trans ((w_Pl_bushelsAt fv8).mono (by simp) (by simp))
    cases h; exact hFM9
theorem w_PP_port_52  {a1 a2 a3 a4 a5 s1 : Int} {M : Mem} {r : Int × Mem} (h : k_PP_port_52 a1 a2 a3 a4 a5 s1 M = some r) : Fr [76, 77, 78, 81, 82, 83, 84, 85, 86, 87] [(0, 0), (75, 3), (75, 10), (75, 14)] M r.2 := by
  unfold k_PP_port_52 at h
  have hFM : Fr [76, 77, 78, 81, 82, 83, 84, 85, 86, 87] [(0, 0), (75, 3), (75, 10), (75, 14)] M M := Fr.rfl'
  exact hFM.trans (w_PP_port_53 h)
theorem w_PP_port_28  {a1 a2 a3 a4 a5 s0 : Int} {M : Mem} {r : Int × Mem} (h : k_PP_port_28 a1 a2 a3 a4 a5 s0 M = some r) : Fr [76, 77, 78, 81, 82, 83, 84, 85, 86, 87] [(0, 0), (75, 3), (75, 10), (75, 14)] M r.2 := by
  unfold k_PP_port_28 at h
  have hFM : Fr [76, 77, 78, 81, 82, 83, 84, 85, 86, 87] [(0, 0), (75, 3), (75, 10), (75, 14)] M M := Fr.rfl'
  obtain ⟨v1, M2, fv1, h⟩ := bcall_e h
  have hFM2 : Fr [76, 77, 78, 81, 82, 83, 84, 85, 86, 87] [(0, 0), (75, 3), (75, 10), (75, 14)] M M2 := hFM.trans ((w_PP_isYear fv1).mono (by simp) (by simp))
  rcases ite_e h with ⟨c3, h⟩ | ⟨c3, h⟩
  · skip
    exact hFM2.trans (w_PP_port_52 h)
  · skip
    obtain ⟨v4, M5, fv4, h⟩ := bcall_e h
    have hFM5 : Fr [76, 77, 78, 81, 82, 83, 84, 85, 86, 87] [(0, 0), (75, 3), (75, 10), (75, 14)] M M5 := hFM2.trans ((w_PP_isWeek fv4).mono (by simp) (by simp))
    rcases ite_e h with ⟨c6, h⟩ | ⟨c6, h⟩
    · skip
      exact hFM5.trans (w_PP_port_52 h)
    · skip
      exact hFM5.trans (w_PP_port_53 h)
theorem w_PP_port_27  {a1 a2 a3 a4 a5 : Int} {M : Mem} {r : Int × Mem} (h : k_PP_port_27 a1 a2 a3 a4 a5 M = some r) : Fr [76, 77, 78, 81, 82, 83, 84, 85, 86, 87] [(0, 0), (75, 3), (75, 10), (75, 14)] M r.2 := by
  unfold k_PP_port_27 at h
  have hFM : Fr [76, 77, 78, 81, 82, 83, 84, 85, 86, 87] [(0, 0), (75, 3), (75, 10), (75, 14)] M M := Fr.rfl'
  exact hFM.trans (w_PP_port_28 h)
theorem w_PP_port {a1 a2 a3 a4 a5 : Int} {M : Mem} {r : Int × Mem} (h : d_PP_port a1 a2 a3 a4 a5 M = some r) : Fr [76, 77, 78, 81, 82, 83, 84, 85, 86, 87] [(0, 0), (75, 3), (75, 10), (75, 14)] M r.2 := by
  unfold d_PP_port at h
  have hFM : Fr [76, 77, 78, 81, 82, 83, 84, 85, 86, 87] [(0, 0), (75, 3), (75, 10), (75, 14)] M M := Fr.rfl'
  obtain ⟨v1, M2, fv1, h⟩ := bcall_e h
  have hFM2 : Fr [76, 77, 78, 81, 82, 83, 84, 85, 86, 87] [(0, 0), (75, 3), (75, 10), (75, 14)] M M2 := hFM.trans ((w_PP_isPort fv1).mono (by simp) (by simp))
  rcases ite_e h with ⟨c3, h⟩ | ⟨c3, h⟩
  · skip
    exact hFM2.trans (w_PP_port_27 h)
  · skip
    obtain ⟨v4, M5, fv4, h⟩ := bcall_e h
    have hFM5 : Fr [76, 77, 78, 81, 82, 83, 84, 85, 86, 87] [(0, 0), (75, 3), (75, 10), (75, 14)] M M5 := hFM2.trans ((w_PP_isGrade fv4).mono (by simp) (by simp))
    rcases ite_e h with ⟨c6, h⟩ | ⟨c6, h⟩
    · skip
      exact hFM5.trans (w_PP_port_27 h)
    · skip
      obtain ⟨v7, M8, fv7, h⟩ := bcall_e h
      have hFM8 : Fr [76, 77, 78, 81, 82, 83, 84, 85, 86, 87] [(0, 0), (75, 3), (75, 10), (75, 14)] M M8 := hFM5.trans ((w_PP_isFarmOrNone fv7).mono (by simp) (by simp))
      rcases ite_e h with ⟨c9, h⟩ | ⟨c9, h⟩
      · skip
        exact hFM8.trans (w_PP_port_27 h)
      · skip
        exact hFM8.trans (w_PP_port_28 h)
theorem w_PP_sum_31  {a1 a2 a3 s0 : Int} {M : Mem} {r : Int × Mem} (h : k_PP_sum_31 a1 a2 a3 s0 M = some r) : Fr [76, 77, 78, 81, 82, 83, 84, 85, 86, 87] [(0, 0), (75, 3), (75, 10), (75, 14)] M r.2 := by
  unfold k_PP_sum_31 at h
  have hFM : Fr [76, 77, 78, 81, 82, 83, 84, 85, 86, 87] [(0, 0), (75, 3), (75, 10), (75, 14)] M M := Fr.rfl'
  obtain ⟨v1, M2, fv1, h⟩ := bcall_e h
  have hFM2 : Fr [76, 77, 78, 81, 82, 83, 84, 85, 86, 87] [(0, 0), (75, 3), (75, 10), (75, 14)] M M2 := hFM.trans ((w_PP_isFarmOrNone fv1).mono (by simp) (by simp))
  obtain ⟨v3, M4, fv3, h⟩ := bcall_e h
  have hFM4 : Fr [76, 77, 78, 81, 82, 83, 84, 85, 86, 87] [(0, 0), (75, 3), (75, 10), (75, 14)] M M4 := hFM2.trans ((w_PP_passes fv3).mono (by simp) (by simp))
  rcases ite_e h with ⟨c5, h⟩ | ⟨c5, h⟩
  · skip
    cases h; exact hFM4
  · skip
    obtain ⟨v6, M7, fv6, h⟩ := bcall_e h
    have hFM7 : Fr [76, 77, 78, 81, 82, 83, 84, 85, 86, 87] [(0, 0), (75, 3), (75, 10), (75, 14)] M M7 := hFM4.trans ((w_Pl_replay fv6).mono (by simp) (by simp))
    obtain ⟨v8, M9, fv8, h⟩ := bcall_e h
    have hFM9 : Fr [76, 77, 78, 81, 82, 83, 84, 85, 86, 87] [(0, 0), (75, 3), (75, 10), (75, 14)] M M9 := hFM7.trans ((w_Pl_totalOf fv8).mono (by simp) (by simp))
    cases h; exact hFM9
theorem w_PP_sum_30  {a1 a2 a3 : Int} {M : Mem} {r : Int × Mem} (h : k_PP_sum_30 a1 a2 a3 M = some r) : Fr [76, 77, 78, 81, 82, 83, 84, 85, 86, 87] [(0, 0), (75, 3), (75, 10), (75, 14)] M r.2 := by
  unfold k_PP_sum_30 at h
  have hFM : Fr [76, 77, 78, 81, 82, 83, 84, 85, 86, 87] [(0, 0), (75, 3), (75, 10), (75, 14)] M M := Fr.rfl'
  exact hFM.trans (w_PP_sum_31 h)
theorem w_PP_sum_26  {a1 a2 a3 : Int} {M : Mem} {r : Int × Mem} (h : k_PP_sum_26 a1 a2 a3 M = some r) : Fr [76, 77, 78, 81, 82, 83, 84, 85, 86, 87] [(0, 0), (75, 3), (75, 10), (75, 14)] M r.2 := by
  unfold k_PP_sum_26 at h
  have hFM : Fr [76, 77, 78, 81, 82, 83, 84, 85, 86, 87] [(0, 0), (75, 3), (75, 10), (75, 14)] M M := Fr.rfl'
  exact hFM.trans (w_PP_sum_31 h)
theorem w_PP_sum {a1 a2 a3 : Int} {M : Mem} {r : Int × Mem} (h : d_PP_sum a1 a2 a3 M = some r) : Fr [76, 77, 78, 81, 82, 83, 84, 85, 86, 87] [(0, 0), (75, 3), (75, 10), (75, 14)] M r.2 := by
  unfold d_PP_sum at h
  have hFM : Fr [76, 77, 78, 81, 82, 83, 84, 85, 86, 87] [(0, 0), (75, 3), (75, 10), (75, 14)] M M := Fr.rfl'
  obtain ⟨v1, M2, fv1, h⟩ := bcall_e h
  have hFM2 : Fr [76, 77, 78, 81, 82, 83, 84, 85, 86, 87] [(0, 0), (75, 3), (75, 10), (75, 14)] M M2 := hFM.trans ((w_PP_isIn fv1).mono (by simp) (by simp))
  rcases ite_e h with ⟨c3, h⟩ | ⟨c3, h⟩
  · skip
    exact hFM2.trans (w_PP_sum_30 h)
  · skip
    obtain ⟨v4, M5, fv4, h⟩ := bcall_e h
    have hFM5 : Fr [76, 77, 78, 81, 82, 83, 84, 85, 86, 87] [(0, 0), (75, 3), (75, 10), (75, 14)] M M5 := hFM2.trans ((w_PP_isWeek fv4).mono (by simp) (by simp))
    rcases ite_e h with ⟨c6, h⟩ | ⟨c6, h⟩
    · skip
      exact hFM5.trans (w_PP_sum_30 h)
    · skip
      rcases ite_e h with ⟨c7, h⟩ | ⟨c7, h⟩
      · skip
        rcases ite_e h with ⟨c8, h⟩ | ⟨c8, h⟩
        · skip
          exact hFM5.trans (w_PP_sum_26 h)
        · skip
          exact hFM5.trans (w_PP_sum_30 h)
      · skip
        exact hFM5.trans (w_PP_sum_26 h)
theorem w_PP_feed {a1 a2 a3 a4 a5 : Int} {M : Mem} {r : Int × Mem} (h : d_PP_feed a1 a2 a3 a4 a5 M = some r) : Fr [56] [(55, 1)] M r.2 := by
  unfold d_PP_feed at h
  have hFM : Fr [56] [(55, 1)] M M := Fr.rfl'
  obtain ⟨v1, M2, fv1, h⟩ := bcall_e h
  have hFM2 : Fr [56] [(55, 1)] M M2 := hFM.trans ((w_Pa_hasRoomToFeed fv1).mono (by simp) (by simp))
  rcases ite_e h with ⟨c3, h⟩ | ⟨c3, h⟩
  · skip
    cases h; exact hFM2
  · skip
    obtain ⟨v4, M5, fv4, h⟩ := bcall_e h
    have hFM5 : Fr [56] [(55, 1)] M M5 := hFM2.trans ((w_Pa_take fv4).mono (by simp) (by simp))
    obtain ⟨v6, M7, fv6, h⟩ := bcall_e h
    have hFM7 : Fr [56] [(55, 1)] M M7 := hFM5.trans ((w_Pa_take fv6).mono (by simp) (by simp))
    obtain ⟨v8, M9, fv8, h⟩ := bcall_e h
    have hFM9 : Fr [56] [(55, 1)] M M9 := hFM7.trans ((w_Pa_take fv8).mono (by simp) (by simp))
    obtain ⟨v10, M11, fv10, h⟩ := bcall_e h
    have hFM11 : Fr [56] [(55, 1)] M M11 := hFM9.trans ((w_Pa_take fv10).mono (by simp) (by simp))
    obtain ⟨v12, M13, fv12, h⟩ := bcall_e h
    have hFM13 : Fr [56] [(55, 1)] M M13 := hFM11.trans ((w_Pa_take fv12).mono (by simp) (by simp))
    obtain ⟨v14, ev14, h⟩ := blet_e h
    cases h; exact hFM13
theorem w_PP_rankAll_2 {R2 : Int → Mem → Res} (hR2 : ∀ (a1 : Int) (M : Mem) (r : Int × Mem), R2 a1 M = some r → Fr [30, 34, 35, 36, 37, 38] [(32, 2), (32, 8)] M r.2) {a1 : Int} {M : Mem} {r : Int × Mem} (h : k_PP_rankAll_2 R2 a1 M = some r) : Fr [30, 34, 35, 36, 37, 38] [(32, 2), (32, 8)] M r.2 := by
  unfold k_PP_rankAll_2 at h
  have hFM : Fr [30, 34, 35, 36, 37, 38] [(32, 2), (32, 8)] M M := Fr.rfl'
  obtain ⟨v1, ev1, h⟩ := blet_e h
  rcases ite_e h with ⟨c2, h⟩ | ⟨c2, h⟩
  · skip
    obtain ⟨v3, M4, fv3, h⟩ := bcall_e h
    have hFM4 : Fr [30, 34, 35, 36, 37, 38] [(32, 2), (32, 8)] M M4 := hFM.trans ((w_PP_rankOf fv3).mono (by simp) (by simp))
    obtain ⟨c5, h⟩ := chk_e h
    obtain ⟨M6, eM6, h⟩ := blet_e h
    have hFM6 : Fr [30, 34, 35, 36, 37, 38] [(32, 2), (32, 8)] M M6 := by rw [eM6]; exact hFM4.stoA (by simp)
    obtain ⟨v7, ev7, h⟩ := blet_e h
    exact hFM6.trans (hR2 v7 M6 r h)
  · skip
    cases h; exact hFM
theorem wl_PP_rankAll_2  : ∀ (n : Nat) (a1 : Int) (M : Mem) (r : Int × Mem), fix (fun _ _ => none) (k_PP_rankAll_2) n a1 M = some r → Fr [30, 34, 35, 36, 37, 38] [(32, 2), (32, 8)] M r.2 := by
  intro n
  induction n with
  | zero => intro a1 M r h; exact nomatch (show (none : Res) = some r from h)
  | succ n ih => intro a1 M r h; exact w_PP_rankAll_2 ih h
theorem w_PP_rankAll {M : Mem} {r : Int × Mem} (h : d_PP_rankAll M = some r) : Fr [30, 34, 35, 36, 37, 38] [(32, 2), (32, 8)] M r.2 := by
  unfold d_PP_rankAll at h
  have hFM : Fr [30, 34, 35, 36, 37, 38] [(32, 2), (32, 8)] M M := Fr.rfl'
  exact hFM.trans (wl_PP_rankAll_2 FU 0 M r h)
theorem w_PP_acts_47  {a1 a2 s1 s2 s3 : Int} {M : Mem} {r : Int × Mem} (h : k_PP_acts_47 a1 a2 s1 s2 s3 M = some r) : Fr [30, 34, 35, 36, 37, 38, 39, 40, 41, 42, 43, 44, 45, 46, 47, 48, 49, 50, 51, 52, 53, 54, 57, 60, 61, (57 + 1), (57 + 2), (57 + 3)] [(0, 0), (32, 0), (32, 2), (32, 8), (55, 1), (55, 2), (55, 3), (55, 6), (55, 7), (55, 8), (55, 9), (55, 10), (55, 11)] M r.2 := by
  unfold k_PP_acts_47 at h
  have hFM : Fr [30, 34, 35, 36, 37, 38, 39, 40, 41, 42, 43, 44, 45, 46, 47, 48, 49, 50, 51, 52, 53, 54, 57, 60, 61, (57 + 1), (57 + 2), (57 + 3)] [(0, 0), (32, 0), (32, 2), (32, 8), (55, 1), (55, 2), (55, 3), (55, 6), (55, 7), (55, 8), (55, 9), (55, 10), (55, 11)] M M := Fr.rfl'
  obtain ⟨v1, M2, fv1, h⟩ := bcall_e h
  have hFM2 : Fr [30, 34, 35, 36, 37, 38, 39, 40, 41, 42, 43, 44, 45, 46, 47, 48, 49, 50, 51, 52, 53, 54, 57, 60, 61, (57 + 1), (57 + 2), (57 + 3)] [(0, 0), (32, 0), (32, 2), (32, 8), (55, 1), (55, 2), (55, 3), (55, 6), (55, 7), (55, 8), (55, 9), (55, 10), (55, 11)] M M2 := hFM.trans ((w_PP_passesWithRoom fv1).mono (by simp) (by simp))
  rcases ite_e h with ⟨c3, h⟩ | ⟨c3, h⟩
  · skip
    cases h; exact hFM2
  · skip
    obtain ⟨v4, M5, fv4, h⟩ := bcall_e h
    have hFM5 : Fr [30, 34, 35, 36, 37, 38, 39, 40, 41, 42, 43, 44, 45, 46, 47, 48, 49, 50, 51, 52, 53, 54, 57, 60, 61, (57 + 1), (57 + 2), (57 + 3)] [(0, 0), (32, 0), (32, 2), (32, 8), (55, 1), (55, 2), (55, 3), (55, 6), (55, 7), (55, 8), (55, 9), (55, 10), (55, 11)] M M5 := hFM2.trans ((w_Pa_parse fv4).mono (by simp) (by simp))
    obtain ⟨v6, ev6, h⟩ := blet_e h
    rcases ite_e h with ⟨c7, h⟩ | ⟨c7, h⟩
    · skip
      obtain ⟨v8, M9, fv8, h⟩ := bcall_e h
      have hFM9 : Fr [30, 34, 35, 36, 37, 38, 39, 40, 41, 42, 43, 44, 45, 46, 47, 48, 49, 50, 51, 52, 53, 54, 57, 60, 61, (57 + 1), (57 + 2), (57 + 3)] [(0, 0), (32, 0), (32, 2), (32, 8), (55, 1), (55, 2), (55, 3), (55, 6), (55, 7), (55, 8), (55, 9), (55, 10), (55, 11)] M M9 := hFM5.trans ((w_As_adopt fv8).mono (by simp) (by simp))
      obtain ⟨v10, M11, fv10, h⟩ := bcall_e h
      have hFM11 : Fr [30, 34, 35, 36, 37, 38, 39, 40, 41, 42, 43, 44, 45, 46, 47, 48, 49, 50, 51, 52, 53, 54, 57, 60, 61, (57 + 1), (57 + 2), (57 + 3)] [(0, 0), (32, 0), (32, 2), (32, 8), (55, 1), (55, 2), (55, 3), (55, 6), (55, 7), (55, 8), (55, 9), (55, 10), (55, 11)] M M11 := hFM9.trans ((w_PP_rankAll fv10).mono (by simp) (by simp))
      obtain ⟨v12, ev12, h⟩ := blet_e h
      cases h; exact hFM11
    · skip
      obtain ⟨M13, eM13, h⟩ := blet_e h
      have hFM13 : Fr [30, 34, 35, 36, 37, 38, 39, 40, 41, 42, 43, 44, 45, 46, 47, 48, 49, 50, 51, 52, 53, 54, 57, 60, 61, (57 + 1), (57 + 2), (57 + 3)] [(0, 0), (32, 0), (32, 2), (32, 8), (55, 1), (55, 2), (55, 3), (55, 6), (55, 7), (55, 8), (55, 9), (55, 10), (55, 11)] M M13 := by rw [eM13]; exact hFM5.stoF (by simp)
      cases h; exact hFM13
theorem w_PP_acts_27  {a1 a2 s0 : Int} {M : Mem} {r : Int × Mem} (h : k_PP_acts_27 a1 a2 s0 M = some r) : Fr [30, 34, 35, 36, 37, 38, 39, 40, 41, 42, 43, 44, 45, 46, 47, 48, 49, 50, 51, 52, 53, 54, 57, 60, 61, (57 + 1), (57 + 2), (57 + 3)] [(0, 0), (32, 0), (32, 2), (32, 8), (55, 1), (55, 2), (55, 3), (55, 6), (55, 7), (55, 8), (55, 9), (55, 10), (55, 11)] M r.2 := by
  unfold k_PP_acts_27 at h
  have hFM : Fr [30, 34, 35, 36, 37, 38, 39, 40, 41, 42, 43, 44, 45, 46, 47, 48, 49, 50, 51, 52, 53, 54, 57, 60, 61, (57 + 1), (57 + 2), (57 + 3)] [(0, 0), (32, 0), (32, 2), (32, 8), (55, 1), (55, 2), (55, 3), (55, 6), (55, 7), (55, 8), (55, 9), (55, 10), (55, 11)] M M := Fr.rfl'
  obtain ⟨v1, ev1, h⟩ := blet_e h
  rcases ite_e h with ⟨c2, h⟩ | ⟨c2, h⟩
  · skip
    exact hFM.trans (w_PP_acts_47 h)
  · skip
    exact hFM.trans (w_PP_acts_47 h)
theorem w_PP_acts_26  {a1 a2 : Int} {M : Mem} {r : Int × Mem} (h : k_PP_acts_26 a1 a2 M = some r) : Fr [30, 34, 35, 36, 37, 38, 39, 40, 41, 42, 43, 44, 45, 46, 47, 48, 49, 50, 51, 52, 53, 54, 57, 60, 61, (57 + 1), (57 + 2), (57 + 3)] [(0, 0), (32, 0), (32, 2), (32, 8), (55, 1), (55, 2), (55, 3), (55, 6), (55, 7), (55, 8), (55, 9), (55, 10), (55, 11)] M r.2 := by
  unfold k_PP_acts_26 at h
  have hFM : Fr [30, 34, 35, 36, 37, 38, 39, 40, 41, 42, 43, 44, 45, 46, 47, 48, 49, 50, 51, 52, 53, 54, 57, 60, 61, (57 + 1), (57 + 2), (57 + 3)] [(0, 0), (32, 0), (32, 2), (32, 8), (55, 1), (55, 2), (55, 3), (55, 6), (55, 7), (55, 8), (55, 9), (55, 10), (55, 11)] M M := Fr.rfl'
  exact hFM.trans (w_PP_acts_27 h)
theorem w_PP_acts {a1 a2 : Int} {M : Mem} {r : Int × Mem} (h : d_PP_acts a1 a2 M = some r) : Fr [30, 34, 35, 36, 37, 38, 39, 40, 41, 42, 43, 44, 45, 46, 47, 48, 49, 50, 51, 52, 53, 54, 57, 60, 61, (57 + 1), (57 + 2), (57 + 3)] [(0, 0), (32, 0), (32, 2), (32, 8), (55, 1), (55, 2), (55, 3), (55, 6), (55, 7), (55, 8), (55, 9), (55, 10), (55, 11)] M r.2 := by
  unfold d_PP_acts at h
  have hFM : Fr [30, 34, 35, 36, 37, 38, 39, 40, 41, 42, 43, 44, 45, 46, 47, 48, 49, 50, 51, 52, 53, 54, 57, 60, 61, (57 + 1), (57 + 2), (57 + 3)] [(0, 0), (32, 0), (32, 2), (32, 8), (55, 1), (55, 2), (55, 3), (55, 6), (55, 7), (55, 8), (55, 9), (55, 10), (55, 11)] M M := Fr.rfl'
  obtain ⟨v1, ev1, h⟩ := blet_e h
  obtain ⟨v2, M3, fv2, h⟩ := bcall_e h
  have hFM3 : Fr [30, 34, 35, 36, 37, 38, 39, 40, 41, 42, 43, 44, 45, 46, 47, 48, 49, 50, 51, 52, 53, 54, 57, 60, 61, (57 + 1), (57 + 2), (57 + 3)] [(0, 0), (32, 0), (32, 2), (32, 8), (55, 1), (55, 2), (55, 3), (55, 6), (55, 7), (55, 8), (55, 9), (55, 10), (55, 11)] M M3 := hFM.trans ((w_PP_isIn fv2).mono (by simp) (by simp))
  rcases ite_e h with ⟨c4, h⟩ | ⟨c4, h⟩
  · skip
    exact hFM3.trans (w_PP_acts_26 h)
  · skip
    obtain ⟨v5, M6, fv5, h⟩ := bcall_e h
    have hFM6 : Fr [30, 34, 35, 36, 37, 38, 39, 40, 41, 42, 43, 44, 45, 46, 47, 48, 49, 50, 51, 52, 53, 54, 57, 60, 61, (57 + 1), (57 + 2), (57 + 3)] [(0, 0), (32, 0), (32, 2), (32, 8), (55, 1), (55, 2), (55, 3), (55, 6), (55, 7), (55, 8), (55, 9), (55, 10), (55, 11)] M M6 := hFM3.trans ((w_PP_isWeek fv5).mono (by simp) (by simp))
    rcases ite_e h with ⟨c7, h⟩ | ⟨c7, h⟩
    · skip
      exact hFM6.trans (w_PP_acts_26 h)
    · skip
      exact hFM6.trans (w_PP_acts_27 h)
theorem w_PP_fault {a1 : Int} {M : Mem} {r : Int × Mem} (h : d_PP_fault a1 M = some r) : Fr [] [] M r.2 := by
  unfold d_PP_fault at h
  have hFM : Fr [] [] M M := Fr.rfl'
  rcases ite_e h with ⟨c1, h⟩ | ⟨c1, h⟩
  · skip
    obtain ⟨v2, ev2, h⟩ := blet_e h
    cases h; exact hFM
  · skip
    rcases ite_e h with ⟨c3, h⟩ | ⟨c3, h⟩
    · skip
      obtain ⟨v4, ev4, h⟩ := blet_e h
      cases h; exact hFM
    · skip
      cases h; exact hFM
theorem w_PP_paid_34  {a1 a2 a3 a4 s1 s2 : Int} {M : Mem} {r : Int × Mem} (h : k_PP_paid_34 a1 a2 a3 a4 s1 s2 M = some r) : Fr [34, 35, 36, 37, 38, 76, 77, 78, 81, 82, 83, 84, 85, 86, 87, 90, 92, 93, 94, 95, 96, 97] [(0, 0), (32, 2), (32, 8), (75, 3), (75, 10), (75, 14)] M r.2 := by
  unfold k_PP_paid_34 at h
  have hFM : Fr [34, 35, 36, 37, 38, 76, 77, 78, 81, 82, 83, 84, 85, 86, 87, 90, 92, 93, 94, 95, 96, 97] [(0, 0), (32, 2), (32, 8), (75, 3), (75, 10), (75, 14)] M M := Fr.rfl'
  obtain ⟨v1, M2, fv1, h⟩ := bcall_e h
  have hFM2 : Fr [34, 35, 36, 37, 38, 76, 77, 78, 81, 82, 83, 84, 85, 86, 87, 90, 92, 93, 94, 95, 96, 97] [(0, 0), (32, 2), (32, 8), (75, 3), (75, 10), (75, 14)] M M2 := hFM.trans ((w_PP_passes fv1).mono (by simp) (by simp))
  rcases ite_e h with ⟨c3, h⟩ | ⟨c3, h⟩
  · skip
    cases h; exact hFM2
  · skip
    obtain ⟨v4, M5, fv4, h⟩ := bcall_e h
    have hFM5 : Fr [34, 35, 36, 37, 38, 76, 77, 78, 81, 82, 83, 84, 85, 86, 87, 90, 92, 93, 94, 95, 96, 97] [(0, 0), (32, 2), (32, 8), (75, 3), (75, 10), (75, 14)] M M5 := hFM2.trans ((w_Py_reckon fv4).mono (by simp) (by simp))
    obtain ⟨v6, M7, fv6, h⟩ := bcall_e h
    have hFM7 : Fr [34, 35, 36, 37, 38, 76, 77, 78, 81, 82, 83, 84, 85, 86, 87, 90, 92, 93, 94, 95, 96, 97] [(0, 0), (32, 2), (32, 8), (75, 3), (75, 10), (75, 14)] M M7 := hFM5.trans ((w_Py_ofGrade fv6).mono (by simp) (by simp))
    cases h; exact hFM7
theorem w_PP_paid_33  {a1 a2 a3 a4 s1 : Int} {M : Mem} {r : Int × Mem} (h : k_PP_paid_33 a1 a2 a3 a4 s1 M = some r) : Fr [34, 35, 36, 37, 38, 76, 77, 78, 81, 82, 83, 84, 85, 86, 87, 90, 92, 93, 94, 95, 96, 97] [(0, 0), (32, 2), (32, 8), (75, 3), (75, 10), (75, 14)] M r.2 := by
  unfold k_PP_paid_33 at h
  have hFM : Fr [34, 35, 36, 37, 38, 76, 77, 78, 81, 82, 83, 84, 85, 86, 87, 90, 92, 93, 94, 95, 96, 97] [(0, 0), (32, 2), (32, 8), (75, 3), (75, 10), (75, 14)] M M := Fr.rfl'
  exact hFM.trans (w_PP_paid_34 h)
theorem w_PP_paid {a1 a2 a3 a4 : Int} {M : Mem} {r : Int × Mem} (h : d_PP_paid a1 a2 a3 a4 M = some r) : Fr [34, 35, 36, 37, 38, 76, 77, 78, 81, 82, 83, 84, 85, 86, 87, 90, 92, 93, 94, 95, 96, 97] [(0, 0), (32, 2), (32, 8), (75, 3), (75, 10), (75, 14)] M r.2 := by
  unfold d_PP_paid at h
  have hFM : Fr [34, 35, 36, 37, 38, 76, 77, 78, 81, 82, 83, 84, 85, 86, 87, 90, 92, 93, 94, 95, 96, 97] [(0, 0), (32, 2), (32, 8), (75, 3), (75, 10), (75, 14)] M M := Fr.rfl'
  obtain ⟨v1, M2, fv1, h⟩ := bcall_e h
  have hFM2 : Fr [34, 35, 36, 37, 38, 76, 77, 78, 81, 82, 83, 84, 85, 86, 87, 90, 92, 93, 94, 95, 96, 97] [(0, 0), (32, 2), (32, 8), (75, 3), (75, 10), (75, 14)] M M2 := hFM.trans ((w_PP_isGrade fv1).mono (by simp) (by simp))
  obtain ⟨v3, M4, fv3, h⟩ := bcall_e h
  have hFM4 : Fr [34, 35, 36, 37, 38, 76, 77, 78, 81, 82, 83, 84, 85, 86, 87, 90, 92, 93, 94, 95, 96, 97] [(0, 0), (32, 2), (32, 8), (75, 3), (75, 10), (75, 14)] M M4 := hFM2.trans ((w_PP_isYear fv3).mono (by simp) (by simp))
  rcases ite_e h with ⟨c5, h⟩ | ⟨c5, h⟩
  · skip
    exact hFM4.trans (w_PP_paid_33 h)
  · skip
    obtain ⟨v6, M7, fv6, h⟩ := bcall_e h
    have hFM7 : Fr [34, 35, 36, 37, 38, 76, 77, 78, 81, 82, 83, 84, 85, 86, 87, 90, 92, 93, 94, 95, 96, 97] [(0, 0), (32, 2), (32, 8), (75, 3), (75, 10), (75, 14)] M M7 := hFM4.trans ((w_PP_isIn fv6).mono (by simp) (by simp))
    rcases ite_e h with ⟨c8, h⟩ | ⟨c8, h⟩
    · skip
      exact hFM7.trans (w_PP_paid_33 h)
    · skip
      obtain ⟨v9, M10, fv9, h⟩ := bcall_e h
      have hFM10 : Fr [34, 35, 36, 37, 38, 76, 77, 78, 81, 82, 83, 84, 85, 86, 87, 90, 92, 93, 94, 95, 96, 97] [(0, 0), (32, 2), (32, 8), (75, 3), (75, 10), (75, 14)] M M10 := hFM7.trans ((w_PP_isWeek fv9).mono (by simp) (by simp))
      rcases ite_e h with ⟨c11, h⟩ | ⟨c11, h⟩
      · skip
        exact hFM10.trans (w_PP_paid_33 h)
      · skip
        exact hFM10.trans (w_PP_paid_34 h)
theorem w_PP_last_28  {a1 a2 a3 s1 s2 : Int} {M : Mem} {r : Int × Mem} (h : k_PP_last_28 a1 a2 a3 s1 s2 M = some r) : Fr [34, 35, 36, 37, 38, 76, 77, 78, 81, 82, 83, 84, 85, 86, 87, 90, 92, 93, 94, 95, 96, 97] [(0, 0), (32, 2), (32, 8), (75, 3), (75, 10), (75, 14)] M r.2 := by
  unfold k_PP_last_28 at h
  have hFM : Fr [34, 35, 36, 37, 38, 76, 77, 78, 81, 82, 83, 84, 85, 86, 87, 90, 92, 93, 94, 95, 96, 97] [(0, 0), (32, 2), (32, 8), (75, 3), (75, 10), (75, 14)] M M := Fr.rfl'
  obtain ⟨v1, M2, fv1, h⟩ := bcall_e h
  have hFM2 : Fr [34, 35, 36, 37, 38, 76, 77, 78, 81, 82, 83, 84, 85, 86, 87, 90, 92, 93, 94, 95, 96, 97] [(0, 0), (32, 2), (32, 8), (75, 3), (75, 10), (75, 14)] M M2 := hFM.trans ((w_PP_passes fv1).mono (by simp) (by simp))
  rcases ite_e h with ⟨c3, h⟩ | ⟨c3, h⟩
  · skip
    cases h; exact hFM2
  · skip
    obtain ⟨v4, M5, fv4, h⟩ := bcall_e h
    have hFM5 : Fr [34, 35, 36, 37, 38, 76, 77, 78, 81, 82, 83, 84, 85, 86, 87, 90, 92, 93, 94, 95, 96, 97] [(0, 0), (32, 2), (32, 8), (75, 3), (75, 10), (75, 14)] M M5 := hFM2.trans ((w_Py_reckon fv4).mono (by simp) (by simp))
    obtain ⟨v6, M7, fv6, h⟩ := bcall_e h
    have hFM7 : Fr [34, 35, 36, 37, 38, 76, 77, 78, 81, 82, 83, 84, 85, 86, 87, 90, 92, 93, 94, 95, 96, 97] [(0, 0), (32, 2), (32, 8), (75, 3), (75, 10), (75, 14)] M M7 := hFM5.trans ((w_Py_lastOf fv6).mono (by simp) (by simp))
    cases h; exact hFM7
theorem w_PP_last_27  {a1 a2 a3 s1 : Int} {M : Mem} {r : Int × Mem} (h : k_PP_last_27 a1 a2 a3 s1 M = some r) : Fr [34, 35, 36, 37, 38, 76, 77, 78, 81, 82, 83, 84, 85, 86, 87, 90, 92, 93, 94, 95, 96, 97] [(0, 0), (32, 2), (32, 8), (75, 3), (75, 10), (75, 14)] M r.2 := by
  unfold k_PP_last_27 at h
  have hFM : Fr [34, 35, 36, 37, 38, 76, 77, 78, 81, 82, 83, 84, 85, 86, 87, 90, 92, 93, 94, 95, 96, 97] [(0, 0), (32, 2), (32, 8), (75, 3), (75, 10), (75, 14)] M M := Fr.rfl'
  exact hFM.trans (w_PP_last_28 h)
theorem w_PP_last {a1 a2 a3 : Int} {M : Mem} {r : Int × Mem} (h : d_PP_last a1 a2 a3 M = some r) : Fr [34, 35, 36, 37, 38, 76, 77, 78, 81, 82, 83, 84, 85, 86, 87, 90, 92, 93, 94, 95, 96, 97] [(0, 0), (32, 2), (32, 8), (75, 3), (75, 10), (75, 14)] M r.2 := by
  unfold d_PP_last at h
  have hFM : Fr [34, 35, 36, 37, 38, 76, 77, 78, 81, 82, 83, 84, 85, 86, 87, 90, 92, 93, 94, 95, 96, 97] [(0, 0), (32, 2), (32, 8), (75, 3), (75, 10), (75, 14)] M M := Fr.rfl'
  obtain ⟨v1, M2, fv1, h⟩ := bcall_e h
  have hFM2 : Fr [34, 35, 36, 37, 38, 76, 77, 78, 81, 82, 83, 84, 85, 86, 87, 90, 92, 93, 94, 95, 96, 97] [(0, 0), (32, 2), (32, 8), (75, 3), (75, 10), (75, 14)] M M2 := hFM.trans ((w_Pr_hasFarm fv1).mono (by simp) (by simp))
  obtain ⟨v3, M4, fv3, h⟩ := bcall_e h
  have hFM4 : Fr [34, 35, 36, 37, 38, 76, 77, 78, 81, 82, 83, 84, 85, 86, 87, 90, 92, 93, 94, 95, 96, 97] [(0, 0), (32, 2), (32, 8), (75, 3), (75, 10), (75, 14)] M M4 := hFM2.trans ((w_PP_isYear fv3).mono (by simp) (by simp))
  rcases ite_e h with ⟨c5, h⟩ | ⟨c5, h⟩
  · skip
    exact hFM4.trans (w_PP_last_27 h)
  · skip
    obtain ⟨v6, M7, fv6, h⟩ := bcall_e h
    have hFM7 : Fr [34, 35, 36, 37, 38, 76, 77, 78, 81, 82, 83, 84, 85, 86, 87, 90, 92, 93, 94, 95, 96, 97] [(0, 0), (32, 2), (32, 8), (75, 3), (75, 10), (75, 14)] M M7 := hFM4.trans ((w_PP_isWeek fv6).mono (by simp) (by simp))
    rcases ite_e h with ⟨c8, h⟩ | ⟨c8, h⟩
    · skip
      exact hFM7.trans (w_PP_last_27 h)
    · skip
      exact hFM7.trans (w_PP_last_28 h)
theorem w_PP_first_28  {a1 a2 a3 s1 s2 : Int} {M : Mem} {r : Int × Mem} (h : k_PP_first_28 a1 a2 a3 s1 s2 M = some r) : Fr [34, 35, 36, 37, 38, 76, 77, 78, 81, 82, 83, 84, 85, 86, 87, 90, 92, 93, 94, 95, 96, 97] [(0, 0), (32, 2), (32, 8), (75, 3), (75, 10), (75, 14)] M r.2 := by
  unfold k_PP_first_28 at h
  have hFM : Fr [34, 35, 36, 37, 38, 76, 77, 78, 81, 82, 83, 84, 85, 86, 87, 90, 92, 93, 94, 95, 96, 97] [(0, 0), (32, 2), (32, 8), (75, 3), (75, 10), (75, 14)] M M := Fr.rfl'
  obtain ⟨v1, M2, fv1, h⟩ := bcall_e h
  have hFM2 : Fr [34, 35, 36, 37, 38, 76, 77, 78, 81, 82, 83, 84, 85, 86, 87, 90, 92, 93, 94, 95, 96, 97] [(0, 0), (32, 2), (32, 8), (75, 3), (75, 10), (75, 14)] M M2 := hFM.trans ((w_PP_passes fv1).mono (by simp) (by simp))
  rcases ite_e h with ⟨c3, h⟩ | ⟨c3, h⟩
  · skip
    cases h; exact hFM2
  · skip
    obtain ⟨v4, M5, fv4, h⟩ := bcall_e h
    have hFM5 : Fr [34, 35, 36, 37, 38, 76, 77, 78, 81, 82, 83, 84, 85, 86, 87, 90, 92, 93, 94, 95, 96, 97] [(0, 0), (32, 2), (32, 8), (75, 3), (75, 10), (75, 14)] M M5 := hFM2.trans ((w_Py_reckon fv4).mono (by simp) (by simp))
    obtain ⟨c6, h⟩ := chk_e h
    obtain ⟨v7, ev7, h⟩ := blet_e h
    cases h; exact hFM5
theorem w_PP_first_27  {a1 a2 a3 s1 : Int} {M : Mem} {r : Int × Mem} (h : k_PP_first_27 a1 a2 a3 s1 M = some r) : Fr [34, 35, 36, 37, 38, 76, 77, 78, 81, 82, 83, 84, 85, 86, 87, 90, 92, 93, 94, 95, 96, 97] [(0, 0), (32, 2), (32, 8), (75, 3), (75, 10), (75, 14)] M r.2 := by
  unfold k_PP_first_27 at h
  have hFM : Fr [34, 35, 36, 37, 38, 76, 77, 78, 81, 82, 83, 84, 85, 86, 87, 90, 92, 93, 94, 95, 96, 97] [(0, 0), (32, 2), (32, 8), (75, 3), (75, 10), (75, 14)] M M := Fr.rfl'
  exact hFM.trans (w_PP_first_28 h)
theorem w_PP_first {a1 a2 a3 : Int} {M : Mem} {r : Int × Mem} (h : d_PP_first a1 a2 a3 M = some r) : Fr [34, 35, 36, 37, 38, 76, 77, 78, 81, 82, 83, 84, 85, 86, 87, 90, 92, 93, 94, 95, 96, 97] [(0, 0), (32, 2), (32, 8), (75, 3), (75, 10), (75, 14)] M r.2 := by
  unfold d_PP_first at h
  have hFM : Fr [34, 35, 36, 37, 38, 76, 77, 78, 81, 82, 83, 84, 85, 86, 87, 90, 92, 93, 94, 95, 96, 97] [(0, 0), (32, 2), (32, 8), (75, 3), (75, 10), (75, 14)] M M := Fr.rfl'
  obtain ⟨v1, M2, fv1, h⟩ := bcall_e h
  have hFM2 : Fr [34, 35, 36, 37, 38, 76, 77, 78, 81, 82, 83, 84, 85, 86, 87, 90, 92, 93, 94, 95, 96, 97] [(0, 0), (32, 2), (32, 8), (75, 3), (75, 10), (75, 14)] M M2 := hFM.trans ((w_Pr_hasFarm fv1).mono (by simp) (by simp))
  obtain ⟨v3, M4, fv3, h⟩ := bcall_e h
  have hFM4 : Fr [34, 35, 36, 37, 38, 76, 77, 78, 81, 82, 83, 84, 85, 86, 87, 90, 92, 93, 94, 95, 96, 97] [(0, 0), (32, 2), (32, 8), (75, 3), (75, 10), (75, 14)] M M4 := hFM2.trans ((w_PP_isYear fv3).mono (by simp) (by simp))
  rcases ite_e h with ⟨c5, h⟩ | ⟨c5, h⟩
  · skip
    exact hFM4.trans (w_PP_first_27 h)
  · skip
    obtain ⟨v6, M7, fv6, h⟩ := bcall_e h
    have hFM7 : Fr [34, 35, 36, 37, 38, 76, 77, 78, 81, 82, 83, 84, 85, 86, 87, 90, 92, 93, 94, 95, 96, 97] [(0, 0), (32, 2), (32, 8), (75, 3), (75, 10), (75, 14)] M M7 := hFM4.trans ((w_PP_isWeek fv6).mono (by simp) (by simp))
    rcases ite_e h with ⟨c8, h⟩ | ⟨c8, h⟩
    · skip
      exact hFM7.trans (w_PP_first_27 h)
    · skip
      exact hFM7.trans (w_PP_first_28 h)
theorem w_PP_below_30  {a1 a2 a3 s1 s2 : Int} {M : Mem} {r : Int × Mem} (h : k_PP_below_30 a1 a2 a3 s1 s2 M = some r) : Fr [34, 35, 36, 37, 38, 76, 77, 78, 81, 82, 83, 84, 85, 86, 87, 90, 91, 92, 93, 94, 95, 96, 97] [(0, 0), (32, 2), (32, 8), (75, 3), (75, 10), (75, 14), (88, 4), (88, 5)] M r.2 := by
  unfold k_PP_below_30 at h
  have hFM : Fr [34, 35, 36, 37, 38, 76, 77, 78, 81, 82, 83, 84, 85, 86, 87, 90, 91, 92, 93, 94, 95, 96, 97] [(0, 0), (32, 2), (32, 8), (75, 3), (75, 10), (75, 14), (88, 4), (88, 5)] M M := Fr.rfl'
  obtain ⟨v1, M2, fv1, h⟩ := bcall_e h
  have hFM2 : Fr [34, 35, 36, 37, 38, 76, 77, 78, 81, 82, 83, 84, 85, 86, 87, 90, 91, 92, 93, 94, 95, 96, 97] [(0, 0), (32, 2), (32, 8), (75, 3), (75, 10), (75, 14), (88, 4), (88, 5)] M M2 := hFM.trans ((w_PP_passes fv1).mono (by simp) (by simp))
  rcases ite_e h with ⟨c3, h⟩ | ⟨c3, h⟩
  · skip
    cases h; exact hFM2
  · skip
    obtain ⟨v4, M5, fv4, h⟩ := bcall_e h
    have hFM5 : Fr [34, 35, 36, 37, 38, 76, 77, 78, 81, 82, 83, 84, 85, 86, 87, 90, 91, 92, 93, 94, 95, 96, 97] [(0, 0), (32, 2), (32, 8), (75, 3), (75, 10), (75, 14), (88, 4), (88, 5)] M M5 := hFM2.trans ((w_Py_reckon fv4).mono (by simp) (by simp))
    obtain ⟨v6, M7, fv6, h⟩ := bcall_e h
    have hFM7 : Fr [34, 35, 36, 37, 38, 76, 77, 78, 81, 82, 83, 84, 85, 86, 87, 90, 91, 92, 93, 94, 95, 96, 97] [(0, 0), (32, 2), (32, 8), (75, 3), (75, 10), (75, 14), (88, 4), (88, 5)] M M7 := hFM5.trans ((w_Py_reckonOwed fv6).mono (by simp) (by simp))
    rcases ite_e h with ⟨c8, h⟩ | ⟨c8, h⟩
    · skip
      obtain ⟨v9, ev9, h⟩ := blet_e h
      cases h; exact hFM7
    · skip
      obtain ⟨v10, ev10, h⟩ := blet_e h
      cases h; exact hFM7
theorem w_PP_below_29  {a1 a2 a3 s1 : Int} {M : Mem} {r : Int × Mem} (h : k_PP_below_29 a1 a2 a3 s1 M = some r) : Fr [34, 35, 36, 37, 38, 76, 77, 78, 81, 82, 83, 84, 85, 86, 87, 90, 91, 92, 93, 94, 95, 96, 97] [(0, 0), (32, 2), (32, 8), (75, 3), (75, 10), (75, 14), (88, 4), (88, 5)] M r.2 := by
  unfold k_PP_below_29 at h
  have hFM : Fr [34, 35, 36, 37, 38, 76, 77, 78, 81, 82, 83, 84, 85, 86, 87, 90, 91, 92, 93, 94, 95, 96, 97] [(0, 0), (32, 2), (32, 8), (75, 3), (75, 10), (75, 14), (88, 4), (88, 5)] M M := Fr.rfl'
  exact hFM.trans (w_PP_below_30 h)
theorem w_PP_below {a1 a2 a3 : Int} {M : Mem} {r : Int × Mem} (h : d_PP_below a1 a2 a3 M = some r) : Fr [34, 35, 36, 37, 38, 76, 77, 78, 81, 82, 83, 84, 85, 86, 87, 90, 91, 92, 93, 94, 95, 96, 97] [(0, 0), (32, 2), (32, 8), (75, 3), (75, 10), (75, 14), (88, 4), (88, 5)] M r.2 := by
  unfold d_PP_below at h
  have hFM : Fr [34, 35, 36, 37, 38, 76, 77, 78, 81, 82, 83, 84, 85, 86, 87, 90, 91, 92, 93, 94, 95, 96, 97] [(0, 0), (32, 2), (32, 8), (75, 3), (75, 10), (75, 14), (88, 4), (88, 5)] M M := Fr.rfl'
  obtain ⟨v1, M2, fv1, h⟩ := bcall_e h
  have hFM2 : Fr [34, 35, 36, 37, 38, 76, 77, 78, 81, 82, 83, 84, 85, 86, 87, 90, 91, 92, 93, 94, 95, 96, 97] [(0, 0), (32, 2), (32, 8), (75, 3), (75, 10), (75, 14), (88, 4), (88, 5)] M M2 := hFM.trans ((w_PP_isYear fv1).mono (by simp) (by simp))
  rcases ite_e h with ⟨c3, h⟩ | ⟨c3, h⟩
  · skip
    exact hFM2.trans (w_PP_below_29 h)
  · skip
    obtain ⟨v4, M5, fv4, h⟩ := bcall_e h
    have hFM5 : Fr [34, 35, 36, 37, 38, 76, 77, 78, 81, 82, 83, 84, 85, 86, 87, 90, 91, 92, 93, 94, 95, 96, 97] [(0, 0), (32, 2), (32, 8), (75, 3), (75, 10), (75, 14), (88, 4), (88, 5)] M M5 := hFM2.trans ((w_PP_isIn fv4).mono (by simp) (by simp))
    rcases ite_e h with ⟨c6, h⟩ | ⟨c6, h⟩
    · skip
      exact hFM5.trans (w_PP_below_29 h)
    · skip
      obtain ⟨v7, M8, fv7, h⟩ := bcall_e h
      have hFM8 : Fr [34, 35, 36, 37, 38, 76, 77, 78, 81, 82, 83, 84, 85, 86, 87, 90, 91, 92, 93, 94, 95, 96, 97] [(0, 0), (32, 2), (32, 8), (75, 3), (75, 10), (75, 14), (88, 4), (88, 5)] M M8 := hFM5.trans ((w_PP_isWeek fv7).mono (by simp) (by simp))
      rcases ite_e h with ⟨c9, h⟩ | ⟨c9, h⟩
      · skip
        exact hFM8.trans (w_PP_below_29 h)
      · skip
        exact hFM8.trans (w_PP_below_30 h)
theorem w_PP_owed_28  {a1 a2 a3 s1 s2 : Int} {M : Mem} {r : Int × Mem} (h : k_PP_owed_28 a1 a2 a3 s1 s2 M = some r) : Fr [34, 35, 36, 37, 38, 76, 77, 78, 81, 82, 83, 84, 85, 86, 87, 90, 91, 92, 93, 94, 95, 96, 97] [(0, 0), (32, 2), (32, 8), (75, 3), (75, 10), (75, 14), (88, 4), (88, 5)] M r.2 := by
  unfold k_PP_owed_28 at h
  have hFM : Fr [34, 35, 36, 37, 38, 76, 77, 78, 81, 82, 83, 84, 85, 86, 87, 90, 91, 92, 93, 94, 95, 96, 97] [(0, 0), (32, 2), (32, 8), (75, 3), (75, 10), (75, 14), (88, 4), (88, 5)] M M := Fr.rfl'
  obtain ⟨v1, M2, fv1, h⟩ := bcall_e h
  have hFM2 : Fr [34, 35, 36, 37, 38, 76, 77, 78, 81, 82, 83, 84, 85, 86, 87, 90, 91, 92, 93, 94, 95, 96, 97] [(0, 0), (32, 2), (32, 8), (75, 3), (75, 10), (75, 14), (88, 4), (88, 5)] M M2 := hFM.trans ((w_PP_passes fv1).mono (by simp) (by simp))
  rcases ite_e h with ⟨c3, h⟩ | ⟨c3, h⟩
  · skip
    cases h; exact hFM2
  · skip
    obtain ⟨v4, M5, fv4, h⟩ := bcall_e h
    have hFM5 : Fr [34, 35, 36, 37, 38, 76, 77, 78, 81, 82, 83, 84, 85, 86, 87, 90, 91, 92, 93, 94, 95, 96, 97] [(0, 0), (32, 2), (32, 8), (75, 3), (75, 10), (75, 14), (88, 4), (88, 5)] M M5 := hFM2.trans ((w_Py_reckon fv4).mono (by simp) (by simp))
    obtain ⟨v6, M7, fv6, h⟩ := bcall_e h
    have hFM7 : Fr [34, 35, 36, 37, 38, 76, 77, 78, 81, 82, 83, 84, 85, 86, 87, 90, 91, 92, 93, 94, 95, 96, 97] [(0, 0), (32, 2), (32, 8), (75, 3), (75, 10), (75, 14), (88, 4), (88, 5)] M M7 := hFM5.trans ((w_Py_reckonOwed fv6).mono (by simp) (by simp))
    obtain ⟨c8, h⟩ := chk_e h
    obtain ⟨v9, ev9, h⟩ := blet_e h
    cases h; exact hFM7
theorem w_PP_owed_27  {a1 a2 a3 s1 : Int} {M : Mem} {r : Int × Mem} (h : k_PP_owed_27 a1 a2 a3 s1 M = some r) : Fr [34, 35, 36, 37, 38, 76, 77, 78, 81, 82, 83, 84, 85, 86, 87, 90, 91, 92, 93, 94, 95, 96, 97] [(0, 0), (32, 2), (32, 8), (75, 3), (75, 10), (75, 14), (88, 4), (88, 5)] M r.2 := by
  unfold k_PP_owed_27 at h
  have hFM : Fr [34, 35, 36, 37, 38, 76, 77, 78, 81, 82, 83, 84, 85, 86, 87, 90, 91, 92, 93, 94, 95, 96, 97] [(0, 0), (32, 2), (32, 8), (75, 3), (75, 10), (75, 14), (88, 4), (88, 5)] M M := Fr.rfl'
  exact hFM.trans (w_PP_owed_28 h)
theorem w_PP_owed {a1 a2 a3 : Int} {M : Mem} {r : Int × Mem} (h : d_PP_owed a1 a2 a3 M = some r) : Fr [34, 35, 36, 37, 38, 76, 77, 78, 81, 82, 83, 84, 85, 86, 87, 90, 91, 92, 93, 94, 95, 96, 97] [(0, 0), (32, 2), (32, 8), (75, 3), (75, 10), (75, 14), (88, 4), (88, 5)] M r.2 := by
  unfold d_PP_owed at h
  have hFM : Fr [34, 35, 36, 37, 38, 76, 77, 78, 81, 82, 83, 84, 85, 86, 87, 90, 91, 92, 93, 94, 95, 96, 97] [(0, 0), (32, 2), (32, 8), (75, 3), (75, 10), (75, 14), (88, 4), (88, 5)] M M := Fr.rfl'
  obtain ⟨v1, M2, fv1, h⟩ := bcall_e h
  have hFM2 : Fr [34, 35, 36, 37, 38, 76, 77, 78, 81, 82, 83, 84, 85, 86, 87, 90, 91, 92, 93, 94, 95, 96, 97] [(0, 0), (32, 2), (32, 8), (75, 3), (75, 10), (75, 14), (88, 4), (88, 5)] M M2 := hFM.trans ((w_Pr_hasFarm fv1).mono (by simp) (by simp))
  obtain ⟨v3, M4, fv3, h⟩ := bcall_e h
  have hFM4 : Fr [34, 35, 36, 37, 38, 76, 77, 78, 81, 82, 83, 84, 85, 86, 87, 90, 91, 92, 93, 94, 95, 96, 97] [(0, 0), (32, 2), (32, 8), (75, 3), (75, 10), (75, 14), (88, 4), (88, 5)] M M4 := hFM2.trans ((w_PP_isYear fv3).mono (by simp) (by simp))
  rcases ite_e h with ⟨c5, h⟩ | ⟨c5, h⟩
  · skip
    exact hFM4.trans (w_PP_owed_27 h)
  · skip
    obtain ⟨v6, M7, fv6, h⟩ := bcall_e h
    have hFM7 : Fr [34, 35, 36, 37, 38, 76, 77, 78, 81, 82, 83, 84, 85, 86, 87, 90, 91, 92, 93, 94, 95, 96, 97] [(0, 0), (32, 2), (32, 8), (75, 3), (75, 10), (75, 14), (88, 4), (88, 5)] M M7 := hFM4.trans ((w_PP_isWeek fv6).mono (by simp) (by simp))
    rcases ite_e h with ⟨c8, h⟩ | ⟨c8, h⟩
    · skip
      exact hFM7.trans (w_PP_owed_27 h)
    · skip
      exact hFM7.trans (w_PP_owed_28 h)
theorem w_PP_turns_31  {a1 a2 a3 s1 s2 : Int} {M : Mem} {r : Int × Mem} (h : k_PP_turns_31 a1 a2 a3 s1 s2 M = some r) : Fr [34, 35, 36, 37, 38, 76, 77, 78, 79, 80, 81, 82, 83, 84, 85, 86, 87] [(0, 0), (32, 2), (32, 8), (75, 3), (75, 10), (75, 14)] M r.2 := by
  unfold k_PP_turns_31 at h
  have hFM : Fr [34, 35, 36, 37, 38, 76, 77, 78, 79, 80, 81, 82, 83, 84, 85, 86, 87] [(0, 0), (32, 2), (32, 8), (75, 3), (75, 10), (75, 14)] M M := Fr.rfl'
  obtain ⟨v1, M2, fv1, h⟩ := bcall_e h
  have hFM2 : Fr [34, 35, 36, 37, 38, 76, 77, 78, 79, 80, 81, 82, 83, 84, 85, 86, 87] [(0, 0), (32, 2), (32, 8), (75, 3), (75, 10), (75, 14)] M M2 := hFM.trans ((w_PP_passes fv1).mono (by simp) (by simp))
  rcases ite_e h with ⟨c3, h⟩ | ⟨c3, h⟩
  · skip
    cases h; exact hFM2
  · skip
    obtain ⟨v4, M5, fv4, h⟩ := bcall_e h
    have hFM5 : Fr [34, 35, 36, 37, 38, 76, 77, 78, 79, 80, 81, 82, 83, 84, 85, 86, 87] [(0, 0), (32, 2), (32, 8), (75, 3), (75, 10), (75, 14)] M M5 := hFM2.trans ((w_Pl_replay fv4).mono (by simp) (by simp))
    obtain ⟨v6, M7, fv6, h⟩ := bcall_e h
    have hFM7 : Fr [34, 35, 36, 37, 38, 76, 77, 78, 79, 80, 81, 82, 83, 84, 85, 86, 87] [(0, 0), (32, 2), (32, 8), (75, 3), (75, 10), (75, 14)] M M7 := hFM5.trans ((w_Pl_giveCars fv6).mono (by simp) (by simp))
    obtain ⟨c8, h⟩ := chk_e h
    obtain ⟨v9, ev9, h⟩ := blet_e h
    cases h; exact hFM7
theorem w_PP_turns_30  {a1 a2 a3 s1 : Int} {M : Mem} {r : Int × Mem} (h : k_PP_turns_30 a1 a2 a3 s1 M = some r) : Fr [34, 35, 36, 37, 38, 76, 77, 78, 79, 80, 81, 82, 83, 84, 85, 86, 87] [(0, 0), (32, 2), (32, 8), (75, 3), (75, 10), (75, 14)] M r.2 := by
  unfold k_PP_turns_30 at h
  have hFM : Fr [34, 35, 36, 37, 38, 76, 77, 78, 79, 80, 81, 82, 83, 84, 85, 86, 87] [(0, 0), (32, 2), (32, 8), (75, 3), (75, 10), (75, 14)] M M := Fr.rfl'
  exact hFM.trans (w_PP_turns_31 h)
theorem w_PP_turns {a1 a2 a3 : Int} {M : Mem} {r : Int × Mem} (h : d_PP_turns a1 a2 a3 M = some r) : Fr [34, 35, 36, 37, 38, 76, 77, 78, 79, 80, 81, 82, 83, 84, 85, 86, 87] [(0, 0), (32, 2), (32, 8), (75, 3), (75, 10), (75, 14)] M r.2 := by
  unfold d_PP_turns at h
  have hFM : Fr [34, 35, 36, 37, 38, 76, 77, 78, 79, 80, 81, 82, 83, 84, 85, 86, 87] [(0, 0), (32, 2), (32, 8), (75, 3), (75, 10), (75, 14)] M M := Fr.rfl'
  obtain ⟨v1, M2, fv1, h⟩ := bcall_e h
  have hFM2 : Fr [34, 35, 36, 37, 38, 76, 77, 78, 79, 80, 81, 82, 83, 84, 85, 86, 87] [(0, 0), (32, 2), (32, 8), (75, 3), (75, 10), (75, 14)] M M2 := hFM.trans ((w_Pr_hasElevator fv1).mono (by simp) (by simp))
  obtain ⟨v3, M4, fv3, h⟩ := bcall_e h
  have hFM4 : Fr [34, 35, 36, 37, 38, 76, 77, 78, 79, 80, 81, 82, 83, 84, 85, 86, 87] [(0, 0), (32, 2), (32, 8), (75, 3), (75, 10), (75, 14)] M M4 := hFM2.trans ((w_PP_isWeek fv3).mono (by simp) (by simp))
  rcases ite_e h with ⟨c5, h⟩ | ⟨c5, h⟩
  · skip
    exact hFM4.trans (w_PP_turns_30 h)
  · skip
    obtain ⟨v6, M7, fv6, h⟩ := bcall_e h
    have hFM7 : Fr [34, 35, 36, 37, 38, 76, 77, 78, 79, 80, 81, 82, 83, 84, 85, 86, 87] [(0, 0), (32, 2), (32, 8), (75, 3), (75, 10), (75, 14)] M M7 := hFM4.trans ((w_PP_isIn fv6).mono (by simp) (by simp))
    rcases ite_e h with ⟨c8, h⟩ | ⟨c8, h⟩
    · skip
      exact hFM7.trans (w_PP_turns_30 h)
    · skip
      exact hFM7.trans (w_PP_turns_31 h)
theorem w_PP_sign_33  {a1 a2 a3 s1 s2 : Int} {M : Mem} {r : Int × Mem} (h : k_PP_sign_33 a1 a2 a3 s1 s2 M = some r) : Fr [9, 10] [(0, 0)] M r.2 := by
  unfold k_PP_sign_33 at h
  have hFM : Fr [9, 10] [(0, 0)] M M := Fr.rfl'
  obtain ⟨v1, M2, fv1, h⟩ := bcall_e h
  have hFM2 : Fr [9, 10] [(0, 0)] M M2 := hFM.trans ((w_PP_passes fv1).mono (by simp) (by simp))
  rcases ite_e h with ⟨c3, h⟩ | ⟨c3, h⟩
  · skip
    cases h; exact hFM2
  · skip
    obtain ⟨c4, h⟩ := chk_e h
    obtain ⟨M5, eM5, h⟩ := blet_e h
    have hFM5 : Fr [9, 10] [(0, 0)] M M5 := by rw [eM5]; exact hFM2.stoA (by simp)
    obtain ⟨c6, h⟩ := chk_e h
    obtain ⟨M7, eM7, h⟩ := blet_e h
    have hFM7 : Fr [9, 10] [(0, 0)] M M7 := by rw [eM7]; exact hFM5.stoA (by simp)
    cases h; exact hFM7
theorem w_PP_sign_32  {a1 a2 a3 s1 : Int} {M : Mem} {r : Int × Mem} (h : k_PP_sign_32 a1 a2 a3 s1 M = some r) : Fr [9, 10] [(0, 0)] M r.2 := by
  unfold k_PP_sign_32 at h
  have hFM : Fr [9, 10] [(0, 0)] M M := Fr.rfl'
  exact hFM.trans (w_PP_sign_33 h)
theorem w_PP_sign {a1 a2 a3 : Int} {M : Mem} {r : Int × Mem} (h : d_PP_sign a1 a2 a3 M = some r) : Fr [9, 10] [(0, 0)] M r.2 := by
  unfold d_PP_sign at h
  have hFM : Fr [9, 10] [(0, 0)] M M := Fr.rfl'
  obtain ⟨v1, M2, fv1, h⟩ := bcall_e h
  have hFM2 : Fr [9, 10] [(0, 0)] M M2 := hFM.trans ((w_Pr_hasFarm fv1).mono (by simp) (by simp))
  obtain ⟨v3, M4, fv3, h⟩ := bcall_e h
  have hFM4 : Fr [9, 10] [(0, 0)] M M4 := hFM2.trans ((w_PP_isYear fv3).mono (by simp) (by simp))
  rcases ite_e h with ⟨c5, h⟩ | ⟨c5, h⟩
  · skip
    exact hFM4.trans (w_PP_sign_32 h)
  · skip
    obtain ⟨v6, M7, fv6, h⟩ := bcall_e h
    have hFM7 : Fr [9, 10] [(0, 0)] M M7 := hFM4.trans ((w_PP_isYear fv6).mono (by simp) (by simp))
    rcases ite_e h with ⟨c8, h⟩ | ⟨c8, h⟩
    · skip
      exact hFM7.trans (w_PP_sign_32 h)
    · skip
      rcases ite_e h with ⟨c9, h⟩ | ⟨c9, h⟩
      · skip
        exact hFM7.trans (w_PP_sign_32 h)
      · skip
        exact hFM7.trans (w_PP_sign_33 h)
theorem w_PP_let {a1 a2 a3 : Int} {M : Mem} {r : Int × Mem} (h : d_PP_let a1 a2 a3 M = some r) : Fr [11] [(0, 0)] M r.2 := by
  unfold d_PP_let at h
  have hFM : Fr [11] [(0, 0)] M M := Fr.rfl'
  obtain ⟨v1, M2, fv1, h⟩ := bcall_e h
  have hFM2 : Fr [11] [(0, 0)] M M2 := hFM.trans ((w_Pr_hasFarm fv1).mono (by simp) (by simp))
  obtain ⟨v3, M4, fv3, h⟩ := bcall_e h
  have hFM4 : Fr [11] [(0, 0)] M M4 := hFM2.trans ((w_PP_isYear fv3).mono (by simp) (by simp))
  obtain ⟨v5, M6, fv5, h⟩ := bcall_e h
  have hFM6 : Fr [11] [(0, 0)] M M6 := hFM4.trans ((w_PP_passes fv5).mono (by simp) (by simp))
  rcases ite_e h with ⟨c7, h⟩ | ⟨c7, h⟩
  · skip
    cases h; exact hFM6
  · skip
    obtain ⟨c8, h⟩ := chk_e h
    obtain ⟨M9, eM9, h⟩ := blet_e h
    have hFM9 : Fr [11] [(0, 0)] M M9 := by rw [eM9]; exact hFM6.stoA (by simp)
    cases h; exact hFM9
theorem w_PP_outside_50  {a1 a2 a3 a4 a5 s0 : Int} {M : Mem} {r : Int × Mem} (h : k_PP_outside_50 a1 a2 a3 a4 a5 s0 M = some r) : Fr [99, 100, 101, 102] [(0, 0), (98, 0)] M r.2 := by
  unfold k_PP_outside_50 at h
  have hFM : Fr [99, 100, 101, 102] [(0, 0), (98, 0)] M M := Fr.rfl'
  obtain ⟨v1, M2, fv1, h⟩ := bcall_e h
  have hFM2 : Fr [99, 100, 101, 102] [(0, 0), (98, 0)] M M2 := hFM.trans ((w_Pr_hasFarm fv1).mono (by simp) (by simp))
  obtain ⟨v3, M4, fv3, h⟩ := bcall_e h
  have hFM4 : Fr [99, 100, 101, 102] [(0, 0), (98, 0)] M M4 := hFM2.trans ((w_PP_passesWithRoom fv3).mono (by simp) (by simp))
  rcases ite_e h with ⟨c5, h⟩ | ⟨c5, h⟩
  · skip
    cases h; exact hFM4
  · skip
    obtain ⟨v6, M7, fv6, h⟩ := bcall_e h
    have hFM7 : Fr [99, 100, 101, 102] [(0, 0), (98, 0)] M M7 := hFM4.trans ((w_Ou_add fv6).mono (by simp) (by simp))
    cases h; exact hFM7
theorem w_PP_outside_31  {a1 a2 a3 a4 s0 : Int} {M : Mem} {r : Int × Mem} (h : k_PP_outside_31 a1 a2 a3 a4 s0 M = some r) : Fr [99, 100, 101, 102] [(0, 0), (98, 0)] M r.2 := by
  unfold k_PP_outside_31 at h
  have hFM : Fr [99, 100, 101, 102] [(0, 0), (98, 0)] M M := Fr.rfl'
  obtain ⟨v1, ev1, h⟩ := blet_e h
  rcases ite_e h with ⟨c2, h⟩ | ⟨c2, h⟩
  · skip
    exact hFM.trans (w_PP_outside_50 h)
  · skip
    exact hFM.trans (w_PP_outside_50 h)
theorem w_PP_outside_30  {a1 a2 a3 a4 : Int} {M : Mem} {r : Int × Mem} (h : k_PP_outside_30 a1 a2 a3 a4 M = some r) : Fr [99, 100, 101, 102] [(0, 0), (98, 0)] M r.2 := by
  unfold k_PP_outside_30 at h
  have hFM : Fr [99, 100, 101, 102] [(0, 0), (98, 0)] M M := Fr.rfl'
  exact hFM.trans (w_PP_outside_31 h)
theorem w_PP_outside {a1 a2 a3 a4 : Int} {M : Mem} {r : Int × Mem} (h : d_PP_outside a1 a2 a3 a4 M = some r) : Fr [99, 100, 101, 102] [(0, 0), (98, 0)] M r.2 := by
  unfold d_PP_outside at h
  have hFM : Fr [99, 100, 101, 102] [(0, 0), (98, 0)] M M := Fr.rfl'
  obtain ⟨v1, M2, fv1, h⟩ := bcall_e h
  have hFM2 : Fr [99, 100, 101, 102] [(0, 0), (98, 0)] M M2 := hFM.trans ((w_PP_isWeek fv1).mono (by simp) (by simp))
  rcases ite_e h with ⟨c3, h⟩ | ⟨c3, h⟩
  · skip
    exact hFM2.trans (w_PP_outside_30 h)
  · skip
    obtain ⟨v4, M5, fv4, h⟩ := bcall_e h
    have hFM5 : Fr [99, 100, 101, 102] [(0, 0), (98, 0)] M M5 := hFM2.trans ((w_PP_isIn fv4).mono (by simp) (by simp))
    rcases ite_e h with ⟨c6, h⟩ | ⟨c6, h⟩
    · skip
      exact hFM5.trans (w_PP_outside_30 h)
    · skip
      obtain ⟨v7, M8, fv7, h⟩ := bcall_e h
      have hFM8 : Fr [99, 100, 101, 102] [(0, 0), (98, 0)] M M8 := hFM5.trans ((w_PP_isPence fv7).mono (by simp) (by simp))
      rcases ite_e h with ⟨c9, h⟩ | ⟨c9, h⟩
      · skip
        exact hFM8.trans (w_PP_outside_30 h)
      · skip
        exact hFM8.trans (w_PP_outside_31 h)
theorem w_PP_breach_24  {a1 s1 : Int} {M : Mem} {r : Int × Mem} (h : k_PP_breach_24 a1 s1 M = some r) : Fr [34, 35, 36, 37, 38] [(0, 0), (32, 2), (32, 8)] M r.2 := by
  unfold k_PP_breach_24 at h
  have hFM : Fr [34, 35, 36, 37, 38] [(0, 0), (32, 2), (32, 8)] M M := Fr.rfl'
  obtain ⟨M1, eM1, h⟩ := blet_e h
  have hFM1 : Fr [34, 35, 36, 37, 38] [(0, 0), (32, 2), (32, 8)] M M1 := by rw [eM1]; exact hFM.stoF (by simp)
  obtain ⟨v2, ev2, h⟩ := blet_e h
  rcases ite_e h with ⟨c3, h⟩ | ⟨c3, h⟩
  · skip
    obtain ⟨v4, M5, fv4, h⟩ := bcall_e h
    have hFM5 : Fr [34, 35, 36, 37, 38] [(0, 0), (32, 2), (32, 8)] M M5 := hFM1.trans ((w_Ou_penceFor fv4).mono (by simp) (by simp))
    rcases ite_e h with ⟨c6, h⟩ | ⟨c6, h⟩
    · skip
      cases h; exact hFM5
    · skip
      cases h; exact hFM5
  · skip
    cases h; exact hFM1
theorem w_PP_breach {a1 : Int} {M : Mem} {r : Int × Mem} (h : d_PP_breach a1 M = some r) : Fr [34, 35, 36, 37, 38] [(0, 0), (32, 2), (32, 8)] M r.2 := by
  unfold d_PP_breach at h
  have hFM : Fr [34, 35, 36, 37, 38] [(0, 0), (32, 2), (32, 8)] M M := Fr.rfl'
  obtain ⟨v1, ev1, h⟩ := blet_e h
  obtain ⟨v2, M3, fv2, h⟩ := bcall_e h
  have hFM3 : Fr [34, 35, 36, 37, 38] [(0, 0), (32, 2), (32, 8)] M M3 := hFM.trans ((w_PP_isIn fv2).mono (by simp) (by simp))
  rcases ite_e h with ⟨c4, h⟩ | ⟨c4, h⟩
  · skip
    exact hFM3.trans (w_PP_breach_24 h)
  · skip
    exact hFM3.trans (w_PP_breach_24 h)
theorem w_PP_cost {a1 a2 : Int} {M : Mem} {r : Int × Mem} (h : d_PP_cost a1 a2 M = some r) : Fr [34, 35, 36, 37, 38] [(0, 0), (32, 2), (32, 8)] M r.2 := by
  unfold d_PP_cost at h
  have hFM : Fr [34, 35, 36, 37, 38] [(0, 0), (32, 2), (32, 8)] M M := Fr.rfl'
  obtain ⟨v1, M2, fv1, h⟩ := bcall_e h
  have hFM2 : Fr [34, 35, 36, 37, 38] [(0, 0), (32, 2), (32, 8)] M M2 := hFM.trans ((w_Pr_hasFarm fv1).mono (by simp) (by simp))
  obtain ⟨v3, M4, fv3, h⟩ := bcall_e h
  have hFM4 : Fr [34, 35, 36, 37, 38] [(0, 0), (32, 2), (32, 8)] M M4 := hFM2.trans ((w_PP_isYear fv3).mono (by simp) (by simp))
  obtain ⟨v5, M6, fv5, h⟩ := bcall_e h
  have hFM6 : Fr [34, 35, 36, 37, 38] [(0, 0), (32, 2), (32, 8)] M M6 := hFM4.trans ((w_PP_passes fv5).mono (by simp) (by simp))
  rcases ite_e h with ⟨c7, h⟩ | ⟨c7, h⟩
  · skip
    cases h; exact hFM6
  · skip
    obtain ⟨v8, M9, fv8, h⟩ := bcall_e h
    have hFM9 : Fr [34, 35, 36, 37, 38] [(0, 0), (32, 2), (32, 8)] M M9 := hFM6.trans ((w_Ou_costOf fv8).mono (by simp) (by simp))
    cases h; exact hFM9
theorem w_PP_price_21  {a1 a2 s1 s2 : Int} {M : Mem} {r : Int × Mem} (h : k_PP_price_21 a1 a2 s1 s2 M = some r) : Fr [89] [(0, 0)] M r.2 := by
  unfold k_PP_price_21 at h
  have hFM : Fr [89] [(0, 0)] M M := Fr.rfl'
  obtain ⟨v1, M2, fv1, h⟩ := bcall_e h
  have hFM2 : Fr [89] [(0, 0)] M M2 := hFM.trans ((w_PP_passes fv1).mono (by simp) (by simp))
  rcases ite_e h with ⟨c3, h⟩ | ⟨c3, h⟩
  · skip
    cases h; exact hFM2
  · skip
    obtain ⟨c4, h⟩ := chk_e h
    obtain ⟨M5, eM5, h⟩ := blet_e h
    have hFM5 : Fr [89] [(0, 0)] M M5 := by rw [eM5]; exact hFM2.stoA (by simp)
    cases h; exact hFM5
theorem w_PP_price_20  {a1 a2 s1 : Int} {M : Mem} {r : Int × Mem} (h : k_PP_price_20 a1 a2 s1 M = some r) : Fr [89] [(0, 0)] M r.2 := by
  unfold k_PP_price_20 at h
  have hFM : Fr [89] [(0, 0)] M M := Fr.rfl'
  exact hFM.trans (w_PP_price_21 h)
theorem w_PP_price {a1 a2 : Int} {M : Mem} {r : Int × Mem} (h : d_PP_price a1 a2 M = some r) : Fr [89] [(0, 0)] M r.2 := by
  unfold d_PP_price at h
  have hFM : Fr [89] [(0, 0)] M M := Fr.rfl'
  obtain ⟨v1, M2, fv1, h⟩ := bcall_e h
  have hFM2 : Fr [89] [(0, 0)] M M2 := hFM.trans ((w_PP_isWeek fv1).mono (by simp) (by simp))
  rcases ite_e h with ⟨c3, h⟩ | ⟨c3, h⟩
  · skip
    exact hFM2.trans (w_PP_price_20 h)
  · skip
    obtain ⟨v4, M5, fv4, h⟩ := bcall_e h
    have hFM5 : Fr [89] [(0, 0)] M M5 := hFM2.trans ((w_PP_isPence fv4).mono (by simp) (by simp))
    rcases ite_e h with ⟨c6, h⟩ | ⟨c6, h⟩
    · skip
      exact hFM5.trans (w_PP_price_20 h)
    · skip
      exact hFM5.trans (w_PP_price_21 h)
theorem w_PP_rules_27  {a1 a2 s1 s2 : Int} {M : Mem} {r : Int × Mem} (h : k_PP_rules_27 a1 a2 s1 s2 M = some r) : Fr [] [(0, 0), (88, 1), (88, 2)] M r.2 := by
  unfold k_PP_rules_27 at h
  have hFM : Fr [] [(0, 0), (88, 1), (88, 2)] M M := Fr.rfl'
  obtain ⟨v1, M2, fv1, h⟩ := bcall_e h
  have hFM2 : Fr [] [(0, 0), (88, 1), (88, 2)] M M2 := hFM.trans ((w_PP_passes fv1).mono (by simp) (by simp))
  rcases ite_e h with ⟨c3, h⟩ | ⟨c3, h⟩
  · skip
    cases h; exact hFM2
  · skip
    obtain ⟨M4, eM4, h⟩ := blet_e h
    have hFM4 : Fr [] [(0, 0), (88, 1), (88, 2)] M M4 := by rw [eM4]; exact hFM2.stoF (by simp)
    obtain ⟨M5, eM5, h⟩ := blet_e h
    have hFM5 : Fr [] [(0, 0), (88, 1), (88, 2)] M M5 := by rw [eM5]; exact hFM4.stoF (by simp)
    cases h; exact hFM5
theorem w_PP_rules_26  {a1 a2 s1 : Int} {M : Mem} {r : Int × Mem} (h : k_PP_rules_26 a1 a2 s1 M = some r) : Fr [] [(0, 0), (88, 1), (88, 2)] M r.2 := by
  unfold k_PP_rules_26 at h
  have hFM : Fr [] [(0, 0), (88, 1), (88, 2)] M M := Fr.rfl'
  exact hFM.trans (w_PP_rules_27 h)
theorem w_PP_rules {a1 a2 : Int} {M : Mem} {r : Int × Mem} (h : d_PP_rules a1 a2 M = some r) : Fr [] [(0, 0), (88, 1), (88, 2)] M r.2 := by
  unfold d_PP_rules at h
  have hFM : Fr [] [(0, 0), (88, 1), (88, 2)] M M := Fr.rfl'
  obtain ⟨v1, M2, fv1, h⟩ := bcall_e h
  have hFM2 : Fr [] [(0, 0), (88, 1), (88, 2)] M M2 := hFM.trans ((w_PP_isIn fv1).mono (by simp) (by simp))
  rcases ite_e h with ⟨c3, h⟩ | ⟨c3, h⟩
  · skip
    exact hFM2.trans (w_PP_rules_26 h)
  · skip
    obtain ⟨v4, M5, fv4, h⟩ := bcall_e h
    have hFM5 : Fr [] [(0, 0), (88, 1), (88, 2)] M M5 := hFM2.trans ((w_PP_isIn fv4).mono (by simp) (by simp))
    rcases ite_e h with ⟨c6, h⟩ | ⟨c6, h⟩
    · skip
      exact hFM5.trans (w_PP_rules_26 h)
    · skip
      exact hFM5.trans (w_PP_rules_27 h)
