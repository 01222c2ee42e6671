/-! the invariant, and what keeps it -/
theorem Fr.cat {A B : List Nat} {K L : List (Nat × Nat)} {M M1 M2 : Mem} (h1 : Fr A K M M1) (h2 : Fr B L M1 M2) : Fr (A ++ B) (K ++ L) M M2 := by
  intro c hc j hj
  rw [List.mem_append, not_or] at hc hj
  rw [h2 c hc.2 j hj.2, h1 c hc.1 j hj.1]
def tL : List Nat := [2, 3, 4, 112, 113, 114]
def nL : List Nat := [114]
def xL : List Nat := [56, 146]
def xK : List (Nat × Nat) := [(55, 1), (55, 2), (55, 3), (111, 44), (111, 46), (111, 47)]
def wL : List Nat := [65, 180]
def wK : List (Nat × Nat) := [(62, 2), (111, 107)]
theorem IvT.on {A : List Nat} {K : List (Nat × Nat)} {M M' : Mem} (h : IvT M) (hF : Fr A K M M') (h1 : ∀ c ∈ tL, c ∉ A ∧ ∀ q ∈ K, q.1 ≠ c) : IvT M' := by
  have g := hF.ag (K := []) h1 (by simp)
  exact h.cong (g.c 2 (by decide)) (g.c 3 (by decide)) (g.c 4 (by decide)) (g.c 112 (by decide)) (g.c 113 (by decide)) (g.c 114 (by decide))
theorem IvN.on {A : List Nat} {K : List (Nat × Nat)} {M M' : Mem} (h : IvN M) (hF : Fr A K M M') (h1 : ∀ c ∈ nL, c ∉ A ∧ ∀ q ∈ K, q.1 ≠ c) : IvN M' := by
  have g := hF.ag (K := []) h1 (by simp)
  unfold IvN at h ⊢; rw [g.c 114 (by decide)]; exact h
theorem IvX.on {A : List Nat} {K : List (Nat × Nat)} {M M' : Mem} (h : IvX M) (hF : Fr A K M M') (h1 : ∀ c ∈ xL, c ∉ A ∧ ∀ q ∈ K, q.1 ≠ c) (h2 : ∀ q ∈ xK, q.1 ∉ A ∧ q ∉ K) : IvX M' := by
  have g := hF.ag h1 h2
  unfold IvX at h ⊢
  rw [g.c 56 (by decide), g.c 146 (by decide), g.f 55 1 (by decide), g.f 55 2 (by decide), g.f 55 3 (by decide), g.f 111 44 (by decide), g.f 111 46 (by decide), g.f 111 47 (by decide)]
  exact h
theorem IvW.on {A : List Nat} {K : List (Nat × Nat)} {M M' : Mem} (h : IvW M) (hF : Fr A K M M') (h1 : ∀ c ∈ wL, c ∉ A ∧ ∀ q ∈ K, q.1 ≠ c) (h2 : ∀ q ∈ wK, q.1 ∉ A ∧ q ∉ K) : IvW M' := by
  have g := hF.ag h1 h2
  unfold IvW at h ⊢
  rw [g.c 65 (by decide), g.c 180 (by decide), g.f 62 2 (by decide), g.f 111 107 (by decide)]
  exact h
theorem IvA.on {F : Nat → Int → (Nat → Int) → Int} {A : List Nat} {K : List (Nat × Nat)} {M M' : Mem} (h : IvA F M) (hF : Fr A K M M') (h1 : ∀ c ∈ TxL, c ∉ A ∧ ∀ q ∈ K, q.1 ≠ c) (h2 : ∀ q ∈ TxK, q.1 ∉ A ∧ q ∉ K) : IvA F M' := h.ag (hF.ag h1 h2)
/-- what holds between two calls -/
def Inv (M : Mem) : Prop := M 0 0 = M 111 0 ∧ IvT M ∧ IvN M ∧ IvP M ∧ IvO M ∧ IvM M ∧ IvE M ∧ IvX M ∧ IvW M ∧ ∃ F, IvA F M ∧ IvG F M
theorem IvO.up {M M' : Mem} (h : IvO M) (g : Ag oL [(98, 0), (111, 88)] M M') (h5 : M 111 5 ≤ M' 111 5) : IvO M' := by
  unfold IvO at h ⊢
  rw [g.c 99 (by decide), g.c 100 (by decide), g.c 101 (by decide), g.c 102 (by decide), g.c 167 (by decide), g.c 168 (by decide), g.c 169 (by decide), g.c 170 (by decide), g.f 98 0 (by decide), g.f 111 88 (by decide)]
  obtain ⟨a, b, c⟩ := h
  refine ⟨a, b, fun k hk => ?_⟩
  obtain ⟨c1, c2, c3, c4, c5, c6⟩ := c k hk
  exact ⟨c1, c2, c3, c4, ⟨c5.1, by omega⟩, c6⟩
theorem IvE.up {M M' : Mem} (h : IvE M) (g : Ag eL [(15, 0), (15, 1), (111, 7), (111, 9), (111, 10)] M M') (h5 : M 111 5 ≤ M' 111 5) (h6 : M 111 6 ≤ M' 111 6) : IvE M' := by
  unfold IvE Ev at h ⊢
  simp only [g.f 15 0 (by decide), g.f 15 1 (by decide), g.f 111 7 (by decide), g.f 111 9 (by decide), g.f 111 10 (by decide)]
  simp only [g.c 16 (by decide), g.c 17 (by decide), g.c 18 (by decide), g.c 19 (by decide), g.c 20 (by decide), g.c 21 (by decide), g.c 22 (by decide), g.c 23 (by decide), g.c 24 (by decide), g.c 25 (by decide), g.c 26 (by decide), g.c 120 (by decide), g.c 121 (by decide), g.c 122 (by decide), g.c 123 (by decide), g.c 124 (by decide), g.c 125 (by decide), g.c 126 (by decide), g.c 127 (by decide), g.c 128 (by decide), g.c 129 (by decide)]
  obtain ⟨a1, a2, a3, a4, a5, a6, a7, a8, a9⟩ := h
  refine ⟨a1, a2, a3, a4, a5, a6, a7, fun k hk => ?_, a9⟩
  obtain ⟨b1, b2, b3, b4, b5, b6, b7, b8, b9, b⟩ := a8 k hk
  refine ⟨b1, b2, b3, b4, b5, b6, b7, b8, b9, ?_⟩
  rcases b with ⟨d1, d2, d3, d4, d5, d6⟩ | ⟨d1, d2, d3, d4, d5, d6⟩ | d | ⟨d1, d2, d3, d4, d5⟩
  · exact Or.inl ⟨d1, d2, d3, ⟨d4.1, by omega⟩, ⟨d5.1, by omega⟩, d6⟩
  · exact Or.inr (Or.inl ⟨d1, d2, d3, d4, ⟨d5.1, by omega⟩, d6⟩)
  · exact Or.inr (Or.inr (Or.inl d))
  · exact Or.inr (Or.inr (Or.inr ⟨d1, d2, d3, ⟨d4.1, by omega⟩, d5⟩))
def ggL : List Nat := [27, 28, 29, 30, 31, 130, 131, 132, 133]
theorem IvG.mv {F : Nat → Int → (Nat → Int) → Int} {M M2 : Mem} (h : IvG F M) (g0 : Ag ggL [(15, 13), (111, 8)] M M2) (k7 : M 111 7 ≤ M2 111 7) (hr : ∀ k : Nat, (k : Int) < M 111 7 → M 120 k = 0 → M2 120 k = M 120 k ∧ M2 121 k = M 121 k ∧ M2 126 k = M 126 k ∧ M2 127 k = M 127 k ∧ M2 128 k = M 128 k ∧ M2 115 (M 121 k).toNat = M 115 (M 121 k).toNat) : IvG F M2 := by
  unfold IvG at h ⊢
  rw [g0.f 15 13 (by decide), g0.f 111 8 (by decide)]
  obtain ⟨a, b, c⟩ := h
  refine ⟨a, b, fun g hg => ?_⟩
  obtain ⟨d, e⟩ := c g hg
  unfold Gr at d ⊢
  obtain ⟨d1, d2, d3, d4, d5, d6, d7⟩ := d
  obtain ⟨x1, x2, x3, x4, x5, x6⟩ := hr (M 130 g).toNat (by omega) d6
  unfold rkE netS at e ⊢
  rw [g0.c 27 (by decide), g0.c 28 (by decide), g0.c 29 (by decide), g0.c 30 (by decide), g0.c 31 (by decide), g0.c 130 (by decide), g0.c 131 (by decide), g0.c 132 (by decide), g0.c 133 (by decide), x1, x2, x3, x4, x5, x6]
  exact ⟨⟨d1, d2, d3, d4, ⟨d5.1, by omega⟩, d6, d7⟩, e⟩
/-- the rows of events that are there stay -/
def Kp (M M2 : Mem) : Prop := M 111 7 ≤ M2 111 7 ∧ ∀ k : Nat, (k : Int) < M 111 7 → M2 120 k = M 120 k ∧ M2 121 k = M 121 k ∧ M2 126 k = M 126 k ∧ M2 127 k = M 127 k ∧ M2 128 k = M 128 k
theorem Kp.no {M : Mem} {c : Int} : Kp M (sto (sto M 111 1 0) 111 0 c) := ⟨by simp only [sto_c, Nat.reduceEqDiff, reduceIte, eq_self, if_true]; omega, fun k hk => by simp only [sto_c, Nat.reduceEqDiff, reduceIte, eq_self, if_true]; exact ⟨trivial, trivial, trivial, trivial, trivial⟩⟩
theorem Kp.ok {M : Mem} {h7 : 0 ≤ M 111 7} {v0 v1 v2 v3 v4 v5 v6 v7 v8 v9 z x : Int} : Kp M (sto (sto (sto (sto (sto (sto (sto (sto (sto (sto (sto (sto (sto (sto (sto M 111 1 0) 111 0 0) 120 (M 111 7).toNat v0) 121 (M 111 7).toNat v1) 122 (M 111 7).toNat v2) 123 (M 111 7).toNat v3) 124 (M 111 7).toNat v4) 125 (M 111 7).toNat v5) 126 (M 111 7).toNat v6) 127 (M 111 7).toNat v7) 128 (M 111 7).toNat v8) 129 (M 111 7).toNat v9) 111 7 (M 111 7 + 1)) 111 10 z) 111 9 x) := by
  refine ⟨by simp only [sto_c, Nat.reduceEqDiff, reduceIte, eq_self, if_true]; omega, fun k hk => ?_⟩
  have q : k ≠ (M 111 7).toNat := by omega
  simp only [sto_c, Nat.reduceEqDiff, reduceIte, eq_self, if_true, if_neg q]
  exact ⟨trivial, trivial, trivial, trivial, trivial⟩
theorem kp_ite {c : Prop} [Decidable c] {M : Mem} {x : Int} {v : Int} {e : Res} {r : Int × Mem} (h : (if c then some (v, sto (sto M 111 1 0) 111 0 x) else e) = some r) (k : e = some r → Kp M r.2) : Kp M r.2 := by
  rcases ite_e h with ⟨-, h⟩ | ⟨-, h⟩
  · cases h; exact Kp.no
  · exact k h
theorem kp_load {M : Mem} {a1 a2 a3 a4 a5 a6 : Int} {r : Int × Mem} (i1 : I32 a1) (i2 : I32 a2) (i3 : I32 a3) (i4 : I32 a4) (i5 : I32 a5) (i6 : I32 a6) (hf : 0 ≤ M 111 5 ∧ M 111 5 ≤ 20) (he : 0 ≤ M 111 6 ∧ M 111 6 ≤ 8) (hj : 0 ≤ M 111 7 ∧ M 111 7 ≤ 120) (hl : 0 ≤ M 111 9 ∧ M 111 9 ≤ 519) (hw : 0 ≤ M 111 10 ∧ M 111 10 ≤ 519) (h : d_Mo_load a1 a2 a3 a4 a5 a6 M = some r) : Kp M r.2 := by
  rw [r_load i1 i2 i3 i4 i5 i6 hf he hj hl hw] at h
  refine kp_ite h fun h => kp_ite h fun h => kp_ite h fun h => kp_ite h fun h => ?_
  cases h; exact Kp.ok (h7 := hj.1)
theorem kp_car {M : Mem} {a1 a2 a3 a4 a5 a6 a7 : Int} {r : Int × Mem} (i1 : I32 a1) (i2 : I32 a2) (i3 : I32 a3) (i4 : I32 a4) (i5 : I32 a5) (i6 : I32 a6) (i7 : I32 a7) (hf : 0 ≤ M 111 5 ∧ M 111 5 ≤ 20) (he : 0 ≤ M 111 6 ∧ M 111 6 ≤ 8) (hj : 0 ≤ M 111 7 ∧ M 111 7 ≤ 120) (hl : 0 ≤ M 111 9 ∧ M 111 9 ≤ 519) (hw : 0 ≤ M 111 10 ∧ M 111 10 ≤ 519) (h : d_Mo_car a1 a2 a3 a4 a5 a6 a7 M = some r) : Kp M r.2 := by
  rw [r_car i1 i2 i3 i4 i5 i6 i7 hf he hj hl hw] at h
  refine kp_ite h fun h => kp_ite h fun h => kp_ite h fun h => kp_ite h fun h => ?_
  cases h; exact Kp.ok (h7 := hj.1)
theorem kp_sale {M : Mem} {a1 a2 a3 a4 a5 a6 a7 : Int} {r : Int × Mem} (i1 : I32 a1) (i2 : I32 a2) (i3 : I32 a3) (i4 : I32 a4) (i5 : I32 a5) (i6 : I32 a6) (i7 : I32 a7) (hf : 0 ≤ M 111 5 ∧ M 111 5 ≤ 20) (he : 0 ≤ M 111 6 ∧ M 111 6 ≤ 8) (hj : 0 ≤ M 111 7 ∧ M 111 7 ≤ 120) (hl : 0 ≤ M 111 9 ∧ M 111 9 ≤ 519) (hw : 0 ≤ M 111 10 ∧ M 111 10 ≤ 519) (h : d_Mo_sale a1 a2 a3 a4 a5 a6 a7 M = some r) : Kp M r.2 := by
  rw [r_sale i1 i2 i3 i4 i5 i6 i7 hf he hj hl hw] at h
  refine kp_ite h fun h => kp_ite h fun h => kp_ite h fun h => kp_ite h fun h => ?_
  cases h; exact Kp.ok (h7 := hj.1)
theorem kp_spoil {M : Mem} {a1 a2 a3 a4 a5 a6 : Int} {r : Int × Mem} (i1 : I32 a1) (i2 : I32 a2) (i3 : I32 a3) (i4 : I32 a4) (i5 : I32 a5) (i6 : I32 a6) (hf : 0 ≤ M 111 5 ∧ M 111 5 ≤ 20) (he : 0 ≤ M 111 6 ∧ M 111 6 ≤ 8) (hj : 0 ≤ M 111 7 ∧ M 111 7 ≤ 120) (hl : 0 ≤ M 111 9 ∧ M 111 9 ≤ 519) (hw : 0 ≤ M 111 10 ∧ M 111 10 ≤ 519) (h : d_Mo_spoil a1 a2 a3 a4 a5 a6 M = some r) : Kp M r.2 := by
  rw [r_spoil i1 i2 i3 i4 i5 i6 hf he hj hl hw] at h
  refine kp_ite h fun h => kp_ite h fun h => kp_ite h fun h => kp_ite h fun h => ?_
  cases h; exact Kp.ok (h7 := hj.1)
/-- from the reference's own memory to the first one -/
theorem Kp.from {A : List Nat} {K : List (Nat × Nat)} {M M1 M2 : Mem} (h : Kp M1 M2) (hF : Fr A K M M1) (h1 : ∀ c ∈ [111, 120, 121, 126, 127, 128], c ∉ A ∧ ∀ q ∈ K, q.1 ≠ c) : Kp M M2 := by
  have g := hF.ag (K := []) h1 (by simp)
  unfold Kp at h ⊢
  rw [g.c 111 (by decide), g.c 120 (by decide), g.c 121 (by decide), g.c 126 (by decide), g.c 127 (by decide), g.c 128 (by decide)] at h
  exact h
theorem farm_up {M : Mem} {a1 a2 a3 : Int} {r : Int × Mem} (i1 : I32 a1) (i2 : I32 a2) (i3 : I32 a3) (hf : 0 ≤ M 111 5 ∧ M 111 5 ≤ 20) (h : d_Mo_farm a1 a2 a3 M = some r) : M 111 5 ≤ r.2 111 5 ∧ ∀ k : Nat, (k : Int) < M 111 5 → r.2 115 k = M 115 k := by
  rw [r_farm i1 i2 i3 hf] at h
  have no : ∀ x : Int, M 111 5 ≤ (sto (sto M 111 1 0) 111 0 x) 111 5 ∧ ∀ k : Nat, (k : Int) < M 111 5 → (sto (sto M 111 1 0) 111 0 x) 115 k = M 115 k := fun x => ⟨by simp only [sto_c, Nat.reduceEqDiff, reduceIte, eq_self, if_true]; omega, fun k hk => by simp only [sto_c, Nat.reduceEqDiff, reduceIte, eq_self, if_true]⟩
  rcases ite_e h with ⟨-, h⟩ | ⟨-, h⟩
  · cases h; exact no 2
  rcases ite_e h with ⟨-, h⟩ | ⟨-, h⟩
  · cases h; exact no 5
  rcases ite_e h with ⟨-, h⟩ | ⟨-, h⟩
  · cases h; exact no 7
  cases h
  refine ⟨by simp only [sto_c, Nat.reduceEqDiff, reduceIte, eq_self, if_true]; omega, fun k hk => ?_⟩
  have q : k ≠ (M 111 5).toNat := by omega
  simp only [sto_c, Nat.reduceEqDiff, reduceIte, eq_self, if_true, if_neg q]
theorem elev_up {M : Mem} {a1 a2 : Int} {r : Int × Mem} (i1 : I32 a1) (i2 : I32 a2) (hf : 0 ≤ M 111 6 ∧ M 111 6 ≤ 8) (h : d_Mo_elevator a1 a2 M = some r) : M 111 6 ≤ r.2 111 6 := by
  rw [r_elevator i1 i2 hf] at h
  have no : ∀ x : Int, M 111 6 ≤ (sto (sto M 111 1 0) 111 0 x) 111 6 := fun x => by simp only [sto_c, Nat.reduceEqDiff, reduceIte, eq_self, if_true]; omega
  rcases ite_e h with ⟨-, h⟩ | ⟨-, h⟩
  · cases h; exact no 2
  rcases ite_e h with ⟨-, h⟩ | ⟨-, h⟩
  · cases h; exact no 5
  rcases ite_e h with ⟨-, h⟩ | ⟨-, h⟩
  · cases h; exact no 7
  cases h
  simp only [sto_c, Nat.reduceEqDiff, reduceIte, eq_self, if_true]; omega
/-- numbers of trays fit a long -/
def Lg (v : Int) : Prop := -9223372036854775808 ≤ v ∧ v < 9223372036854775808
theorem IvN.st {M : Mem} {k j : Nat} {v : Int} (h : IvN M) (hv : k = 114 → Lg v) : IvN (sto M k j v) := by
  intro i hi
  by_cases e : k = 114
  · subst e
    rw [sto_c]
    split
    · split
      · exact hv rfl
      · exact h i hi
    · exact h i hi
  · rw [sto_r (fun z => e z.symm)]; exact h i hi
theorem n_tray_74 {R : Int → Int → Int → Mem → Res} (hR : ∀ (a1 a3 a4 : Int) (M : Mem) (r : Int × Mem), R a1 a3 a4 M = some r → IvN M → IvN r.2) {a1 a3 a4 : Int} {M : Mem} {r : Int × Mem} (h : k_Mo_tray_74 R a1 a3 a4 M = some r) (hN : IvN M) : IvN r.2 := by
  unfold k_Mo_tray_74 at h
  rcases ite_e h with ⟨c1, h⟩ | ⟨c1, h⟩
  · obtain ⟨c2, h⟩ := chk_e h
    obtain ⟨M3, eM3, h⟩ := blet_e h
    obtain ⟨v4, ev4, h⟩ := blet_e h
    exact hR _ _ _ _ _ h (by rw [eM3]; exact hN.st (fun _ => by unfold Lg; omega))
  · cases h; exact hN
theorem nl_tray_74 : ∀ (n : Nat) (a1 a3 a4 : Int) (M : Mem) (r : Int × Mem), fix (fun _ _ _ _ => none) (k_Mo_tray_74) n a1 a3 a4 M = some r → IvN M → IvN r.2 := by
  intro n
  induction n with
  | zero => intro a1 a3 a4 M r h; exact nomatch (show (none : Res) = some r from h)
  | succ n ih => intro a1 a3 a4 M r h hN; exact n_tray_74 ih h hN
theorem n_no {M : Mem} {k v : Int} {M9 : Mem} (h : d_Mo_no k M = some (v, M9)) (hN : IvN M) : IvN M9 := hN.on (w_Mo_no h) (by decide)
theorem n_tray_28 {M : Mem} {r : Int × Mem} (h : k_Mo_tray_28 M = some r) (hN : IvN M) : IvN r.2 := by
  unfold k_Mo_tray_28 at h
  obtain ⟨v1, M2, fv1, h⟩ := bcall_e h
  obtain ⟨c3, h⟩ := chk_e h
  cases h; exact n_no fv1 hN
theorem n_tray {a1 a2 a3 : Int} {M : Mem} {r : Int × Mem} (h : d_Mo_tray a1 a2 a3 M = some r) (hN : IvN M) : IvN r.2 := by
  unfold d_Mo_tray at h
  obtain ⟨M1, eM1, h⟩ := blet_e h
  have h1 : IvN M1 := by rw [eM1]; exact hN.st (fun z => absurd z (by decide))
  obtain ⟨M2, eM2, h⟩ := blet_e h
  have h2 : IvN M2 := by rw [eM2]; exact h1.st (fun z => absurd z (by decide))
  rcases ite_e h with ⟨c3, h⟩ | ⟨c3, h⟩
  · exact n_tray_28 h h2
  rcases ite_e h with ⟨c4, h⟩ | ⟨c4, h⟩
  rotate_left
  · exact n_tray_28 h h2
  rcases ite_e h with ⟨c5, h⟩ | ⟨c5, h⟩
  · exact n_tray_28 h h2
  rcases ite_e h with ⟨c6, h⟩ | ⟨c6, h⟩
  · exact n_tray_28 h h2
  rcases ite_e h with ⟨c7, h⟩ | ⟨c7, h⟩
  · obtain ⟨v8, M9, fv8, h⟩ := bcall_e h
    obtain ⟨c10, h⟩ := chk_e h
    cases h; exact n_no fv8 h2
  rcases ite_e h with ⟨c11, h⟩ | ⟨c11, h⟩
  · obtain ⟨v12, M13, fv12, h⟩ := bcall_e h
    obtain ⟨c14, h⟩ := chk_e h
    cases h; exact n_no fv12 h2
  obtain ⟨c15, h⟩ := chk_e h
  obtain ⟨M16, eM16, h⟩ := blet_e h
  have h16 : IvN M16 := by rw [eM16]; exact h2.st (fun z => absurd z (by decide))
  obtain ⟨c17, h⟩ := chk_e h
  obtain ⟨M18, eM18, h⟩ := blet_e h
  have h18 : IvN M18 := by rw [eM18]; exact h16.st (fun z => absurd z (by decide))
  exact nl_tray_74 FU a1 a3 0 M18 r h h18
theorem cutS_l {s v : Int} (h : Lg v) : Lg (cutS s v) := by
  unfold cutS
  have e : ∀ x : Int, Lg (w32 x) := fun x => by have := w32_lo x; have := w32_hi x; unfold Lg; omega
  split
  · exact e _
  · split
    · exact e _
    · split
      · exact e _
      · exact h
theorem n_write {M : Mem} {a1 a2 a3 : Int} {r : Int × Mem} (i1 : I32 a1) (i2 : I32 a2) (i3 : Lg a3) (hT : TrR (M 113) (M 112)) (h : d_Mo_write a1 a2 a3 M = some r) (hN : IvN M) : IvN r.2 := by
  rw [r_write i1 i2 hT] at h
  rcases ite_e h with ⟨-, h⟩ | ⟨-, h⟩
  · cases h
    exact ((hN.st (fun z => absurd z (by decide))).st (fun z => absurd z (by decide))).st (fun _ => cutS_l i3)
  · cases h
    exact (hN.st (fun z => absurd z (by decide))).st (fun z => absurd z (by decide))
theorem n_pour {M M1 M2 : Mem} {a1 a2 a3 a4 a5 v w : Int} (i1 : I32 a1) (i2 : I32 a2) (i3 : I32 a3) (i4 : I32 a4) (i5 : I32 a5) (hT : IvT M) (e1 : d_PP_pour a1 a2 a3 a4 a5 M = some (v, M1)) (e2 : d_Mo_pour a1 a2 a3 a4 a5 M1 = some (w, M2)) (hT2 : IvT M2) (hN : IvN M) : IvN M2 := by
  have e3 : M2 4 = M1 4 := (w_Mo_pour e2).c 4 (by decide) (by decide)
  have n4 : ∀ i, i < 160 → Lg (M 4 i) := fun i hi => by rw [hT.2.2 i hi]; exact hN i hi
  intro i hi
  rw [← hT2.2.2 i hi, e3]
  rw [c_pour i1 i2 i3 i4 i5 hT.c] at e1
  by_cases h : poS (M 3) (M 2) a1 a2 a3 a4 a5 = 0
  · rw [if_pos h] at e1
    cases e1
    obtain ⟨q1, q2, q3, q4, q5, q6, q7, q8⟩ := poS_0 h
    have t1 := hT.c a1.toNat (by omega)
    have t3 := hT.c a3.toNat (by omega)
    rw [cpy_c]
    by_cases g : (40 * a3 + a4).toNat ≤ i ∧ i < (40 * a3 + a4).toNat + a5.toNat
    · rw [if_pos g, sto_r (by decide)]; exact n4 _ (by omega)
    · rw [if_neg g, sto_r (by decide)]; exact n4 _ hi
  · rw [if_neg h] at e1
    cases e1
    rw [sto_r (by decide)]; exact n4 _ hi
