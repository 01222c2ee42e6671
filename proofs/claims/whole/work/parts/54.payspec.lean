/-! what is paid, as a reckoning -/
def T4 (M : Mem) (kw : Int) (k : Nat) : Int := pyS M kw (knN M kw) 4 k
def camN (M : Mem) (kw y g : Int) (i : Nat) : Int := sm (fun k => if M 120 k = 2 ∧ M 124 k = g ∧ M 125 k = y then T4 M kw k * M 127 k else 0) i
def brgN (M : Mem) (kw y g f : Int) (i : Nat) : Int := sm (fun k => if M 120 k = 0 ∧ gS M k kw = g ∧ M 121 k = f ∧ M 125 k = y then T4 M kw k else 0) i
def camS (M : Mem) (kw y g : Int) : Int := camN M kw y g (knN M kw)
def brgS (M : Mem) (kw y g : Int) (f : Nat) : Int := brgN M kw y g f (knN M kw)
def brgT (M : Mem) (kw y g : Int) (i : Nat) : Int := sm (fun k => if M 120 k = 0 ∧ gS M k kw = g ∧ M 125 k = y then T4 M kw k else 0) i
def ownS (M : Mem) (kw y : Int) (f : Nat) : Int := sm (fun k => if M 120 k = 0 ∧ M 121 k = (f : Int) ∧ M 125 k = y then T4 M kw k else 0) (knN M kw)
def qE (g y : Int) : Nat → Int := up (up e0 0 g) 3 y
def kepS (F : Nat → Int → (Nat → Int) → Int) (M : Mem) (kw y g : Int) : Int := camS M kw y g * F 2 (52 * y + 51) (qE g y) / 1000
def firS (F : Nat → Int → (Nat → Int) → Int) (y g : Int) : Int := F 1 (52 * y + 51) (qE g y)
def pgS (F : Nat → Int → (Nat → Int) → Int) (M : Mem) (kw y g : Int) : Nat → Int := prtS 20 (camS M kw y g - kepS F M kw y g) (brgS M kw y g)
def fsN (F : Nat → Int → (Nat → Int) → Int) (M : Mem) (kw y : Int) (f n : Nat) : Int := sm (fun g => firS F y g * brgS M kw y g f) n
def paN (F : Nat → Int → (Nat → Int) → Int) (M : Mem) (kw y : Int) (f n : Nat) : Int := sm (fun g => pgS F M kw y g f) n
def lasS (F : Nat → Int → (Nat → Int) → Int) (M : Mem) (kw y : Int) (f : Nat) : Int := paN F M kw y f 6 - fsN F M kw y f 6
def mz (x : Int) : Int := if x < 0 then 0 else x
def belS (F : Nat → Int → (Nat → Int) → Int) (M : Mem) (kw y : Int) : Int := mz (- sm (lasS F M kw y) 20)
def staS (F : Nat → Int → (Nat → Int) → Int) (M : Mem) (kw y : Int) : Int := belS F M kw y * F 3 (52 * y + 51) (qE 0 y) / 1000
def byS (F : Nat → Int → (Nat → Int) → Int) (M : Mem) (kw y : Int) (f : Nat) : Int := if f < 20 then mz (- lasS F M kw y f) else 0
def oweS (F : Nat → Int → (Nat → Int) → Int) (M : Mem) (kw y : Int) : Nat → Int := prtS 20 (belS F M kw y - staS F M kw y) (byS F M kw y)
theorem sm_swap {A : Nat → Nat → Int} {m : Nat} : ∀ n : Nat, sm (fun f => sm (fun k => A f k) m) n = sm (fun k => sm (fun f => A f k) n) m
  | 0 => (sm_0 m (fun _ _ => rfl)).symm
  | n + 1 => by
    rw [sm, sm_swap n, ← sm_add]
    rfl
/-- what is given of the plays and the texts -/
def Gv (F : Nat → Int → (Nat → Int) → Int) (M : Mem) (kw y : Int) : Prop := AskI F M ∧ IvG F M ∧ IvE M ∧ IvP M ∧ (0 ≤ kw ∧ kw ≤ 519) ∧ (0 ≤ y ∧ y ≤ 9)
theorem T4_b {F : Nat → Int → (Nat → Int) → Int} {M : Mem} {kw y : Int} (h : Gv F M kw y) {k : Nat} (hk : k < knN M kw) : 0 ≤ T4 M kw k ∧ T4 M kw k ≤ 100000 ∧ (M 120 k = 0 → T4 M kw k ≤ netS M k ∧ T4 M kw k ≤ 10000) := by
  obtain ⟨hA, hG, hE, hP, -, -⟩ := h
  have hkn := knN_le (M := M) (kw := kw) hE.1.1
  obtain ⟨-, -, -, -, -, -, p7⟩ := PW_py (kw := kw) hA hG hE hP (knN M kw) hkn
  obtain ⟨q1, q2, q3⟩ := p7 k hk
  refine ⟨q1, q2, fun h0 => ?_⟩
  obtain ⟨l1, l2, l3, l4, l5, l6, l7, l8, l9, l10, l11, l12, l13, l14⟩ := (hE.2.2.2.2.2.2.2.1 k (by omega)).load h0
  have := netS_b l11 l12
  have := q3 h0
  unfold T4
  omega
theorem cam_b {F : Nat → Int → (Nat → Int) → Int} {M : Mem} {kw y g : Int} (h : Gv F M kw y) : 0 ≤ camS M kw y g ∧ camS M kw y g ≤ 12000000000 := by
  have hkn := knN_le (M := M) (kw := kw) h.2.2.1.1.1
  have hE1 := h.2.2.1.1
  have q : ∀ k, k < knN M kw → 0 ≤ (if M 120 k = 2 ∧ M 124 k = g ∧ M 125 k = y then T4 M kw k * M 127 k else 0) ∧ (if M 120 k = 2 ∧ M 124 k = g ∧ M 125 k = y then T4 M kw k * M 127 k else 0) ≤ 100000000 := by
    intro k hk
    split
    · rename_i c
      obtain ⟨t0, t1, t2, t3, t4, t5, t6, t7, t8, t9, t10⟩ := (h.2.2.1.2.2.2.2.2.2.2.1 k (by omega)).other (by omega)
      have b := T4_b h hk
      have := mul_b (x := T4 M kw k) (y := M 127 k) (a := 100000) (b := 1000) ⟨b.1, b.2.1⟩ (t8 c.1).2.2.2
      omega
    · omega
  have h1 := sm_nn (knN M kw) (fun k hk => (q k hk).1)
  have h2 := sm_b (knN M kw) (fun k hk => (q k hk).2)
  unfold camS camN
  omega
theorem brg_nn {F : Nat → Int → (Nat → Int) → Int} {M : Mem} {kw y : Int} (h : Gv F M kw y) (g : Int) (f : Nat) : 0 ≤ brgS M kw y g f := by
  refine sm_nn _ (fun k hk => ?_)
  split
  · exact (T4_b h hk).1
  · omega
theorem farm_b {F : Nat → Int → (Nat → Int) → Int} {M : Mem} {kw y : Int} (h : Gv F M kw y) {k : Nat} (hk : k < knN M kw) (h0 : M 120 k = 0) : 0 ≤ M 121 k ∧ M 121 k < M 111 5 := by
  have hkn := knN_le (M := M) (kw := kw) h.2.2.1.1.1
  obtain ⟨l1, l2, l3, l4, l5, l6, l7, l8, l9, l10, l11, l12, l13, l14⟩ := (h.2.2.1.2.2.2.2.2.2.2.1 k (by omega)).load h0
  exact l9
theorem brg_z {F : Nat → Int → (Nat → Int) → Int} {M : Mem} {kw y : Int} (h : Gv F M kw y) (g : Int) {f : Nat} (hf : M 111 5 ≤ (f : Int)) : brgS M kw y g f = 0 := by
  refine sm_0 _ (fun k hk => ?_)
  rw [if_neg]
  intro c
  have := farm_b h hk c.1
  omega
theorem brg_tot {F : Nat → Int → (Nat → Int) → Int} {M : Mem} {kw y : Int} (h : Gv F M kw y) (g : Int) : sm (brgS M kw y g) 20 = brgT M kw y g (knN M kw) := by
  have hp := h.2.2.2.1.1
  show sm (fun f : Nat => sm (fun k => if M 120 k = 0 ∧ gS M k kw = g ∧ M 121 k = (f : Int) ∧ M 125 k = y then T4 M kw k else 0) (knN M kw)) 20 = _
  rw [sm_swap]
  refine sm_ext _ (fun k hk => ?_)
  by_cases c : M 120 k = 0 ∧ gS M k kw = g ∧ M 125 k = y
  · rw [if_pos c]
    refine Eq.trans (sm_ext 20 (fun f hf => ?_)) (sm_one (h := fun _ => T4 M kw k) (j := (M 121 k).toNat) (n := 20) (by have := farm_b h hk c.1; omega))
    have := farm_b h hk c.1
    by_cases d : f = (M 121 k).toNat
    · rw [if_pos d, if_pos ⟨c.1, c.2.1, by omega, c.2.2⟩]
    · rw [if_neg d, if_neg (fun q => d (by omega))]
  · rw [if_neg c]
    exact sm_0 _ (fun f hf => if_neg (fun q => c ⟨q.1, q.2.1, q.2.2.2⟩))
theorem brgT_b {F : Nat → Int → (Nat → Int) → Int} {M : Mem} {kw y : Int} (h : Gv F M kw y) (g : Int) : 0 ≤ brgT M kw y g (knN M kw) ∧ brgT M kw y g (knN M kw) ≤ 1200000 := by
  have hkn := knN_le (M := M) (kw := kw) h.2.2.1.1.1
  have hE1 := h.2.2.1.1
  have q : ∀ k, k < knN M kw → 0 ≤ (if M 120 k = 0 ∧ gS M k kw = g ∧ M 125 k = y then T4 M kw k else 0) ∧ (if M 120 k = 0 ∧ gS M k kw = g ∧ M 125 k = y then T4 M kw k else 0) ≤ 10000 := by
    intro k hk
    split
    · rename_i c; have b := T4_b h hk; exact ⟨b.1, (b.2.2 c.1).2⟩
    · omega
  have h1 := sm_nn (knN M kw) (fun k hk => (q k hk).1)
  have h2 := sm_b (knN M kw) (fun k hk => (q k hk).2)
  unfold brgT
  omega
theorem own_g {F : Nat → Int → (Nat → Int) → Int} {M : Mem} {kw y : Int} (h : Gv F M kw y) (f : Nat) : sm (fun g : Nat => brgS M kw y g f) 6 = ownS M kw y f := by
  show sm (fun g : Nat => sm (fun k => if M 120 k = 0 ∧ gS M k kw = (g : Int) ∧ M 121 k = (f : Int) ∧ M 125 k = y then T4 M kw k else 0) (knN M kw)) 6 = _
  rw [sm_swap]
  refine sm_ext _ (fun k hk => ?_)
  have hg := gS_r h.1 h.2.1 (k := k) (kw := kw)
  by_cases c : M 120 k = 0 ∧ M 121 k = (f : Int) ∧ M 125 k = y
  · rw [if_pos c]
    refine Eq.trans (sm_ext 6 (fun g hf => ?_)) (sm_one (h := fun _ => T4 M kw k) (j := (gS M k kw).toNat) (n := 6) (by omega))
    by_cases d : g = (gS M k kw).toNat
    · rw [if_pos d, if_pos ⟨c.1, by omega, c.2.1, c.2.2⟩]
    · rw [if_neg d, if_neg (fun q => d (by omega))]
  · rw [if_neg c]
    exact sm_0 _ (fun f hf => if_neg (fun q => c ⟨q.1, q.2.2.1, q.2.2.2⟩))
theorem own_nn {F : Nat → Int → (Nat → Int) → Int} {M : Mem} {kw y : Int} (h : Gv F M kw y) (f : Nat) : 0 ≤ ownS M kw y f := by
  rw [← own_g h]; exact sm_nn 6 (fun g _ => brg_nn h g f)
theorem own_tot {F : Nat → Int → (Nat → Int) → Int} {M : Mem} {kw y : Int} (h : Gv F M kw y) : sm (ownS M kw y) 20 ≤ 1200000 := by
  have hp := h.2.2.2.1.1
  have hkn := knN_le (M := M) (kw := kw) h.2.2.1.1.1
  have hE1 := h.2.2.1.1
  have e : sm (ownS M kw y) 20 = sm (fun k => sm (fun f : Nat => if M 120 k = 0 ∧ M 121 k = (f : Int) ∧ M 125 k = y then T4 M kw k else 0) 20) (knN M kw) := sm_swap 20
  rw [e]
  have q : ∀ k, k < knN M kw → sm (fun f : Nat => if M 120 k = 0 ∧ M 121 k = (f : Int) ∧ M 125 k = y then T4 M kw k else 0) 20 ≤ 10000 := by
    intro k hk
    by_cases c : M 120 k = 0 ∧ M 125 k = y
    · have b := (T4_b h hk).2.2 c.1
      have fb := farm_b h hk c.1
      rw [sm_ext (v := fun f => if f = (M 121 k).toNat then (fun _ => T4 M kw k) f else 0) 20 (fun f hf => ?_), sm_one (h := fun _ => T4 M kw k) (by omega)]
      · exact b.2
      · by_cases d : f = (M 121 k).toNat
        · rw [if_pos d, if_pos ⟨c.1, by omega, c.2⟩]
        · rw [if_neg d, if_neg (fun q => d (by omega))]
    · rw [sm_0 20 (fun f hf => if_neg (fun q => c ⟨q.1, q.2.2⟩))]; omega
  have h2 := sm_b (knN M kw) q
  omega
theorem kep_b {F : Nat → Int → (Nat → Int) → Int} {M : Mem} {kw y g : Int} (h : Gv F M kw y) : 0 ≤ kepS F M kw y g ∧ kepS F M kw y g ≤ camS M kw y g ∧ 0 ≤ camS M kw y g * F 2 (52 * y + 51) (qE g y) ∧ camS M kw y g * F 2 (52 * y + 51) (qE g y) ≤ 12000000000000 := by
  have hc := cam_b (g := g) h
  have hq : 0 ≤ F 2 (52 * y + 51) (qE g y) ∧ F 2 (52 * y + 51) (qE g y) ≤ 1000 := h.1.2.2.2.1 2 _ _
  have q1 := mul_b (x := camS M kw y g) (y := F 2 (52 * y + 51) (qE g y)) hc hq
  have q2 := mul_b (x := camS M kw y g) (y := F 2 (52 * y + 51) (qE g y)) (a := camS M kw y g) ⟨hc.1, Int.le_refl _⟩ hq
  unfold kepS
  generalize camS M kw y g * F 2 (52 * y + 51) (qE g y) = z at *
  omega
theorem fir_b {F : Nat → Int → (Nat → Int) → Int} {M : Mem} {kw y : Int} (h : Gv F M kw y) (g : Int) : 0 ≤ firS F y g ∧ firS F y g ≤ 1000 := h.1.2.2.2.1 1 _ _
theorem fs_b {F : Nat → Int → (Nat → Int) → Int} {M : Mem} {kw y : Int} (h : Gv F M kw y) (f : Nat) : 0 ≤ fsN F M kw y f 6 ∧ fsN F M kw y f 6 ≤ 1000 * ownS M kw y f := by
  have hq : ∀ g : Nat, 0 ≤ firS F y g * brgS M kw y g f ∧ firS F y g * brgS M kw y g f ≤ 1000 * brgS M kw y g f := fun g =>
    mul_b (fir_b h g) ⟨brg_nn h g f, Int.le_refl _⟩
  constructor
  · exact sm_nn 6 (fun g _ => (hq g).1)
  · rw [← own_g h, ← sm_mul]
    exact sm_le 6 (fun g _ => (hq g).2)
theorem pg_b {F : Nat → Int → (Nat → Int) → Int} {M : Mem} {kw y g : Int} (h : Gv F M kw y) (f : Nat) : 0 ≤ pgS F M kw y g f := by
  have := kep_b (g := g) h
  exact prtS_nn (by omega) (fun f => brg_nn h g f) f
theorem pa_b {F : Nat → Int → (Nat → Int) → Int} {M : Mem} {kw y : Int} (h : Gv F M kw y) (f n : Nat) : 0 ≤ paN F M kw y f n := sm_nn n (fun g _ => pg_b h f)
theorem pg_le {F : Nat → Int → (Nat → Int) → Int} {M : Mem} {kw y g : Int} (h : Gv F M kw y) {f : Nat} (hf : f < 20) : pgS F M kw y g f ≤ 12000000000 := by
  have := kep_b (g := g) h
  have hc := cam_b (g := g) h
  have q := sm_ge (w := pgS F M kw y g) 20 (fun f _ => pg_b h f) f hf
  have e : sm (pgS F M kw y g) 20 = _ := prtS_sum (fun f _ => brg_nn h g f)
  rw [e] at q
  split at q <;> omega
theorem pa_le {F : Nat → Int → (Nat → Int) → Int} {M : Mem} {kw y : Int} (h : Gv F M kw y) {f : Nat} (hf : f < 20) : paN F M kw y f 6 ≤ 72000000000 := by
  have := sm_b (w := fun g : Nat => pgS F M kw y g f) (c := 12000000000) 6 (fun g _ => pg_le h hf)
  unfold paN; omega
theorem own_le {F : Nat → Int → (Nat → Int) → Int} {M : Mem} {kw y : Int} (h : Gv F M kw y) {f : Nat} (hf : f < 20) : ownS M kw y f ≤ 1200000 := by
  have := sm_ge (w := ownS M kw y) 20 (fun f _ => own_nn h f) f hf
  have := own_tot h
  omega
theorem las_b {F : Nat → Int → (Nat → Int) → Int} {M : Mem} {kw y : Int} (h : Gv F M kw y) {f : Nat} (hf : f < 20) : -1200000000 ≤ lasS F M kw y f ∧ lasS F M kw y f ≤ 72000000000 ∧ - (1000 * ownS M kw y f) ≤ lasS F M kw y f := by
  have h1 := fs_b h f
  have h2 := pa_b h f 6
  have h3 := pa_le h hf
  have h4 := own_le h hf
  unfold lasS; omega
theorem tot_b {F : Nat → Int → (Nat → Int) → Int} {M : Mem} {kw y : Int} (h : Gv F M kw y) : -1200000000 ≤ sm (lasS F M kw y) 20 ∧ sm (lasS F M kw y) 20 ≤ 1440000000000 := by
  constructor
  · have h1 : sm (fun f => - (1000 * ownS M kw y f)) 20 ≤ sm (lasS F M kw y) 20 := sm_le 20 (fun f hf => (las_b h hf).2.2)
    have h2 : sm (fun f => - (1000 * ownS M kw y f)) 20 = -1000 * sm (ownS M kw y) 20 := by
      rw [← sm_mul]; exact sm_ext 20 (fun f _ => by omega)
    have h3 := own_tot h
    omega
  · have := sm_b (w := lasS F M kw y) 20 (fun f hf => (las_b h hf).2.1)
    omega
theorem by_b {F : Nat → Int → (Nat → Int) → Int} {M : Mem} {kw y : Int} (h : Gv F M kw y) : (∀ f, 0 ≤ byS F M kw y f) ∧ sm (byS F M kw y) 20 ≤ 1200000000 := by
  constructor
  · intro f; unfold byS mz
    split
    · split <;> omega
    · omega
  · have h1 : sm (byS F M kw y) 20 ≤ sm (fun f => 1000 * ownS M kw y f) 20 := sm_le 20 (fun f hf => by
      have := las_b h hf
      have := own_nn h f
      unfold byS mz; rw [if_pos hf]; split <;> omega)
    rw [sm_mul] at h1
    have h3 := own_tot h
    omega
theorem bel_b {F : Nat → Int → (Nat → Int) → Int} {M : Mem} {kw y : Int} (h : Gv F M kw y) : (0 ≤ belS F M kw y ∧ belS F M kw y ≤ 1200000000) ∧ (0 ≤ staS F M kw y ∧ staS F M kw y ≤ belS F M kw y) ∧ (0 ≤ belS F M kw y * F 3 (52 * y + 51) (qE 0 y) ∧ belS F M kw y * F 3 (52 * y + 51) (qE 0 y) ≤ 1200000000000) := by
  have ht := tot_b h
  have hb : 0 ≤ belS F M kw y ∧ belS F M kw y ≤ 1200000000 := by unfold belS mz; split <;> omega
  have hq : 0 ≤ F 3 (52 * y + 51) (qE 0 y) ∧ F 3 (52 * y + 51) (qE 0 y) ≤ 1000 := h.1.2.2.2.1 3 _ _
  have q1 := mul_b (x := belS F M kw y) (y := F 3 (52 * y + 51) (qE 0 y)) hb hq
  have q2 := mul_b (x := belS F M kw y) (y := F 3 (52 * y + 51) (qE 0 y)) (a := belS F M kw y) ⟨hb.1, Int.le_refl _⟩ hq
  unfold staS
  generalize belS F M kw y * F 3 (52 * y + 51) (qE 0 y) = z at *
  omega
