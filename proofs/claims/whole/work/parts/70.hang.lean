/-! on whom votes hang: the fewest that gain -/
theorem sm_split1 {w : Nat → Int} {j n : Nat} (hj : j < n) : sm w n = sm (up w j 0) n + w j := by
  rw [sm_up n hj]; omega
/-- farms in an order of falling votes -/
def Ord (n : Nat) (B : Nat → Nat) (v : Nat → Int) : Prop := (∀ j, j < n → B j < n) ∧ (∀ i j, i < n → j < n → B i = B j → i = j) ∧ (∀ f, f < n → ∃ j, j < n ∧ B j = f) ∧ ∀ i j, i ≤ j → j < n → v (B j) ≤ v (B i)
/-- how often f is among the first i -/
def inB (B : Nat → Nat) (i f : Nat) : Int := sm (fun j => if B j = f then 1 else 0) i
theorem inB_sum {n : Nat} {B : Nat → Nat} {h : Nat → Int} (hB : ∀ j, j < n → B j < n) {i : Nat} (hi : i ≤ n) : sm (fun f => h f * inB B i f) n = sm (fun j => h (B j)) i := by
  have e : sm (fun f => h f * inB B i f) n = sm (fun f => sm (fun j => if B j = f then h f else 0) i) n := by
    refine sm_ext n (fun f hf => ?_)
    unfold inB
    rw [← sm_mul]
    refine sm_ext i (fun j hj => ?_)
    split
    · rw [Int.mul_one]
    · rw [Int.mul_zero]
  rw [e, sm_swap]
  refine sm_ext i (fun j hj => ?_)
  refine Eq.trans (sm_ext n (fun f hf => ?_)) (sm_one (h := h) (j := B j) (n := n) (hB j (by omega)))
  by_cases c : B j = f
  · rw [if_pos c, if_pos c.symm]
  · rw [if_neg c, if_neg (fun q => c q.symm)]
theorem inB_01 {n : Nat} {B : Nat → Nat} {v : Nat → Int} (h : Ord n B v) {f : Nat} : ∀ i : Nat, i ≤ n → (inB B i f = 0 ∧ ∀ j, j < i → B j ≠ f) ∨ (inB B i f = 1 ∧ ∃ j, j < i ∧ B j = f)
  | 0, _ => Or.inl ⟨rfl, fun j hj => by omega⟩
  | i + 1, hi => by
    have s : inB B (i + 1) f = inB B i f + (if B i = f then 1 else 0) := rfl
    rcases inB_01 h (f := f) i (by omega) with ⟨h1, h2⟩ | ⟨h1, j, h2, h3⟩
    · by_cases c : B i = f
      · right; rw [s, h1, if_pos c]; exact ⟨rfl, i, by omega, c⟩
      · left; rw [s, h1, if_neg c]
        refine ⟨rfl, fun j hj => ?_⟩
        by_cases d : j = i
        · rw [d]; exact c
        · exact h2 j (by omega)
    · right
      have c : B i ≠ f := fun c => by
        have := h.2.1 i j (by omega) (by omega) (c.trans h3.symm)
        omega
      rw [s, h1, if_neg c]; exact ⟨rfl, j, by omega, h3⟩
/-- taking the greatest first, while the goal is not reached -/
def fgL (B : Nat → Nat) (q v : Nat → Int) (g goal : Int) : Nat → Int × Int
  | 0 => (g, 0)
  | i + 1 => if (fgL B q v g goal i).1 < goal ∧ q (B i) = 1 then ((fgL B q v g goal i).1 + v (B i), (fgL B q v g goal i).2 + 1) else fgL B q v g goal i
def fgS (n : Nat) (B : Nat → Nat) (q v : Nat → Int) (g goal : Int) : Int := if (fgL B q v g goal n).1 < goal then 1000 else (fgL B q v g goal n).2
theorem fgL_mono {B : Nat → Nat} {q v : Nat → Int} {g goal : Int} (hv : ∀ f, 0 ≤ v f) : ∀ i : Nat, (fgL B q v g goal i).1 ≤ (fgL B q v g goal (i + 1)).1 := by
  intro i
  show _ ≤ (if _ then _ else _ : Int × Int).1
  split
  · have := hv (B i); show _ ≤ (fgL B q v g goal i).1 + v (B i); omega
  · exact Int.le_refl _
theorem fgL_b {B : Nat → Nat} {q v : Nat → Int} {g goal : Int} : ∀ i : Nat, 0 ≤ (fgL B q v g goal i).2 ∧ (fgL B q v g goal i).2 ≤ i
  | 0 => by unfold fgL; exact ⟨Int.le_refl _, Int.le_refl _⟩
  | i + 1 => by
    have h := fgL_b (B := B) (q := q) (v := v) (g := g) (goal := goal) i
    unfold fgL
    split
    · show 0 ≤ (fgL B q v g goal i).2 + 1 ∧ (fgL B q v g goal i).2 + 1 ≤ _; omega
    · omega
theorem fgL_lt {B : Nat → Nat} {q v : Nat → Int} {g goal : Int} (hv : ∀ f, 0 ≤ v f) (hq : ∀ f, q f = 0 ∨ q f = 1) : ∀ i : Nat, (fgL B q v g goal i).1 < goal → (fgL B q v g goal i).1 = g + sm (fun j => q (B j) * v (B j)) i ∧ (fgL B q v g goal i).2 = sm (fun j => q (B j)) i
  | 0, _ => by unfold fgL sm; exact ⟨by show g = g + 0; omega, rfl⟩
  | i + 1, h => by
    have hm := fgL_mono (B := B) (q := q) (g := g) (goal := goal) hv i
    have hl : (fgL B q v g goal i).1 < goal := by omega
    obtain ⟨h1, h2⟩ := fgL_lt hv hq i hl
    have s1 : sm (fun j => q (B j) * v (B j)) (i + 1) = sm (fun j => q (B j) * v (B j)) i + q (B i) * v (B i) := rfl
    have s2 : sm (fun j => q (B j)) (i + 1) = sm (fun j => q (B j)) i + q (B i) := rfl
    rw [s1, s2]
    unfold fgL
    rcases hq (B i) with c | c
    · rw [if_neg (fun q => by rw [c] at q; exact absurd q.2 (by decide)), c, Int.zero_mul]
      exact ⟨by omega, by omega⟩
    · rw [if_pos ⟨hl, c⟩, c, Int.one_mul]
      exact ⟨by show (fgL B q v g goal i).1 + v (B i) = _; omega, by show (fgL B q v g goal i).2 + 1 = _; omega⟩
/-- no other takes fewer -/
theorem fg_low {n : Nat} {B : Nat → Nat} {q v a : Nat → Int} {g goal : Int} (hO : Ord n B v) (hv : ∀ f, 0 ≤ v f) (hq : ∀ f, q f = 0 ∨ q f = 1) (ha : ∀ f, f < n → 0 ≤ a f ∧ a f ≤ q f) (hg : goal ≤ g + sm (fun f => a f * v f) n) : fgS n B q v g goal ≤ sm a n := by
  have key : ∀ i : Nat, i < n → (fgL B q v g goal i).1 < goal → (fgL B q v g goal i).2 + 1 ≤ sm a n := by
    intro i hi hl
    obtain ⟨e1, e2⟩ := fgL_lt hv hq i hl
    by_cases c : (fgL B q v g goal i).2 + 1 ≤ sm a n
    · exact c
    · exfalso
      have x1 := inB_sum (h := fun f => q f * v f) hO.1 (i := i) (by omega)
      have x2 := inB_sum (h := q) hO.1 (i := i) (by omega)
      have t : 0 ≤ sm (fun f => (q f * inB B i f - a f) * (v f - v (B i))) n := by
        refine sm_nn n (fun f hf => ?_)
        have haf := ha f hf
        rcases inB_01 hO (f := f) i (by omega) with ⟨h1, h2⟩ | ⟨h1, j, h2, h3⟩
        · rw [h1, Int.mul_zero]
          obtain ⟨j, hj, hjf⟩ := hO.2.2.1 f hf
          have : i ≤ j := by
            by_cases d : i ≤ j
            · exact d
            · exact absurd hjf (h2 j (by omega))
          have hs := hO.2.2.2 i j this hj
          rw [hjf] at hs
          have := Int.mul_nonneg (show 0 ≤ a f by omega) (show 0 ≤ v (B i) - v f by omega)
          rw [show (0 - a f) * (v f - v (B i)) = a f * (v (B i) - v f) by rw [Int.zero_sub, Int.neg_mul, ← Int.mul_neg, Int.neg_sub]]
          exact this
        · rw [h1, Int.mul_one]
          have hs := hO.2.2.2 j i (by omega) hi
          rw [h3] at hs
          exact Int.mul_nonneg (by omega) (by omega)
      have e : sm (fun f => (q f * inB B i f - a f) * (v f - v (B i))) n = (sm (fun j => q (B j) * v (B j)) i - sm (fun f => a f * v f) n) - v (B i) * (sm (fun j => q (B j)) i - sm a n) := by
        rw [← x1, ← x2, ← sm_sub, ← sm_sub, ← sm_mul, ← sm_sub]
        refine sm_ext n (fun f hf => ?_)
        show (q f * inB B i f - a f) * (v f - v (B i)) = (q f * v f * inB B i f - a f * v f) - v (B i) * (q f * inB B i f - a f)
        rw [Int.mul_sub, Int.sub_mul, Int.mul_comm (v (B i)), Int.mul_right_comm]
      rw [e] at t
      have := Int.mul_nonneg (hv (B i)) (show 0 ≤ sm (fun j => q (B j)) i - sm a n by omega)
      omega
  have all : ∀ i : Nat, i ≤ n → ¬ (fgL B q v g goal i).1 < goal → (fgL B q v g goal i).2 ≤ sm a n := by
    intro i; induction i with
    | zero =>
      intro _ _
      show (0 : Int) ≤ _
      exact sm_nn n (fun f hf => (ha f hf).1)
    | succ i ih =>
      intro hi hl
      by_cases c : (fgL B q v g goal i).1 < goal
      · have := key i (by omega) c
        unfold fgL
        split
        · exact this
        · omega
      · have := ih (by omega) c
        unfold fgL
        rw [if_neg (fun h => c h.1)]; exact this
  unfold fgS
  by_cases c : (fgL B q v g goal n).1 < goal
  · exfalso
    obtain ⟨e1, e2⟩ := fgL_lt hv hq n c
    have x1 := inB_sum (h := fun f => q f * v f) hO.1 (i := n) (Nat.le_refl _)
    have le : sm (fun f => a f * v f) n ≤ sm (fun f => q f * v f * inB B n f) n := by
      refine sm_le n (fun f hf => ?_)
      have haf := ha f hf
      rcases inB_01 hO (f := f) n (Nat.le_refl _) with ⟨h1, h2⟩ | ⟨h1, j, h2, h3⟩
      · obtain ⟨j, hj, hjf⟩ := hO.2.2.1 f hf
        exact absurd hjf (h2 j hj)
      · rw [h1, Int.mul_one]
        exact Int.mul_le_mul_of_nonneg_right haf.2 (hv f)
    omega
  · rw [if_neg c]; exact all n (Nat.le_refl _) c
/-- and some do with so many -/
theorem fg_some {n : Nat} {B : Nat → Nat} {q v : Nat → Int} {g goal : Int} (hO : Ord n B v) (hq : ∀ f, q f = 0 ∨ q f = 1) : ∀ i : Nat, i ≤ n → ∃ a : Nat → Int, (∀ f, a f = 0 ∨ (a f = 1 ∧ q f = 1)) ∧ (∀ f, a f = 1 → ∃ j, j < i ∧ B j = f) ∧ sm a n = (fgL B q v g goal i).2 ∧ g + sm (fun f => a f * v f) n = (fgL B q v g goal i).1
  | 0, _ => ⟨fun _ => 0, fun _ => Or.inl rfl, fun f h => absurd (show (0 : Int) = 1 from h) (by decide), sm_0 n (fun _ _ => rfl), by
      rw [sm_0 n (fun f _ => Int.zero_mul _)]; show g + 0 = g; omega⟩
  | i + 1, hi => by
    obtain ⟨a, h1, h2, h3, h4⟩ := fg_some (g := g) (goal := goal) hO hq i (by omega)
    have hBi := hO.1 i (by omega)
    by_cases c : (fgL B q v g goal i).1 < goal ∧ q (B i) = 1
    · have a0 : a (B i) = 0 := by
        rcases h1 (B i) with h | h
        · exact h
        · obtain ⟨j, hj, e⟩ := h2 (B i) h.1
          have := hO.2.1 j i (by omega) (by omega) e
          omega
      refine ⟨up a (B i) 1, fun f => ?_, fun f hf => ?_, ?_, ?_⟩
      · by_cases d : f = B i
        · rw [d, up_e]; exact Or.inr ⟨rfl, c.2⟩
        · rw [up_n d]; exact h1 f
      · by_cases d : f = B i
        · exact ⟨i, by omega, d.symm⟩
        · rw [up_n d] at hf
          obtain ⟨j, hj, e⟩ := h2 f hf
          exact ⟨j, by omega, e⟩
      · unfold fgL; rw [if_pos c, sm_up n hBi, a0, h3]; show _ = (fgL B q v g goal i).2 + 1; omega
      · unfold fgL; rw [if_pos c]
        show _ = (fgL B q v g goal i).1 + v (B i)
        have e : sm (fun f => up a (B i) 1 f * v f) n = sm (up (fun f => a f * v f) (B i) (v (B i))) n := sm_ext n (fun f hf => by
          unfold up; split
          · rename_i d; rw [d, Int.one_mul]
          · rfl)
        rw [e, sm_up n hBi, a0, Int.zero_mul]; omega
    · refine ⟨a, h1, fun f hf => ?_, ?_, ?_⟩
      · obtain ⟨j, hj, e⟩ := h2 f hf
        exact ⟨j, by omega, e⟩
      · unfold fgL; rw [if_neg c]; exact h3
      · unfold fgL; rw [if_neg c]; exact h4
/-- the reckoning district by district: D d s, the fewest with the sum s - 6 over the first d -/
def mn3 (x y : Int) : Int := if y < x then y else x
def dpS (te tw : Nat → Int) : Nat → Nat → Int
  | 0, s => if s = 6 then 0 else 1000
  | d + 1, s => mn3 (if s + 1 < 13 then dpS te tw d (s + 1) else 1000) (mn3 (if 0 < s then dpS te tw d (s - 1) + tw d else 1000) (dpS te tw d s + te d))
theorem mn3_l {x y : Int} : mn3 x y ≤ x := by unfold mn3; split <;> omega
theorem mn3_r {x y : Int} : mn3 x y ≤ y := by unfold mn3; split <;> omega
theorem mn3_or {x y : Int} : mn3 x y = x ∨ mn3 x y = y := by
  unfold mn3; split
  · exact Or.inr rfl
  · exact Or.inl rfl
theorem dp_low {te tw k : Nat → Int} {val : Nat → Int} : ∀ d : Nat, d ≤ 6 → (∀ e, e < d → (val e = 1 ∧ tw e ≤ k e) ∨ (val e = 0 ∧ te e ≤ k e) ∨ (val e = -1 ∧ 0 ≤ k e)) → ∀ s : Nat, (s : Int) = 6 + sm val d → dpS te tw d s ≤ sm k d
  | 0, _, _, s, hs => by
    have : s = 6 := by unfold sm at hs; omega
    rw [this]; exact Int.le_refl _
  | d + 1, hd, h, s, hs => by
    have s1 : sm val (d + 1) = sm val d + val d := rfl
    have s2 : sm k (d + 1) = sm k d + k d := rfl
    have hb : ∀ m, m ≤ d → -(m : Int) ≤ sm val m ∧ sm val m ≤ m := by
      intro m; induction m with
      | zero => intro _; unfold sm; omega
      | succ m ih =>
        intro hm
        have := ih (by omega)
        have e : sm val (m + 1) = sm val m + val m := rfl
        rcases h m (by omega) with q | q | q <;> omega
    have hbd := hb d (Nat.le_refl _)
    have ih := dp_low (te := te) (tw := tw) (k := k) (val := val) d (by omega) (fun e he => h e (by omega))
    rw [s1] at hs
    rw [s2, dpS]
    rcases h d (by omega) with ⟨q1, q2⟩ | ⟨q1, q2⟩ | ⟨q1, q2⟩
    · have := ih (s - 1) (by omega)
      refine Int.le_trans mn3_r (Int.le_trans mn3_l ?_)
      rw [if_pos (by omega)]; omega
    · have := ih s (by omega)
      exact Int.le_trans mn3_r (Int.le_trans mn3_r (by omega))
    · have := ih (s + 1) (by omega)
      refine Int.le_trans mn3_l ?_
      rw [if_pos (by omega)]; omega
theorem dp_nn {te tw : Nat → Int} (h : ∀ e, 0 ≤ te e ∧ 0 ≤ tw e) : ∀ d s : Nat, 0 ≤ dpS te tw d s
  | 0, s => by rw [dpS]; split <;> decide
  | d + 1, s => by
    have h1 := dp_nn h d (s + 1)
    have h2 := dp_nn h d (s - 1)
    have h3 := dp_nn h d s
    have h4 := h d
    rw [dpS]
    rcases mn3_or (x := if s + 1 < 13 then dpS te tw d (s + 1) else 1000) (y := mn3 (if 0 < s then dpS te tw d (s - 1) + tw d else 1000) (dpS te tw d s + te d)) with e | e
    · rw [e]; split <;> omega
    · rw [e]
      rcases mn3_or (x := if 0 < s then dpS te tw d (s - 1) + tw d else 1000) (y := dpS te tw d s + te d) with e | e
      · rw [e]; split <;> omega
      · rw [e]; omega
theorem dp_some {te tw : Nat → Int} (hn : ∀ e, 0 ≤ te e ∧ 0 ≤ tw e) : ∀ d s : Nat, d ≤ 6 → dpS te tw d s < 1000 → ∃ val k : Nat → Int, (∀ e, e < d → (val e = 1 ∧ k e = tw e) ∨ (val e = 0 ∧ k e = te e) ∨ (val e = -1 ∧ k e = 0)) ∧ (s : Int) = 6 + sm val d ∧ dpS te tw d s = sm k d
  | 0, s, _, h => by
    rw [dpS] at h ⊢
    by_cases c : s = 6
    · refine ⟨fun _ => 0, fun _ => 0, fun e he => by omega, by rw [c]; rfl, ?_⟩
      rw [if_pos c]; rfl
    · rw [if_neg c] at h; omega
  | d + 1, s, hd, h => by
    have nn := dp_nn hn d
    have hnd := hn d
    have ext : ∀ (s' : Nat) (x y : Int), dpS te tw d s' < 1000 → ((x = 1 ∧ y = tw d) ∨ (x = 0 ∧ y = te d) ∨ (x = -1 ∧ y = 0)) → (s : Int) = (s' : Int) + x → dpS te tw (d + 1) s = dpS te tw d s' + y → ∃ val k : Nat → Int, (∀ e, e < d + 1 → (val e = 1 ∧ k e = tw e) ∨ (val e = 0 ∧ k e = te e) ∨ (val e = -1 ∧ k e = 0)) ∧ (s : Int) = 6 + sm val (d + 1) ∧ dpS te tw (d + 1) s = sm k (d + 1) := by
      intro s' x y hl hxy hs he
      obtain ⟨val, k, g1, g2, g3⟩ := dp_some hn d s' (by omega) hl
      refine ⟨up val d x, up k d y, fun e he' => ?_, ?_, ?_⟩
      · by_cases c : e = d
        · rw [c, up_e, up_e]; exact hxy
        · rw [up_n c, up_n c]; exact g1 e (by omega)
      · show _ = 6 + (sm (up val d x) d + up val d x d)
        rw [sm_up' (Nat.le_refl _), up_e]; omega
      · show _ = sm (up k d y) d + up k d y d
        rw [sm_up' (Nat.le_refl _), up_e, he, g3]
    have e0 : dpS te tw (d + 1) s = mn3 (if s + 1 < 13 then dpS te tw d (s + 1) else 1000) (mn3 (if 0 < s then dpS te tw d (s - 1) + tw d else 1000) (dpS te tw d s + te d)) := rfl
    rcases mn3_or (x := if s + 1 < 13 then dpS te tw d (s + 1) else 1000) (y := mn3 (if 0 < s then dpS te tw d (s - 1) + tw d else 1000) (dpS te tw d s + te d)) with e | e
    · rw [e] at e0
      by_cases c : s + 1 < 13
      · rw [if_pos c] at e0
        exact ext (s + 1) (-1) 0 (by omega) (Or.inr (Or.inr ⟨rfl, rfl⟩)) (by omega) (by omega)
      · rw [if_neg c] at e0; omega
    · rw [e] at e0
      rcases mn3_or (x := if 0 < s then dpS te tw d (s - 1) + tw d else 1000) (y := dpS te tw d s + te d) with e' | e'
      · rw [e'] at e0
        by_cases c : 0 < s
        · rw [if_pos c] at e0
          have := nn (s - 1)
          exact ext (s - 1) 1 (tw d) (by omega) (Or.inl ⟨rfl, rfl⟩) (by omega) e0
        · rw [if_neg c] at e0; omega
      · rw [e'] at e0
        have := nn s
        exact ext s 0 (te d) (by omega) (Or.inr (Or.inl ⟨rfl, rfl⟩)) (by omega) e0
/-- the least over sums from p on -/
def fdS (D : Nat → Int) (p : Nat) : Nat → Int
  | 0 => 1000
  | i + 1 => mn3 (fdS D p i) (D (p + i))
theorem fd_low {D : Nat → Int} {p : Nat} : ∀ i j : Nat, j < i → fdS D p i ≤ D (p + j)
  | 0, j, h => by omega
  | i + 1, j, h => by
    rw [fdS]
    by_cases c : j = i
    · rw [c]; exact mn3_r
    · exact Int.le_trans mn3_l (fd_low i j (by omega))
theorem fd_some {D : Nat → Int} {p : Nat} : ∀ i : Nat, fdS D p i < 1000 → ∃ j, j < i ∧ fdS D p i = D (p + j)
  | 0, h => by rw [fdS] at h; omega
  | i + 1, h => by
    rw [fdS] at h ⊢
    rcases mn3_or (x := fdS D p i) (y := D (p + i)) with e | e
    · rw [e] at h ⊢
      obtain ⟨j, hj, q⟩ := fd_some i h
      exact ⟨j, by omega, q⟩
    · rw [e]; exact ⟨i, by omega, rfl⟩
