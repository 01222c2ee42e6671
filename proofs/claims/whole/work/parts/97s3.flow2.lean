/-! wheat sent: cheapest, and along a way -/
def rwS (r : Nat) (f : Nat → Int) (b : Nat) : Int := sm (fun o => f (b * r + o)) r
def clS (m r : Nat) (f : Nat → Int) (o : Nat) : Int := sm (fun b => f (b * r + o)) m
def csS (m r : Nat) (c f : Nat → Int) : Int := sm (fun b => sm (fun o => c (b * r + o) * f (b * r + o)) r) m
theorem up_w {r b o x p : Nat} {f : Nat → Int} {v : Int} (ho : o < r) (hp : p < r) : up f (x * r + p) v (b * r + o) = if b = x ∧ o = p then v else f (b * r + o) := by
  unfold up
  by_cases c : b = x ∧ o = p
  · rw [if_pos c, if_pos (by rw [c.1, c.2])]
  · rw [if_neg c, if_neg (fun q => c (way_u ho hp q))]
theorem rw_up {r b x p : Nat} {f : Nat → Int} {v : Int} (hp : p < r) : rwS r (up f (x * r + p) v) b = rwS r f b + (if b = x then v - f (x * r + p) else 0) := by
  unfold rwS
  by_cases c : b = x
  · subst c
    rw [if_pos rfl, sm_ext (v := up (fun o => f (b * r + o)) p v) r (fun o ho => by
      rw [up_w ho hp]; unfold up
      by_cases d : o = p
      · rw [if_pos ⟨rfl, d⟩, if_pos d]
      · rw [if_neg (fun q => d q.2), if_neg d]), sm_up r hp]
  · rw [if_neg c, sm_ext (v := fun o => f (b * r + o)) r (fun o ho => by
      rw [up_w ho hp, if_neg (fun q => c q.1)])]; omega
theorem cl_up {m r o x p : Nat} {f : Nat → Int} {v : Int} (hx : x < m) (ho : o < r) (hp : p < r) : clS m r (up f (x * r + p) v) o = clS m r f o + (if o = p then v - f (x * r + p) else 0) := by
  unfold clS
  by_cases c : o = p
  · subst c
    rw [if_pos rfl, sm_ext (v := up (fun b => f (b * r + o)) x v) m (fun b hb => by
      rw [up_w ho hp]; unfold up
      by_cases d : b = x
      · rw [if_pos ⟨d, rfl⟩, if_pos d]
      · rw [if_neg (fun q => d q.1), if_neg d]), sm_up m hx]
  · rw [if_neg c, sm_ext (v := fun b => f (b * r + o)) m (fun b hb => by
      rw [up_w ho hp, if_neg (fun q => c q.2)])]; omega
theorem cs_up {m r x p : Nat} {c f : Nat → Int} {v : Int} (hx : x < m) (hp : p < r) : csS m r c (up f (x * r + p) v) = csS m r c f + c (x * r + p) * (v - f (x * r + p)) := by
  have e : csS m r c (up f (x * r + p) v) = sm (up (fun b => sm (fun o => c (b * r + o) * f (b * r + o)) r) x (sm (fun o => c (x * r + o) * f (x * r + o)) r + c (x * r + p) * (v - f (x * r + p)))) m := by
    unfold csS
    refine sm_ext m (fun b hb => ?_)
    by_cases d : b = x
    · subst d
      rw [up_e, sm_ext (v := up (fun o => c (b * r + o) * f (b * r + o)) p (c (b * r + p) * v)) r (fun o ho => by
        rw [up_w ho hp]; unfold up
        by_cases d : o = p
        · rw [if_pos ⟨rfl, d⟩, if_pos d, d]
        · rw [if_neg (fun q => d q.2), if_neg d]), sm_up r hp, Int.mul_sub]
    · rw [up_n d]
      exact sm_ext r (fun o ho => by rw [up_w ho hp, if_neg (fun q => d q.1)])
  rw [e, sm_up m hx]
  show _ = csS m r c f + _
  unfold csS; omega
/-- a sending that keeps to what there is and what is wanted -/
def FI (m r : Nat) (hv wn f lf wt : Nat → Int) : Prop := (∀ b o, b < m → o < r → 0 ≤ f (b * r + o)) ∧ (∀ b, b < m → 0 ≤ lf b ∧ lf b + rwS r f b = hv b) ∧ ∀ o, o < r → 0 ≤ wt o ∧ wt o + clS m r f o = wn o
theorem red_x {m r : Nat} {c g pot : Nat → Int} : sm (fun b => sm (fun o => (c (b * r + o) + pot b - pot (m + o)) * g (b * r + o)) r) m = csS m r c g + sm (fun b => pot b * rwS r g b) m - sm (fun o => pot (m + o) * clS m r g o) r := by
  have e1 : ∀ b, sm (fun o => (c (b * r + o) + pot b - pot (m + o)) * g (b * r + o)) r = sm (fun o => c (b * r + o) * g (b * r + o)) r + pot b * rwS r g b - sm (fun o => pot (m + o) * g (b * r + o)) r := fun b => by
    unfold rwS
    rw [← sm_mul, ← sm_add, ← sm_sub]
    exact sm_ext r (fun o ho => by rw [Int.sub_mul, Int.add_mul])
  rw [sm_ext m (fun b _ => e1 b), sm_sub, sm_add]
  have e3 : sm (fun b => sm (fun o => pot (m + o) * g (b * r + o)) r) m = sm (fun o => sm (fun b => pot (m + o) * g (b * r + o)) m) r := sm_swap m
  have e2 : sm (fun o => sm (fun b => pot (m + o) * g (b * r + o)) m) r = sm (fun o => pot (m + o) * clS m r g o) r := sm_ext r (fun o ho => by unfold clS; rw [sm_mul])
  rw [e3, e2]; rfl
theorem flow_opt {m r : Nat} {c hv wn f lf g lg pot z : Nat → Int} (hz : ∀ o, z o = 0) (h1 : FI m r hv wn f lf z) (h2 : Cer m r c f lf pot) (h3 : FI m r hv wn g lg z) : csS m r c f ≤ csS m r c g := by
  have ef := red_x (m := m) (r := r) (c := c) (g := f) (pot := pot)
  have eg := red_x (m := m) (r := r) (c := c) (g := g) (pot := pot)
  have f0 : sm (fun b => sm (fun o => (c (b * r + o) + pot b - pot (m + o)) * f (b * r + o)) r) m = 0 := sm_0 m (fun b hb => sm_0 r (fun o ho => by
    have := h1.1 b o hb ho
    by_cases q : 0 < f (b * r + o)
    · have := (h2.1 b o hb ho).2 q
      rw [show c (b * r + o) + pot b - pot (m + o) = 0 by omega, Int.zero_mul]
    · rw [show f (b * r + o) = 0 by omega, Int.mul_zero]))
  have g0 : 0 ≤ sm (fun b => sm (fun o => (c (b * r + o) + pot b - pot (m + o)) * g (b * r + o)) r) m := sm_nn m (fun b hb => sm_nn r (fun o ho => by
    have := h3.1 b o hb ho
    have := (h2.1 b o hb ho).1
    exact Int.mul_nonneg (by omega) (by omega)))
  have rf : sm (fun b => pot b * rwS r f b) m = sm (fun b => pot b * hv b) m := sm_ext m (fun b hb => by
    have := h1.2.1 b hb
    by_cases q : 0 < lf b
    · rw [h2.2.1 b hb q, Int.zero_mul, Int.zero_mul]
    · rw [show rwS r f b = hv b by omega])
  have rg : sm (fun b => pot b * rwS r g b) m ≤ sm (fun b => pot b * hv b) m := sm_le m (fun b hb => by
    have := h3.2.1 b hb
    have := (h2.2.2 b (by omega)).1
    exact Int.mul_le_mul_of_nonneg_left (by omega) (by omega))
  have cf : sm (fun o => pot (m + o) * clS m r f o) r = sm (fun o => pot (m + o) * clS m r g o) r := sm_ext r (fun o ho => by
    have := (h1.2.2 o ho).2
    have := (h3.2.2 o ho).2
    rw [show clS m r f o = clS m r g o by omega])
  omega
/-- along a way, from the order back: at order o something is wanting still -/
def AI (m r : Nat) (c hv wn f0 lf0 d : Nat → Int) (ta : Nat → Nat) (z T : Int) (o : Nat) (f lf wt : Nat → Int) : Prop := (∀ b p, b < m → p < r → 0 ≤ f (b * r + p) ∧ (0 < f (b * r + p) → d b ≤ 36000 ∧ d (m + p) = d b + c (b * r + p))) ∧ (∀ b, b < m → 0 ≤ lf b ∧ lf b + rwS r f b = hv b ∧ (0 < lf b → 0 < lf0 b)) ∧ (∀ p, p < r → 0 ≤ wt p ∧ wt p + clS m r f p = wn p - (if p = o then z else 0)) ∧ csS m r c f + z * d (m + o) = T ∧ ∀ b, b < m → ta b < ta (m + o) → lf b = lf0 b ∧ ∀ p, p < r → f (b * r + p) = f0 (b * r + p)
/-- the way's next bin -/
theorem way_b {m r : Nat} {c f0 lf0 d via : Nat → Int} {ta : Nat → Nat} {o : Nat} (hF : Fnd m r c f0 lf0 d via ta) (ho : o < r) : ∃ x : Nat, x < m ∧ via (m + o) = (x : Int) ∧ ta x < ta (m + o) ∧ d (m + o) = d x + c (x * r + o) ∧ d x ≤ 36000 ∧ ((via x = -1 ∧ 0 < lf0 x) ∨ ∃ p : Nat, p < r ∧ p ≠ o ∧ via x = ((m + p : Nat) : Int) ∧ ta (m + p) < ta x ∧ d x = d (m + p) - c (x * r + p) ∧ 0 < f0 (x * r + p)) := by
  obtain ⟨-, -, f3, -, f5⟩ := hF
  have := f3 o ho
  rcases f5 (m + o) (by omega) (by omega) with q | ⟨x, w, h1, h2, h3, h4, h5⟩
  · omega
  · rcases h2 with ⟨b, p, hb, hp, rfl, e2, rfl⟩ | ⟨b, p, hb, hp, e1, e2, -, -⟩
    · have : p = o := by omega
      subst this
      refine ⟨x, hb, h1, h3, h4, h5, ?_⟩
      rcases f5 x (by omega) h5 with q | ⟨y, w, g1, g2, g3, g4, g5⟩
      · exact Or.inl ⟨q.1, q.2.2⟩
      · rcases g2 with ⟨b', p', hb', hp', e1, e2', -⟩ | ⟨b', p', hb', hp', rfl, e2', rfl, hf⟩
        · omega
        · subst e2'
          refine Or.inr ⟨p', hp', fun q => ?_, g1, g3, by omega, hf⟩
          rw [q] at g3; omega
    · omega
theorem ai_mid {m r : Nat} {c hv wn f0 lf0 d f lf wt : Nat → Int} {ta : Nat → Nat} {z T : Int} {o x p : Nat} (hz : 0 ≤ z) (ho : o < r) (hx : x < m) (hp : p < r) (hpo : p ≠ o) (t1 : ta x < ta (m + o)) (t2 : ta (m + p) < ta x) (d1 : d (m + o) = d x + c (x * r + o)) (dx : d x ≤ 36000) (d2 : d x = d (m + p) - c (x * r + p)) (hzf : z ≤ f0 (x * r + p)) (h : AI m r c hv wn f0 lf0 d ta z T o f lf wt) :
    AI m r c hv wn f0 lf0 d ta z T p (up (up f (x * r + o) (f (x * r + o) + z)) (x * r + p) (f (x * r + p) - z)) lf wt := by
  obtain ⟨h1, h2, h3, h4, h5⟩ := h
  have u1 : up f (x * r + o) (f (x * r + o) + z) (x * r + p) = f (x * r + p) := by rw [up_w hp ho, if_neg (fun q => hpo q.2)]
  have fx := (h5 x hx t1).2 p hp
  refine ⟨fun b q hb hq => ?_, fun b hb => ?_, fun q hq => ?_, ?_, fun b hb ht => ?_⟩
  · rw [up_w hq hp]
    by_cases c1 : b = x ∧ q = p
    · rw [if_pos c1]
      refine ⟨by omega, fun _ => ?_⟩
      rw [c1.1, c1.2]; omega
    · rw [if_neg c1, up_w hq ho]
      by_cases c2 : b = x ∧ q = o
      · rw [if_pos c2]
        have := (h1 x o hx ho).1
        refine ⟨by omega, fun _ => ?_⟩
        rw [c2.1, c2.2]; omega
      · rw [if_neg c2]; exact h1 b q hb hq
  · obtain ⟨g1, g2, g3⟩ := h2 b hb
    refine ⟨g1, ?_, g3⟩
    rw [rw_up hp, rw_up ho, u1]
    by_cases q : b = x
    · rw [if_pos q, if_pos q]; omega
    · rw [if_neg q, if_neg q]; omega
  · obtain ⟨g1, g2⟩ := h3 q hq
    refine ⟨g1, ?_⟩
    rw [cl_up hx hq hp, cl_up hx hq ho, u1]
    by_cases q1 : q = p
    · rw [if_pos q1, if_pos q1, if_neg (by omega)]
      rw [if_neg (by omega)] at g2
      omega
    · rw [if_neg q1, if_neg q1]
      by_cases q2 : q = o
      · rw [if_pos q2]; rw [if_pos q2] at g2; omega
      · rw [if_neg q2]; rw [if_neg q2] at g2; omega
  · rw [cs_up hx hp, cs_up hx ho, u1]
    have e1 : c (x * r + o) * (f (x * r + o) + z - f (x * r + o)) = z * c (x * r + o) := by rw [show f (x * r + o) + z - f (x * r + o) = z by omega, Int.mul_comm]
    have e2 : c (x * r + p) * (f (x * r + p) - z - f (x * r + p)) = - (z * c (x * r + p)) := by rw [show f (x * r + p) - z - f (x * r + p) = - z by omega, Int.mul_neg, Int.mul_comm]
    have e3 : z * d (m + o) = z * d x + z * c (x * r + o) := by rw [d1, Int.mul_add]
    have e4 : z * d x = z * d (m + p) - z * c (x * r + p) := by rw [d2, Int.mul_sub]
    rw [e1, e2]
    omega
  · obtain ⟨g1, g2⟩ := h5 b hb (by omega)
    refine ⟨g1, fun q hq => ?_⟩
    have nb : b ≠ x := fun e => by rw [e] at ht; omega
    rw [up_w hq hp, if_neg (fun e => nb e.1), up_w hq ho, if_neg (fun e => nb e.1)]
    exact g2 q hq
theorem ai_end {m r : Nat} {c hv wn f0 lf0 d f lf wt via : Nat → Int} {ta : Nat → Nat} {z T : Int} {o x : Nat} (hc : ∀ k, k < m * r → 0 ≤ c k ∧ c k ≤ 100) (hF : Fnd m r c f0 lf0 d via ta) (hz : 0 ≤ z) (ho : o < r) (hx : x < m) (t1 : ta x < ta (m + o)) (d1 : d (m + o) = d x + c (x * r + o)) (dx : d x ≤ 36000) (hl : 0 < lf0 x) (hzf : z ≤ lf0 x) (h : AI m r c hv wn f0 lf0 d ta z T o f lf wt) :
    FI m r hv wn (up f (x * r + o) (f (x * r + o) + z)) (up lf x (lf x - z)) wt ∧ (∃ pot, Cer m r c (up f (x * r + o) (f (x * r + o) + z)) (up lf x (lf x - z)) pot) ∧ csS m r c (up f (x * r + o) (f (x * r + o) + z)) = T := by
  obtain ⟨h1, h2, h3, h4, h5⟩ := h
  obtain ⟨f1, f2, f3, f4, -⟩ := hF
  have d0 := f2 x hx hl
  have lx := (h5 x hx t1).1
  have tight : ∀ b q, b < m → q < r → 0 ≤ up f (x * r + o) (f (x * r + o) + z) (b * r + q) ∧ (0 < up f (x * r + o) (f (x * r + o) + z) (b * r + q) → d b ≤ 36000 ∧ d (m + q) = d b + c (b * r + q)) := fun b q hb hq => by
    rw [up_w hq ho]
    by_cases c2 : b = x ∧ q = o
    · rw [if_pos c2]
      have := (h1 x o hx ho).1
      refine ⟨by omega, fun _ => ?_⟩
      rw [c2.1, c2.2]; omega
    · rw [if_neg c2]; exact h1 b q hb hq
  refine ⟨⟨fun b q hb hq => (tight b q hb hq).1, fun b hb => ?_, fun q hq => ?_⟩, ⟨fun y => if d y ≤ 36000 then d y else 36000, fun b q hb hq => ?_, fun b hb hlb => ?_, fun y hy => ?_⟩, ?_⟩
  · obtain ⟨g1, g2, g3⟩ := h2 b hb
    rw [rw_up ho]
    by_cases q : b = x
    · subst q; rw [if_pos rfl, up_e]; exact ⟨by omega, by omega⟩
    · rw [if_neg q, up_n q]; exact ⟨g1, by omega⟩
  · obtain ⟨g1, g2⟩ := h3 q hq
    refine ⟨g1, ?_⟩
    rw [cl_up hx hq ho]
    by_cases q2 : q = o
    · rw [if_pos q2]; rw [if_pos q2] at g2; omega
    · rw [if_neg q2]; rw [if_neg q2] at g2; omega
  · have t := (tight b q hb hq).2
    have g3 := f3 q hq
    have g4 := (f4 b q hb hq).1
    have g0 := f1 b (by omega)
    show (if d (m + q) ≤ 36000 then d (m + q) else 36000) ≤ (if d b ≤ 36000 then d b else 36000) + c (b * r + q) ∧ (_ → (if d (m + q) ≤ 36000 then d (m + q) else 36000) = (if d b ≤ 36000 then d b else 36000) + c (b * r + q))
    rw [if_pos (by omega)]
    by_cases e : d b ≤ 36000
    · rw [if_pos e]; exact ⟨g4 e, fun u => (t u).2⟩
    · rw [if_neg e]
      refine ⟨?_, fun u => absurd (t u).1 e⟩
      have := hc _ (way_l hb hq)
      omega
  · show (if d b ≤ 36000 then d b else 36000) = 0
    have : 0 < lf0 b := by
      by_cases q : b = x
      · rw [q]; exact hl
      · rw [up_n q] at hlb; exact (h2 b hb).2.2 hlb
    rw [f2 b hb this, if_pos (by omega)]
  · show 0 ≤ (if d y ≤ 36000 then d y else 36000) ∧ (if d y ≤ 36000 then d y else 36000) ≤ 36000
    have := f1 y hy
    split <;> omega
  · rw [cs_up hx ho]
    have e1 : c (x * r + o) * (f (x * r + o) + z - f (x * r + o)) = z * c (x * r + o) := by rw [show f (x * r + o) + z - f (x * r + o) = z by omega, Int.mul_comm]
    have e3 : z * d (m + o) = z * c (x * r + o) := by rw [d1, d0, Int.zero_add]
    rw [e1]; omega
