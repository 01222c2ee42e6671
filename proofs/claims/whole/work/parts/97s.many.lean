-- FILE 97s2.flow
/-! wheat sent: the cheapest ways, in themselves -/
/-- one step: y may be reached by way of x -/
def rl (L : Int) (x y : Nat) (w : Int) (S : (Nat → Int) × (Nat → Int)) : (Nat → Int) × (Nat → Int) := if S.1 x < L ∧ S.1 x + w < S.1 y then (up S.1 y (S.1 x + w), up S.2 y (x : Int)) else S
def EdH (N : Nat) (E : Nat → Nat → Int → Prop) (pot : Nat → Int) : Prop := ∀ x y w, E x y w → x < N ∧ y < N ∧ x ≠ y ∧ (-100 ≤ w ∧ w ≤ 100) ∧ pot y ≤ pot x + w
/-- what holds while ways are found; ta tells when a node was last changed -/
def BI (N : Nat) (L K : Int) (E : Nat → Nat → Int → Prop) (pot ini : Nat → Int) (t : Nat) (S : (Nat → Int) × (Nat → Int)) : Prop := ∃ ta : Nat → Nat, ∀ y, y < N → ta y ≤ t ∧ pot y ≤ S.1 y ∧ S.1 y ≤ ini y ∧ (S.1 y ≤ 100 * t ∨ (K - 100 * t ≤ S.1 y ∧ (L ≤ K → S.1 y = K))) ∧ ((S.2 y = -1 ∧ S.1 y = ini y) ∨ ∃ x w, S.2 y = ((x : Nat) : Int) ∧ E x y w ∧ ((ta x < ta y ∧ S.1 y = S.1 x + w) ∨ S.1 x + w < S.1 y))
theorem BI.up {N : Nat} {L K : Int} {E : Nat → Nat → Int → Prop} {pot ini : Nat → Int} {t t' : Nat} {S : (Nat → Int) × (Nat → Int)} (h : BI N L K E pot ini t S) (ht : t ≤ t') : BI N L K E pot ini t' S := by
  obtain ⟨ta, h⟩ := h
  refine ⟨ta, fun y hy => ?_⟩
  obtain ⟨h1, h2, h3, h4, h5⟩ := h y hy
  refine ⟨by omega, h2, h3, ?_, h5⟩
  rcases h4 with q | ⟨q1, q2⟩
  · left; omega
  · right; exact ⟨by omega, q2⟩
theorem bi_rl {N : Nat} {L K : Int} {E : Nat → Nat → Int → Prop} {pot ini : Nat → Int} {t x y : Nat} {w : Int} {S : (Nat → Int) × (Nat → Int)} (hE : EdH N E pot) (he : E x y w) (h : BI N L K E pot ini t S) : BI N L K E pot ini (t + 1) (rl L x y w S) := by
  obtain ⟨e1, e2, e3, e4, e5⟩ := hE x y w he
  unfold rl
  by_cases c : S.1 x < L ∧ S.1 x + w < S.1 y
  · rw [if_pos c]
    obtain ⟨ta, h⟩ := h
    obtain ⟨x1, x2, x3, x4, x5⟩ := h x e1
    obtain ⟨y1, y2, y3, y4, y5⟩ := h y e2
    refine ⟨fun z => if z = y then t + 1 else ta z, fun z hz => ?_⟩
    show (if z = y then t + 1 else ta z) ≤ t + 1 ∧ pot z ≤ up S.1 y (S.1 x + w) z ∧ up S.1 y (S.1 x + w) z ≤ ini z ∧ (up S.1 y (S.1 x + w) z ≤ 100 * ((t + 1 : Nat) : Int) ∨ (K - 100 * ((t + 1 : Nat) : Int) ≤ up S.1 y (S.1 x + w) z ∧ (L ≤ K → up S.1 y (S.1 x + w) z = K))) ∧ ((up S.2 y (x : Int) z = -1 ∧ up S.1 y (S.1 x + w) z = ini z) ∨ ∃ x' w', up S.2 y (x : Int) z = ((x' : Nat) : Int) ∧ E x' z w' ∧ (((if x' = y then t + 1 else ta x') < (if z = y then t + 1 else ta z) ∧ up S.1 y (S.1 x + w) z = up S.1 y (S.1 x + w) x' + w') ∨ up S.1 y (S.1 x + w) x' + w' < up S.1 y (S.1 x + w) z))
    by_cases d : z = y
    · subst d
      rw [if_pos rfl, up_e, up_e]
      refine ⟨by omega, by omega, by omega, ?_, Or.inr ⟨x, w, rfl, he, Or.inl ?_⟩⟩
      · rcases x4 with q | ⟨q1, q2⟩
        · left; omega
        · right
          refine ⟨by omega, fun q => ?_⟩
          have := q2 q
          omega
      · rw [if_neg e3, up_n e3]; exact ⟨by omega, rfl⟩
    · rw [if_neg d, up_n d, up_n d]
      obtain ⟨z1, z2, z3, z4, z5⟩ := h z hz
      refine ⟨by omega, z2, z3, ?_, ?_⟩
      · rcases z4 with q | ⟨q1, q2⟩
        · left; omega
        · right; exact ⟨by omega, q2⟩
      · rcases z5 with q | ⟨x', w', q1, q2, q3⟩
        · exact Or.inl q
        · refine Or.inr ⟨x', w', q1, q2, ?_⟩
          by_cases r : x' = y
          · subst r
            rw [if_pos rfl, up_e]
            right
            rcases q3 with q | q <;> omega
          · rw [if_neg r, up_n r]; exact q3
  · rw [if_neg c]; exact h.up (by omega)
/-- nothing can be bettered -/
def Cl (L : Int) (E : Nat → Nat → Int → Prop) (d : Nat → Int) : Prop := ∀ x y w, E x y w → d x < L → d y ≤ d x + w
/-- the settled nodes: i of them -/
def FpS (N : Nat) (L : Int) (E : Nat → Nat → Int → Prop) (pot : Nat → Int) (i : Nat) (d : Nat → Int) : Prop := Cl L E d ∨ ∃ A : Nat → Int, (∀ x, A x = 0 ∨ A x = 1) ∧ sm A N = (i : Int) ∧ (∀ a, a < N → A a = 1 → d a < L ∧ ∀ y w, E a y w → d y ≤ d a + w) ∧ ∀ a y, a < N → y < N → A a = 1 → A y = 0 → d a - pot a ≤ d y - pot y
def FpR (N : Nat) (L : Int) (E D : Nat → Nat → Int → Prop) (pot : Nat → Int) (i : Nat) (d : Nat → Int) : Prop := Cl L E d ∨ ∃ (A : Nat → Int) (v : Nat), (∀ x, A x = 0 ∨ A x = 1) ∧ sm A N = (i : Int) ∧ (∀ a, a < N → A a = 1 → d a < L ∧ ∀ y w, E a y w → d y ≤ d a + w) ∧ (∀ a y, a < N → y < N → A a = 1 → A y = 0 → d a - pot a ≤ d y - pot y) ∧ (v < N ∧ A v = 0 ∧ d v < L) ∧ (∀ y, y < N → A y = 0 → d v - pot v ≤ d y - pot y) ∧ ∀ y w, D v y w → d y ≤ d v + w
theorem FpR.mono {N : Nat} {L : Int} {E D D' : Nat → Nat → Int → Prop} {pot : Nat → Int} {i : Nat} {d : Nat → Int} (h : FpR N L E D pot i d) (hD : ∀ x y w, D' x y w → D x y w) : FpR N L E D' pot i d := by
  rcases h with h | ⟨A, v, h1, h2, h3, h4, h5, h6, h7⟩
  · exact Or.inl h
  · exact Or.inr ⟨A, v, h1, h2, h3, h4, h5, h6, fun y w q => h7 y w (hD v y w q)⟩
theorem pr_rl {N : Nat} {L : Int} {E D : Nat → Nat → Int → Prop} {pot : Nat → Int} {i x y : Nat} {w : Int} {S : (Nat → Int) × (Nat → Int)} (hE : EdH N E pot) (he : E x y w) (h : FpR N L E D pot i S.1) : FpR N L E (fun a b u => D a b u ∨ (a = x ∧ b = y ∧ u = w)) pot i (rl L x y w S).1 := by
  obtain ⟨e1, e2, e3, e4, e5⟩ := hE x y w he
  unfold rl
  rcases h with h | ⟨A, v, h1, h2, h3, h4, h5, h6, h7⟩
  · have : ¬ (S.1 x < L ∧ S.1 x + w < S.1 y) := fun q => by
      have := h x y w he q.1
      omega
    rw [if_neg this]; exact Or.inl h
  · by_cases c : S.1 x < L ∧ S.1 x + w < S.1 y
    · rw [if_pos c]
      have ax : A x = 0 := by
        rcases h1 x with q | q
        · exact q
        · have := (h3 x e1 q).2 y w he
          omega
      have ay : A y = 0 := by
        rcases h1 y with q | q
        · exact q
        · have := h4 y x e2 e1 q ax
          omega
      have vx := h6 x e1 ax
      have vy : y ≠ v := fun q => by subst q; omega
      have low : ∀ z, up S.1 y (S.1 x + w) z ≤ S.1 z := fun z => by
        by_cases d : z = y
        · rw [d, up_e]; omega
        · rw [up_n d]; omega
      refine Or.inr ⟨A, v, h1, h2, fun a ha qa => ?_, fun a z ha hz qa qz => ?_, ⟨h5.1, h5.2.1, ?_⟩, fun z hz qz => ?_, fun z u hu => ?_⟩
      · have na : a ≠ y := fun q => by rw [q, ay] at qa; exact absurd qa (by decide)
        show up S.1 y (S.1 x + w) a < L ∧ ∀ z u, E a z u → up S.1 y (S.1 x + w) z ≤ up S.1 y (S.1 x + w) a + u
        rw [up_n na]
        refine ⟨(h3 a ha qa).1, fun z u hu => ?_⟩
        have := (h3 a ha qa).2 z u hu
        have := low z
        omega
      · have na : a ≠ y := fun q => by rw [q, ay] at qa; exact absurd qa (by decide)
        show up S.1 y (S.1 x + w) a - pot a ≤ up S.1 y (S.1 x + w) z - pot z
        rw [up_n na]
        by_cases d : z = y
        · rw [d, up_e]
          have := h4 a x ha e1 qa ax
          omega
        · rw [up_n d]; exact h4 a z ha hz qa qz
      · show up S.1 y (S.1 x + w) v < L
        rw [up_n (fun q => vy q.symm)]; exact h5.2.2
      · show up S.1 y (S.1 x + w) v - pot v ≤ up S.1 y (S.1 x + w) z - pot z
        rw [up_n (fun q => vy q.symm)]
        by_cases d : z = y
        · rw [d, up_e]; omega
        · rw [up_n d]; exact h6 z hz qz
      · show up S.1 y (S.1 x + w) z ≤ up S.1 y (S.1 x + w) v + u
        rw [up_n (fun q => vy q.symm)]
        rcases hu with hu | ⟨q1, q2, q3⟩
        · have := h7 z u hu
          have := low z
          omega
        · rw [q2, q3, up_e, q1]; omega
    · rw [if_neg c]
      refine Or.inr ⟨A, v, h1, h2, h3, h4, h5, h6, fun z u hu => ?_⟩
      rcases hu with hu | ⟨q1, q2, q3⟩
      · exact h7 z u hu
      · rw [q2, q3]
        have := h5.2.2
        rw [q1] at this ⊢
        omega
/-- the least of some -/
theorem amin {P : Nat → Prop} {g : Nat → Int} : ∀ n : Nat, (∀ x, x < n → ¬ P x) ∨ ∃ v, v < n ∧ P v ∧ ∀ y, y < n → P y → g v ≤ g y
  | 0 => Or.inl (fun x hx => by omega)
  | n + 1 => by
    by_cases c : P n
    · rcases amin (P := P) (g := g) n with h | ⟨v, h1, h2, h3⟩
      · refine Or.inr ⟨n, by omega, c, fun y hy py => ?_⟩
        by_cases d : y = n
        · rw [d]; exact Int.le_refl _
        · exact absurd py (h y (by omega))
      · by_cases d : g v ≤ g n
        · refine Or.inr ⟨v, by omega, h2, fun y hy py => ?_⟩
          by_cases e : y = n
          · rw [e]; exact d
          · exact h3 y (by omega) py
        · refine Or.inr ⟨n, by omega, c, fun y hy py => ?_⟩
          by_cases e : y = n
          · rw [e]; exact Int.le_refl _
          · have := h3 y (by omega) py; omega
    · rcases amin (P := P) (g := g) n with h | ⟨v, h1, h2, h3⟩
      · refine Or.inl (fun x hx => ?_)
        by_cases d : x = n
        · rw [d]; exact c
        · exact h x (by omega)
      · refine Or.inr ⟨v, by omega, h2, fun y hy py => ?_⟩
        by_cases e : y = n
        · rw [e] at py; exact absurd py c
        · exact h3 y (by omega) py
/-- a round begins -/
theorem ps_pr {N : Nat} {L : Int} {E : Nat → Nat → Int → Prop} {pot : Nat → Int} {i : Nat} {d : Nat → Int} (hE : EdH N E pot) (hL : ∀ v y, v < N → y < N → d v < L → L ≤ d y → d v - pot v ≤ d y - pot y) (h : FpS N L E pot i d) : FpR N L E (fun _ _ _ => False) pot i d := by
  rcases h with h | ⟨A, h1, h2, h3, h4⟩
  · exact Or.inl h
  · rcases amin (P := fun x => A x = 0 ∧ d x < L) (g := fun x => d x - pot x) N with q | ⟨v, v1, v2, v3⟩
    · left
      intro x y w he hx
      have e1 := (hE x y w he).1
      rcases h1 x with a | a
      · exact absurd ⟨a, hx⟩ (q x e1)
      · exact (h3 x e1 a).2 y w he
    · refine Or.inr ⟨A, v, h1, h2, h3, h4, ⟨v1, v2.1, v2.2⟩, fun y hy ay => ?_, fun y w q => q.elim⟩
      by_cases c : d y < L
      · exact v3 y hy ⟨ay, c⟩
      · exact hL v y v1 hy v2.2 (by omega)
/-- a round ends -/
theorem pr_ps {N : Nat} {L : Int} {E D : Nat → Nat → Int → Prop} {pot : Nat → Int} {i : Nat} {d : Nat → Int} (hD : ∀ x y w, E x y w → D x y w) (h : FpR N L E D pot i d) : FpS N L E pot (i + 1) d := by
  rcases h with h | ⟨A, v, h1, h2, h3, h4, h5, h6, h7⟩
  · exact Or.inl h
  · refine Or.inr ⟨up A v 1, fun x => ?_, ?_, fun a ha qa => ?_, fun a y ha hy qa qy => ?_⟩
    · unfold up; split
      · exact Or.inr rfl
      · exact h1 x
    · rw [sm_up N h5.1, h2, h5.2.1]; omega
    · by_cases c : a = v
      · subst c; exact ⟨h5.2.2, fun y w q => h7 y w (hD a y w q)⟩
      · rw [up_n c] at qa; exact h3 a ha qa
    · have ny : y ≠ v := fun q => by rw [q, up_e] at qy; exact absurd qy (by decide)
      rw [up_n ny] at qy
      by_cases c : a = v
      · rw [c]; exact h6 y hy qy
      · rw [up_n c] at qa; exact h4 a y ha hy qa qy
/-- all are settled -/
theorem ps_cl {N : Nat} {L : Int} {E : Nat → Nat → Int → Prop} {pot : Nat → Int} {d : Nat → Int} (hE : EdH N E pot) (h : FpS N L E pot N d) : Cl L E d := by
  rcases h with h | ⟨A, h1, h2, h3, h4⟩
  · exact h
  · intro x y w he hx
    have e1 := (hE x y w he).1
    refine (h3 x e1 ?_).2 y w he
    rcases h1 x with q | q
    · exfalso
      have := sm_up (w := A) (v := 1) N e1
      have hb := sm_b (w := up A x 1) (c := 1) N (fun z hz => by
        unfold up; split
        · exact Int.le_refl _
        · rcases h1 z with r | r <;> omega)
      omega
    · exact q
theorem ps_0 {N : Nat} {L : Int} {E : Nat → Nat → Int → Prop} {pot d : Nat → Int} : FpS N L E pot 0 d := Or.inr ⟨fun _ => 0, fun _ => Or.inl rfl, sm_0 N (fun _ _ => rfl), fun a _ q => absurd (show (0 : Int) = 1 from q) (by decide), fun a y _ _ q _ => absurd (show (0 : Int) = 1 from q) (by decide)⟩
/-- bins and orders: what is left, and what was sent -/
def Ed (m r : Nat) (c f : Nat → Int) (x y : Nat) (w : Int) : Prop := (∃ b o, b < m ∧ o < r ∧ x = b ∧ y = m + o ∧ w = c (b * r + o)) ∨ ∃ b o, b < m ∧ o < r ∧ x = m + o ∧ y = b ∧ w = - c (b * r + o) ∧ 0 < f (b * r + o)
def Dn (m r : Nat) (c f : Nat → Int) (k x y : Nat) (w : Int) : Prop := (∃ b o, b < m ∧ o < r ∧ x = b ∧ y = m + o ∧ w = c (b * r + o) ∧ b * r + o < k) ∨ ∃ b o, b < m ∧ o < r ∧ x = m + o ∧ y = b ∧ w = - c (b * r + o) ∧ 0 < f (b * r + o) ∧ b * r + o < k
theorem way_u {r b o b' o' : Nat} (h : o < r) (h' : o' < r) (e : b * r + o = b' * r + o') : b = b' ∧ o = o' := by
  have e1 : (b * r + o) / r = b := by rw [Nat.mul_comm, Nat.mul_add_div (by omega), Nat.div_eq_of_lt h, Nat.add_zero]
  have e2 : (b' * r + o') / r = b' := by rw [Nat.mul_comm, Nat.mul_add_div (by omega), Nat.div_eq_of_lt h', Nat.add_zero]
  have : b = b' := by rw [← e1, ← e2, e]
  subst this
  exact ⟨rfl, by omega⟩
theorem way_l {m r b o : Nat} (hb : b < m) (ho : o < r) : b * r + o < m * r := by
  have : (b + 1) * r ≤ m * r := Nat.mul_le_mul_right r hb
  rw [Nat.add_mul, Nat.one_mul] at this
  omega
theorem way_20 {m r b o : Nat} (hm : m ≤ 5) (hr : r ≤ 4) (hb : b < m) (ho : o < r) : b * r + o < 20 := by
  have h1 := way_l hb ho
  have h2 : m * r ≤ 5 * 4 := Nat.mul_le_mul hm hr
  omega
/-- what makes a sending cheapest -/
def Cer (m r : Nat) (c f lf pot : Nat → Int) : Prop := (∀ b o, b < m → o < r → pot (m + o) ≤ pot b + c (b * r + o) ∧ (0 < f (b * r + o) → pot (m + o) = pot b + c (b * r + o))) ∧ (∀ b, b < m → 0 < lf b → pot b = 0) ∧ ∀ x, x < m + r → 0 ≤ pot x ∧ pot x ≤ 36000
theorem edh {m r : Nat} {c f lf pot : Nat → Int} (hc : ∀ k, k < m * r → 0 ≤ c k ∧ c k ≤ 100) (h : Cer m r c f lf pot) : EdH (m + r) (Ed m r c f) pot := by
  intro x y w he
  rcases he with ⟨b, o, hb, ho, rfl, rfl, rfl⟩ | ⟨b, o, hb, ho, rfl, rfl, rfl, hf⟩
  · have := hc _ (way_l hb ho)
    exact ⟨by omega, by omega, by omega, by omega, (h.1 _ _ hb ho).1⟩
  · have := hc _ (way_l hb ho)
    have := (h.1 _ _ hb ho).2 hf
    exact ⟨by omega, by omega, by omega, by omega, by omega⟩
def ini (m : Nat) (K : Int) (lf : Nat → Int) (x : Nat) : Int := if x < m ∧ 0 < lf x then 0 else K
/-- a way looked at, forth and back -/
def wst (m : Nat) (L : Int) (c f : Nat → Int) (b o k : Nat) (S : (Nat → Int) × (Nat → Int)) : (Nat → Int) × (Nat → Int) := if 0 < f k then rl L (m + o) b (- c k) (rl L b (m + o) (c k) S) else rl L b (m + o) (c k) S
/-- while ways are found: round i, way k -/
def WI (m r : Nat) (L K : Int) (c f lf pot : Nat → Int) (i k : Nat) (S : (Nat → Int) × (Nat → Int)) : Prop := BI (m + r) L K (Ed m r c f) pot (ini m K lf) (2 * (i * (m * r) + k)) S ∧ FpR (m + r) L (Ed m r c f) (Dn m r c f k) pot i S.1
theorem wi_step {m r : Nat} {L K : Int} {c f lf pot : Nat → Int} {i b o : Nat} {S : (Nat → Int) × (Nat → Int)} (hc : ∀ k, k < m * r → 0 ≤ c k ∧ c k ≤ 100) (hC : Cer m r c f lf pot) (hb : b < m) (ho : o < r) (h : WI m r L K c f lf pot i (b * r + o) S) : WI m r L K c f lf pot i (b * r + o + 1) (wst m L c f b o (b * r + o) S) := by
  have hE := edh hc hC
  have e1 : Ed m r c f b (m + o) (c (b * r + o)) := Or.inl ⟨b, o, hb, ho, rfl, rfl, rfl⟩
  obtain ⟨h1, h2⟩ := h
  have s1 := bi_rl hE e1 h1
  have s2 := pr_rl hE e1 h2
  unfold wst
  by_cases q : 0 < f (b * r + o)
  · rw [if_pos q]
    have e2 : Ed m r c f (m + o) b (- c (b * r + o)) := Or.inr ⟨b, o, hb, ho, rfl, rfl, rfl, q⟩
    refine ⟨(bi_rl hE e2 s1).up (by omega), (pr_rl hE e2 s2).mono (fun x y w hd => ?_)⟩
    rcases hd with ⟨b', o', hb', ho', ex, ey, ew, hk⟩ | ⟨b', o', hb', ho', ex, ey, ew, hf, hk⟩
    · by_cases t : b' * r + o' < b * r + o
      · exact Or.inl (Or.inl (Or.inl ⟨b', o', hb', ho', ex, ey, ew, t⟩))
      · obtain ⟨q1, q2⟩ := way_u ho' ho (show b' * r + o' = b * r + o by omega)
        exact Or.inl (Or.inr ⟨by rw [ex, q1], by rw [ey, q2], by rw [ew, q1, q2]⟩)
    · by_cases t : b' * r + o' < b * r + o
      · exact Or.inl (Or.inl (Or.inr ⟨b', o', hb', ho', ex, ey, ew, hf, t⟩))
      · obtain ⟨q1, q2⟩ := way_u ho' ho (show b' * r + o' = b * r + o by omega)
        exact Or.inr ⟨by rw [ex, q2], by rw [ey, q1], by rw [ew, q1, q2]⟩
  · rw [if_neg q]
    refine ⟨s1.up (by omega), s2.mono (fun x y w hd => ?_)⟩
    rcases hd with ⟨b', o', hb', ho', ex, ey, ew, hk⟩ | ⟨b', o', hb', ho', ex, ey, ew, hf, hk⟩
    · by_cases t : b' * r + o' < b * r + o
      · exact Or.inl (Or.inl ⟨b', o', hb', ho', ex, ey, ew, t⟩)
      · obtain ⟨q1, q2⟩ := way_u ho' ho (show b' * r + o' = b * r + o by omega)
        exact Or.inr ⟨by rw [ex, q1], by rw [ey, q2], by rw [ew, q1, q2]⟩
    · by_cases t : b' * r + o' < b * r + o
      · exact Or.inl (Or.inr ⟨b', o', hb', ho', ex, ey, ew, hf, t⟩)
      · obtain ⟨q1, q2⟩ := way_u ho' ho (show b' * r + o' = b * r + o by omega)
        rw [q1, q2] at hf
        exact absurd hf q
/-- between rounds -/
def WS (m r : Nat) (L K : Int) (c f lf pot : Nat → Int) (i : Nat) (S : (Nat → Int) × (Nat → Int)) : Prop := BI (m + r) L K (Ed m r c f) pot (ini m K lf) (2 * (i * (m * r))) S ∧ FpS (m + r) L (Ed m r c f) pot i S.1
theorem ws_wi {m r : Nat} {L K : Int} {c f lf pot : Nat → Int} {i : Nat} {S : (Nat → Int) × (Nat → Int)} (hmr : m ≤ 5 ∧ r ≤ 4) (hi : i ≤ m + r) (hc : ∀ k, k < m * r → 0 ≤ c k ∧ c k ≤ 100) (hC : Cer m r c f lf pot) (hK : 100000 ≤ K) (hL : L = K ∨ K < L) (h : WS m r L K c f lf pot i S) : WI m r L K c f lf pot i 0 S := by
  obtain ⟨h1, h2⟩ := h
  have b1 : m * r ≤ 5 * 4 := Nat.mul_le_mul hmr.1 hmr.2
  have b2 : i * (m * r) ≤ 9 * 20 := Nat.mul_le_mul (by omega) (by omega)
  refine ⟨h1, (ps_pr (edh hc hC) (fun v y hv hy q1 q2 => ?_) h2).mono (fun x y w hd => ?_)⟩
  · obtain ⟨ta, h1⟩ := h1
    obtain ⟨-, v1, v2, v3, -⟩ := h1 v hv
    obtain ⟨-, y1, y2, y3, -⟩ := h1 y hy
    have pv := hC.2.2 v hv
    have py := hC.2.2 y hy
    have iy : ini m K lf y ≤ K := by unfold ini; split <;> omega
    rcases hL with hL | hL
    · rcases v3 with q | ⟨q, q'⟩
      · omega
      · have := q' (by omega); omega
    · omega
  · rcases hd with ⟨b', o', hb', ho', rfl, rfl, rfl, hk⟩ | ⟨b', o', hb', ho', rfl, rfl, rfl, hf, hk⟩ <;> omega
theorem wi_ws {m r : Nat} {L K : Int} {c f lf pot : Nat → Int} {i : Nat} {S : (Nat → Int) × (Nat → Int)} (h : WI m r L K c f lf pot i (m * r) S) : WS m r L K c f lf pot (i + 1) S := by
  obtain ⟨h1, h2⟩ := h
  refine ⟨by rw [Nat.add_mul, Nat.one_mul]; exact h1, pr_ps (fun x y w he => ?_) h2⟩
  rcases he with ⟨b, o, hb, ho, ex, ey, ew⟩ | ⟨b, o, hb, ho, ex, ey, ew, hf⟩
  · exact Or.inl ⟨b, o, hb, ho, ex, ey, ew, way_l hb ho⟩
  · exact Or.inr ⟨b, o, hb, ho, ex, ey, ew, hf, way_l hb ho⟩
theorem ws_0 {m r : Nat} {L K : Int} {c f lf pot : Nat → Int} {S : (Nat → Int) × (Nat → Int)} (hC : Cer m r c f lf pot) (hK : 100000 ≤ K) (h : ∀ x, x < m + r → S.1 x = ini m K lf x ∧ S.2 x = -1) : WS m r L K c f lf pot 0 S := by
  refine ⟨⟨fun _ => 0, fun y hy => ?_⟩, ps_0⟩
  have py := hC.2.2 y hy
  obtain ⟨s1, s2⟩ := h y hy
  refine ⟨Nat.zero_le _, ?_, by omega, ?_, Or.inl ⟨s2, s1⟩⟩
  · rw [s1]; unfold ini
    by_cases q : y < m ∧ 0 < lf y
    · rw [if_pos q]; have := hC.2.1 y q.1 q.2; omega
    · rw [if_neg q]; omega
  · rw [s1]; unfold ini
    by_cases q : y < m ∧ 0 < lf y
    · rw [if_pos q]; left; omega
    · rw [if_neg q]; right; exact ⟨by omega, fun _ => rfl⟩
/-- the ways are found -/
def Fnd (m r : Nat) (c f lf d via : Nat → Int) (ta : Nat → Nat) : Prop := (∀ x, x < m + r → 0 ≤ d x) ∧ (∀ b, b < m → 0 < lf b → d b = 0) ∧ (∀ o, o < r → d (m + o) ≤ 100) ∧ (∀ b o, b < m → o < r → (d b ≤ 36000 → d (m + o) ≤ d b + c (b * r + o)) ∧ (0 < f (b * r + o) → d b ≤ 36000 ∧ d (m + o) = d b + c (b * r + o))) ∧ ∀ y, y < m + r → d y ≤ 36000 → (via y = -1 ∧ y < m ∧ 0 < lf y) ∨ ∃ x w, via y = ((x : Nat) : Int) ∧ Ed m r c f x y w ∧ ta x < ta y ∧ d y = d x + w ∧ d x ≤ 36000
theorem fnd {m r : Nat} {L K : Int} {c f lf pot : Nat → Int} {i : Nat} {S : (Nat → Int) × (Nat → Int)} (hmr : m ≤ 5 ∧ r ≤ 4) (hi : i ≤ m + r) (hc : ∀ k, k < m * r → 0 ≤ c k ∧ c k ≤ 100) (hC : Cer m r c f lf pot) (hK : 100000 ≤ K) (hL : K ≤ L) (h1 : BI (m + r) L K (Ed m r c f) pot (ini m K lf) (2 * (i * (m * r))) S) (h2 : Cl L (Ed m r c f) S.1) {b0 : Nat} (hb0 : b0 < m ∧ 0 < lf b0) : ∃ ta, Fnd m r c f lf S.1 S.2 ta := by
  obtain ⟨ta, h1⟩ := h1
  have b1 : m * r ≤ 5 * 4 := Nat.mul_le_mul hmr.1 hmr.2
  have b2 : i * (m * r) ≤ 9 * 20 := Nat.mul_le_mul (by omega) (by omega)
  have hE := edh hc hC
  have nn : ∀ x, x < m + r → 0 ≤ S.1 x := fun x hx => by
    have := hC.2.2 x hx
    have := (h1 x hx).2.1
    omega
  have dz : ∀ b, b < m → 0 < lf b → S.1 b = 0 := fun b hb hl => by
    have := (h1 b (by omega)).2.2.1
    have := nn b (by omega)
    unfold ini at *
    rw [if_pos ⟨hb, hl⟩] at *
    omega
  have d0 := dz b0 hb0.1 hb0.2
  have dor : ∀ o, o < r → S.1 (m + o) ≤ 100 := fun o ho => by
    have := h2 b0 (m + o) _ (Or.inl ⟨b0, o, hb0.1, ho, rfl, rfl, rfl⟩) (by omega)
    have := hc _ (way_l hb0.1 ho)
    omega
  refine ⟨ta, nn, dz, dor, fun b o hb ho => ⟨fun q => h2 b (m + o) _ (Or.inl ⟨b, o, hb, ho, rfl, rfl, rfl⟩) (by omega), fun q => ?_⟩, fun y hy q => ?_⟩
  · have := dor o ho
    have := hc _ (way_l hb ho)
    have g1 := h2 (m + o) b _ (Or.inr ⟨b, o, hb, ho, rfl, rfl, rfl, q⟩) (by omega)
    have g2 := h2 b (m + o) _ (Or.inl ⟨b, o, hb, ho, rfl, rfl, rfl⟩) (by omega)
    omega
  · obtain ⟨y1, y2, y3, y4, y5⟩ := h1 y hy
    rcases y5 with ⟨e1, e2⟩ | ⟨x, w, e1, e2, e3⟩
    · left
      unfold ini at e2
      by_cases t : y < m ∧ 0 < lf y
      · exact ⟨e1, t.1, t.2⟩
      · rw [if_neg t] at e2; omega
    · right
      obtain ⟨k1, k2, k3, k4, k5⟩ := hE x y w e2
      have x4 := (h1 x k1).2.2.2.1
      have xr : S.1 x ≤ 36000 := by
        rcases x4 with t | ⟨t, -⟩
        · omega
        · rcases e3 with u | u <;> omega
      have := h2 x y w e2 (by omega)
      rcases e3 with u | u
      · exact ⟨x, w, e1, e2, u.1, u.2, xr⟩
      · omega
-- FILE 97s3.flow2
/-! wheat sent: cheapest, and along a way -/
def rwS (r : Nat) (f : Nat → Int) (b : Nat) : Int := sm (fun o => f (b * r + o)) r
def clS (m r : Nat) (f : Nat → Int) (o : Nat) : Int := sm (fun b => f (b * r + o)) m
def csS (m r : Nat) (c f : Nat → Int) : Int := sm (fun b => sm (fun o => c (b * r + o) * f (b * r + o)) r) m
theorem up_w {r b o x p : Nat} {f : Nat → Int} {v : Int} (ho : o < r) (hp : p < r) : up f (x * r + p) v (b * r + o) = if b = x ∧ o = p then v else f (b * r + o) := by
  unfold up
  by_cases c : b = x ∧ o = p
  · rw [if_pos c, if_pos (by rw [c.1, c.2])]
  · rw [if_neg c, if_neg (fun q => c (way_u ho hp q))]
theorem rw_up {r b x p : Nat} {f : Nat → Int} {v : Int} (hp : p < r) : rwS r (up f (x * r + p) v) b = rwS r f b + (if b = x then v - f (x * r + p) else 0) := by
  unfold rwS
  by_cases c : b = x
  · subst c
    rw [if_pos rfl, sm_ext (v := up (fun o => f (b * r + o)) p v) r (fun o ho => by
      rw [up_w ho hp]; unfold up
      by_cases d : o = p
      · rw [if_pos ⟨rfl, d⟩, if_pos d]
      · rw [if_neg (fun q => d q.2), if_neg d]), sm_up r hp]
  · rw [if_neg c, sm_ext (v := fun o => f (b * r + o)) r (fun o ho => by
      rw [up_w ho hp, if_neg (fun q => c q.1)])]; omega
theorem cl_up {m r o x p : Nat} {f : Nat → Int} {v : Int} (hx : x < m) (ho : o < r) (hp : p < r) : clS m r (up f (x * r + p) v) o = clS m r f o + (if o = p then v - f (x * r + p) else 0) := by
  unfold clS
  by_cases c : o = p
  · subst c
    rw [if_pos rfl, sm_ext (v := up (fun b => f (b * r + o)) x v) m (fun b hb => by
      rw [up_w ho hp]; unfold up
      by_cases d : b = x
      · rw [if_pos ⟨d, rfl⟩, if_pos d]
      · rw [if_neg (fun q => d q.1), if_neg d]), sm_up m hx]
  · rw [if_neg c, sm_ext (v := fun b => f (b * r + o)) m (fun b hb => by
      rw [up_w ho hp, if_neg (fun q => c q.2)])]; omega
theorem cs_up {m r x p : Nat} {c f : Nat → Int} {v : Int} (hx : x < m) (hp : p < r) : csS m r c (up f (x * r + p) v) = csS m r c f + c (x * r + p) * (v - f (x * r + p)) := by
  have e : csS m r c (up f (x * r + p) v) = sm (up (fun b => sm (fun o => c (b * r + o) * f (b * r + o)) r) x (sm (fun o => c (x * r + o) * f (x * r + o)) r + c (x * r + p) * (v - f (x * r + p)))) m := by
    unfold csS
    refine sm_ext m (fun b hb => ?_)
    by_cases d : b = x
    · subst d
      rw [up_e, sm_ext (v := up (fun o => c (b * r + o) * f (b * r + o)) p (c (b * r + p) * v)) r (fun o ho => by
        rw [up_w ho hp]; unfold up
        by_cases d : o = p
        · rw [if_pos ⟨rfl, d⟩, if_pos d, d]
        · rw [if_neg (fun q => d q.2), if_neg d]), sm_up r hp, Int.mul_sub]
    · rw [up_n d]
      exact sm_ext r (fun o ho => by rw [up_w ho hp, if_neg (fun q => d q.1)])
  rw [e, sm_up m hx]
  show _ = csS m r c f + _
  unfold csS; omega
/-- a sending that keeps to what there is and what is wanted -/
def FI (m r : Nat) (hv wn f lf wt : Nat → Int) : Prop := (∀ b o, b < m → o < r → 0 ≤ f (b * r + o)) ∧ (∀ b, b < m → 0 ≤ lf b ∧ lf b + rwS r f b = hv b) ∧ ∀ o, o < r → 0 ≤ wt o ∧ wt o + clS m r f o = wn o
theorem red_x {m r : Nat} {c g pot : Nat → Int} : sm (fun b => sm (fun o => (c (b * r + o) + pot b - pot (m + o)) * g (b * r + o)) r) m = csS m r c g + sm (fun b => pot b * rwS r g b) m - sm (fun o => pot (m + o) * clS m r g o) r := by
  have e1 : ∀ b, sm (fun o => (c (b * r + o) + pot b - pot (m + o)) * g (b * r + o)) r = sm (fun o => c (b * r + o) * g (b * r + o)) r + pot b * rwS r g b - sm (fun o => pot (m + o) * g (b * r + o)) r := fun b => by
    unfold rwS
    rw [← sm_mul, ← sm_add, ← sm_sub]
    exact sm_ext r (fun o ho => by rw [Int.sub_mul, Int.add_mul])
  rw [sm_ext m (fun b _ => e1 b), sm_sub, sm_add]
  have e3 : sm (fun b => sm (fun o => pot (m + o) * g (b * r + o)) r) m = sm (fun o => sm (fun b => pot (m + o) * g (b * r + o)) m) r := sm_swap m
  have e2 : sm (fun o => sm (fun b => pot (m + o) * g (b * r + o)) m) r = sm (fun o => pot (m + o) * clS m r g o) r := sm_ext r (fun o ho => by unfold clS; rw [sm_mul])
  rw [e3, e2]; rfl
theorem flow_opt {m r : Nat} {c hv wn f lf g lg pot z : Nat → Int} (hz : ∀ o, z o = 0) (h1 : FI m r hv wn f lf z) (h2 : Cer m r c f lf pot) (h3 : FI m r hv wn g lg z) : csS m r c f ≤ csS m r c g := by
  have ef := red_x (m := m) (r := r) (c := c) (g := f) (pot := pot)
  have eg := red_x (m := m) (r := r) (c := c) (g := g) (pot := pot)
  have f0 : sm (fun b => sm (fun o => (c (b * r + o) + pot b - pot (m + o)) * f (b * r + o)) r) m = 0 := sm_0 m (fun b hb => sm_0 r (fun o ho => by
    have := h1.1 b o hb ho
    by_cases q : 0 < f (b * r + o)
    · have := (h2.1 b o hb ho).2 q
      rw [show c (b * r + o) + pot b - pot (m + o) = 0 by omega, Int.zero_mul]
    · rw [show f (b * r + o) = 0 by omega, Int.mul_zero]))
  have g0 : 0 ≤ sm (fun b => sm (fun o => (c (b * r + o) + pot b - pot (m + o)) * g (b * r + o)) r) m := sm_nn m (fun b hb => sm_nn r (fun o ho => by
    have := h3.1 b o hb ho
    have := (h2.1 b o hb ho).1
    exact Int.mul_nonneg (by omega) (by omega)))
  have rf : sm (fun b => pot b * rwS r f b) m = sm (fun b => pot b * hv b) m := sm_ext m (fun b hb => by
    have := h1.2.1 b hb
    by_cases q : 0 < lf b
    · rw [h2.2.1 b hb q, Int.zero_mul, Int.zero_mul]
    · rw [show rwS r f b = hv b by omega])
  have rg : sm (fun b => pot b * rwS r g b) m ≤ sm (fun b => pot b * hv b) m := sm_le m (fun b hb => by
    have := h3.2.1 b hb
    have := (h2.2.2 b (by omega)).1
    exact Int.mul_le_mul_of_nonneg_left (by omega) (by omega))
  have cf : sm (fun o => pot (m + o) * clS m r f o) r = sm (fun o => pot (m + o) * clS m r g o) r := sm_ext r (fun o ho => by
    have := (h1.2.2 o ho).2
    have := (h3.2.2 o ho).2
    rw [show clS m r f o = clS m r g o by omega])
  omega
/-- along a way, from the order back: at order o something is wanting still -/
def AI (m r : Nat) (c hv wn f0 lf0 d : Nat → Int) (ta : Nat → Nat) (z T : Int) (o : Nat) (f lf wt : Nat → Int) : Prop := (∀ b p, b < m → p < r → 0 ≤ f (b * r + p) ∧ (0 < f (b * r + p) → d b ≤ 36000 ∧ d (m + p) = d b + c (b * r + p))) ∧ (∀ b, b < m → 0 ≤ lf b ∧ lf b + rwS r f b = hv b ∧ (0 < lf b → 0 < lf0 b)) ∧ (∀ p, p < r → 0 ≤ wt p ∧ wt p + clS m r f p = wn p - (if p = o then z else 0)) ∧ csS m r c f + z * d (m + o) = T ∧ ∀ b, b < m → ta b < ta (m + o) → lf b = lf0 b ∧ ∀ p, p < r → f (b * r + p) = f0 (b * r + p)
/-- the way's next bin -/
theorem way_b {m r : Nat} {c f0 lf0 d via : Nat → Int} {ta : Nat → Nat} {o : Nat} (hF : Fnd m r c f0 lf0 d via ta) (ho : o < r) : ∃ x : Nat, x < m ∧ via (m + o) = (x : Int) ∧ ta x < ta (m + o) ∧ d (m + o) = d x + c (x * r + o) ∧ d x ≤ 36000 ∧ ((via x = -1 ∧ 0 < lf0 x) ∨ ∃ p : Nat, p < r ∧ p ≠ o ∧ via x = ((m + p : Nat) : Int) ∧ ta (m + p) < ta x ∧ d x = d (m + p) - c (x * r + p) ∧ 0 < f0 (x * r + p)) := by
  obtain ⟨-, -, f3, -, f5⟩ := hF
  have := f3 o ho
  rcases f5 (m + o) (by omega) (by omega) with q | ⟨x, w, h1, h2, h3, h4, h5⟩
  · omega
  · rcases h2 with ⟨b, p, hb, hp, rfl, e2, rfl⟩ | ⟨b, p, hb, hp, e1, e2, -, -⟩
    · have : p = o := by omega
      subst this
      refine ⟨x, hb, h1, h3, h4, h5, ?_⟩
      rcases f5 x (by omega) h5 with q | ⟨y, w, g1, g2, g3, g4, g5⟩
      · exact Or.inl ⟨q.1, q.2.2⟩
      · rcases g2 with ⟨b', p', hb', hp', e1, e2', -⟩ | ⟨b', p', hb', hp', rfl, e2', rfl, hf⟩
        · omega
        · subst e2'
          refine Or.inr ⟨p', hp', fun q => ?_, g1, g3, by omega, hf⟩
          rw [q] at g3; omega
    · omega
theorem ai_mid {m r : Nat} {c hv wn f0 lf0 d f lf wt : Nat → Int} {ta : Nat → Nat} {z T : Int} {o x p : Nat} (hz : 0 ≤ z) (ho : o < r) (hx : x < m) (hp : p < r) (hpo : p ≠ o) (t1 : ta x < ta (m + o)) (t2 : ta (m + p) < ta x) (d1 : d (m + o) = d x + c (x * r + o)) (dx : d x ≤ 36000) (d2 : d x = d (m + p) - c (x * r + p)) (hzf : z ≤ f0 (x * r + p)) (h : AI m r c hv wn f0 lf0 d ta z T o f lf wt) :
    AI m r c hv wn f0 lf0 d ta z T p (up (up f (x * r + o) (f (x * r + o) + z)) (x * r + p) (f (x * r + p) - z)) lf wt := by
  obtain ⟨h1, h2, h3, h4, h5⟩ := h
  have u1 : up f (x * r + o) (f (x * r + o) + z) (x * r + p) = f (x * r + p) := by rw [up_w hp ho, if_neg (fun q => hpo q.2)]
  have fx := (h5 x hx t1).2 p hp
  refine ⟨fun b q hb hq => ?_, fun b hb => ?_, fun q hq => ?_, ?_, fun b hb ht => ?_⟩
  · rw [up_w hq hp]
    by_cases c1 : b = x ∧ q = p
    · rw [if_pos c1]
      refine ⟨by omega, fun _ => ?_⟩
      rw [c1.1, c1.2]; omega
    · rw [if_neg c1, up_w hq ho]
      by_cases c2 : b = x ∧ q = o
      · rw [if_pos c2]
        have := (h1 x o hx ho).1
        refine ⟨by omega, fun _ => ?_⟩
        rw [c2.1, c2.2]; omega
      · rw [if_neg c2]; exact h1 b q hb hq
  · obtain ⟨g1, g2, g3⟩ := h2 b hb
    refine ⟨g1, ?_, g3⟩
    rw [rw_up hp, rw_up ho, u1]
    by_cases q : b = x
    · rw [if_pos q, if_pos q]; omega
    · rw [if_neg q, if_neg q]; omega
  · obtain ⟨g1, g2⟩ := h3 q hq
    refine ⟨g1, ?_⟩
    rw [cl_up hx hq hp, cl_up hx hq ho, u1]
    by_cases q1 : q = p
    · rw [if_pos q1, if_pos q1, if_neg (by omega)]
      rw [if_neg (by omega)] at g2
      omega
    · rw [if_neg q1, if_neg q1]
      by_cases q2 : q = o
      · rw [if_pos q2]; rw [if_pos q2] at g2; omega
      · rw [if_neg q2]; rw [if_neg q2] at g2; omega
  · rw [cs_up hx hp, cs_up hx ho, u1]
    have e1 : c (x * r + o) * (f (x * r + o) + z - f (x * r + o)) = z * c (x * r + o) := by rw [show f (x * r + o) + z - f (x * r + o) = z by omega, Int.mul_comm]
    have e2 : c (x * r + p) * (f (x * r + p) - z - f (x * r + p)) = - (z * c (x * r + p)) := by rw [show f (x * r + p) - z - f (x * r + p) = - z by omega, Int.mul_neg, Int.mul_comm]
    have e3 : z * d (m + o) = z * d x + z * c (x * r + o) := by rw [d1, Int.mul_add]
    have e4 : z * d x = z * d (m + p) - z * c (x * r + p) := by rw [d2, Int.mul_sub]
    rw [e1, e2]
    omega
  · obtain ⟨g1, g2⟩ := h5 b hb (by omega)
    refine ⟨g1, fun q hq => ?_⟩
    have nb : b ≠ x := fun e => by rw [e] at ht; omega
    rw [up_w hq hp, if_neg (fun e => nb e.1), up_w hq ho, if_neg (fun e => nb e.1)]
    exact g2 q hq
theorem ai_end {m r : Nat} {c hv wn f0 lf0 d f lf wt via : Nat → Int} {ta : Nat → Nat} {z T : Int} {o x : Nat} (hc : ∀ k, k < m * r → 0 ≤ c k ∧ c k ≤ 100) (hF : Fnd m r c f0 lf0 d via ta) (hz : 0 ≤ z) (ho : o < r) (hx : x < m) (t1 : ta x < ta (m + o)) (d1 : d (m + o) = d x + c (x * r + o)) (dx : d x ≤ 36000) (hl : 0 < lf0 x) (hzf : z ≤ lf0 x) (h : AI m r c hv wn f0 lf0 d ta z T o f lf wt) :
    FI m r hv wn (up f (x * r + o) (f (x * r + o) + z)) (up lf x (lf x - z)) wt ∧ (∃ pot, Cer m r c (up f (x * r + o) (f (x * r + o) + z)) (up lf x (lf x - z)) pot) ∧ csS m r c (up f (x * r + o) (f (x * r + o) + z)) = T := by
  obtain ⟨h1, h2, h3, h4, h5⟩ := h
  obtain ⟨f1, f2, f3, f4, -⟩ := hF
  have d0 := f2 x hx hl
  have lx := (h5 x hx t1).1
  have tight : ∀ b q, b < m → q < r → 0 ≤ up f (x * r + o) (f (x * r + o) + z) (b * r + q) ∧ (0 < up f (x * r + o) (f (x * r + o) + z) (b * r + q) → d b ≤ 36000 ∧ d (m + q) = d b + c (b * r + q)) := fun b q hb hq => by
    rw [up_w hq ho]
    by_cases c2 : b = x ∧ q = o
    · rw [if_pos c2]
      have := (h1 x o hx ho).1
      refine ⟨by omega, fun _ => ?_⟩
      rw [c2.1, c2.2]; omega
    · rw [if_neg c2]; exact h1 b q hb hq
  refine ⟨⟨fun b q hb hq => (tight b q hb hq).1, fun b hb => ?_, fun q hq => ?_⟩, ⟨fun y => if d y ≤ 36000 then d y else 36000, fun b q hb hq => ?_, fun b hb hlb => ?_, fun y hy => ?_⟩, ?_⟩
  · obtain ⟨g1, g2, g3⟩ := h2 b hb
    rw [rw_up ho]
    by_cases q : b = x
    · subst q; rw [if_pos rfl, up_e]; exact ⟨by omega, by omega⟩
    · rw [if_neg q, up_n q]; exact ⟨g1, by omega⟩
  · obtain ⟨g1, g2⟩ := h3 q hq
    refine ⟨g1, ?_⟩
    rw [cl_up hx hq ho]
    by_cases q2 : q = o
    · rw [if_pos q2]; rw [if_pos q2] at g2; omega
    · rw [if_neg q2]; rw [if_neg q2] at g2; omega
  · have t := (tight b q hb hq).2
    have g3 := f3 q hq
    have g4 := (f4 b q hb hq).1
    have g0 := f1 b (by omega)
    show (if d (m + q) ≤ 36000 then d (m + q) else 36000) ≤ (if d b ≤ 36000 then d b else 36000) + c (b * r + q) ∧ (_ → (if d (m + q) ≤ 36000 then d (m + q) else 36000) = (if d b ≤ 36000 then d b else 36000) + c (b * r + q))
    rw [if_pos (by omega)]
    by_cases e : d b ≤ 36000
    · rw [if_pos e]; exact ⟨g4 e, fun u => (t u).2⟩
    · rw [if_neg e]
      refine ⟨?_, fun u => absurd (t u).1 e⟩
      have := hc _ (way_l hb hq)
      omega
  · show (if d b ≤ 36000 then d b else 36000) = 0
    have : 0 < lf0 b := by
      by_cases q : b = x
      · rw [q]; exact hl
      · rw [up_n q] at hlb; exact (h2 b hb).2.2 hlb
    rw [f2 b hb this, if_pos (by omega)]
  · show 0 ≤ (if d y ≤ 36000 then d y else 36000) ∧ (if d y ≤ 36000 then d y else 36000) ≤ 36000
    have := f1 y hy
    split <;> omega
  · rw [cs_up hx ho]
    have e1 : c (x * r + o) * (f (x * r + o) + z - f (x * r + o)) = z * c (x * r + o) := by rw [show f (x * r + o) + z - f (x * r + o) = z by omega, Int.mul_comm]
    have e3 : z * d (m + o) = z * c (x * r + o) := by rw [d1, d0, Int.zero_add]
    rw [e1]; omega
-- FILE 97s4.sendc
/-! wheat sent: the component finds the ways -/
def dC (m : Nat) (M : Mem) : Nat → Int := fun v => if v < m then M 71 v else M 73 (v - m)
def vC (m : Nat) (M : Mem) : Nat → Int := fun v => if v < m then (if M 72 v = -1 then -1 else if M 72 v < 0 then -2 else M 72 v + m) else M 74 (v - m)
def stC (m : Nat) (M : Mem) : (Nat → Int) × (Nat → Int) := (dC m M, vC m M)
theorem dC_b {m b : Nat} {M : Mem} (h : b < m) : dC m M b = M 71 b := by unfold dC; rw [if_pos h]
theorem dC_o {m o : Nat} {M : Mem} : dC m M (m + o) = M 73 o := by unfold dC; rw [if_neg (by omega), show m + o - m = o by omega]
theorem vC_o {m o : Nat} {M : Mem} : vC m M (m + o) = M 74 o := by unfold vC; rw [if_neg (by omega), show m + o - m = o by omega]
theorem vC_b {m b : Nat} {M : Mem} (h : b < m) : vC m M b = (if M 72 b = -1 then -1 else if M 72 b < 0 then -2 else M 72 b + m) := by unfold vC; rw [if_pos h]
theorem st_o {m o x : Nat} {M : Mem} {v : Int} : stC m (sto (sto M 73 o v) 74 o (x : Int)) = (up (dC m M) (m + o) v, up (vC m M) (m + o) (x : Int)) := by
  unfold stC
  refine Prod.ext (funext fun z => ?_) (funext fun z => ?_)
  · show dC m _ z = up (dC m M) (m + o) v z
    unfold dC
    rw [sto_r (show 71 ≠ 74 by decide), sto_r (show 71 ≠ 73 by decide), sto_r (show 73 ≠ 74 by decide), sto_up]
    unfold up
    dsimp only
    by_cases c : z < m
    · rw [if_pos c, if_neg (show ¬ z = m + o by omega), if_pos c]
    · rw [if_neg c]
      by_cases d : z = m + o
      · rw [if_pos d, if_pos (by omega)]
      · rw [if_neg d, if_neg (by omega), if_neg c]
  · show vC m _ z = up (vC m M) (m + o) (x : Int) z
    unfold vC
    rw [sto_r (show 72 ≠ 74 by decide), sto_r (show 72 ≠ 73 by decide), sto_up, sto_r (show 74 ≠ 73 by decide)]
    unfold up
    dsimp only
    by_cases c : z < m
    · rw [if_pos c, if_neg (show ¬ z = m + o by omega), if_pos c]
    · rw [if_neg c]
      by_cases d : z = m + o
      · rw [if_pos d, if_pos (by omega)]
      · rw [if_neg d, if_neg (by omega), if_neg c]
theorem st_b {m b o : Nat} {M : Mem} {v : Int} (hb : b < m) : stC m (sto (sto M 71 b v) 72 b (o : Int)) = (up (dC m M) b v, up (vC m M) b ((m + o : Nat) : Int)) := by
  unfold stC
  refine Prod.ext (funext fun z => ?_) (funext fun z => ?_)
  · show dC m _ z = up (dC m M) b v z
    unfold dC
    rw [sto_r (show 71 ≠ 72 by decide), sto_up, sto_r (show 73 ≠ 72 by decide), sto_r (show 73 ≠ 71 by decide)]
    unfold up
    dsimp only
    by_cases c : z < m
    · rw [if_pos c]
      by_cases d : z = b
      · rw [if_pos d, if_pos d]
      · rw [if_neg d, if_neg d, if_pos c]
    · rw [if_neg c, if_neg (show ¬ z = b by omega), if_neg c]
  · show vC m _ z = up (vC m M) b ((m + o : Nat) : Int) z
    unfold vC
    rw [sto_up, sto_r (show 72 ≠ 71 by decide), sto_r (show 74 ≠ 72 by decide), sto_r (show 74 ≠ 71 by decide)]
    unfold up
    dsimp only
    by_cases c : z < m
    · rw [if_pos c]
      by_cases d : z = b
      · rw [if_pos d, if_pos d, if_neg (by omega), if_neg (by omega)]; omega
      · rw [if_neg d, if_neg d, if_pos c]
    · rw [if_neg c, if_neg (show ¬ z = b by omega), if_neg c]
theorem s_go65 {m r b o k : Nat} {M : Mem} {a4 : Int} (hmr : m ≤ 5 ∧ r ≤ 4) (hb : b < m) (ho : o < r) (hk : k < 20) (ha : a4 = 0 ∨ a4 = 1) (hc : 0 ≤ M 69 k ∧ M 69 k ≤ 100) (hf : 0 ≤ M 70 k ∧ M 70 k ≤ 30) (h1 : 0 ≤ M 71 b ∧ M 71 b ≤ 1000000) (h2 : 0 ≤ M 73 o ∧ M 73 o ≤ 1000000) :
    Ok (k_Ya_goOn_65 (b : Int) (o : Int) (k : Int) a4 M) (fun g M' => (g = 0 ∨ g = 1) ∧ (g = 0 → a4 = 0 ∧ M' = M ∧ (0 < M 70 k → dC m M b ≤ dC m M (m + o) - M 69 k)) ∧ stC m M' = (if 0 < M 70 k then rl 1000001 (m + o) b (- M 69 k) (stC m M) else stC m M)) := by
  have eb : ix (b : Int) = b := ix_n (by omega)
  have eo : ix (o : Int) = o := ix_n (by omega)
  have ek : ix (k : Int) = k := ix_n (by omega)
  have s1 : (stC m M).1 b = M 71 b := dC_b hb
  have s2 : (stC m M).1 (m + o) = M 73 o := dC_o
  unfold k_Ya_goOn_65
  by_cases c1 : 0 < M 70 k
  · rw [if_pos c1]
    unfold rl
    rw [s1, s2]
    by_cases c2 : M 73 o - M 69 k < M 71 b
    · rw [if_pos ⟨by omega, by omega⟩]
      repeat (first | with_reducible refine ok_let ?_ | with_reducible refine ok_cs ?_ | with_reducible refine ok_clet ?_ | with_reducible refine ok_cc ?_ | (with_reducible refine ok_chk ?_ ?_; · (first | omega | ((try simp (disch := omega) only [w32_eq, w64_eq, ix_n, ix_e, sto_n, sto_e, sto_r, zf_r, Int.toNat_natCast, true_or, or_true, eq_self, ek, eb, eo]) <;> (first | omega | decide)))) | (with_reducible refine ok_cchk ?_ ?_; · (first | omega | ((try simp (disch := omega) only [w32_eq, w64_eq, ix_n, ix_e, sto_n, sto_e, sto_r, zf_r, Int.toNat_natCast, true_or, or_true, eq_self, ek, eb, eo]) <;> (first | omega | decide)))) | (with_reducible refine ok_t ?_ ?_; · (first | omega | ((try simp (disch := omega) only [w32_eq, w64_eq, ix_n, ix_e, sto_n, sto_e, sto_r, zf_r, Int.toNat_natCast, true_or, or_true, eq_self, ek, eb, eo]) <;> (first | omega | decide)))) | (with_reducible refine ok_f ?_ ?_; · (first | omega | ((try simp (disch := omega) only [w32_eq, w64_eq, ix_n, ix_e, sto_n, sto_e, sto_r, zf_r, Int.toNat_natCast, true_or, or_true, eq_self, ek, eb, eo]) <;> (first | omega | decide)))) | (with_reducible refine ok_ct ?_ ?_; · (first | omega | ((try simp (disch := omega) only [w32_eq, w64_eq, ix_n, ix_e, sto_n, sto_e, sto_r, zf_r, Int.toNat_natCast, true_or, or_true, eq_self, ek, eb, eo]) <;> (first | omega | decide)))) | (with_reducible refine ok_cf ?_ ?_; · (first | omega | ((try simp (disch := omega) only [w32_eq, w64_eq, ix_n, ix_e, sto_n, sto_e, sto_r, zf_r, Int.toNat_natCast, true_or, or_true, eq_self, ek, eb, eo]) <;> (first | omega | decide)))))
      refine ok_ret ⟨Or.inr rfl, fun q => absurd q (by decide), ?_⟩
      rw [eb, eo, ek, st_b hb]
      rfl
    · rw [if_neg (by omega)]
      repeat (first | with_reducible refine ok_let ?_ | with_reducible refine ok_cs ?_ | with_reducible refine ok_clet ?_ | with_reducible refine ok_cc ?_ | (with_reducible refine ok_chk ?_ ?_; · (first | omega | ((try simp (disch := omega) only [w32_eq, w64_eq, ix_n, ix_e, sto_n, sto_e, sto_r, zf_r, Int.toNat_natCast, true_or, or_true, eq_self, ek, eb, eo]) <;> (first | omega | decide)))) | (with_reducible refine ok_cchk ?_ ?_; · (first | omega | ((try simp (disch := omega) only [w32_eq, w64_eq, ix_n, ix_e, sto_n, sto_e, sto_r, zf_r, Int.toNat_natCast, true_or, or_true, eq_self, ek, eb, eo]) <;> (first | omega | decide)))) | (with_reducible refine ok_t ?_ ?_; · (first | omega | ((try simp (disch := omega) only [w32_eq, w64_eq, ix_n, ix_e, sto_n, sto_e, sto_r, zf_r, Int.toNat_natCast, true_or, or_true, eq_self, ek, eb, eo]) <;> (first | omega | decide)))) | (with_reducible refine ok_f ?_ ?_; · (first | omega | ((try simp (disch := omega) only [w32_eq, w64_eq, ix_n, ix_e, sto_n, sto_e, sto_r, zf_r, Int.toNat_natCast, true_or, or_true, eq_self, ek, eb, eo]) <;> (first | omega | decide)))) | (with_reducible refine ok_ct ?_ ?_; · (first | omega | ((try simp (disch := omega) only [w32_eq, w64_eq, ix_n, ix_e, sto_n, sto_e, sto_r, zf_r, Int.toNat_natCast, true_or, or_true, eq_self, ek, eb, eo]) <;> (first | omega | decide)))) | (with_reducible refine ok_cf ?_ ?_; · (first | omega | ((try simp (disch := omega) only [w32_eq, w64_eq, ix_n, ix_e, sto_n, sto_e, sto_r, zf_r, Int.toNat_natCast, true_or, or_true, eq_self, ek, eb, eo]) <;> (first | omega | decide)))))
      refine ok_ret ⟨ha, fun q => ⟨q, rfl, fun _ => ?_⟩, rfl⟩
      rw [dC_b hb, dC_o]; omega
  · rw [if_neg c1]
    repeat (first | with_reducible refine ok_let ?_ | with_reducible refine ok_cs ?_ | with_reducible refine ok_clet ?_ | with_reducible refine ok_cc ?_ | (with_reducible refine ok_chk ?_ ?_; · (first | omega | ((try simp (disch := omega) only [w32_eq, w64_eq, ix_n, ix_e, sto_n, sto_e, sto_r, zf_r, Int.toNat_natCast, true_or, or_true, eq_self, ek]) <;> (first | omega | decide)))) | (with_reducible refine ok_cchk ?_ ?_; · (first | omega | ((try simp (disch := omega) only [w32_eq, w64_eq, ix_n, ix_e, sto_n, sto_e, sto_r, zf_r, Int.toNat_natCast, true_or, or_true, eq_self, ek]) <;> (first | omega | decide)))) | (with_reducible refine ok_t ?_ ?_; · (first | omega | ((try simp (disch := omega) only [w32_eq, w64_eq, ix_n, ix_e, sto_n, sto_e, sto_r, zf_r, Int.toNat_natCast, true_or, or_true, eq_self, ek]) <;> (first | omega | decide)))) | (with_reducible refine ok_f ?_ ?_; · (first | omega | ((try simp (disch := omega) only [w32_eq, w64_eq, ix_n, ix_e, sto_n, sto_e, sto_r, zf_r, Int.toNat_natCast, true_or, or_true, eq_self, ek]) <;> (first | omega | decide)))) | (with_reducible refine ok_ct ?_ ?_; · (first | omega | ((try simp (disch := omega) only [w32_eq, w64_eq, ix_n, ix_e, sto_n, sto_e, sto_r, zf_r, Int.toNat_natCast, true_or, or_true, eq_self, ek]) <;> (first | omega | decide)))) | (with_reducible refine ok_cf ?_ ?_; · (first | omega | ((try simp (disch := omega) only [w32_eq, w64_eq, ix_n, ix_e, sto_n, sto_e, sto_r, zf_r, Int.toNat_natCast, true_or, or_true, eq_self, ek]) <;> (first | omega | decide)))))
    exact ok_ret ⟨ha, fun q => ⟨q, rfl, fun h => absurd h c1⟩, rfl⟩
theorem s_goOn {m r b o k : Nat} {M : Mem} (hmr : m ≤ 5 ∧ r ≤ 4) (hb : b < m) (ho : o < r) (hk : k < 20) (hc : 0 ≤ M 69 k ∧ M 69 k ≤ 100) (hf : 0 ≤ M 70 k ∧ M 70 k ≤ 30) (h1 : 0 ≤ M 71 b ∧ M 71 b ≤ 1000000) (h2 : 0 ≤ M 73 o ∧ M 73 o ≤ 1000000) :
    Ok (d_Ya_goOn (b : Int) (o : Int) (k : Int) M) (fun g M' => ((g = 0 ∨ g = 1) ∧ (g = 0 → M' = M ∧ dC m M (m + o) ≤ dC m M b + M 69 k ∧ (0 < M 70 k → dC m M b ≤ dC m M (m + o) - M 69 k)) ∧ stC m M' = wst m 1000001 (M 69) (M 70) b o k (stC m M)) ∧ Fr [71, 72, 73, 74] [] M M') := by
  refine ok_fr ?_ (fun r hr => w_Ya_goOn hr)
  have eb : ix (b : Int) = b := ix_n (by omega)
  have eo : ix (o : Int) = o := ix_n (by omega)
  have ek : ix (k : Int) = k := ix_n (by omega)
  have s1 : (stC m M).1 b = M 71 b := dC_b hb
  have s2 : (stC m M).1 (m + o) = M 73 o := dC_o
  unfold wst
  have er : rl 1000001 b (m + o) (M 69 k) (stC m M) = if M 71 b + M 69 k < M 73 o then (up (dC m M) (m + o) (M 71 b + M 69 k), up (vC m M) (m + o) (b : Int)) else stC m M := by
    unfold rl
    rw [s1, s2]
    by_cases c : M 71 b + M 69 k < M 73 o
    · rw [if_pos ⟨by omega, c⟩, if_pos c]; rfl
    · rw [if_neg (fun q => c q.2), if_neg c]
  rw [er]
  unfold d_Ya_goOn
  by_cases c1 : M 71 b + M 69 k < M 73 o
  · rw [if_pos c1]
    repeat (first | with_reducible refine ok_let ?_ | with_reducible refine ok_cs ?_ | with_reducible refine ok_clet ?_ | with_reducible refine ok_cc ?_ | (with_reducible refine ok_chk ?_ ?_; · (first | omega | ((try simp (disch := omega) only [w32_eq, w64_eq, ix_n, ix_e, sto_n, sto_e, sto_r, zf_r, Int.toNat_natCast, true_or, or_true, eq_self, ek, eb, eo]) <;> (first | omega | decide)))) | (with_reducible refine ok_cchk ?_ ?_; · (first | omega | ((try simp (disch := omega) only [w32_eq, w64_eq, ix_n, ix_e, sto_n, sto_e, sto_r, zf_r, Int.toNat_natCast, true_or, or_true, eq_self, ek, eb, eo]) <;> (first | omega | decide)))) | (with_reducible refine ok_t ?_ ?_; · (first | omega | ((try simp (disch := omega) only [w32_eq, w64_eq, ix_n, ix_e, sto_n, sto_e, sto_r, zf_r, Int.toNat_natCast, true_or, or_true, eq_self, ek, eb, eo]) <;> (first | omega | decide)))) | (with_reducible refine ok_f ?_ ?_; · (first | omega | ((try simp (disch := omega) only [w32_eq, w64_eq, ix_n, ix_e, sto_n, sto_e, sto_r, zf_r, Int.toNat_natCast, true_or, or_true, eq_self, ek, eb, eo]) <;> (first | omega | decide)))) | (with_reducible refine ok_ct ?_ ?_; · (first | omega | ((try simp (disch := omega) only [w32_eq, w64_eq, ix_n, ix_e, sto_n, sto_e, sto_r, zf_r, Int.toNat_natCast, true_or, or_true, eq_self, ek, eb, eo]) <;> (first | omega | decide)))) | (with_reducible refine ok_cf ?_ ?_; · (first | omega | ((try simp (disch := omega) only [w32_eq, w64_eq, ix_n, ix_e, sto_n, sto_e, sto_r, zf_r, Int.toNat_natCast, true_or, or_true, eq_self, ek, eb, eo]) <;> (first | omega | decide)))))
    rw [eb, eo, ek, ← st_o]
    have z : ∀ c, c ≠ 73 → c ≠ 74 → sto (sto M 73 o (M 71 b + M 69 k)) 74 o (b : Int) c = M c := fun c h1 h2 => by rw [sto_r h2, sto_r h1]
    have z73 : sto (sto M 73 o (M 71 b + M 69 k)) 74 o (b : Int) 73 o = M 71 b + M 69 k := by rw [sto_r (by decide), sto_e]
    have q := s_go65 (r := r) (M := sto (sto M 73 o (M 71 b + M 69 k)) 74 o (b : Int)) (a4 := 1) hmr hb ho hk (Or.inr rfl) (by rw [z 69 (by decide) (by decide)]; exact hc) (by rw [z 70 (by decide) (by decide)]; exact hf) (by rw [z 71 (by decide) (by decide)]; exact h1) (by rw [z73]; omega)
    refine ok_mono q (fun g M' h => ⟨h.1, fun e => absurd (h.2.1 e).1 (by decide), ?_⟩)
    rw [h.2.2, z 69 (by decide) (by decide), z 70 (by decide) (by decide)]
  · rw [if_neg c1]
    have q := s_go65 (r := r) (M := M) (a4 := 0) hmr hb ho hk (Or.inl rfl) hc hf h1 h2
    have fin : Ok (k_Ya_goOn_65 (b : Int) (o : Int) (k : Int) 0 M) (fun g M' => (g = 0 ∨ g = 1) ∧ (g = 0 → M' = M ∧ dC m M (m + o) ≤ dC m M b + M 69 k ∧ (0 < M 70 k → dC m M b ≤ dC m M (m + o) - M 69 k)) ∧ stC m M' = (if 0 < M 70 k then rl 1000001 (m + o) b (- M 69 k) (stC m M) else stC m M)) := by
      refine ok_mono q (fun g M' h => ⟨h.1, fun e => ⟨(h.2.1 e).2.1, ?_, (h.2.1 e).2.2⟩, h.2.2⟩)
      rw [dC_b hb, dC_o]; omega
    by_cases c2 : M 71 b < 1000000
    · repeat (first | with_reducible refine ok_let ?_ | with_reducible refine ok_cs ?_ | with_reducible refine ok_clet ?_ | with_reducible refine ok_cc ?_ | (with_reducible refine ok_chk ?_ ?_; · (first | omega | ((try simp (disch := omega) only [w32_eq, w64_eq, ix_n, ix_e, sto_n, sto_e, sto_r, zf_r, Int.toNat_natCast, true_or, or_true, eq_self, ek, eb, eo]) <;> (first | omega | decide)))) | (with_reducible refine ok_cchk ?_ ?_; · (first | omega | ((try simp (disch := omega) only [w32_eq, w64_eq, ix_n, ix_e, sto_n, sto_e, sto_r, zf_r, Int.toNat_natCast, true_or, or_true, eq_self, ek, eb, eo]) <;> (first | omega | decide)))) | (with_reducible refine ok_t ?_ ?_; · (first | omega | ((try simp (disch := omega) only [w32_eq, w64_eq, ix_n, ix_e, sto_n, sto_e, sto_r, zf_r, Int.toNat_natCast, true_or, or_true, eq_self, ek, eb, eo]) <;> (first | omega | decide)))) | (with_reducible refine ok_f ?_ ?_; · (first | omega | ((try simp (disch := omega) only [w32_eq, w64_eq, ix_n, ix_e, sto_n, sto_e, sto_r, zf_r, Int.toNat_natCast, true_or, or_true, eq_self, ek, eb, eo]) <;> (first | omega | decide)))) | (with_reducible refine ok_ct ?_ ?_; · (first | omega | ((try simp (disch := omega) only [w32_eq, w64_eq, ix_n, ix_e, sto_n, sto_e, sto_r, zf_r, Int.toNat_natCast, true_or, or_true, eq_self, ek, eb, eo]) <;> (first | omega | decide)))) | (with_reducible refine ok_cf ?_ ?_; · (first | omega | ((try simp (disch := omega) only [w32_eq, w64_eq, ix_n, ix_e, sto_n, sto_e, sto_r, zf_r, Int.toNat_natCast, true_or, or_true, eq_self, ek, eb, eo]) <;> (first | omega | decide)))))
      exact fin
    · repeat (first | with_reducible refine ok_let ?_ | with_reducible refine ok_cs ?_ | with_reducible refine ok_clet ?_ | with_reducible refine ok_cc ?_ | (with_reducible refine ok_chk ?_ ?_; · (first | omega | ((try simp (disch := omega) only [w32_eq, w64_eq, ix_n, ix_e, sto_n, sto_e, sto_r, zf_r, Int.toNat_natCast, true_or, or_true, eq_self, ek, eb, eo]) <;> (first | omega | decide)))) | (with_reducible refine ok_cchk ?_ ?_; · (first | omega | ((try simp (disch := omega) only [w32_eq, w64_eq, ix_n, ix_e, sto_n, sto_e, sto_r, zf_r, Int.toNat_natCast, true_or, or_true, eq_self, ek, eb, eo]) <;> (first | omega | decide)))) | (with_reducible refine ok_t ?_ ?_; · (first | omega | ((try simp (disch := omega) only [w32_eq, w64_eq, ix_n, ix_e, sto_n, sto_e, sto_r, zf_r, Int.toNat_natCast, true_or, or_true, eq_self, ek, eb, eo]) <;> (first | omega | decide)))) | (with_reducible refine ok_f ?_ ?_; · (first | omega | ((try simp (disch := omega) only [w32_eq, w64_eq, ix_n, ix_e, sto_n, sto_e, sto_r, zf_r, Int.toNat_natCast, true_or, or_true, eq_self, ek, eb, eo]) <;> (first | omega | decide)))) | (with_reducible refine ok_ct ?_ ?_; · (first | omega | ((try simp (disch := omega) only [w32_eq, w64_eq, ix_n, ix_e, sto_n, sto_e, sto_r, zf_r, Int.toNat_natCast, true_or, or_true, eq_self, ek, eb, eo]) <;> (first | omega | decide)))) | (with_reducible refine ok_cf ?_ ?_; · (first | omega | ((try simp (disch := omega) only [w32_eq, w64_eq, ix_n, ix_e, sto_n, sto_e, sto_r, zf_r, Int.toNat_natCast, true_or, or_true, eq_self, ek, eb, eo]) <;> (first | omega | decide)))))
      exact fin
/-- the ways below k can't be bettered -/
def Rk (m r : Nat) (c f : Nat → Int) (k : Nat) (d : Nat → Int) : Prop := ∀ b o, b < m → o < r → b * r + o < k → d (m + o) ≤ d b + c (b * r + o) ∧ (0 < f (b * r + o) → d b ≤ d (m + o) - c (b * r + o))
theorem rk_cl {m r : Nat} {L : Int} {c f d : Nat → Int} (h : Rk m r c f (m * r) d) : Cl L (Ed m r c f) d := by
  intro x y w he _
  rcases he with ⟨b, o, hb, ho, rfl, rfl, rfl⟩ | ⟨b, o, hb, ho, rfl, rfl, rfl, hf⟩
  · exact (h _ _ hb ho (way_l hb ho)).1
  · have := (h _ _ hb ho (way_l hb ho)).2 hf; omega
def FwI (m r : Nat) (B : Mem) (pot : Nat → Int) (i k : Nat) (ch : Int) (M : Mem) : Prop := WI m r 1000001 1000000 (B 69) (B 70) (B 67) pot i k (stC m M) ∧ Fr [71, 72, 73, 74] [] B M ∧ (ch = 0 ∨ ch = 1) ∧ (ch = 0 → Rk m r (B 69) (B 70) k (dC m M))
theorem wi_bd {m r : Nat} {L K : Int} {c f lf pot : Nat → Int} {i k : Nat} {S : (Nat → Int) × (Nat → Int)} (hK : 0 ≤ K) (hC : Cer m r c f lf pot) (h : WI m r L K c f lf pot i k S) {x : Nat} (hx : x < m + r) : 0 ≤ S.1 x ∧ S.1 x ≤ K := by
  obtain ⟨ta, h⟩ := h.1
  obtain ⟨-, h1, h2, -⟩ := h x hx
  have := hC.2.2 x hx
  unfold ini at h2
  split at h2 <;> omega
/-- the world of a sending -/
def SnW (m r : Nat) (B : Mem) : Prop := (m ≤ 5 ∧ r ≤ 4) ∧ (∀ k, k < m * r → (0 ≤ B 69 k ∧ B 69 k ≤ 100) ∧ (0 ≤ B 70 k ∧ B 70 k ≤ 30))
theorem l_fw100 {m r b i : Nat} {B : Mem} {pot : Nat → Int} {P : Int → Mem → Prop} {R74 : Int → Int → Int → Int → Mem → Res} {R91 : Int → Int → Int → Int → Int → Mem → Res} (hW : SnW m r B) (hC : Cer m r (B 69) (B 70) (B 67) pot) (hb : b < m)
    (hR : ∀ (ch : Int) (M : Mem), FwI m r B pot i ((b + 1) * r) ch M → Ok (R91 (m : Int) (r : Int) ch (i : Int) ((b : Int) + 1) M) P) :
    ∀ (j fuel o : Nat) (ch : Int) (M : Mem), o + j = r → j < fuel → FwI m r B pot i (b * r + o) ch M → Ok (fix (fun _ _ _ _ _ _ _ => none) (k_Ya_findWays_100 R74 R91) fuel (m : Int) (r : Int) ch (i : Int) (b : Int) (o : Int) M) P := by
  obtain ⟨hmr, hcf⟩ := hW
  intro j; induction j with
  | zero =>
    intro fuel o ch M e hf hI
    have : o = r := by omega
    subst this
    obtain ⟨f, rfl⟩ : ∃ f, fuel = f + 1 := ⟨fuel - 1, by omega⟩; rw [fix_s]; unfold k_Ya_findWays_100
    repeat (first | with_reducible refine ok_let ?_ | with_reducible refine ok_cs ?_ | with_reducible refine ok_clet ?_ | with_reducible refine ok_cc ?_ | (with_reducible refine ok_chk ?_ ?_; · (first | omega | ((try simp (disch := omega) only [w32_eq, w64_eq, ix_n, ix_e, sto_n, sto_e, sto_r, zf_r, Int.toNat_natCast, true_or, or_true, eq_self]) <;> (first | omega | decide)))) | (with_reducible refine ok_cchk ?_ ?_; · (first | omega | ((try simp (disch := omega) only [w32_eq, w64_eq, ix_n, ix_e, sto_n, sto_e, sto_r, zf_r, Int.toNat_natCast, true_or, or_true, eq_self]) <;> (first | omega | decide)))) | (with_reducible refine ok_t ?_ ?_; · (first | omega | ((try simp (disch := omega) only [w32_eq, w64_eq, ix_n, ix_e, sto_n, sto_e, sto_r, zf_r, Int.toNat_natCast, true_or, or_true, eq_self]) <;> (first | omega | decide)))) | (with_reducible refine ok_f ?_ ?_; · (first | omega | ((try simp (disch := omega) only [w32_eq, w64_eq, ix_n, ix_e, sto_n, sto_e, sto_r, zf_r, Int.toNat_natCast, true_or, or_true, eq_self]) <;> (first | omega | decide)))) | (with_reducible refine ok_ct ?_ ?_; · (first | omega | ((try simp (disch := omega) only [w32_eq, w64_eq, ix_n, ix_e, sto_n, sto_e, sto_r, zf_r, Int.toNat_natCast, true_or, or_true, eq_self]) <;> (first | omega | decide)))) | (with_reducible refine ok_cf ?_ ?_; · (first | omega | ((try simp (disch := omega) only [w32_eq, w64_eq, ix_n, ix_e, sto_n, sto_e, sto_r, zf_r, Int.toNat_natCast, true_or, or_true, eq_self]) <;> (first | omega | decide)))))
    refine hR ch M ?_
    rw [Nat.add_mul, Nat.one_mul]; exact hI
  | succ j ih =>
    intro fuel o ch M e hf hI
    have hj : (o : Int) + 1 = ((o + 1 : Nat) : Int) := by omega
    have ek : (b : Int) * (r : Int) + (o : Int) = ((b * r + o : Nat) : Int) := by push_cast; rfl
    have ho : o < r := by omega
    obtain ⟨i1, i2, i3, i4⟩ := hI
    have u69 := i2.c 69 (by decide) (by decide)
    have u70 := i2.c 70 (by decide) (by decide)
    have hk := way_l hb ho
    have hb1 := wi_bd (by decide) hC i1 (show b < m + r by omega)
    have hb2 := wi_bd (by decide) hC i1 (show m + o < m + r by omega)
    have e1 : (stC m M).1 b = M 71 b := dC_b hb
    have e2 : (stC m M).1 (m + o) = M 73 o := dC_o
    rw [e1] at hb1
    rw [e2] at hb2
    obtain ⟨f, rfl⟩ : ∃ f, fuel = f + 1 := ⟨fuel - 1, by omega⟩; rw [fix_s]; unfold k_Ya_findWays_100
    refine ok_t (by first | omega | ((try simp (disch := omega) only [w32_eq, w64_eq, ix_n, ix_e, sto_n, sto_e, sto_r, zf_r, Int.toNat_natCast, true_or, or_true, eq_self]) <;> (first | omega | decide))) ?_
    rw [ek]
    refine ok_call (s_goOn (m := m) (r := r) (M := M) hmr hb ho (way_20 hmr.1 hmr.2 hb ho) (by rw [u69]; exact (hcf _ hk).1) (by rw [u70]; exact (hcf _ hk).2) hb1 hb2) (fun g X h => ?_)
    obtain ⟨⟨g1, g2, g3⟩, gF⟩ := h
    refine ok_let (ok_let ?_)
    rw [hj]
    have hor : (or32 ch g = 0 ∨ or32 ch g = 1) ∧ (or32 ch g = 0 → ch = 0 ∧ g = 0) := by
      rcases i3 with q | q <;> rcases g1 with t | t <;> rw [q, t] <;> decide
    refine ih f (o + 1) _ X (by omega) (by omega) ⟨?_, i2.trans gF, hor.1, fun q => ?_⟩
    · rw [g3, u69, u70]
      exact wi_step (fun k hk => (hcf k hk).1) hC hb ho i1
    · obtain ⟨q1, q2⟩ := hor.2 q
      obtain ⟨x1, x2, x3⟩ := g2 q2
      rw [x1]
      intro b' o' hb' ho' hlt
      by_cases t : b' * r + o' < b * r + o
      · exact i4 q1 b' o' hb' ho' t
      · obtain ⟨rfl, rfl⟩ := way_u ho' ho (show b' * r + o' = b * r + o by omega)
        rw [← u69, ← u70]
        exact ⟨x2, x3⟩
theorem l_fw91 {m r i : Nat} {B : Mem} {pot : Nat → Int} {P : Int → Mem → Prop} {R74 : Int → Int → Int → Int → Mem → Res} (hW : SnW m r B) (hC : Cer m r (B 69) (B 70) (B 67) pot)
    (hR : ∀ (ch : Int) (M : Mem), FwI m r B pot i (m * r) ch M → Ok (R74 (m : Int) (r : Int) ch ((i : Int) + 1) M) P) :
    ∀ (j fuel b : Nat) (ch : Int) (M : Mem), b + j = m → j < fuel → FwI m r B pot i (b * r) ch M → Ok (fix (fun _ _ _ _ _ _ => none) (k_Ya_findWays_91 R74) fuel (m : Int) (r : Int) ch (i : Int) (b : Int) M) P := by
  have hmr := hW.1
  intro j; induction j with
  | zero =>
    intro fuel b ch M e hf hI
    have : b = m := by omega
    subst this
    obtain ⟨f, rfl⟩ : ∃ f, fuel = f + 1 := ⟨fuel - 1, by omega⟩; rw [fix_s]; unfold k_Ya_findWays_91
    repeat (first | with_reducible refine ok_let ?_ | with_reducible refine ok_cs ?_ | with_reducible refine ok_clet ?_ | with_reducible refine ok_cc ?_ | (with_reducible refine ok_chk ?_ ?_; · (first | omega | ((try simp (disch := omega) only [w32_eq, w64_eq, ix_n, ix_e, sto_n, sto_e, sto_r, zf_r, Int.toNat_natCast, true_or, or_true, eq_self]) <;> (first | omega | decide)))) | (with_reducible refine ok_cchk ?_ ?_; · (first | omega | ((try simp (disch := omega) only [w32_eq, w64_eq, ix_n, ix_e, sto_n, sto_e, sto_r, zf_r, Int.toNat_natCast, true_or, or_true, eq_self]) <;> (first | omega | decide)))) | (with_reducible refine ok_t ?_ ?_; · (first | omega | ((try simp (disch := omega) only [w32_eq, w64_eq, ix_n, ix_e, sto_n, sto_e, sto_r, zf_r, Int.toNat_natCast, true_or, or_true, eq_self]) <;> (first | omega | decide)))) | (with_reducible refine ok_f ?_ ?_; · (first | omega | ((try simp (disch := omega) only [w32_eq, w64_eq, ix_n, ix_e, sto_n, sto_e, sto_r, zf_r, Int.toNat_natCast, true_or, or_true, eq_self]) <;> (first | omega | decide)))) | (with_reducible refine ok_ct ?_ ?_; · (first | omega | ((try simp (disch := omega) only [w32_eq, w64_eq, ix_n, ix_e, sto_n, sto_e, sto_r, zf_r, Int.toNat_natCast, true_or, or_true, eq_self]) <;> (first | omega | decide)))) | (with_reducible refine ok_cf ?_ ?_; · (first | omega | ((try simp (disch := omega) only [w32_eq, w64_eq, ix_n, ix_e, sto_n, sto_e, sto_r, zf_r, Int.toNat_natCast, true_or, or_true, eq_self]) <;> (first | omega | decide)))))
    exact hR ch M hI
  | succ j ih =>
    intro fuel b ch M e hf hI
    have hj : (b : Int) + 1 = ((b + 1 : Nat) : Int) := by omega
    obtain ⟨f, rfl⟩ : ∃ f, fuel = f + 1 := ⟨fuel - 1, by omega⟩; rw [fix_s]; unfold k_Ya_findWays_91
    repeat (first | with_reducible refine ok_let ?_ | with_reducible refine ok_cs ?_ | with_reducible refine ok_clet ?_ | with_reducible refine ok_cc ?_ | (with_reducible refine ok_chk ?_ ?_; · (first | omega | ((try simp (disch := omega) only [w32_eq, w64_eq, ix_n, ix_e, sto_n, sto_e, sto_r, zf_r, Int.toNat_natCast, true_or, or_true, eq_self]) <;> (first | omega | decide)))) | (with_reducible refine ok_cchk ?_ ?_; · (first | omega | ((try simp (disch := omega) only [w32_eq, w64_eq, ix_n, ix_e, sto_n, sto_e, sto_r, zf_r, Int.toNat_natCast, true_or, or_true, eq_self]) <;> (first | omega | decide)))) | (with_reducible refine ok_t ?_ ?_; · (first | omega | ((try simp (disch := omega) only [w32_eq, w64_eq, ix_n, ix_e, sto_n, sto_e, sto_r, zf_r, Int.toNat_natCast, true_or, or_true, eq_self]) <;> (first | omega | decide)))) | (with_reducible refine ok_f ?_ ?_; · (first | omega | ((try simp (disch := omega) only [w32_eq, w64_eq, ix_n, ix_e, sto_n, sto_e, sto_r, zf_r, Int.toNat_natCast, true_or, or_true, eq_self]) <;> (first | omega | decide)))) | (with_reducible refine ok_ct ?_ ?_; · (first | omega | ((try simp (disch := omega) only [w32_eq, w64_eq, ix_n, ix_e, sto_n, sto_e, sto_r, zf_r, Int.toNat_natCast, true_or, or_true, eq_self]) <;> (first | omega | decide)))) | (with_reducible refine ok_cf ?_ ?_; · (first | omega | ((try simp (disch := omega) only [w32_eq, w64_eq, ix_n, ix_e, sto_n, sto_e, sto_r, zf_r, Int.toNat_natCast, true_or, or_true, eq_self]) <;> (first | omega | decide)))))
    exact l_fw100 hW hC (by omega) (fun ch' M' h => by rw [hj]; exact ih f (b + 1) ch' M' (by omega) (by omega) h) r FU 0 ch M (by omega) (by unfold FU; omega) hI
/-- what is found -/
def FwP (m r : Nat) (B : Mem) (pot : Nat → Int) (M : Mem) : Prop := ∃ i, i ≤ m + r ∧ BI (m + r) 1000001 1000000 (Ed m r (B 69) (B 70)) pot (ini m 1000000 (B 67)) (2 * (i * (m * r))) (stC m M) ∧ Cl 1000001 (Ed m r (B 69) (B 70)) (dC m M)
theorem l_fw74 {m r : Nat} {B : Mem} {pot : Nat → Int} (hW : SnW m r B) (hC : Cer m r (B 69) (B 70) (B 67) pot) :
    ∀ (j fuel i : Nat) (ch : Int) (M : Mem), i + j = m + r → j < fuel → WS m r 1000001 1000000 (B 69) (B 70) (B 67) pot i (stC m M) → Fr [71, 72, 73, 74] [] B M → (ch = 0 ∨ ch = 1) → (ch = 0 → Cl 1000001 (Ed m r (B 69) (B 70)) (dC m M)) → Ok (fix (fun _ _ _ _ _ => none) k_Ya_findWays_74 fuel (m : Int) (r : Int) ch (i : Int) M) (fun _ M' => FwP m r B pot M') := by
  have hmr := hW.1
  have hE := edh (fun k hk => (hW.2 k hk).1) hC
  intro j; induction j with
  | zero =>
    intro fuel i ch M e hf h1 h2 h3 h4
    have : i = m + r := by omega
    subst this
    obtain ⟨f, rfl⟩ : ∃ f, fuel = f + 1 := ⟨fuel - 1, by omega⟩; rw [fix_s]; unfold k_Ya_findWays_74
    repeat (first | with_reducible refine ok_let ?_ | with_reducible refine ok_cs ?_ | with_reducible refine ok_clet ?_ | with_reducible refine ok_cc ?_ | (with_reducible refine ok_chk ?_ ?_; · (first | omega | ((try simp (disch := omega) only [w32_eq, w64_eq, ix_n, ix_e, sto_n, sto_e, sto_r, zf_r, Int.toNat_natCast, true_or, or_true, eq_self]) <;> (first | omega | decide)))) | (with_reducible refine ok_cchk ?_ ?_; · (first | omega | ((try simp (disch := omega) only [w32_eq, w64_eq, ix_n, ix_e, sto_n, sto_e, sto_r, zf_r, Int.toNat_natCast, true_or, or_true, eq_self]) <;> (first | omega | decide)))) | (with_reducible refine ok_t ?_ ?_; · (first | omega | ((try simp (disch := omega) only [w32_eq, w64_eq, ix_n, ix_e, sto_n, sto_e, sto_r, zf_r, Int.toNat_natCast, true_or, or_true, eq_self]) <;> (first | omega | decide)))) | (with_reducible refine ok_f ?_ ?_; · (first | omega | ((try simp (disch := omega) only [w32_eq, w64_eq, ix_n, ix_e, sto_n, sto_e, sto_r, zf_r, Int.toNat_natCast, true_or, or_true, eq_self]) <;> (first | omega | decide)))) | (with_reducible refine ok_ct ?_ ?_; · (first | omega | ((try simp (disch := omega) only [w32_eq, w64_eq, ix_n, ix_e, sto_n, sto_e, sto_r, zf_r, Int.toNat_natCast, true_or, or_true, eq_self]) <;> (first | omega | decide)))) | (with_reducible refine ok_cf ?_ ?_; · (first | omega | ((try simp (disch := omega) only [w32_eq, w64_eq, ix_n, ix_e, sto_n, sto_e, sto_r, zf_r, Int.toNat_natCast, true_or, or_true, eq_self]) <;> (first | omega | decide)))))
    exact ok_ret ⟨_, Nat.le_refl _, h1.1, ps_cl hE h1.2⟩
  | succ j ih =>
    intro fuel i ch M e hf h1 h2 h3 h4
    have hj : (i : Int) + 1 = ((i + 1 : Nat) : Int) := by omega
    obtain ⟨f, rfl⟩ : ∃ f, fuel = f + 1 := ⟨fuel - 1, by omega⟩; rw [fix_s]; unfold k_Ya_findWays_74
    rcases h3 with q | q
    · repeat (first | with_reducible refine ok_let ?_ | with_reducible refine ok_cs ?_ | with_reducible refine ok_clet ?_ | with_reducible refine ok_cc ?_ | (with_reducible refine ok_chk ?_ ?_; · (first | omega | ((try simp (disch := omega) only [w32_eq, w64_eq, ix_n, ix_e, sto_n, sto_e, sto_r, zf_r, Int.toNat_natCast, true_or, or_true, eq_self]) <;> (first | omega | decide)))) | (with_reducible refine ok_cchk ?_ ?_; · (first | omega | ((try simp (disch := omega) only [w32_eq, w64_eq, ix_n, ix_e, sto_n, sto_e, sto_r, zf_r, Int.toNat_natCast, true_or, or_true, eq_self]) <;> (first | omega | decide)))) | (with_reducible refine ok_t ?_ ?_; · (first | omega | ((try simp (disch := omega) only [w32_eq, w64_eq, ix_n, ix_e, sto_n, sto_e, sto_r, zf_r, Int.toNat_natCast, true_or, or_true, eq_self]) <;> (first | omega | decide)))) | (with_reducible refine ok_f ?_ ?_; · (first | omega | ((try simp (disch := omega) only [w32_eq, w64_eq, ix_n, ix_e, sto_n, sto_e, sto_r, zf_r, Int.toNat_natCast, true_or, or_true, eq_self]) <;> (first | omega | decide)))) | (with_reducible refine ok_ct ?_ ?_; · (first | omega | ((try simp (disch := omega) only [w32_eq, w64_eq, ix_n, ix_e, sto_n, sto_e, sto_r, zf_r, Int.toNat_natCast, true_or, or_true, eq_self]) <;> (first | omega | decide)))) | (with_reducible refine ok_cf ?_ ?_; · (first | omega | ((try simp (disch := omega) only [w32_eq, w64_eq, ix_n, ix_e, sto_n, sto_e, sto_r, zf_r, Int.toNat_natCast, true_or, or_true, eq_self]) <;> (first | omega | decide)))))
      exact ok_ret ⟨_, by omega, h1.1, h4 q⟩
    · repeat (first | with_reducible refine ok_let ?_ | with_reducible refine ok_cs ?_ | with_reducible refine ok_clet ?_ | with_reducible refine ok_cc ?_ | (with_reducible refine ok_chk ?_ ?_; · (first | omega | ((try simp (disch := omega) only [w32_eq, w64_eq, ix_n, ix_e, sto_n, sto_e, sto_r, zf_r, Int.toNat_natCast, true_or, or_true, eq_self]) <;> (first | omega | decide)))) | (with_reducible refine ok_cchk ?_ ?_; · (first | omega | ((try simp (disch := omega) only [w32_eq, w64_eq, ix_n, ix_e, sto_n, sto_e, sto_r, zf_r, Int.toNat_natCast, true_or, or_true, eq_self]) <;> (first | omega | decide)))) | (with_reducible refine ok_t ?_ ?_; · (first | omega | ((try simp (disch := omega) only [w32_eq, w64_eq, ix_n, ix_e, sto_n, sto_e, sto_r, zf_r, Int.toNat_natCast, true_or, or_true, eq_self]) <;> (first | omega | decide)))) | (with_reducible refine ok_f ?_ ?_; · (first | omega | ((try simp (disch := omega) only [w32_eq, w64_eq, ix_n, ix_e, sto_n, sto_e, sto_r, zf_r, Int.toNat_natCast, true_or, or_true, eq_self]) <;> (first | omega | decide)))) | (with_reducible refine ok_ct ?_ ?_; · (first | omega | ((try simp (disch := omega) only [w32_eq, w64_eq, ix_n, ix_e, sto_n, sto_e, sto_r, zf_r, Int.toNat_natCast, true_or, or_true, eq_self]) <;> (first | omega | decide)))) | (with_reducible refine ok_cf ?_ ?_; · (first | omega | ((try simp (disch := omega) only [w32_eq, w64_eq, ix_n, ix_e, sto_n, sto_e, sto_r, zf_r, Int.toNat_natCast, true_or, or_true, eq_self]) <;> (first | omega | decide)))))
      refine l_fw91 hW hC (fun ch' M' h => ?_) m FU 0 0 M (by omega) (by unfold FU; omega) ⟨?_, h2, Or.inl rfl, fun _ b o _ _ hk => ?_⟩
      · rw [hj]
        exact ih f (i + 1) ch' M' (by omega) (by omega) (wi_ws h.1) h.2.1 h.2.2.1 (fun q => rk_cl (h.2.2.2 q))
      · rw [Nat.zero_mul]
        exact ws_wi hmr (by omega) (fun k hk => (hW.2 k hk).1) hC (by decide) (Or.inr (by decide)) h1
      · rw [Nat.zero_mul] at hk; omega
theorem l_fw43 {m r : Nat} {B : Mem} {pot : Nat → Int} (hW : SnW m r B) (hC : Cer m r (B 69) (B 70) (B 67) pot) :
    ∀ (j fuel o : Nat) (M : Mem), o + j = r → j < fuel → Fr [71, 72, 73, 74] [] B M → (∀ b, b < m → M 71 b = ini m 1000000 (B 67) b ∧ M 72 b = -1) → (∀ p, p < o → M 73 p = 1000000 ∧ M 74 p = -1) → Ok (fix (fun _ _ _ _ => none) k_Ya_findWays_43 fuel (m : Int) (r : Int) (o : Int) M) (fun _ M' => FwP m r B pot M') := by
  have hmr := hW.1
  intro j; induction j with
  | zero =>
    intro fuel o M e hf h1 h2 h3
    have : o = r := by omega
    subst this
    obtain ⟨f, rfl⟩ : ∃ f, fuel = f + 1 := ⟨fuel - 1, by omega⟩; rw [fix_s]; unfold k_Ya_findWays_43
    repeat (first | with_reducible refine ok_let ?_ | with_reducible refine ok_cs ?_ | with_reducible refine ok_clet ?_ | with_reducible refine ok_cc ?_ | (with_reducible refine ok_chk ?_ ?_; · (first | omega | ((try simp (disch := omega) only [w32_eq, w64_eq, ix_n, ix_e, sto_n, sto_e, sto_r, zf_r, Int.toNat_natCast, true_or, or_true, eq_self]) <;> (first | omega | decide)))) | (with_reducible refine ok_cchk ?_ ?_; · (first | omega | ((try simp (disch := omega) only [w32_eq, w64_eq, ix_n, ix_e, sto_n, sto_e, sto_r, zf_r, Int.toNat_natCast, true_or, or_true, eq_self]) <;> (first | omega | decide)))) | (with_reducible refine ok_t ?_ ?_; · (first | omega | ((try simp (disch := omega) only [w32_eq, w64_eq, ix_n, ix_e, sto_n, sto_e, sto_r, zf_r, Int.toNat_natCast, true_or, or_true, eq_self]) <;> (first | omega | decide)))) | (with_reducible refine ok_f ?_ ?_; · (first | omega | ((try simp (disch := omega) only [w32_eq, w64_eq, ix_n, ix_e, sto_n, sto_e, sto_r, zf_r, Int.toNat_natCast, true_or, or_true, eq_self]) <;> (first | omega | decide)))) | (with_reducible refine ok_ct ?_ ?_; · (first | omega | ((try simp (disch := omega) only [w32_eq, w64_eq, ix_n, ix_e, sto_n, sto_e, sto_r, zf_r, Int.toNat_natCast, true_or, or_true, eq_self]) <;> (first | omega | decide)))) | (with_reducible refine ok_cf ?_ ?_; · (first | omega | ((try simp (disch := omega) only [w32_eq, w64_eq, ix_n, ix_e, sto_n, sto_e, sto_r, zf_r, Int.toNat_natCast, true_or, or_true, eq_self]) <;> (first | omega | decide)))))
    refine l_fw74 hW hC (m + o) FU 0 1 M (by omega) (by unfold FU; omega) (ws_0 hC (by decide) (fun x hx => ?_)) h1 (Or.inr rfl) (fun q => absurd q (by decide))
    show dC m M x = _ ∧ vC m M x = -1
    by_cases c : x < m
    · rw [dC_b c, vC_b c, (h2 x c).2, if_pos rfl]; exact ⟨(h2 x c).1, rfl⟩
    · obtain ⟨p, rfl⟩ : ∃ p, x = m + p := ⟨x - m, by omega⟩
      rw [dC_o, vC_o, (h3 p (by omega)).1, (h3 p (by omega)).2]
      unfold ini
      rw [if_neg (by omega)]; exact ⟨rfl, rfl⟩
  | succ j ih =>
    intro fuel o M e hf h1 h2 h3
    have hj : (o : Int) + 1 = ((o + 1 : Nat) : Int) := by omega
    obtain ⟨f, rfl⟩ : ∃ f, fuel = f + 1 := ⟨fuel - 1, by omega⟩; rw [fix_s]; unfold k_Ya_findWays_43
    repeat (first | with_reducible refine ok_let ?_ | with_reducible refine ok_cs ?_ | with_reducible refine ok_clet ?_ | with_reducible refine ok_cc ?_ | (with_reducible refine ok_chk ?_ ?_; · (first | omega | ((try simp (disch := omega) only [w32_eq, w64_eq, ix_n, ix_e, sto_n, sto_e, sto_r, zf_r, Int.toNat_natCast, true_or, or_true, eq_self]) <;> (first | omega | decide)))) | (with_reducible refine ok_cchk ?_ ?_; · (first | omega | ((try simp (disch := omega) only [w32_eq, w64_eq, ix_n, ix_e, sto_n, sto_e, sto_r, zf_r, Int.toNat_natCast, true_or, or_true, eq_self]) <;> (first | omega | decide)))) | (with_reducible refine ok_t ?_ ?_; · (first | omega | ((try simp (disch := omega) only [w32_eq, w64_eq, ix_n, ix_e, sto_n, sto_e, sto_r, zf_r, Int.toNat_natCast, true_or, or_true, eq_self]) <;> (first | omega | decide)))) | (with_reducible refine ok_f ?_ ?_; · (first | omega | ((try simp (disch := omega) only [w32_eq, w64_eq, ix_n, ix_e, sto_n, sto_e, sto_r, zf_r, Int.toNat_natCast, true_or, or_true, eq_self]) <;> (first | omega | decide)))) | (with_reducible refine ok_ct ?_ ?_; · (first | omega | ((try simp (disch := omega) only [w32_eq, w64_eq, ix_n, ix_e, sto_n, sto_e, sto_r, zf_r, Int.toNat_natCast, true_or, or_true, eq_self]) <;> (first | omega | decide)))) | (with_reducible refine ok_cf ?_ ?_; · (first | omega | ((try simp (disch := omega) only [w32_eq, w64_eq, ix_n, ix_e, sto_n, sto_e, sto_r, zf_r, Int.toNat_natCast, true_or, or_true, eq_self]) <;> (first | omega | decide)))))
    rw [hj, ix_n (by omega)]
    refine ih f (o + 1) _ (by omega) (by omega) (h1.trans (Fr.trans (fr_stoA (by decide)) (fr_stoA (by decide)))) (fun b hb => ?_) (fun p hp => ?_)
    · simp (disch := decide) only [sto_r]; exact h2 b hb
    · simp (disch := decide) only [sto_r, sto_up]
      unfold up
      by_cases c : p = o
      · rw [if_pos c, if_pos c]; exact ⟨rfl, rfl⟩
      · rw [if_neg c, if_neg c]; exact h3 p (by omega)
theorem l_fw2 {m r : Nat} {B : Mem} {pot : Nat → Int} (hW : SnW m r B) (hl : ∀ b, b < m → 0 ≤ B 67 b ∧ B 67 b ≤ 30) (hC : Cer m r (B 69) (B 70) (B 67) pot) :
    ∀ (j fuel b : Nat) (M : Mem), b + j = m → j < fuel → Fr [71, 72, 73, 74] [] B M → (∀ p, p < b → M 71 p = ini m 1000000 (B 67) p ∧ M 72 p = -1) → Ok (fix (fun _ _ _ _ => none) k_Ya_findWays_2 fuel (m : Int) (r : Int) (b : Int) M) (fun _ M' => FwP m r B pot M') := by
  have hmr := hW.1
  intro j; induction j with
  | zero =>
    intro fuel b M e hf h1 h2
    have : b = m := by omega
    subst this
    obtain ⟨f, rfl⟩ : ∃ f, fuel = f + 1 := ⟨fuel - 1, by omega⟩; rw [fix_s]; unfold k_Ya_findWays_2
    repeat (first | with_reducible refine ok_let ?_ | with_reducible refine ok_cs ?_ | with_reducible refine ok_clet ?_ | with_reducible refine ok_cc ?_ | (with_reducible refine ok_chk ?_ ?_; · (first | omega | ((try simp (disch := omega) only [w32_eq, w64_eq, ix_n, ix_e, sto_n, sto_e, sto_r, zf_r, Int.toNat_natCast, true_or, or_true, eq_self]) <;> (first | omega | decide)))) | (with_reducible refine ok_cchk ?_ ?_; · (first | omega | ((try simp (disch := omega) only [w32_eq, w64_eq, ix_n, ix_e, sto_n, sto_e, sto_r, zf_r, Int.toNat_natCast, true_or, or_true, eq_self]) <;> (first | omega | decide)))) | (with_reducible refine ok_t ?_ ?_; · (first | omega | ((try simp (disch := omega) only [w32_eq, w64_eq, ix_n, ix_e, sto_n, sto_e, sto_r, zf_r, Int.toNat_natCast, true_or, or_true, eq_self]) <;> (first | omega | decide)))) | (with_reducible refine ok_f ?_ ?_; · (first | omega | ((try simp (disch := omega) only [w32_eq, w64_eq, ix_n, ix_e, sto_n, sto_e, sto_r, zf_r, Int.toNat_natCast, true_or, or_true, eq_self]) <;> (first | omega | decide)))) | (with_reducible refine ok_ct ?_ ?_; · (first | omega | ((try simp (disch := omega) only [w32_eq, w64_eq, ix_n, ix_e, sto_n, sto_e, sto_r, zf_r, Int.toNat_natCast, true_or, or_true, eq_self]) <;> (first | omega | decide)))) | (with_reducible refine ok_cf ?_ ?_; · (first | omega | ((try simp (disch := omega) only [w32_eq, w64_eq, ix_n, ix_e, sto_n, sto_e, sto_r, zf_r, Int.toNat_natCast, true_or, or_true, eq_self]) <;> (first | omega | decide)))))
    exact l_fw43 hW hC r FU 0 M (by omega) (by unfold FU; omega) h1 h2 (fun p hp => by omega)
  | succ j ih =>
    intro fuel b M e hf h1 h2
    have hj : (b : Int) + 1 = ((b + 1 : Nat) : Int) := by omega
    have hlb := hl b (by omega)
    have u67 := h1.c 67 (by decide) (by decide)
    have eb : ix (b : Int) = b := ix_n (by omega)
    have nxt : ∀ v : Int, v = ini m 1000000 (B 67) b → Ok (fix (fun _ _ _ _ => none) k_Ya_findWays_2 (fuel - 1) (m : Int) (r : Int) ((b : Int) + 1) (sto (sto M 71 b v) 72 b (-1))) (fun _ M' => FwP m r B pot M') := by
      intro v hv
      rw [hj]
      refine ih (fuel - 1) (b + 1) _ (by omega) (by omega) (h1.trans (Fr.trans (fr_stoA (by decide)) (fr_stoA (by decide)))) (fun p hp => ?_)
      simp (disch := decide) only [sto_r, sto_up]
      unfold up
      by_cases c : p = b
      · rw [if_pos c, if_pos c, c]; exact ⟨hv, rfl⟩
      · rw [if_neg c, if_neg c]; exact h2 p (by omega)
    obtain ⟨f, rfl⟩ : ∃ f, fuel = f + 1 := ⟨fuel - 1, by omega⟩; rw [fix_s]; unfold k_Ya_findWays_2
    rw [show f + 1 - 1 = f from rfl] at nxt
    by_cases c : 0 < B 67 b
    · repeat (first | with_reducible refine ok_let ?_ | with_reducible refine ok_cs ?_ | with_reducible refine ok_clet ?_ | with_reducible refine ok_cc ?_ | (with_reducible refine ok_chk ?_ ?_; · (first | omega | ((try simp (disch := omega) only [w32_eq, w64_eq, ix_n, ix_e, sto_n, sto_e, sto_r, zf_r, Int.toNat_natCast, true_or, or_true, eq_self, u67, eb]) <;> (first | omega | decide)))) | (with_reducible refine ok_cchk ?_ ?_; · (first | omega | ((try simp (disch := omega) only [w32_eq, w64_eq, ix_n, ix_e, sto_n, sto_e, sto_r, zf_r, Int.toNat_natCast, true_or, or_true, eq_self, u67, eb]) <;> (first | omega | decide)))) | (with_reducible refine ok_t ?_ ?_; · (first | omega | ((try simp (disch := omega) only [w32_eq, w64_eq, ix_n, ix_e, sto_n, sto_e, sto_r, zf_r, Int.toNat_natCast, true_or, or_true, eq_self, u67, eb]) <;> (first | omega | decide)))) | (with_reducible refine ok_f ?_ ?_; · (first | omega | ((try simp (disch := omega) only [w32_eq, w64_eq, ix_n, ix_e, sto_n, sto_e, sto_r, zf_r, Int.toNat_natCast, true_or, or_true, eq_self, u67, eb]) <;> (first | omega | decide)))) | (with_reducible refine ok_ct ?_ ?_; · (first | omega | ((try simp (disch := omega) only [w32_eq, w64_eq, ix_n, ix_e, sto_n, sto_e, sto_r, zf_r, Int.toNat_natCast, true_or, or_true, eq_self, u67, eb]) <;> (first | omega | decide)))) | (with_reducible refine ok_cf ?_ ?_; · (first | omega | ((try simp (disch := omega) only [w32_eq, w64_eq, ix_n, ix_e, sto_n, sto_e, sto_r, zf_r, Int.toNat_natCast, true_or, or_true, eq_self, u67, eb]) <;> (first | omega | decide)))))
      unfold k_Ya_findWays_27
      repeat (first | with_reducible refine ok_let ?_ | with_reducible refine ok_cs ?_ | with_reducible refine ok_clet ?_ | with_reducible refine ok_cc ?_ | (with_reducible refine ok_chk ?_ ?_; · (first | omega | ((try simp (disch := omega) only [w32_eq, w64_eq, ix_n, ix_e, sto_n, sto_e, sto_r, zf_r, Int.toNat_natCast, true_or, or_true, eq_self]) <;> (first | omega | decide)))) | (with_reducible refine ok_cchk ?_ ?_; · (first | omega | ((try simp (disch := omega) only [w32_eq, w64_eq, ix_n, ix_e, sto_n, sto_e, sto_r, zf_r, Int.toNat_natCast, true_or, or_true, eq_self]) <;> (first | omega | decide)))) | (with_reducible refine ok_t ?_ ?_; · (first | omega | ((try simp (disch := omega) only [w32_eq, w64_eq, ix_n, ix_e, sto_n, sto_e, sto_r, zf_r, Int.toNat_natCast, true_or, or_true, eq_self]) <;> (first | omega | decide)))) | (with_reducible refine ok_f ?_ ?_; · (first | omega | ((try simp (disch := omega) only [w32_eq, w64_eq, ix_n, ix_e, sto_n, sto_e, sto_r, zf_r, Int.toNat_natCast, true_or, or_true, eq_self]) <;> (first | omega | decide)))) | (with_reducible refine ok_ct ?_ ?_; · (first | omega | ((try simp (disch := omega) only [w32_eq, w64_eq, ix_n, ix_e, sto_n, sto_e, sto_r, zf_r, Int.toNat_natCast, true_or, or_true, eq_self]) <;> (first | omega | decide)))) | (with_reducible refine ok_cf ?_ ?_; · (first | omega | ((try simp (disch := omega) only [w32_eq, w64_eq, ix_n, ix_e, sto_n, sto_e, sto_r, zf_r, Int.toNat_natCast, true_or, or_true, eq_self]) <;> (first | omega | decide)))))
      rw [eb]
      exact nxt 0 (by unfold ini; rw [if_pos ⟨by omega, c⟩])
    · repeat (first | with_reducible refine ok_let ?_ | with_reducible refine ok_cs ?_ | with_reducible refine ok_clet ?_ | with_reducible refine ok_cc ?_ | (with_reducible refine ok_chk ?_ ?_; · (first | omega | ((try simp (disch := omega) only [w32_eq, w64_eq, ix_n, ix_e, sto_n, sto_e, sto_r, zf_r, Int.toNat_natCast, true_or, or_true, eq_self, u67, eb]) <;> (first | omega | decide)))) | (with_reducible refine ok_cchk ?_ ?_; · (first | omega | ((try simp (disch := omega) only [w32_eq, w64_eq, ix_n, ix_e, sto_n, sto_e, sto_r, zf_r, Int.toNat_natCast, true_or, or_true, eq_self, u67, eb]) <;> (first | omega | decide)))) | (with_reducible refine ok_t ?_ ?_; · (first | omega | ((try simp (disch := omega) only [w32_eq, w64_eq, ix_n, ix_e, sto_n, sto_e, sto_r, zf_r, Int.toNat_natCast, true_or, or_true, eq_self, u67, eb]) <;> (first | omega | decide)))) | (with_reducible refine ok_f ?_ ?_; · (first | omega | ((try simp (disch := omega) only [w32_eq, w64_eq, ix_n, ix_e, sto_n, sto_e, sto_r, zf_r, Int.toNat_natCast, true_or, or_true, eq_self, u67, eb]) <;> (first | omega | decide)))) | (with_reducible refine ok_ct ?_ ?_; · (first | omega | ((try simp (disch := omega) only [w32_eq, w64_eq, ix_n, ix_e, sto_n, sto_e, sto_r, zf_r, Int.toNat_natCast, true_or, or_true, eq_self, u67, eb]) <;> (first | omega | decide)))) | (with_reducible refine ok_cf ?_ ?_; · (first | omega | ((try simp (disch := omega) only [w32_eq, w64_eq, ix_n, ix_e, sto_n, sto_e, sto_r, zf_r, Int.toNat_natCast, true_or, or_true, eq_self, u67, eb]) <;> (first | omega | decide)))))
      unfold k_Ya_findWays_27
      repeat (first | with_reducible refine ok_let ?_ | with_reducible refine ok_cs ?_ | with_reducible refine ok_clet ?_ | with_reducible refine ok_cc ?_ | (with_reducible refine ok_chk ?_ ?_; · (first | omega | ((try simp (disch := omega) only [w32_eq, w64_eq, ix_n, ix_e, sto_n, sto_e, sto_r, zf_r, Int.toNat_natCast, true_or, or_true, eq_self]) <;> (first | omega | decide)))) | (with_reducible refine ok_cchk ?_ ?_; · (first | omega | ((try simp (disch := omega) only [w32_eq, w64_eq, ix_n, ix_e, sto_n, sto_e, sto_r, zf_r, Int.toNat_natCast, true_or, or_true, eq_self]) <;> (first | omega | decide)))) | (with_reducible refine ok_t ?_ ?_; · (first | omega | ((try simp (disch := omega) only [w32_eq, w64_eq, ix_n, ix_e, sto_n, sto_e, sto_r, zf_r, Int.toNat_natCast, true_or, or_true, eq_self]) <;> (first | omega | decide)))) | (with_reducible refine ok_f ?_ ?_; · (first | omega | ((try simp (disch := omega) only [w32_eq, w64_eq, ix_n, ix_e, sto_n, sto_e, sto_r, zf_r, Int.toNat_natCast, true_or, or_true, eq_self]) <;> (first | omega | decide)))) | (with_reducible refine ok_ct ?_ ?_; · (first | omega | ((try simp (disch := omega) only [w32_eq, w64_eq, ix_n, ix_e, sto_n, sto_e, sto_r, zf_r, Int.toNat_natCast, true_or, or_true, eq_self]) <;> (first | omega | decide)))) | (with_reducible refine ok_cf ?_ ?_; · (first | omega | ((try simp (disch := omega) only [w32_eq, w64_eq, ix_n, ix_e, sto_n, sto_e, sto_r, zf_r, Int.toNat_natCast, true_or, or_true, eq_self]) <;> (first | omega | decide)))))
      rw [eb]
      exact nxt 1000000 (by unfold ini; rw [if_neg (fun q => c q.2)])
theorem s_findWays {m r : Nat} {M : Mem} {pot : Nat → Int} (hW : SnW m r M) (hl : ∀ b, b < m → 0 ≤ M 67 b ∧ M 67 b ≤ 30) (hC : Cer m r (M 69) (M 70) (M 67) pot) :
    Ok (d_Ya_findWays (m : Int) (r : Int) M) (fun _ M' => ((∃ b, b < m ∧ 0 < M 67 b) → ∃ ta, Fnd m r (M 69) (M 70) (M 67) (dC m M') (vC m M') ta) ∧ Fr [71, 72, 73, 74] [] M M') := by
  refine ok_fr ?_ (fun r hr => w_Ya_findWays hr)
  unfold d_Ya_findWays
  refine ok_mono (l_fw2 hW hl hC m FU 0 M (by omega) (by unfold FU; have := hW.1; omega) Fr.rfl' (fun p hp => by omega)) (fun _ M' h ⟨b, hb⟩ => ?_)
  obtain ⟨i, h1, h2, h3⟩ := h
  exact fnd (S := stC m M') hW.1 h1 (fun k hk => (hW.2 k hk).1) hC (by decide) (by decide) h2 h3 hb
-- FILE 97s5.sendc2
/-! wheat sent: the component carries -/
theorem cheap_ok {r : Nat} {M : Mem} (hr : r ≤ 4) (hw : ∀ o, o < r → 0 ≤ M 68 o ∧ M 68 o ≤ 30) (hd : ∀ o, o < r → 0 < M 68 o → 0 ≤ M 73 o ∧ M 73 o < 1000000) :
    ∃ v, d_Ya_cheapestOrder (r : Int) M = some (v, M) ∧ ((v = -1 ∧ ∀ o, o < r → M 68 o = 0) ∨ ∃ o : Nat, v = (o : Int) ∧ o < r ∧ 0 < M 68 o) := by
  have l : ∀ (j fuel i : Nat) (a : Int), i + j = r → j < fuel → ((a = -1 ∧ ∀ o, o < i → M 68 o = 0) ∨ ∃ o : Nat, a = (o : Int) ∧ o < i ∧ 0 < M 68 o) → ∃ v, fix (fun _ _ _ _ => none) k_Ya_cheapestOrder_4 fuel (r : Int) a (i : Int) M = some (v, M) ∧ ((v = -1 ∧ ∀ o, o < r → M 68 o = 0) ∨ ∃ o : Nat, v = (o : Int) ∧ o < r ∧ 0 < M 68 o) := by
    intro j; induction j with
    | zero =>
      intro fuel i a e hf hI
      have : i = r := by omega
      subst this
      refine ⟨a, ?_, hI⟩
      obtain ⟨f, rfl⟩ : ∃ f, fuel = f + 1 := ⟨fuel - 1, by omega⟩; rw [fix_s]; unfold k_Ya_cheapestOrder_4
      repeat (first | with_reducible refine e_let ?_ | with_reducible refine e_cs ?_ | with_reducible refine e_clet ?_ | with_reducible refine e_cc ?_ | (with_reducible refine e_chk ?_ ?_; · (first | omega | ((try simp (disch := omega) only [w32_eq, w64_eq, ix_n, ix_e, sto_n, sto_e, sto_r, zf_r, Int.toNat_natCast, true_or, or_true, eq_self]) <;> (first | omega | decide)))) | (with_reducible refine e_cchk ?_ ?_; · (first | omega | ((try simp (disch := omega) only [w32_eq, w64_eq, ix_n, ix_e, sto_n, sto_e, sto_r, zf_r, Int.toNat_natCast, true_or, or_true, eq_self]) <;> (first | omega | decide)))) | (with_reducible refine e_t ?_ ?_; · (first | omega | ((try simp (disch := omega) only [w32_eq, w64_eq, ix_n, ix_e, sto_n, sto_e, sto_r, zf_r, Int.toNat_natCast, true_or, or_true, eq_self]) <;> (first | omega | decide)))) | (with_reducible refine e_f ?_ ?_; · (first | omega | ((try simp (disch := omega) only [w32_eq, w64_eq, ix_n, ix_e, sto_n, sto_e, sto_r, zf_r, Int.toNat_natCast, true_or, or_true, eq_self]) <;> (first | omega | decide)))) | (with_reducible refine e_ct ?_ ?_; · (first | omega | ((try simp (disch := omega) only [w32_eq, w64_eq, ix_n, ix_e, sto_n, sto_e, sto_r, zf_r, Int.toNat_natCast, true_or, or_true, eq_self]) <;> (first | omega | decide)))) | (with_reducible refine e_cf ?_ ?_; · (first | omega | ((try simp (disch := omega) only [w32_eq, w64_eq, ix_n, ix_e, sto_n, sto_e, sto_r, zf_r, Int.toNat_natCast, true_or, or_true, eq_self]) <;> (first | omega | decide)))))
      rfl
    | succ j ih =>
      intro fuel i a e hf hI
      have hj : (i : Int) + 1 = ((i + 1 : Nat) : Int) := by omega
      have ei : ix (i : Int) = i := ix_n (by omega)
      have hwi := hw i (by omega)
      obtain ⟨f, rfl⟩ : ∃ f, fuel = f + 1 := ⟨fuel - 1, by omega⟩
      have keep : M 68 i = 0 → ((a = -1 ∧ ∀ o, o < i + 1 → M 68 o = 0) ∨ ∃ o : Nat, a = (o : Int) ∧ o < i + 1 ∧ 0 < M 68 o) := fun q => by
        rcases hI with ⟨h1, h2⟩ | ⟨o, h1, h2, h3⟩
        · refine Or.inl ⟨h1, fun o ho => ?_⟩
          by_cases c : o = i
          · rw [c]; exact q
          · exact h2 o (by omega)
        · exact Or.inr ⟨o, h1, by omega, h3⟩
      by_cases c : 0 < M 68 i
      · have hdi := hd i (by omega) c
        rcases hI with ⟨h1, h2⟩ | ⟨o, h1, h2, h3⟩
        · obtain ⟨v, v1, v2⟩ := ih f (i + 1) (i : Int) (by omega) (by omega) (Or.inr ⟨i, rfl, by omega, c⟩)
          refine ⟨v, ?_, v2⟩
          rw [fix_s]; unfold k_Ya_cheapestOrder_4 k_Ya_cheapestOrder_34 k_Ya_cheapestOrder_61 k_Ya_cheapestOrder_63
          repeat (first | with_reducible refine e_let ?_ | with_reducible refine e_cs ?_ | with_reducible refine e_clet ?_ | with_reducible refine e_cc ?_ | (with_reducible refine e_chk ?_ ?_; · (first | omega | ((try simp (disch := omega) only [w32_eq, w64_eq, ix_n, ix_e, sto_n, sto_e, sto_r, zf_r, Int.toNat_natCast, true_or, or_true, eq_self, ei]) <;> (first | omega | decide)))) | (with_reducible refine e_cchk ?_ ?_; · (first | omega | ((try simp (disch := omega) only [w32_eq, w64_eq, ix_n, ix_e, sto_n, sto_e, sto_r, zf_r, Int.toNat_natCast, true_or, or_true, eq_self, ei]) <;> (first | omega | decide)))) | (with_reducible refine e_t ?_ ?_; · (first | omega | ((try simp (disch := omega) only [w32_eq, w64_eq, ix_n, ix_e, sto_n, sto_e, sto_r, zf_r, Int.toNat_natCast, true_or, or_true, eq_self, ei]) <;> (first | omega | decide)))) | (with_reducible refine e_f ?_ ?_; · (first | omega | ((try simp (disch := omega) only [w32_eq, w64_eq, ix_n, ix_e, sto_n, sto_e, sto_r, zf_r, Int.toNat_natCast, true_or, or_true, eq_self, ei]) <;> (first | omega | decide)))) | (with_reducible refine e_ct ?_ ?_; · (first | omega | ((try simp (disch := omega) only [w32_eq, w64_eq, ix_n, ix_e, sto_n, sto_e, sto_r, zf_r, Int.toNat_natCast, true_or, or_true, eq_self, ei]) <;> (first | omega | decide)))) | (with_reducible refine e_cf ?_ ?_; · (first | omega | ((try simp (disch := omega) only [w32_eq, w64_eq, ix_n, ix_e, sto_n, sto_e, sto_r, zf_r, Int.toNat_natCast, true_or, or_true, eq_self, ei]) <;> (first | omega | decide)))))
          rw [hj]; exact v1
        · have hdo := hd o (by omega) h3
          have eo : ix (o : Int) = o := ix_n (by omega)
          by_cases c2 : M 73 i < M 73 o
          · obtain ⟨v, v1, v2⟩ := ih f (i + 1) (i : Int) (by omega) (by omega) (Or.inr ⟨i, rfl, by omega, c⟩)
            refine ⟨v, ?_, v2⟩
            rw [fix_s]; unfold k_Ya_cheapestOrder_4 k_Ya_cheapestOrder_34 k_Ya_cheapestOrder_61 k_Ya_cheapestOrder_63
            rw [h1]
            repeat (first | with_reducible refine e_let ?_ | with_reducible refine e_cs ?_ | with_reducible refine e_clet ?_ | with_reducible refine e_cc ?_ | (with_reducible refine e_chk ?_ ?_; · (first | omega | ((try simp (disch := omega) only [w32_eq, w64_eq, ix_n, ix_e, sto_n, sto_e, sto_r, zf_r, Int.toNat_natCast, true_or, or_true, eq_self, ei, eo]) <;> (first | omega | decide)))) | (with_reducible refine e_cchk ?_ ?_; · (first | omega | ((try simp (disch := omega) only [w32_eq, w64_eq, ix_n, ix_e, sto_n, sto_e, sto_r, zf_r, Int.toNat_natCast, true_or, or_true, eq_self, ei, eo]) <;> (first | omega | decide)))) | (with_reducible refine e_t ?_ ?_; · (first | omega | ((try simp (disch := omega) only [w32_eq, w64_eq, ix_n, ix_e, sto_n, sto_e, sto_r, zf_r, Int.toNat_natCast, true_or, or_true, eq_self, ei, eo]) <;> (first | omega | decide)))) | (with_reducible refine e_f ?_ ?_; · (first | omega | ((try simp (disch := omega) only [w32_eq, w64_eq, ix_n, ix_e, sto_n, sto_e, sto_r, zf_r, Int.toNat_natCast, true_or, or_true, eq_self, ei, eo]) <;> (first | omega | decide)))) | (with_reducible refine e_ct ?_ ?_; · (first | omega | ((try simp (disch := omega) only [w32_eq, w64_eq, ix_n, ix_e, sto_n, sto_e, sto_r, zf_r, Int.toNat_natCast, true_or, or_true, eq_self, ei, eo]) <;> (first | omega | decide)))) | (with_reducible refine e_cf ?_ ?_; · (first | omega | ((try simp (disch := omega) only [w32_eq, w64_eq, ix_n, ix_e, sto_n, sto_e, sto_r, zf_r, Int.toNat_natCast, true_or, or_true, eq_self, ei, eo]) <;> (first | omega | decide)))))
            rw [hj]; exact v1
          · obtain ⟨v, v1, v2⟩ := ih f (i + 1) (o : Int) (by omega) (by omega) (Or.inr ⟨o, rfl, by omega, h3⟩)
            refine ⟨v, ?_, v2⟩
            rw [fix_s]; unfold k_Ya_cheapestOrder_4 k_Ya_cheapestOrder_34 k_Ya_cheapestOrder_61 k_Ya_cheapestOrder_63
            rw [h1]
            repeat (first | with_reducible refine e_let ?_ | with_reducible refine e_cs ?_ | with_reducible refine e_clet ?_ | with_reducible refine e_cc ?_ | (with_reducible refine e_chk ?_ ?_; · (first | omega | ((try simp (disch := omega) only [w32_eq, w64_eq, ix_n, ix_e, sto_n, sto_e, sto_r, zf_r, Int.toNat_natCast, true_or, or_true, eq_self, ei, eo]) <;> (first | omega | decide)))) | (with_reducible refine e_cchk ?_ ?_; · (first | omega | ((try simp (disch := omega) only [w32_eq, w64_eq, ix_n, ix_e, sto_n, sto_e, sto_r, zf_r, Int.toNat_natCast, true_or, or_true, eq_self, ei, eo]) <;> (first | omega | decide)))) | (with_reducible refine e_t ?_ ?_; · (first | omega | ((try simp (disch := omega) only [w32_eq, w64_eq, ix_n, ix_e, sto_n, sto_e, sto_r, zf_r, Int.toNat_natCast, true_or, or_true, eq_self, ei, eo]) <;> (first | omega | decide)))) | (with_reducible refine e_f ?_ ?_; · (first | omega | ((try simp (disch := omega) only [w32_eq, w64_eq, ix_n, ix_e, sto_n, sto_e, sto_r, zf_r, Int.toNat_natCast, true_or, or_true, eq_self, ei, eo]) <;> (first | omega | decide)))) | (with_reducible refine e_ct ?_ ?_; · (first | omega | ((try simp (disch := omega) only [w32_eq, w64_eq, ix_n, ix_e, sto_n, sto_e, sto_r, zf_r, Int.toNat_natCast, true_or, or_true, eq_self, ei, eo]) <;> (first | omega | decide)))) | (with_reducible refine e_cf ?_ ?_; · (first | omega | ((try simp (disch := omega) only [w32_eq, w64_eq, ix_n, ix_e, sto_n, sto_e, sto_r, zf_r, Int.toNat_natCast, true_or, or_true, eq_self, ei, eo]) <;> (first | omega | decide)))))
            rw [hj]; exact v1
      · obtain ⟨v, v1, v2⟩ := ih f (i + 1) a (by omega) (by omega) (keep (by omega))
        refine ⟨v, ?_, v2⟩
        rw [fix_s]; unfold k_Ya_cheapestOrder_4 k_Ya_cheapestOrder_33 k_Ya_cheapestOrder_34 k_Ya_cheapestOrder_63
        repeat (first | with_reducible refine e_let ?_ | with_reducible refine e_cs ?_ | with_reducible refine e_clet ?_ | with_reducible refine e_cc ?_ | (with_reducible refine e_chk ?_ ?_; · (first | omega | ((try simp (disch := omega) only [w32_eq, w64_eq, ix_n, ix_e, sto_n, sto_e, sto_r, zf_r, Int.toNat_natCast, true_or, or_true, eq_self, ei]) <;> (first | omega | decide)))) | (with_reducible refine e_cchk ?_ ?_; · (first | omega | ((try simp (disch := omega) only [w32_eq, w64_eq, ix_n, ix_e, sto_n, sto_e, sto_r, zf_r, Int.toNat_natCast, true_or, or_true, eq_self, ei]) <;> (first | omega | decide)))) | (with_reducible refine e_t ?_ ?_; · (first | omega | ((try simp (disch := omega) only [w32_eq, w64_eq, ix_n, ix_e, sto_n, sto_e, sto_r, zf_r, Int.toNat_natCast, true_or, or_true, eq_self, ei]) <;> (first | omega | decide)))) | (with_reducible refine e_f ?_ ?_; · (first | omega | ((try simp (disch := omega) only [w32_eq, w64_eq, ix_n, ix_e, sto_n, sto_e, sto_r, zf_r, Int.toNat_natCast, true_or, or_true, eq_self, ei]) <;> (first | omega | decide)))) | (with_reducible refine e_ct ?_ ?_; · (first | omega | ((try simp (disch := omega) only [w32_eq, w64_eq, ix_n, ix_e, sto_n, sto_e, sto_r, zf_r, Int.toNat_natCast, true_or, or_true, eq_self, ei]) <;> (first | omega | decide)))) | (with_reducible refine e_cf ?_ ?_; · (first | omega | ((try simp (disch := omega) only [w32_eq, w64_eq, ix_n, ix_e, sto_n, sto_e, sto_r, zf_r, Int.toNat_natCast, true_or, or_true, eq_self, ei]) <;> (first | omega | decide)))))
        rw [hj]; exact v1
  unfold d_Ya_cheapestOrder
  exact l r FU 0 (-1) (by omega) (by unfold FU; omega) (Or.inl ⟨rfl, fun o ho => by omega⟩)
/-- how many bins were settled before x -/
def rkS (m : Nat) (ta : Nat → Nat) (x : Nat) : Int := sm (fun b => if ta b < ta x then 1 else 0) m
theorem rk_lt {m x y : Nat} {ta : Nat → Nat} (hy : y < m) (h : ta y < ta x) : rkS m ta y + 1 ≤ rkS m ta x := by
  have h1 := sm_up (w := fun b => if ta b < ta y then (1 : Int) else 0) (v := 1) m hy
  have h2 : sm (up (fun b => if ta b < ta y then (1 : Int) else 0) y 1) m ≤ rkS m ta x := sm_le m (fun b hb => by
    unfold up
    dsimp only
    by_cases c : b = y
    · rw [if_pos c, if_pos (by rw [c]; exact h)]; exact Int.le_refl _
    · rw [if_neg c]
      by_cases d : ta b < ta y
      · rw [if_pos d, if_pos (by omega)]; exact Int.le_refl _
      · rw [if_neg d]; split <;> omega)
  have e : (if ta y < ta y then (1 : Int) else 0) = 0 := if_neg (by omega)
  unfold rkS at *
  omega
theorem rk_b {m x : Nat} {ta : Nat → Nat} (hx : x < m) : 0 ≤ rkS m ta x ∧ rkS m ta x < m := by
  refine ⟨sm_nn m (fun b _ => by split <;> omega), ?_⟩
  have h1 := sm_up (w := fun b => if ta b < ta x then (1 : Int) else 0) (v := 1) m hx
  have h2 := sm_b (w := up (fun b => if ta b < ta x then (1 : Int) else 0) x 1) (c := 1) m (fun b hb => by
    unfold up
    dsimp only
    split
    · exact Int.le_refl _
    · split <;> omega)
  have e : (if ta x < ta x then (1 : Int) else 0) = 0 := if_neg (by omega)
  unfold rkS
  omega
/-- z can be carried along the whole way -/
def pok (m r : Nat) (f0 lf0 via : Nat → Int) (z : Int) : Nat → Nat → Prop
  | 0, _ => True
  | k + 1, o => ∀ x : Nat, x < m → via (m + o) = (x : Int) → (via x = -1 → z ≤ lf0 x) ∧ ∀ p : Nat, p < r → via x = ((m + p : Nat) : Int) → z ≤ f0 (x * r + p) ∧ pok m r f0 lf0 via z k p
theorem vC_n {m x : Nat} {M : Mem} (hx : x < m) : (vC m M x = -1 → M 72 x = -1) ∧ ∀ p : Nat, vC m M x = ((m + p : Nat) : Int) → M 72 x = (p : Int) := by
  rw [vC_b hx]
  by_cases c : M 72 x = -1
  · rw [if_pos c]; exact ⟨fun _ => c, fun p q => by omega⟩
  · rw [if_neg c]
    by_cases d : M 72 x < 0
    · rw [if_pos d]; exact ⟨fun q => by omega, fun p q => by omega⟩
    · rw [if_neg d]; exact ⟨fun q => by omega, fun p q => by omega⟩
theorem l_great {m r : Nat} {M : Mem} {ta : Nat → Nat} (hmr : m ≤ 5 ∧ r ≤ 4) (hF : Fnd m r (M 69) (M 70) (M 67) (dC m M) (vC m M) ta) (hl : ∀ b, b < m → 0 ≤ M 67 b ∧ M 67 b ≤ 30) (hf : ∀ k, k < m * r → 0 ≤ M 70 k ∧ M 70 k ≤ 30) :
    ∀ (j fuel i o : Nat) (a : Int), i + j = 5 → j < fuel → o < r → (1 ≤ a ∧ a ≤ 30) → ∃ z, fix (fun _ _ _ _ _ => none) k_Ya_greatestLoad_13 fuel (r : Int) a (o : Int) (i : Int) M = some (z, M) ∧ 1 ≤ z ∧ z ≤ a ∧ pok m r (M 70) (M 67) (vC m M) z j o := by
  intro j; induction j with
  | zero =>
    intro fuel i o a e hf' ho ha
    refine ⟨a, ?_, by omega, by omega, trivial⟩
    obtain ⟨f, rfl⟩ : ∃ f, fuel = f + 1 := ⟨fuel - 1, by omega⟩; rw [fix_s]; unfold k_Ya_greatestLoad_13
    repeat (first | with_reducible refine e_let ?_ | with_reducible refine e_cs ?_ | with_reducible refine e_clet ?_ | with_reducible refine e_cc ?_ | (with_reducible refine e_chk ?_ ?_; · (first | omega | ((try simp (disch := omega) only [w32_eq, w64_eq, ix_n, ix_e, sto_n, sto_e, sto_r, zf_r, Int.toNat_natCast, true_or, or_true, eq_self]) <;> (first | omega | decide)))) | (with_reducible refine e_cchk ?_ ?_; · (first | omega | ((try simp (disch := omega) only [w32_eq, w64_eq, ix_n, ix_e, sto_n, sto_e, sto_r, zf_r, Int.toNat_natCast, true_or, or_true, eq_self]) <;> (first | omega | decide)))) | (with_reducible refine e_t ?_ ?_; · (first | omega | ((try simp (disch := omega) only [w32_eq, w64_eq, ix_n, ix_e, sto_n, sto_e, sto_r, zf_r, Int.toNat_natCast, true_or, or_true, eq_self]) <;> (first | omega | decide)))) | (with_reducible refine e_f ?_ ?_; · (first | omega | ((try simp (disch := omega) only [w32_eq, w64_eq, ix_n, ix_e, sto_n, sto_e, sto_r, zf_r, Int.toNat_natCast, true_or, or_true, eq_self]) <;> (first | omega | decide)))) | (with_reducible refine e_ct ?_ ?_; · (first | omega | ((try simp (disch := omega) only [w32_eq, w64_eq, ix_n, ix_e, sto_n, sto_e, sto_r, zf_r, Int.toNat_natCast, true_or, or_true, eq_self]) <;> (first | omega | decide)))) | (with_reducible refine e_cf ?_ ?_; · (first | omega | ((try simp (disch := omega) only [w32_eq, w64_eq, ix_n, ix_e, sto_n, sto_e, sto_r, zf_r, Int.toNat_natCast, true_or, or_true, eq_self]) <;> (first | omega | decide)))))
    rfl
  | succ j ih =>
    intro fuel i o a e hf' ho ha
    have hj : (i : Int) + 1 = ((i + 1 : Nat) : Int) := by omega
    have eo : ix (o : Int) = o := ix_n (by omega)
    obtain ⟨f, rfl⟩ : ∃ f, fuel = f + 1 := ⟨fuel - 1, by omega⟩
    obtain ⟨x, hx, v1, t1, d1, dx, rest⟩ := way_b hF ho
    rw [vC_o] at v1
    have ex : ix (x : Int) = x := ix_n (by omega)
    rcases rest with ⟨v2, l2⟩ | ⟨p, hp, hpo, v2, t2, d2, f2⟩
    · have e72 := (vC_n hx).1 v2
      have hlx := hl x hx
      refine ⟨mn32 a (M 67 x), ?_, ?_⟩
      · rw [fix_s]; unfold k_Ya_greatestLoad_13 k_Ya_greatestLoad_83
        repeat (first | with_reducible refine e_let ?_ | with_reducible refine e_cs ?_ | with_reducible refine e_clet ?_ | with_reducible refine e_cc ?_ | (with_reducible refine e_chk ?_ ?_; · (first | omega | ((try simp (disch := omega) only [w32_eq, w64_eq, ix_n, ix_e, sto_n, sto_e, sto_r, zf_r, Int.toNat_natCast, true_or, or_true, eq_self, eo, v1, ex, e72]) <;> (first | omega | decide)))) | (with_reducible refine e_cchk ?_ ?_; · (first | omega | ((try simp (disch := omega) only [w32_eq, w64_eq, ix_n, ix_e, sto_n, sto_e, sto_r, zf_r, Int.toNat_natCast, true_or, or_true, eq_self, eo, v1, ex, e72]) <;> (first | omega | decide)))) | (with_reducible refine e_t ?_ ?_; · (first | omega | ((try simp (disch := omega) only [w32_eq, w64_eq, ix_n, ix_e, sto_n, sto_e, sto_r, zf_r, Int.toNat_natCast, true_or, or_true, eq_self, eo, v1, ex, e72]) <;> (first | omega | decide)))) | (with_reducible refine e_f ?_ ?_; · (first | omega | ((try simp (disch := omega) only [w32_eq, w64_eq, ix_n, ix_e, sto_n, sto_e, sto_r, zf_r, Int.toNat_natCast, true_or, or_true, eq_self, eo, v1, ex, e72]) <;> (first | omega | decide)))) | (with_reducible refine e_ct ?_ ?_; · (first | omega | ((try simp (disch := omega) only [w32_eq, w64_eq, ix_n, ix_e, sto_n, sto_e, sto_r, zf_r, Int.toNat_natCast, true_or, or_true, eq_self, eo, v1, ex, e72]) <;> (first | omega | decide)))) | (with_reducible refine e_cf ?_ ?_; · (first | omega | ((try simp (disch := omega) only [w32_eq, w64_eq, ix_n, ix_e, sto_n, sto_e, sto_r, zf_r, Int.toNat_natCast, true_or, or_true, eq_self, eo, v1, ex, e72]) <;> (first | omega | decide)))))
        have end' : ∀ z : Int, fix (fun _ _ _ _ _ => none) k_Ya_greatestLoad_13 f (r : Int) z (-1) ((i + 1 : Nat) : Int) M = some (z, M) := fun z => by
          obtain ⟨f', rfl⟩ : ∃ f', f = f' + 1 := ⟨f - 1, by omega⟩
          rw [fix_s]; unfold k_Ya_greatestLoad_13
          by_cases c : i + 1 < 5
          · refine e_t (by rw [w32_eq (by omega) (by omega)]; omega) (e_t (by decide) rfl)
          · refine e_f (by rw [w32_eq (by omega) (by omega)]; omega) rfl
        rw [hj, eo, v1, ex, e72]
        exact end' _
      · have hmn : mn32 a (M 67 x) ≤ a ∧ mn32 a (M 67 x) ≤ M 67 x ∧ 1 ≤ mn32 a (M 67 x) := by
          unfold mn32
          rw [w32_eq (x := a) (by omega) (by omega), w32_eq (x := M 67 x) (by omega) (by omega)]
          split <;> omega
        refine ⟨hmn.2.2, hmn.1, fun y hy q => ?_⟩
        rw [vC_o, v1] at q
        have : y = x := by omega
        subst this
        exact ⟨fun _ => hmn.2.1, fun p _ q => by rw [v2] at q; omega⟩
    · have e72 := (vC_n hx).2 p v2
      have ek : (x : Int) * (r : Int) + (p : Int) = ((x * r + p : Nat) : Int) := by push_cast; rfl
      have hk := way_20 hmr.1 hmr.2 hx hp
      have ekx : ix ((x * r + p : Nat) : Int) = x * r + p := ix_n (by omega)
      have hfx := hf _ (way_l hx hp)
      have hmn : mn32 a (M 70 (x * r + p)) ≤ a ∧ mn32 a (M 70 (x * r + p)) ≤ M 70 (x * r + p) ∧ 1 ≤ mn32 a (M 70 (x * r + p)) := by
        unfold mn32
        rw [w32_eq (x := a) (by omega) (by omega), w32_eq (x := M 70 (x * r + p)) (by omega) (by omega)]
        split <;> omega
      obtain ⟨z, z1, z2, z3, z4⟩ := ih f (i + 1) p (mn32 a (M 70 (x * r + p))) (by omega) (by omega) hp (by omega)
      refine ⟨z, ?_, z2, by omega, fun y hy q => ?_⟩
      · rw [fix_s]; unfold k_Ya_greatestLoad_13 k_Ya_greatestLoad_83
        repeat (first | with_reducible refine e_let ?_ | with_reducible refine e_cs ?_ | with_reducible refine e_clet ?_ | with_reducible refine e_cc ?_ | (with_reducible refine e_chk ?_ ?_; · (first | omega | ((try simp (disch := omega) only [w32_eq, w64_eq, ix_n, ix_e, sto_n, sto_e, sto_r, zf_r, Int.toNat_natCast, true_or, or_true, eq_self, eo, v1, ex, e72, ek]) <;> (first | omega | decide)))) | (with_reducible refine e_cchk ?_ ?_; · (first | omega | ((try simp (disch := omega) only [w32_eq, w64_eq, ix_n, ix_e, sto_n, sto_e, sto_r, zf_r, Int.toNat_natCast, true_or, or_true, eq_self, eo, v1, ex, e72, ek]) <;> (first | omega | decide)))) | (with_reducible refine e_t ?_ ?_; · (first | omega | ((try simp (disch := omega) only [w32_eq, w64_eq, ix_n, ix_e, sto_n, sto_e, sto_r, zf_r, Int.toNat_natCast, true_or, or_true, eq_self, eo, v1, ex, e72, ek]) <;> (first | omega | decide)))) | (with_reducible refine e_f ?_ ?_; · (first | omega | ((try simp (disch := omega) only [w32_eq, w64_eq, ix_n, ix_e, sto_n, sto_e, sto_r, zf_r, Int.toNat_natCast, true_or, or_true, eq_self, eo, v1, ex, e72, ek]) <;> (first | omega | decide)))) | (with_reducible refine e_ct ?_ ?_; · (first | omega | ((try simp (disch := omega) only [w32_eq, w64_eq, ix_n, ix_e, sto_n, sto_e, sto_r, zf_r, Int.toNat_natCast, true_or, or_true, eq_self, eo, v1, ex, e72, ek]) <;> (first | omega | decide)))) | (with_reducible refine e_cf ?_ ?_; · (first | omega | ((try simp (disch := omega) only [w32_eq, w64_eq, ix_n, ix_e, sto_n, sto_e, sto_r, zf_r, Int.toNat_natCast, true_or, or_true, eq_self, eo, v1, ex, e72, ek]) <;> (first | omega | decide)))))
        rw [hj, eo, v1, ex, e72, ek, ekx]
        exact z1
      · rw [vC_o, v1] at q
        have : y = x := by omega
        subst this
        refine ⟨fun q => by rw [v2] at q; omega, fun p' _ q => ?_⟩
        rw [v2] at q
        have : p' = p := by omega
        subst this
        exact ⟨by omega, z4⟩
theorem l_carry {m r : Nat} {B : Mem} {ta : Nat → Nat} {hv wn : Nat → Int} {z T : Int} (hmr : m ≤ 5 ∧ r ≤ 4) (hz : 0 ≤ z) (hc : ∀ k, k < m * r → 0 ≤ B 69 k ∧ B 69 k ≤ 100) (hF : Fnd m r (B 69) (B 70) (B 67) (dC m B) (vC m B) ta) :
    ∀ (j fuel i o : Nat) (M : Mem), i + j = 5 → j < fuel → o < r → (∀ x : Nat, x < m → vC m B (m + o) = (x : Int) → rkS m ta x < j) → Fr [67, 68, 70] [] B M → AI m r (B 69) hv wn (B 70) (B 67) (dC m B) ta z T o (M 70) (M 67) (M 68) → pok m r (B 70) (B 67) (vC m B) z j o →
    Ok (fix (fun _ _ _ _ _ => none) k_Ya_carry_16 fuel (r : Int) z (o : Int) (i : Int) M) (fun _ M' => FI m r hv wn (M' 70) (M' 67) (M' 68) ∧ (∃ pot, Cer m r (B 69) (M' 70) (M' 67) pot) ∧ csS m r (B 69) (M' 70) = T ∧ M' 68 = M 68) := by
  intro j; induction j with
  | zero =>
    intro fuel i o M e hf' ho hr hFr hA hp
    obtain ⟨x, hx, v1, -⟩ := way_b hF ho
    have := hr x hx v1
    have := rk_b (ta := ta) hx
    omega
  | succ j ih =>
    intro fuel i o M e hf' ho hr hFr hA hpk
    have hj : (i : Int) + 1 = ((i + 1 : Nat) : Int) := by omega
    have eo : ix (o : Int) = o := ix_n (by omega)
    obtain ⟨f, rfl⟩ : ∃ f, fuel = f + 1 := ⟨fuel - 1, by omega⟩
    obtain ⟨x, hx, v1, t1, d1, dx, rest⟩ := way_b hF ho
    have hrx := hr x hx v1
    have pkx := hpk x hx v1
    rw [vC_o] at v1
    have ex : ix (x : Int) = x := ix_n (by omega)
    have u74 := hFr.c 74 (by decide) (by decide)
    have u72 := hFr.c 72 (by decide) (by decide)
    have ek : (x : Int) * (r : Int) + (o : Int) = ((x * r + o : Nat) : Int) := by push_cast; rfl
    have hk := way_20 hmr.1 hmr.2 hx ho
    have eko : ix ((x * r + o : Nat) : Int) = x * r + o := ix_n (by omega)
    rw [fix_s]; unfold k_Ya_carry_16
    refine ok_t (by first | omega | ((try simp (disch := omega) only [w32_eq, w64_eq, ix_n, ix_e, sto_n, sto_e, sto_r, zf_r, Int.toNat_natCast, true_or, or_true, eq_self]) <;> (first | omega | decide))) (ok_f (by first | omega | ((try simp (disch := omega) only [w32_eq, w64_eq, ix_n, ix_e, sto_n, sto_e, sto_r, zf_r, Int.toNat_natCast, true_or, or_true, eq_self]) <;> (first | omega | decide))) (ok_chk (by first | omega | ((try simp (disch := omega) only [w32_eq, w64_eq, ix_n, ix_e, sto_n, sto_e, sto_r, zf_r, Int.toNat_natCast, true_or, or_true, eq_self]) <;> (first | omega | decide))) (ok_let ?_)))
    rw [eo, u74, v1]
    refine ok_f (by first | omega | ((try simp (disch := omega) only [w32_eq, w64_eq, ix_n, ix_e, sto_n, sto_e, sto_r, zf_r, Int.toNat_natCast, true_or, or_true, eq_self]) <;> (first | omega | decide))) (ok_chk (by first | omega | ((try simp (disch := omega) only [w32_eq, w64_eq, ix_n, ix_e, sto_n, sto_e, sto_r, zf_r, Int.toNat_natCast, true_or, or_true, eq_self]) <;> (first | omega | decide))) (ok_let ?_))
    rw [ek, eko]
    refine ok_chk (by first | omega | ((try simp (disch := omega) only [w32_eq, w64_eq, ix_n, ix_e, sto_n, sto_e, sto_r, zf_r, Int.toNat_natCast, true_or, or_true, eq_self]) <;> (first | omega | decide))) (ok_let (ok_chk (by first | omega | ((try simp (disch := omega) only [w32_eq, w64_eq, ix_n, ix_e, sto_n, sto_e, sto_r, zf_r, Int.toNat_natCast, true_or, or_true, eq_self]) <;> (first | omega | decide))) (ok_let (ok_chk (by first | omega | ((try simp (disch := omega) only [w32_eq, w64_eq, ix_n, ix_e, sto_n, sto_e, sto_r, zf_r, Int.toNat_natCast, true_or, or_true, eq_self]) <;> (first | omega | decide))) (ok_let ?_)))))
    rw [ex, sto_r (show 72 ≠ 70 by decide), u72]
    rcases rest with ⟨v2, l2⟩ | ⟨p, hp, hpo, v2, t2, d2, f2⟩
    · have e72 := (vC_n hx).1 v2
      have hzl := pkx.1 v2
      rw [e72]
      refine ok_t (by decide) (ok_chk (by first | omega | ((try simp (disch := omega) only [w32_eq, w64_eq, ix_n, ix_e, sto_n, sto_e, sto_r, zf_r, Int.toNat_natCast, true_or, or_true, eq_self]) <;> (first | omega | decide))) (ok_let (ok_chk (by first | omega | ((try simp (disch := omega) only [w32_eq, w64_eq, ix_n, ix_e, sto_n, sto_e, sto_r, zf_r, Int.toNat_natCast, true_or, or_true, eq_self]) <;> (first | omega | decide))) (ok_let ?_))))
      unfold k_Ya_carry_109
      refine ok_let ?_
      rw [hj]
      obtain ⟨a1, a2, a3⟩ := ai_end hc hF hz ho hx t1 d1 dx l2 hzl hA
      have fin : ∀ M' : Mem, M' 70 = up (M 70) (x * r + o) (M 70 (x * r + o) + z) → M' 67 = up (M 67) x (M 67 x - z) → M' 68 = M 68 → FI m r hv wn (M' 70) (M' 67) (M' 68) ∧ (∃ pot, Cer m r (B 69) (M' 70) (M' 67) pot) ∧ csS m r (B 69) (M' 70) = T ∧ M' 68 = M 68 := fun M' q1 q2 q3 => by
        rw [q1, q2, q3]; exact ⟨a1, a2, a3, rfl⟩
      have g := fin (sto (sto M 70 (x * r + o) (M 70 (x * r + o) + z)) 67 x (M 67 x - z)) (by rw [sto_r (by decide), sto_up]) (by rw [sto_up, sto_r (by decide)]) (by rw [sto_r (by decide), sto_r (by decide)])
      obtain ⟨f', rfl⟩ : ∃ f', f = f' + 1 := ⟨f - 1, by have := rk_b (ta := ta) hx; omega⟩
      rw [fix_s]
      rw [sto_r (show 67 ≠ 70 by decide)]
      by_cases c : i + 1 < 5
      · exact ok_t (by rw [w32_eq (by omega) (by omega)]; omega) (ok_t (by decide) (ok_ret g))
      · exact ok_f (by rw [w32_eq (by omega) (by omega)]; omega) (ok_ret g)
    · have e72 := (vC_n hx).2 p v2
      have hzl := pkx.2 p hp v2
      have ep : (x : Int) * (r : Int) + (p : Int) = ((x * r + p : Nat) : Int) := by push_cast; rfl
      have hkp := way_20 hmr.1 hmr.2 hx hp
      have ekp : ix ((x * r + p : Nat) : Int) = x * r + p := ix_n (by omega)
      have npo : x * r + p ≠ x * r + o := by omega
      rw [e72, ep, ekp]
      refine ok_f (by first | omega | ((try simp (disch := omega) only [w32_eq, w64_eq, ix_n, ix_e, sto_n, sto_e, sto_r, zf_r, Int.toNat_natCast, true_or, or_true, eq_self]) <;> (first | omega | decide))) (ok_chk (by first | omega | ((try simp (disch := omega) only [w32_eq, w64_eq, ix_n, ix_e, sto_n, sto_e, sto_r, zf_r, Int.toNat_natCast, true_or, or_true, eq_self]) <;> (first | omega | decide))) (ok_let (ok_chk (by first | omega | ((try simp (disch := omega) only [w32_eq, w64_eq, ix_n, ix_e, sto_n, sto_e, sto_r, zf_r, Int.toNat_natCast, true_or, or_true, eq_self]) <;> (first | omega | decide))) (ok_let ?_))))
      unfold k_Ya_carry_109
      refine ok_let ?_
      rw [hj]
      have w1 : sto M 70 (x * r + o) (M 70 (x * r + o) + z) 70 (x * r + p) = M 70 (x * r + p) := sto_n npo
      rw [w1]
      have q70 : sto (sto M 70 (x * r + o) (M 70 (x * r + o) + z)) 70 (x * r + p) (M 70 (x * r + p) - z) 70 = up (up (M 70) (x * r + o) (M 70 (x * r + o) + z)) (x * r + p) (M 70 (x * r + p) - z) := by rw [sto_up, sto_up]
      have nx := ih f (i + 1) p (sto (sto M 70 (x * r + o) (M 70 (x * r + o) + z)) 70 (x * r + p) (M 70 (x * r + p) - z)) (by omega) (by omega) hp (fun y hy q => ?_) (hFr.trans (Fr.trans (fr_stoA (by decide)) (fr_stoA (by decide)))) ?_ hzl.2
      · refine ok_mono nx (fun _ M' h => ⟨h.1, h.2.1, h.2.2.1, ?_⟩)
        rw [h.2.2.2, sto_r (by decide), sto_r (by decide)]
      · obtain ⟨y', hy', w', t', -⟩ := way_b hF hp
        have : y' = y := by rw [w'] at q; omega
        subst this
        have := rk_lt (m := m) (ta := ta) hy' (show ta y' < ta x by omega)
        omega
      · rw [q70, sto_r (show 67 ≠ 70 by decide), sto_r (show 67 ≠ 70 by decide), sto_r (show 68 ≠ 70 by decide), sto_r (show 68 ≠ 70 by decide)]
        exact ai_mid hz ho hx hp hpo t1 t2 d1 dx d2 hzl.1 hA
theorem ai_0 {m r : Nat} {c hv wn f0 lf0 wt d via : Nat → Int} {ta : Nat → Nat} {z : Int} {o : Nat} (hF : Fnd m r c f0 lf0 d via ta) (hI : FI m r hv wn f0 lf0 wt) (ho : o < r) (hz : z ≤ wt o) : AI m r c hv wn f0 lf0 d ta z (csS m r c f0 + z * d (m + o)) o f0 lf0 (up wt o (wt o - z)) := by
  obtain ⟨-, -, -, f4, -⟩ := hF
  obtain ⟨i1, i2, i3⟩ := hI
  refine ⟨fun b p hb hp => ⟨i1 b p hb hp, (f4 b p hb hp).2⟩, fun b hb => ⟨(i2 b hb).1, (i2 b hb).2, fun q => q⟩, fun p hp => ?_, rfl, fun b hb _ => ⟨rfl, fun p hp => rfl⟩⟩
  have := i3 p hp
  by_cases c : p = o
  · subst c; rw [up_e, if_pos rfl]; omega
  · rw [up_n c, if_neg c]; omega
theorem fi_bd {m r : Nat} {hv wn f lf wt : Nat → Int} (h : FI m r hv wn f lf wt) (h1 : ∀ b, b < m → hv b ≤ 30) (h2 : ∀ o, o < r → wn o ≤ 30) : (∀ k, k < m * r → 0 ≤ f k ∧ f k ≤ 30) ∧ (∀ b, b < m → 0 ≤ lf b ∧ lf b ≤ 30) ∧ ∀ o, o < r → 0 ≤ wt o ∧ wt o ≤ 30 := by
  obtain ⟨i1, i2, i3⟩ := h
  refine ⟨fun k hk => ?_, fun b hb => ?_, fun o ho => ?_⟩
  · have hr : 0 < r := by
      by_cases c : 0 < r
      · exact c
      · have : r = 0 := by omega
        rw [this, Nat.mul_zero] at hk; omega
    have e : k / r * r + k % r = k := by rw [Nat.mul_comm]; exact Nat.div_add_mod k r
    have hb : k / r < m := Nat.div_lt_of_lt_mul (by rw [Nat.mul_comm]; exact hk)
    have ho : k % r < r := Nat.mod_lt _ hr
    have g1 := i1 _ _ hb ho
    have g2 := i3 _ ho
    have g3 := sm_ge (w := fun b => f (b * r + k % r)) m (fun b hb => i1 b _ hb ho) (k / r) hb
    have g4 := h2 _ ho
    unfold clS at g2
    rw [e] at g1 g3
    omega
  · have := i2 b hb
    have := h1 b hb
    have g : 0 ≤ rwS r f b := sm_nn r (fun o ho => i1 b o hb ho)
    omega
  · have := i3 o ho
    have := h2 o ho
    have g : 0 ≤ clS m r f o := sm_nn m (fun b hb => i1 b o hb ho)
    omega
theorem fi_left {m r : Nat} {hv wn f lf wt : Nat → Int} (h : FI m r hv wn f lf wt) (hs : sm wn r ≤ sm hv m) {o : Nat} (ho : o < r) (hw : 0 < wt o) : ∃ b, b < m ∧ 0 < lf b := by
  obtain ⟨i1, i2, i3⟩ := h
  refine Classical.byContradiction fun q => ?_
  have z : sm lf m = 0 := sm_0 m (fun b hb => by
    have := (i2 b hb).1
    by_cases c : 0 < lf b
    · exact absurd ⟨b, hb, c⟩ q
    · omega)
  have e1 : sm hv m = sm lf m + sm (rwS r f) m := by
    rw [← sm_add]; exact sm_ext m (fun b hb => (i2 b hb).2.symm)
  have e2 : sm wn r = sm wt r + sm (clS m r f) r := by
    rw [← sm_add]; exact sm_ext r (fun o ho => (i3 o ho).2.symm)
  have e3 : sm (rwS r f) m = sm (clS m r f) r := sm_swap m
  have g := sm_ge (w := wt) r (fun o ho => (i3 o ho).1) o ho
  omega
theorem sm_2 {g : Nat → Int} {r : Nat} : ∀ m : Nat, sm g (m * r) = sm (fun b => sm (fun o => g (b * r + o)) r) m
  | 0 => by rw [Nat.zero_mul]; rfl
  | m + 1 => by
    rw [Nat.add_mul, Nat.one_mul, sm_split, sm_2 m]; rfl
theorem l_lc63 {m r : Nat} {M : Mem} (hmr : m ≤ 5 ∧ r ≤ 4) : ∀ j fuel k : Nat, k + j = m * r → j < fuel → fix (fun _ _ _ _ _ => none) k_Ya_leastCost_63 fuel (m : Int) (r : Int) (sm (fun k => M 69 k * M 70 k) k) (k : Int) M = some (csS m r (M 69) (M 70), M) := by
  have b1 : m * r ≤ 5 * 4 := Nat.mul_le_mul hmr.1 hmr.2
  have em : (m : Int) * (r : Int) = ((m * r : Nat) : Int) := by push_cast; rfl
  intro j; induction j with
  | zero =>
    intro fuel k e hf
    obtain ⟨f, rfl⟩ : ∃ f, fuel = f + 1 := ⟨fuel - 1, by omega⟩; rw [fix_s]; unfold k_Ya_leastCost_63
    rw [em]
    refine e_f (by first | omega | ((try simp (disch := omega) only [w32_eq, w64_eq, ix_n, ix_e, sto_n, sto_e, sto_r, zf_r, Int.toNat_natCast, true_or, or_true, eq_self]) <;> (first | omega | decide))) ?_
    rw [show k = m * r by omega, sm_2]; rfl
  | succ j ih =>
    intro fuel k e hf
    have hj : (k : Int) + 1 = ((k + 1 : Nat) : Int) := by omega
    have ek : ix (k : Int) = k := ix_n (by omega)
    obtain ⟨f, rfl⟩ : ∃ f, fuel = f + 1 := ⟨fuel - 1, by omega⟩; rw [fix_s]
    have := ih f (k + 1) (by omega) (by omega)
    unfold k_Ya_leastCost_63
    rw [em]
    refine e_t (by first | omega | ((try simp (disch := omega) only [w32_eq, w64_eq, ix_n, ix_e, sto_n, sto_e, sto_r, zf_r, Int.toNat_natCast, true_or, or_true, eq_self]) <;> (first | omega | decide))) (e_chk (by first | omega | ((try simp (disch := omega) only [w32_eq, w64_eq, ix_n, ix_e, sto_n, sto_e, sto_r, zf_r, Int.toNat_natCast, true_or, or_true, eq_self]) <;> (first | omega | decide))) (e_let (e_chk (by first | omega | ((try simp (disch := omega) only [w32_eq, w64_eq, ix_n, ix_e, sto_n, sto_e, sto_r, zf_r, Int.toNat_natCast, true_or, or_true, eq_self]) <;> (first | omega | decide))) (e_let (e_let (e_let ?_))))))
    rw [ek, hj, Int.mul_comm (M 70 k)]
    exact this
theorem l_lc10 {m r : Nat} {B : Mem} {hv wn : Nat → Int} (hmr : m ≤ 5 ∧ r ≤ 4) (hc : ∀ k, k < m * r → 0 ≤ B 69 k ∧ B 69 k ≤ 100) (h1 : ∀ b, b < m → hv b ≤ 30) (h2 : ∀ o, o < r → wn o ≤ 30) (hs : sm wn r ≤ sm hv m) :
    ∀ (j fuel i : Nat) (M : Mem), i + j = 120 → j < fuel → Fr [67, 68, 70, 71, 72, 73, 74] [] B M → FI m r hv wn (M 70) (M 67) (M 68) → (∃ pot, Cer m r (B 69) (M 70) (M 67) pot) → sm (M 68) r ≤ j →
    Ok (fix (fun _ _ _ _ => none) k_Ya_leastCost_10 fuel (m : Int) (r : Int) (i : Int) M) (fun v _ => ∃ f lf, FI m r hv wn f lf (fun _ => 0) ∧ (∃ pot, Cer m r (B 69) f lf pot) ∧ v = csS m r (B 69) f) := by
  have fin : ∀ M : Mem, M 69 = B 69 → FI m r hv wn (M 70) (M 67) (M 68) → (∃ pot, Cer m r (B 69) (M 70) (M 67) pot) → (∀ o, o < r → M 68 o = 0) → Ok (k_Ya_leastCost_58 (m : Int) (r : Int) M) (fun v _ => ∃ f lf, FI m r hv wn f lf (fun _ => 0) ∧ (∃ pot, Cer m r (B 69) f lf pot) ∧ v = csS m r (B 69) f) := by
    intro M e69 hI hC hz
    have b1 : m * r ≤ 5 * 4 := Nat.mul_le_mul hmr.1 hmr.2
    unfold k_Ya_leastCost_58
    have q := l_lc63 (M := M) hmr (m * r) FU 0 (by omega) (by unfold FU; omega)
    refine ⟨_, _, q, M 70, M 67, ⟨hI.1, hI.2.1, fun o ho => ?_⟩, hC, by rw [e69]⟩
    have := hI.2.2 o ho
    rw [hz o ho] at this
    exact this
  intro j; induction j with
  | zero =>
    intro fuel i M e hf hFr hI hC hsm
    obtain ⟨f, rfl⟩ : ∃ f, fuel = f + 1 := ⟨fuel - 1, by omega⟩; rw [fix_s]; unfold k_Ya_leastCost_10
    refine ok_f (by first | omega | ((try simp (disch := omega) only [w32_eq, w64_eq, ix_n, ix_e, sto_n, sto_e, sto_r, zf_r, Int.toNat_natCast, true_or, or_true, eq_self]) <;> (first | omega | decide))) (fin M (hFr.c 69 (by decide) (by decide)) hI hC (fun o ho => ?_))
    have g := sm_ge (w := M 68) r (fun o ho => (hI.2.2 o ho).1) o ho
    have := (hI.2.2 o ho).1
    omega
  | succ j ih =>
    intro fuel i M e hf hFr hI hC hsm
    have hj : (i : Int) + 1 = ((i + 1 : Nat) : Int) := by omega
    have u69 := hFr.c 69 (by decide) (by decide)
    obtain ⟨bd1, bd2, bd3⟩ := fi_bd hI h1 h2
    obtain ⟨pot, hC'⟩ := hC
    obtain ⟨f, rfl⟩ : ∃ f, fuel = f + 1 := ⟨fuel - 1, by omega⟩; rw [fix_s]; unfold k_Ya_leastCost_10
    refine ok_t (by first | omega | ((try simp (disch := omega) only [w32_eq, w64_eq, ix_n, ix_e, sto_n, sto_e, sto_r, zf_r, Int.toNat_natCast, true_or, or_true, eq_self]) <;> (first | omega | decide))) (ok_call (s_findWays (m := m) (r := r) (M := M) (pot := pot) ⟨hmr, fun k hk => ⟨by rw [u69]; exact hc k hk, bd1 k hk⟩⟩ bd2 (by rw [u69]; exact hC')) (fun _ X hX => ?_))
    obtain ⟨x1, xF⟩ := hX
    have x67 := xF.c 67 (by decide) (by decide)
    have x68 := xF.c 68 (by decide) (by decide)
    have x69 := xF.c 69 (by decide) (by decide)
    have x70 := xF.c 70 (by decide) (by decide)
    obtain ⟨v, e1, e2⟩ := cheap_ok (r := r) (M := X) hmr.2 (by rw [x68]; exact bd3) (fun o ho hw => by
      rw [x68] at hw
      obtain ⟨ta, hF⟩ := x1 (fi_left hI hs ho hw)
      have g1 := hF.1 (m + o) (by omega)
      have g2 := hF.2.2.1 o ho
      rw [dC_o] at g1 g2
      omega)
    refine ok_call_eq e1 ?_
    rcases e2 with ⟨rfl, hz⟩ | ⟨o, rfl, ho, hw⟩
    · refine ok_t (by decide) (fin X (by rw [x69, u69]) (by rw [x70, x67, x68]; exact hI) ⟨pot, by rw [x70, x67]; exact hC'⟩ hz)
    · have hw' := hw
      rw [x68] at hw'
      obtain ⟨ta, hF⟩ := x1 (fi_left hI hs ho hw')
      rw [← x69, ← x70, ← x67] at hF
      have eo : ix (o : Int) = o := ix_n (by omega)
      have hwo := bd3 o ho
      rw [← x68] at hwo
      obtain ⟨z, z1, z2, z3, z4⟩ := l_great (M := X) hmr hF (by rw [x67]; exact bd2) (by rw [x70]; exact bd1) 5 FU 0 o (X 68 o) (by omega) (by unfold FU; omega) ho (by omega)
      refine ok_f (by first | omega | ((try simp (disch := omega) only [w32_eq, w64_eq, ix_n, ix_e, sto_n, sto_e, sto_r, zf_r, Int.toNat_natCast, true_or, or_true, eq_self]) <;> (first | omega | decide))) (ok_call_eq (v := z) (M := X) ?_ ?_)
      · unfold d_Ya_greatestLoad
        refine e_chk (by first | omega | ((try simp (disch := omega) only [w32_eq, w64_eq, ix_n, ix_e, sto_n, sto_e, sto_r, zf_r, Int.toNat_natCast, true_or, or_true, eq_self]) <;> (first | omega | decide))) (e_let ?_)
        rw [eo]; exact z1
      · have hI' : FI m r hv wn (X 70) (X 67) (X 68) := by rw [x70, x67, x68]; exact hI
        refine ok_call (Q := fun _ M' => (FI m r hv wn (M' 70) (M' 67) (M' 68) ∧ (∃ pot, Cer m r (X 69) (M' 70) (M' 67) pot) ∧ M' 68 = up (X 68) o (X 68 o - z)) ∧ Fr [67, 68, 70] [] X M') (ok_fr ?_ (fun r hr => w_Ya_carry hr)) (fun _ Y hY => ?_)
        · unfold d_Ya_carry
          refine ok_chk (by first | omega | ((try simp (disch := omega) only [w32_eq, w64_eq, ix_n, ix_e, sto_n, sto_e, sto_r, zf_r, Int.toNat_natCast, true_or, or_true, eq_self]) <;> (first | omega | decide))) (ok_let (ok_chk (by first | omega | ((try simp (disch := omega) only [w32_eq, w64_eq, ix_n, ix_e, sto_n, sto_e, sto_r, zf_r, Int.toNat_natCast, true_or, or_true, eq_self]) <;> (first | omega | decide))) (ok_let ?_)))
          rw [eo]
          have s : ∀ c, c ≠ 68 → sto X 68 o (X 68 o - z) c = X c := fun c h => sto_r h
          have sd : dC m (sto X 68 o (X 68 o - z)) = dC m X := by unfold dC; rw [s 71 (by decide), s 73 (by decide)]
          have sv : vC m (sto X 68 o (X 68 o - z)) = vC m X := by unfold vC; rw [s 72 (by decide), s 74 (by decide)]
          have q := l_carry (B := sto X 68 o (X 68 o - z)) (ta := ta) (hv := hv) (wn := wn) (z := z) (T := csS m r (X 69) (X 70) + z * dC m X (m + o)) hmr (by omega) (by rw [s 69 (by decide), x69, u69]; exact hc) (by rw [s 69 (by decide), s 70 (by decide), s 67 (by decide), sd, sv]; exact hF) 5 FU 0 o (sto X 68 o (X 68 o - z)) (by omega) (by unfold FU; omega) ho (fun x hx _ => by have := rk_b (ta := ta) hx; omega) Fr.rfl' (by
            rw [s 69 (by decide), s 70 (by decide), s 67 (by decide), sd, sto_up]
            exact ai_0 hF hI' ho z3) (by rw [s 70 (by decide), s 67 (by decide), sv]; exact z4)
          refine ok_mono q (fun _ M' h => ⟨h.1, ?_, ?_⟩)
          · rw [← s 69 (by decide)]; exact h.2.1
          · rw [h.2.2.2, sto_up]
        · obtain ⟨⟨y1, y2, y3⟩, yF⟩ := hY
          refine ok_let ?_
          rw [hj]
          refine ih f (i + 1) Y (by omega) (by omega) (Fr.trans hFr (Fr.trans (xF.mono (by decide) (by decide)) (yF.mono (by decide) (by decide)))) y1 ?_ ?_
          · rw [x69, u69] at y2; exact y2
          · rw [y3, sm_up r ho, x68]; omega
theorem s_leastCost {m r : Nat} {M : Mem} (hmr : m ≤ 5 ∧ r ≤ 4) (hc : ∀ k, k < m * r → 0 ≤ M 69 k ∧ M 69 k ≤ 100) (h1 : ∀ b, b < m → 0 ≤ M 67 b ∧ M 67 b ≤ 30) (h2 : ∀ o, o < r → 0 ≤ M 68 o ∧ M 68 o ≤ 30) (hs : sm (M 68) r ≤ sm (M 67) m) :
    Ok (d_Ya_leastCost (m : Int) (r : Int) M) (fun v M' => (∃ f lf, FI m r (M 67) (M 68) f lf (fun _ => 0) ∧ (∃ pot, Cer m r (M 69) f lf pot) ∧ v = csS m r (M 69) f) ∧ Fr [67, 68, 70, 71, 72, 73, 74] [] M M') := by
  refine ok_fr ?_ (fun r hr => w_Ya_leastCost hr)
  unfold d_Ya_leastCost
  refine ok_call_eq (s_fill1 (by decide)) ?_
  have z : ∀ c, c ≠ 70 → zf M 70 0 20 0 c = M c := fun c h => zf_r h
  have z0 : ∀ k, k < m * r → zf M 70 0 20 0 70 k = 0 := fun k hk => by
    have b1 : m * r ≤ 5 * 4 := Nat.mul_le_mul hmr.1 hmr.2
    rw [zf_c, if_pos (by omega)]
  have q := l_lc10 (B := zf M 70 0 20 0) (hv := M 67) (wn := M 68) hmr (by rw [z 69 (by decide)]; exact hc) (fun b hb => (h1 b hb).2) (fun o ho => (h2 o ho).2) hs 120 FU 0 (zf M 70 0 20 0) (by omega) (by unfold FU; omega) Fr.rfl' ⟨fun b o hb ho => by rw [z0 _ (way_l hb ho)]; exact Int.le_refl _, fun b hb => ?_, fun o ho => ?_⟩ ⟨fun _ => 0, fun b o hb ho => ?_, fun _ _ _ => rfl, fun _ _ => ⟨Int.le_refl _, show (0 : Int) ≤ 36000 by decide⟩⟩ ?_
  · rw [z 69 (by decide)] at q; exact q
  · rw [z 67 (by decide)]
    refine ⟨(h1 b hb).1, ?_⟩
    unfold rwS
    rw [sm_0 r (fun o ho => z0 _ (way_l hb ho))]; omega
  · rw [z 68 (by decide)]
    refine ⟨(h2 o ho).1, ?_⟩
    unfold clS
    rw [sm_0 m (fun b hb => z0 _ (way_l hb ho))]; omega
  · rw [z0 _ (way_l hb ho), z 69 (by decide)]
    have := hc _ (way_l hb ho)
    exact ⟨by show (0 : Int) ≤ 0 + _; omega, fun h => absurd h (by decide)⟩
  · rw [z 68 (by decide)]
    have := sm_b (w := M 68) (c := 30) r (fun o ho => (h2 o ho).2)
    omega
-- FILE 97s6.sendr
/-! wheat sent: the model sends a bushel -/
theorem dv_n {k r : Nat} (hk : k < 2147483648) (hr : r < 2147483648) : dv32 (k : Int) (r : Int) = ((k / r : Nat) : Int) := by
  unfold dv32
  rw [w32_eq (by omega) (by omega), w32_eq (by omega) (by omega)]; rfl
theorem rm_n {k r : Nat} (hk : k < 2147483648) (hr : r < 2147483648) : rm32 (k : Int) (r : Int) = ((k % r : Nat) : Int) := by
  unfold rm32
  rw [w32_eq (by omega) (by omega), w32_eq (by omega) (by omega)]; rfl
def stR (M : Mem) : (Nat → Int) × (Nat → Int) := (M 186, M 187)
theorem st_up {M : Mem} {y x : Nat} {v : Int} : stR (sto (sto M 186 y v) 187 y (x : Int)) = (up (M 186) y v, up (M 187) y (x : Int)) := by
  unfold stR
  rw [sto_r (show 186 ≠ 187 by decide), sto_up, sto_up, sto_r (show 187 ≠ 186 by decide)]
theorem s_bu160 {m r b o k : Nat} {M : Mem} {a3 a4 : Int} {P : Int → Mem → Prop} {R60 : Int → Int → Int → Int → Mem → Res} {R69 : Int → Int → Int → Int → Int → Mem → Res} (hmr : m ≤ 5 ∧ r ≤ 4) (hb : b < m) (ho : o < r) (hk : k < 20) (hc : 0 ≤ M 184 k ∧ M 184 k ≤ 100) (hf : 0 ≤ M 185 k ∧ M 185 k ≤ 30) (h1 : 0 ≤ M 186 b ∧ M 186 b ≤ 100000) (h2 : 0 ≤ M 186 (m + o) ∧ M 186 (m + o) ≤ 100000)
    (hR : ∀ M' : Mem, Fr [186, 187] [] M M' → stR M' = (if 0 < M 185 k then rl 100000 (m + o) b (- M 184 k) (stR M) else stR M) → Ok (R69 (m : Int) (r : Int) a3 a4 ((k : Int) + 1) M') P) :
    Ok (k_Mo_bushel_160 R60 R69 (m : Int) (r : Int) a3 a4 (k : Int) (b : Int) ((m + o : Nat) : Int) M) P := by
  have eb : ix (b : Int) = b := ix_n (by omega)
  have eo : ix ((m + o : Nat) : Int) = m + o := ix_n (by omega)
  have ek : ix (k : Int) = k := ix_n (by omega)
  have s1 : (stR M).1 b = M 186 b := rfl
  have s2 : (stR M).1 (m + o) = M 186 (m + o) := rfl
  unfold k_Mo_bushel_160
  by_cases c1 : 0 < M 185 k
  · rw [if_pos c1] at hR
    unfold rl at hR
    rw [s1, s2] at hR
    by_cases c3 : M 186 (m + o) < 100000
    · by_cases c2 : M 186 (m + o) - M 184 k < M 186 b
      · rw [if_pos ⟨c3, by omega⟩] at hR
        repeat (first | with_reducible refine ok_let ?_ | with_reducible refine ok_cs ?_ | with_reducible refine ok_clet ?_ | with_reducible refine ok_cc ?_ | (with_reducible refine ok_chk ?_ ?_; · (first | omega | ((try simp (disch := omega) only [w32_eq, w64_eq, ix_n, ix_e, sto_n, sto_e, sto_r, zf_r, Int.toNat_natCast, true_or, or_true, eq_self, ek, eb, eo]) <;> (first | omega | decide)))) | (with_reducible refine ok_cchk ?_ ?_; · (first | omega | ((try simp (disch := omega) only [w32_eq, w64_eq, ix_n, ix_e, sto_n, sto_e, sto_r, zf_r, Int.toNat_natCast, true_or, or_true, eq_self, ek, eb, eo]) <;> (first | omega | decide)))) | (with_reducible refine ok_t ?_ ?_; · (first | omega | ((try simp (disch := omega) only [w32_eq, w64_eq, ix_n, ix_e, sto_n, sto_e, sto_r, zf_r, Int.toNat_natCast, true_or, or_true, eq_self, ek, eb, eo]) <;> (first | omega | decide)))) | (with_reducible refine ok_f ?_ ?_; · (first | omega | ((try simp (disch := omega) only [w32_eq, w64_eq, ix_n, ix_e, sto_n, sto_e, sto_r, zf_r, Int.toNat_natCast, true_or, or_true, eq_self, ek, eb, eo]) <;> (first | omega | decide)))) | (with_reducible refine ok_ct ?_ ?_; · (first | omega | ((try simp (disch := omega) only [w32_eq, w64_eq, ix_n, ix_e, sto_n, sto_e, sto_r, zf_r, Int.toNat_natCast, true_or, or_true, eq_self, ek, eb, eo]) <;> (first | omega | decide)))) | (with_reducible refine ok_cf ?_ ?_; · (first | omega | ((try simp (disch := omega) only [w32_eq, w64_eq, ix_n, ix_e, sto_n, sto_e, sto_r, zf_r, Int.toNat_natCast, true_or, or_true, eq_self, ek, eb, eo]) <;> (first | omega | decide)))))
        unfold k_Mo_bushel_239
        repeat (first | with_reducible refine ok_let ?_ | with_reducible refine ok_cs ?_ | with_reducible refine ok_clet ?_ | with_reducible refine ok_cc ?_ | (with_reducible refine ok_chk ?_ ?_; · (first | omega | ((try simp (disch := omega) only [w32_eq, w64_eq, ix_n, ix_e, sto_n, sto_e, sto_r, zf_r, Int.toNat_natCast, true_or, or_true, eq_self]) <;> (first | omega | decide)))) | (with_reducible refine ok_cchk ?_ ?_; · (first | omega | ((try simp (disch := omega) only [w32_eq, w64_eq, ix_n, ix_e, sto_n, sto_e, sto_r, zf_r, Int.toNat_natCast, true_or, or_true, eq_self]) <;> (first | omega | decide)))) | (with_reducible refine ok_t ?_ ?_; · (first | omega | ((try simp (disch := omega) only [w32_eq, w64_eq, ix_n, ix_e, sto_n, sto_e, sto_r, zf_r, Int.toNat_natCast, true_or, or_true, eq_self]) <;> (first | omega | decide)))) | (with_reducible refine ok_f ?_ ?_; · (first | omega | ((try simp (disch := omega) only [w32_eq, w64_eq, ix_n, ix_e, sto_n, sto_e, sto_r, zf_r, Int.toNat_natCast, true_or, or_true, eq_self]) <;> (first | omega | decide)))) | (with_reducible refine ok_ct ?_ ?_; · (first | omega | ((try simp (disch := omega) only [w32_eq, w64_eq, ix_n, ix_e, sto_n, sto_e, sto_r, zf_r, Int.toNat_natCast, true_or, or_true, eq_self]) <;> (first | omega | decide)))) | (with_reducible refine ok_cf ?_ ?_; · (first | omega | ((try simp (disch := omega) only [w32_eq, w64_eq, ix_n, ix_e, sto_n, sto_e, sto_r, zf_r, Int.toNat_natCast, true_or, or_true, eq_self]) <;> (first | omega | decide)))))
        rw [eb, eo, ek]
        refine hR _ (Fr.trans (fr_stoA (by decide)) (fr_stoA (by decide))) ?_
        rw [st_up]
        rfl
      · rw [if_neg (fun q => c2 (by omega))] at hR
        repeat (first | with_reducible refine ok_let ?_ | with_reducible refine ok_cs ?_ | with_reducible refine ok_clet ?_ | with_reducible refine ok_cc ?_ | (with_reducible refine ok_chk ?_ ?_; · (first | omega | ((try simp (disch := omega) only [w32_eq, w64_eq, ix_n, ix_e, sto_n, sto_e, sto_r, zf_r, Int.toNat_natCast, true_or, or_true, eq_self, ek, eb, eo]) <;> (first | omega | decide)))) | (with_reducible refine ok_cchk ?_ ?_; · (first | omega | ((try simp (disch := omega) only [w32_eq, w64_eq, ix_n, ix_e, sto_n, sto_e, sto_r, zf_r, Int.toNat_natCast, true_or, or_true, eq_self, ek, eb, eo]) <;> (first | omega | decide)))) | (with_reducible refine ok_t ?_ ?_; · (first | omega | ((try simp (disch := omega) only [w32_eq, w64_eq, ix_n, ix_e, sto_n, sto_e, sto_r, zf_r, Int.toNat_natCast, true_or, or_true, eq_self, ek, eb, eo]) <;> (first | omega | decide)))) | (with_reducible refine ok_f ?_ ?_; · (first | omega | ((try simp (disch := omega) only [w32_eq, w64_eq, ix_n, ix_e, sto_n, sto_e, sto_r, zf_r, Int.toNat_natCast, true_or, or_true, eq_self, ek, eb, eo]) <;> (first | omega | decide)))) | (with_reducible refine ok_ct ?_ ?_; · (first | omega | ((try simp (disch := omega) only [w32_eq, w64_eq, ix_n, ix_e, sto_n, sto_e, sto_r, zf_r, Int.toNat_natCast, true_or, or_true, eq_self, ek, eb, eo]) <;> (first | omega | decide)))) | (with_reducible refine ok_cf ?_ ?_; · (first | omega | ((try simp (disch := omega) only [w32_eq, w64_eq, ix_n, ix_e, sto_n, sto_e, sto_r, zf_r, Int.toNat_natCast, true_or, or_true, eq_self, ek, eb, eo]) <;> (first | omega | decide)))))
        unfold k_Mo_bushel_239
        repeat (first | with_reducible refine ok_let ?_ | with_reducible refine ok_cs ?_ | with_reducible refine ok_clet ?_ | with_reducible refine ok_cc ?_ | (with_reducible refine ok_chk ?_ ?_; · (first | omega | ((try simp (disch := omega) only [w32_eq, w64_eq, ix_n, ix_e, sto_n, sto_e, sto_r, zf_r, Int.toNat_natCast, true_or, or_true, eq_self]) <;> (first | omega | decide)))) | (with_reducible refine ok_cchk ?_ ?_; · (first | omega | ((try simp (disch := omega) only [w32_eq, w64_eq, ix_n, ix_e, sto_n, sto_e, sto_r, zf_r, Int.toNat_natCast, true_or, or_true, eq_self]) <;> (first | omega | decide)))) | (with_reducible refine ok_t ?_ ?_; · (first | omega | ((try simp (disch := omega) only [w32_eq, w64_eq, ix_n, ix_e, sto_n, sto_e, sto_r, zf_r, Int.toNat_natCast, true_or, or_true, eq_self]) <;> (first | omega | decide)))) | (with_reducible refine ok_f ?_ ?_; · (first | omega | ((try simp (disch := omega) only [w32_eq, w64_eq, ix_n, ix_e, sto_n, sto_e, sto_r, zf_r, Int.toNat_natCast, true_or, or_true, eq_self]) <;> (first | omega | decide)))) | (with_reducible refine ok_ct ?_ ?_; · (first | omega | ((try simp (disch := omega) only [w32_eq, w64_eq, ix_n, ix_e, sto_n, sto_e, sto_r, zf_r, Int.toNat_natCast, true_or, or_true, eq_self]) <;> (first | omega | decide)))) | (with_reducible refine ok_cf ?_ ?_; · (first | omega | ((try simp (disch := omega) only [w32_eq, w64_eq, ix_n, ix_e, sto_n, sto_e, sto_r, zf_r, Int.toNat_natCast, true_or, or_true, eq_self]) <;> (first | omega | decide)))))
        exact hR M Fr.rfl' rfl
    · rw [if_neg (fun q => c3 q.1)] at hR
      repeat (first | with_reducible refine ok_let ?_ | with_reducible refine ok_cs ?_ | with_reducible refine ok_clet ?_ | with_reducible refine ok_cc ?_ | (with_reducible refine ok_chk ?_ ?_; · (first | omega | ((try simp (disch := omega) only [w32_eq, w64_eq, ix_n, ix_e, sto_n, sto_e, sto_r, zf_r, Int.toNat_natCast, true_or, or_true, eq_self, ek, eb, eo]) <;> (first | omega | decide)))) | (with_reducible refine ok_cchk ?_ ?_; · (first | omega | ((try simp (disch := omega) only [w32_eq, w64_eq, ix_n, ix_e, sto_n, sto_e, sto_r, zf_r, Int.toNat_natCast, true_or, or_true, eq_self, ek, eb, eo]) <;> (first | omega | decide)))) | (with_reducible refine ok_t ?_ ?_; · (first | omega | ((try simp (disch := omega) only [w32_eq, w64_eq, ix_n, ix_e, sto_n, sto_e, sto_r, zf_r, Int.toNat_natCast, true_or, or_true, eq_self, ek, eb, eo]) <;> (first | omega | decide)))) | (with_reducible refine ok_f ?_ ?_; · (first | omega | ((try simp (disch := omega) only [w32_eq, w64_eq, ix_n, ix_e, sto_n, sto_e, sto_r, zf_r, Int.toNat_natCast, true_or, or_true, eq_self, ek, eb, eo]) <;> (first | omega | decide)))) | (with_reducible refine ok_ct ?_ ?_; · (first | omega | ((try simp (disch := omega) only [w32_eq, w64_eq, ix_n, ix_e, sto_n, sto_e, sto_r, zf_r, Int.toNat_natCast, true_or, or_true, eq_self, ek, eb, eo]) <;> (first | omega | decide)))) | (with_reducible refine ok_cf ?_ ?_; · (first | omega | ((try simp (disch := omega) only [w32_eq, w64_eq, ix_n, ix_e, sto_n, sto_e, sto_r, zf_r, Int.toNat_natCast, true_or, or_true, eq_self, ek, eb, eo]) <;> (first | omega | decide)))))
      unfold k_Mo_bushel_239
      repeat (first | with_reducible refine ok_let ?_ | with_reducible refine ok_cs ?_ | with_reducible refine ok_clet ?_ | with_reducible refine ok_cc ?_ | (with_reducible refine ok_chk ?_ ?_; · (first | omega | ((try simp (disch := omega) only [w32_eq, w64_eq, ix_n, ix_e, sto_n, sto_e, sto_r, zf_r, Int.toNat_natCast, true_or, or_true, eq_self]) <;> (first | omega | decide)))) | (with_reducible refine ok_cchk ?_ ?_; · (first | omega | ((try simp (disch := omega) only [w32_eq, w64_eq, ix_n, ix_e, sto_n, sto_e, sto_r, zf_r, Int.toNat_natCast, true_or, or_true, eq_self]) <;> (first | omega | decide)))) | (with_reducible refine ok_t ?_ ?_; · (first | omega | ((try simp (disch := omega) only [w32_eq, w64_eq, ix_n, ix_e, sto_n, sto_e, sto_r, zf_r, Int.toNat_natCast, true_or, or_true, eq_self]) <;> (first | omega | decide)))) | (with_reducible refine ok_f ?_ ?_; · (first | omega | ((try simp (disch := omega) only [w32_eq, w64_eq, ix_n, ix_e, sto_n, sto_e, sto_r, zf_r, Int.toNat_natCast, true_or, or_true, eq_self]) <;> (first | omega | decide)))) | (with_reducible refine ok_ct ?_ ?_; · (first | omega | ((try simp (disch := omega) only [w32_eq, w64_eq, ix_n, ix_e, sto_n, sto_e, sto_r, zf_r, Int.toNat_natCast, true_or, or_true, eq_self]) <;> (first | omega | decide)))) | (with_reducible refine ok_cf ?_ ?_; · (first | omega | ((try simp (disch := omega) only [w32_eq, w64_eq, ix_n, ix_e, sto_n, sto_e, sto_r, zf_r, Int.toNat_natCast, true_or, or_true, eq_self]) <;> (first | omega | decide)))))
      exact hR M Fr.rfl' rfl
  · rw [if_neg c1] at hR
    repeat (first | with_reducible refine ok_let ?_ | with_reducible refine ok_cs ?_ | with_reducible refine ok_clet ?_ | with_reducible refine ok_cc ?_ | (with_reducible refine ok_chk ?_ ?_; · (first | omega | ((try simp (disch := omega) only [w32_eq, w64_eq, ix_n, ix_e, sto_n, sto_e, sto_r, zf_r, Int.toNat_natCast, true_or, or_true, eq_self, ek]) <;> (first | omega | decide)))) | (with_reducible refine ok_cchk ?_ ?_; · (first | omega | ((try simp (disch := omega) only [w32_eq, w64_eq, ix_n, ix_e, sto_n, sto_e, sto_r, zf_r, Int.toNat_natCast, true_or, or_true, eq_self, ek]) <;> (first | omega | decide)))) | (with_reducible refine ok_t ?_ ?_; · (first | omega | ((try simp (disch := omega) only [w32_eq, w64_eq, ix_n, ix_e, sto_n, sto_e, sto_r, zf_r, Int.toNat_natCast, true_or, or_true, eq_self, ek]) <;> (first | omega | decide)))) | (with_reducible refine ok_f ?_ ?_; · (first | omega | ((try simp (disch := omega) only [w32_eq, w64_eq, ix_n, ix_e, sto_n, sto_e, sto_r, zf_r, Int.toNat_natCast, true_or, or_true, eq_self, ek]) <;> (first | omega | decide)))) | (with_reducible refine ok_ct ?_ ?_; · (first | omega | ((try simp (disch := omega) only [w32_eq, w64_eq, ix_n, ix_e, sto_n, sto_e, sto_r, zf_r, Int.toNat_natCast, true_or, or_true, eq_self, ek]) <;> (first | omega | decide)))) | (with_reducible refine ok_cf ?_ ?_; · (first | omega | ((try simp (disch := omega) only [w32_eq, w64_eq, ix_n, ix_e, sto_n, sto_e, sto_r, zf_r, Int.toNat_natCast, true_or, or_true, eq_self, ek]) <;> (first | omega | decide)))))
    unfold k_Mo_bushel_239
    repeat (first | with_reducible refine ok_let ?_ | with_reducible refine ok_cs ?_ | with_reducible refine ok_clet ?_ | with_reducible refine ok_cc ?_ | (with_reducible refine ok_chk ?_ ?_; · (first | omega | ((try simp (disch := omega) only [w32_eq, w64_eq, ix_n, ix_e, sto_n, sto_e, sto_r, zf_r, Int.toNat_natCast, true_or, or_true, eq_self]) <;> (first | omega | decide)))) | (with_reducible refine ok_cchk ?_ ?_; · (first | omega | ((try simp (disch := omega) only [w32_eq, w64_eq, ix_n, ix_e, sto_n, sto_e, sto_r, zf_r, Int.toNat_natCast, true_or, or_true, eq_self]) <;> (first | omega | decide)))) | (with_reducible refine ok_t ?_ ?_; · (first | omega | ((try simp (disch := omega) only [w32_eq, w64_eq, ix_n, ix_e, sto_n, sto_e, sto_r, zf_r, Int.toNat_natCast, true_or, or_true, eq_self]) <;> (first | omega | decide)))) | (with_reducible refine ok_f ?_ ?_; · (first | omega | ((try simp (disch := omega) only [w32_eq, w64_eq, ix_n, ix_e, sto_n, sto_e, sto_r, zf_r, Int.toNat_natCast, true_or, or_true, eq_self]) <;> (first | omega | decide)))) | (with_reducible refine ok_ct ?_ ?_; · (first | omega | ((try simp (disch := omega) only [w32_eq, w64_eq, ix_n, ix_e, sto_n, sto_e, sto_r, zf_r, Int.toNat_natCast, true_or, or_true, eq_self]) <;> (first | omega | decide)))) | (with_reducible refine ok_cf ?_ ?_; · (first | omega | ((try simp (disch := omega) only [w32_eq, w64_eq, ix_n, ix_e, sto_n, sto_e, sto_r, zf_r, Int.toNat_natCast, true_or, or_true, eq_self]) <;> (first | omega | decide)))))
    exact hR M Fr.rfl' rfl
theorem l_bu69 {m r i : Nat} {B : Mem} {pot : Nat → Int} {P : Int → Mem → Prop} {R60 : Int → Int → Int → Int → Mem → Res} (hmr : m ≤ 5 ∧ r ≤ 4) (hr0 : 0 < r) (hcf : ∀ k, k < m * r → (0 ≤ B 184 k ∧ B 184 k ≤ 100) ∧ (0 ≤ B 185 k ∧ B 185 k ≤ 30)) (hC : Cer m r (B 184) (B 185) (B 182) pot)
    (hR : ∀ M : Mem, WI m r 100000 100000 (B 184) (B 185) (B 182) pot i (m * r) (stR M) → Fr [186, 187] [] B M → Ok (R60 (m : Int) (r : Int) ((m + r : Nat) : Int) ((i : Int) + 1) M) P) :
    ∀ (j fuel k : Nat) (M : Mem), k + j = m * r → j < fuel → WI m r 100000 100000 (B 184) (B 185) (B 182) pot i k (stR M) → Fr [186, 187] [] B M → Ok (fix (fun _ _ _ _ _ _ => none) (k_Mo_bushel_69 R60) fuel (m : Int) (r : Int) ((m + r : Nat) : Int) (i : Int) (k : Int) M) P := by
  have b1 : m * r ≤ 5 * 4 := Nat.mul_le_mul hmr.1 hmr.2
  have em : (m : Int) * (r : Int) = ((m * r : Nat) : Int) := by push_cast; rfl
  intro j; induction j with
  | zero =>
    intro fuel k M e hf h1 h2
    have : k = m * r := by omega
    subst this
    obtain ⟨f, rfl⟩ : ∃ f, fuel = f + 1 := ⟨fuel - 1, by omega⟩; rw [fix_s]; unfold k_Mo_bushel_69
    rw [em]
    repeat (first | with_reducible refine ok_let ?_ | with_reducible refine ok_cs ?_ | with_reducible refine ok_clet ?_ | with_reducible refine ok_cc ?_ | (with_reducible refine ok_chk ?_ ?_; · (first | omega | ((try simp (disch := omega) only [w32_eq, w64_eq, ix_n, ix_e, sto_n, sto_e, sto_r, zf_r, Int.toNat_natCast, true_or, or_true, eq_self]) <;> (first | omega | decide)))) | (with_reducible refine ok_cchk ?_ ?_; · (first | omega | ((try simp (disch := omega) only [w32_eq, w64_eq, ix_n, ix_e, sto_n, sto_e, sto_r, zf_r, Int.toNat_natCast, true_or, or_true, eq_self]) <;> (first | omega | decide)))) | (with_reducible refine ok_t ?_ ?_; · (first | omega | ((try simp (disch := omega) only [w32_eq, w64_eq, ix_n, ix_e, sto_n, sto_e, sto_r, zf_r, Int.toNat_natCast, true_or, or_true, eq_self]) <;> (first | omega | decide)))) | (with_reducible refine ok_f ?_ ?_; · (first | omega | ((try simp (disch := omega) only [w32_eq, w64_eq, ix_n, ix_e, sto_n, sto_e, sto_r, zf_r, Int.toNat_natCast, true_or, or_true, eq_self]) <;> (first | omega | decide)))) | (with_reducible refine ok_ct ?_ ?_; · (first | omega | ((try simp (disch := omega) only [w32_eq, w64_eq, ix_n, ix_e, sto_n, sto_e, sto_r, zf_r, Int.toNat_natCast, true_or, or_true, eq_self]) <;> (first | omega | decide)))) | (with_reducible refine ok_cf ?_ ?_; · (first | omega | ((try simp (disch := omega) only [w32_eq, w64_eq, ix_n, ix_e, sto_n, sto_e, sto_r, zf_r, Int.toNat_natCast, true_or, or_true, eq_self]) <;> (first | omega | decide)))))
    exact hR M h1 h2
  | succ j ih =>
    intro fuel k M e hf h1 h2
    have hj : (k : Int) + 1 = ((k + 1 : Nat) : Int) := by omega
    have hdm : k / r * r + k % r = k := by rw [Nat.mul_comm]; exact Nat.div_add_mod k r
    have hb : k / r < m := Nat.div_lt_of_lt_mul (by rw [Nat.mul_comm]; omega)
    have ho : k % r < r := Nat.mod_lt _ hr0
    have ed := dv_n (k := k) (r := r) (by omega) (by omega)
    have em2 := rm_n (k := k) (r := r) (by omega) (by omega)
    generalize hbb : k / r = b at *
    generalize hoo : k % r = o at *
    clear hbb hoo
    have u184 := h2.c 184 (by decide) (by decide)
    have u185 := h2.c 185 (by decide) (by decide)
    have hcfk := hcf k (by omega)
    have hb1 := wi_bd (by decide) hC h1 (show b < m + r by omega)
    have hb2 := wi_bd (by decide) hC h1 (show m + o < m + r by omega)
    have e1 : (stR M).1 b = M 186 b := rfl
    have e2 : (stR M).1 (m + o) = M 186 (m + o) := rfl
    rw [e1] at hb1
    rw [e2] at hb2
    have emo : (m : Int) + (o : Int) = ((m + o : Nat) : Int) := by omega
    have eb : ix (b : Int) = b := ix_n (by omega)
    have eo : ix ((m + o : Nat) : Int) = m + o := ix_n (by omega)
    have ek : ix (k : Int) = k := ix_n (by omega)
    have stp := wi_step (b := b) (o := o) (fun k hk => (hcf k hk).1) hC hb ho (by rw [hdm]; exact h1)
    rw [hdm] at stp
    unfold wst at stp
    have er : rl 100000 b (m + o) (B 184 k) (stR M) = if M 186 b < 100000 ∧ M 186 b + B 184 k < M 186 (m + o) then (up (M 186) (m + o) (M 186 b + B 184 k), up (M 187) (m + o) (b : Int)) else stR M := rfl
    obtain ⟨f, rfl⟩ : ∃ f, fuel = f + 1 := ⟨fuel - 1, by omega⟩
    have nxt : ∀ X : Mem, Fr [186, 187] [] B X → stR X = rl 100000 b (m + o) (B 184 k) (stR M) → (0 ≤ X 186 (m + o) ∧ X 186 (m + o) ≤ 100000) → X 186 b = M 186 b → Ok (k_Mo_bushel_160 R60 (fix (fun _ _ _ _ _ _ => none) (k_Mo_bushel_69 R60) f) (m : Int) (r : Int) ((m + r : Nat) : Int) (i : Int) (k : Int) (b : Int) ((m + o : Nat) : Int) X) P := by
      intro X hX eX hX2 hX1
      have x184 := hX.c 184 (by decide) (by decide)
      have x185 := hX.c 185 (by decide) (by decide)
      refine s_bu160 hmr hb ho (by omega) (by rw [x184]; exact hcfk.1) (by rw [x185]; exact hcfk.2) (by rw [hX1]; exact hb1) hX2 (fun Y hY eY => ?_)
      rw [hj]
      refine ih f (k + 1) Y (by omega) (by omega) ?_ (hX.trans hY)
      rw [eY, x184, x185, eX]
      exact stp
    rw [fix_s]; unfold k_Mo_bushel_69
    rw [em]
    refine ok_t (by first | omega | ((try simp (disch := omega) only [w32_eq, w64_eq, ix_n, ix_e, sto_n, sto_e, sto_r, zf_r, Int.toNat_natCast, true_or, or_true, eq_self]) <;> (first | omega | decide))) (ok_chk (by first | omega | ((try simp (disch := omega) only [w32_eq, w64_eq, ix_n, ix_e, sto_n, sto_e, sto_r, zf_r, Int.toNat_natCast, true_or, or_true, eq_self]) <;> (first | omega | decide))) (ok_let (ok_chk (by first | omega | ((try simp (disch := omega) only [w32_eq, w64_eq, ix_n, ix_e, sto_n, sto_e, sto_r, zf_r, Int.toNat_natCast, true_or, or_true, eq_self]) <;> (first | omega | decide))) (ok_let ?_))))
    rw [ed, em2, emo]
    refine ok_chk (by first | omega | ((try simp (disch := omega) only [w32_eq, w64_eq, ix_n, ix_e, sto_n, sto_e, sto_r, zf_r, Int.toNat_natCast, true_or, or_true, eq_self]) <;> (first | omega | decide))) (ok_let ?_)
    rw [eb]
    by_cases c1 : M 186 b < 100000
    · refine ok_t (by first | omega | ((try simp (disch := omega) only [w32_eq, w64_eq, ix_n, ix_e, sto_n, sto_e, sto_r, zf_r, Int.toNat_natCast, true_or, or_true, eq_self]) <;> (first | omega | decide))) (ok_chk (by first | omega | ((try simp (disch := omega) only [w32_eq, w64_eq, ix_n, ix_e, sto_n, sto_e, sto_r, zf_r, Int.toNat_natCast, true_or, or_true, eq_self]) <;> (first | omega | decide))) (ok_let (ok_chk (by first | omega | ((try simp (disch := omega) only [w32_eq, w64_eq, ix_n, ix_e, sto_n, sto_e, sto_r, zf_r, Int.toNat_natCast, true_or, or_true, eq_self]) <;> (first | omega | decide))) (ok_let (ok_chk (by first | omega | ((try simp (disch := omega) only [w32_eq, w64_eq, ix_n, ix_e, sto_n, sto_e, sto_r, zf_r, Int.toNat_natCast, true_or, or_true, eq_self]) <;> (first | omega | decide))) (ok_let ?_))))))
      rw [eb, ek, eo, u184]
      by_cases c2 : M 186 b + B 184 k < M 186 (m + o)
      · refine ok_t (by first | omega | ((try simp (disch := omega) only [w32_eq, w64_eq, ix_n, ix_e, sto_n, sto_e, sto_r, zf_r, Int.toNat_natCast, true_or, or_true, eq_self]) <;> (first | omega | decide))) (ok_chk (by first | omega | ((try simp (disch := omega) only [w32_eq, w64_eq, ix_n, ix_e, sto_n, sto_e, sto_r, zf_r, Int.toNat_natCast, true_or, or_true, eq_self]) <;> (first | omega | decide))) (ok_let (ok_chk (by first | omega | ((try simp (disch := omega) only [w32_eq, w64_eq, ix_n, ix_e, sto_n, sto_e, sto_r, zf_r, Int.toNat_natCast, true_or, or_true, eq_self]) <;> (first | omega | decide))) (ok_let (ok_chk (by first | omega | ((try simp (disch := omega) only [w32_eq, w64_eq, ix_n, ix_e, sto_n, sto_e, sto_r, zf_r, Int.toNat_natCast, true_or, or_true, eq_self]) <;> (first | omega | decide))) (ok_let (ok_chk (by first | omega | ((try simp (disch := omega) only [w32_eq, w64_eq, ix_n, ix_e, sto_n, sto_e, sto_r, zf_r, Int.toNat_natCast, true_or, or_true, eq_self]) <;> (first | omega | decide))) (ok_let ?_))))))))
        rw [eb, ek, eo, u184]
        have nbo : b ≠ m + o := by omega
        refine nxt _ (h2.trans (Fr.trans (fr_stoA (by decide)) (fr_stoA (by decide)))) ?_ ?_ ?_
        · rw [er, if_pos ⟨c1, c2⟩, st_up]
        · rw [sto_r (by decide), sto_e]; omega
        · rw [sto_r (by decide), sto_n nbo]
      · refine ok_f (by first | omega | ((try simp (disch := omega) only [w32_eq, w64_eq, ix_n, ix_e, sto_n, sto_e, sto_r, zf_r, Int.toNat_natCast, true_or, or_true, eq_self]) <;> (first | omega | decide))) (nxt M h2 ?_ hb2 rfl)
        rw [er, if_neg (fun q => c2 q.2)]
    · refine ok_f (by first | omega | ((try simp (disch := omega) only [w32_eq, w64_eq, ix_n, ix_e, sto_n, sto_e, sto_r, zf_r, Int.toNat_natCast, true_or, or_true, eq_self]) <;> (first | omega | decide))) (nxt M h2 ?_ hb2 rfl)
      rw [er, if_neg (fun q => c1 q.1)]
def BuP (m r : Nat) (hv wn : Nat → Int) (B : Mem) (v : Int) (M' : Mem) : Prop := FI m r hv wn (M' 185) (M' 182) (M' 183) ∧ (∃ pot, Cer m r (B 184) (M' 185) (M' 182) pot) ∧ csS m r (B 184) (M' 185) = csS m r (B 184) (B 185) + v ∧ sm (M' 183) r = sm (B 183) r - 1
theorem l_bu326 {m r : Nat} {B : Mem} {ta : Nat → Nat} {hv wn : Nat → Int} {t : Nat} {T : Int} (hmr : m ≤ 5 ∧ r ≤ 4) (ht : t < r) (hc : ∀ k, k < m * r → 0 ≤ B 184 k ∧ B 184 k ≤ 100) (hF : Fnd m r (B 184) (B 185) (B 182) (B 186) (B 187) ta) :
    ∀ (j fuel o : Nat) (M : Mem), 2 * j + 2 ≤ fuel → o < r → (∀ x : Nat, x < m → B 187 (m + o) = (x : Int) → rkS m ta x < j) → Fr [182, 183, 185] [] B M → AI m r (B 184) hv wn (B 185) (B 182) (B 186) ta 1 T o (M 185) (M 182) (M 183) →
    Ok (fix (fun _ _ _ _ _ => none) k_Mo_bushel_326 fuel (m : Int) (r : Int) (t : Int) ((m + o : Nat) : Int) M) (fun v M' => FI m r hv wn (M' 185) (M' 182) (M' 183) ∧ (∃ pot, Cer m r (B 184) (M' 185) (M' 182) pot) ∧ csS m r (B 184) (M' 185) = T ∧ M' 183 = M 183 ∧ v = B 186 (m + t)) := by
  intro j; induction j with
  | zero =>
    intro fuel o M hf' ho hr hFr hA
    obtain ⟨x, hx, v1, -⟩ := way_b hF ho
    have := hr x hx v1
    have := rk_b (ta := ta) hx
    omega
  | succ j ih =>
    intro fuel o M hf' ho hr hFr hA
    have eo : ix ((m + o : Nat) : Int) = m + o := ix_n (by omega)
    obtain ⟨f, rfl⟩ : ∃ f, fuel = f + 1 + 1 := ⟨fuel - 2, by omega⟩
    obtain ⟨x, hx, v1, t1, d1, dx, rest⟩ := way_b hF ho
    have hrx := hr x hx v1
    have ex : ix (x : Int) = x := ix_n (by omega)
    have u187 := hFr.c 187 (by decide) (by decide)
    have ek : (r : Int) * (x : Int) + ((m + o : Nat) : Int) - (m : Int) = ((x * r + o : Nat) : Int) := by rw [Int.mul_comm]; push_cast; omega
    have hk := way_20 hmr.1 hmr.2 hx ho
    have eko : ix ((x * r + o : Nat) : Int) = x * r + o := ix_n (by omega)
    rw [fix_s]; unfold k_Mo_bushel_326
    refine ok_chk (by first | omega | ((try simp (disch := omega) only [w32_eq, w64_eq, ix_n, ix_e, sto_n, sto_e, sto_r, zf_r, Int.toNat_natCast, true_or, or_true, eq_self]) <;> (first | omega | decide))) (ok_let ?_)
    rw [eo, u187, v1]
    refine ok_f (by first | omega | ((try simp (disch := omega) only [w32_eq, w64_eq, ix_n, ix_e, sto_n, sto_e, sto_r, zf_r, Int.toNat_natCast, true_or, or_true, eq_self]) <;> (first | omega | decide))) (ok_chk (by first | omega | ((try simp (disch := omega) only [w32_eq, w64_eq, ix_n, ix_e, sto_n, sto_e, sto_r, zf_r, Int.toNat_natCast, true_or, or_true, eq_self]) <;> (first | omega | decide))) (ok_let (ok_f (by first | omega | ((try simp (disch := omega) only [w32_eq, w64_eq, ix_n, ix_e, sto_n, sto_e, sto_r, zf_r, Int.toNat_natCast, true_or, or_true, eq_self]) <;> (first | omega | decide))) ?_)))
    rw [ek, eko]
    refine ok_chk (by first | omega | ((try simp (disch := omega) only [w32_eq, w64_eq, ix_n, ix_e, sto_n, sto_e, sto_r, zf_r, Int.toNat_natCast, true_or, or_true, eq_self]) <;> (first | omega | decide))) (ok_let (ok_chk (by first | omega | ((try simp (disch := omega) only [w32_eq, w64_eq, ix_n, ix_e, sto_n, sto_e, sto_r, zf_r, Int.toNat_natCast, true_or, or_true, eq_self]) <;> (first | omega | decide))) (ok_let ?_)))
    unfold k_Mo_bushel_391
    rw [fix_s]
    refine ok_chk (by first | omega | ((try simp (disch := omega) only [w32_eq, w64_eq, ix_n, ix_e, sto_n, sto_e, sto_r, zf_r, Int.toNat_natCast, true_or, or_true, eq_self]) <;> (first | omega | decide))) (ok_let ?_)
    rw [ex, sto_r (show 187 ≠ 185 by decide), u187]
    rcases rest with ⟨v2, l2⟩ | ⟨p, hp, hpo, v2, t2, d2, f2⟩
    · rw [v2]
      have emt : (m : Int) + (t : Int) = ((m + t : Nat) : Int) := by omega
      have emt' : ix ((m + t : Nat) : Int) = m + t := ix_n (by omega)
      refine ok_t (by decide) (ok_chk (by first | omega | ((try simp (disch := omega) only [w32_eq, w64_eq, ix_n, ix_e, sto_n, sto_e, sto_r, zf_r, Int.toNat_natCast, true_or, or_true, eq_self]) <;> (first | omega | decide))) (ok_let (ok_chk (by first | omega | ((try simp (disch := omega) only [w32_eq, w64_eq, ix_n, ix_e, sto_n, sto_e, sto_r, zf_r, Int.toNat_natCast, true_or, or_true, eq_self]) <;> (first | omega | decide))) (ok_let ?_))))
      rw [emt, emt']
      refine ok_chk (by first | omega | ((try simp (disch := omega) only [w32_eq, w64_eq, ix_n, ix_e, sto_n, sto_e, sto_r, zf_r, Int.toNat_natCast, true_or, or_true, eq_self]) <;> (first | omega | decide))) (ok_let (ok_ret ?_))
      obtain ⟨a1, a2, a3⟩ := ai_end hc hF (by decide) ho hx t1 d1 dx l2 (by omega) hA
      rw [ex]
      simp (disch := decide) only [sto_r, sto_up]
      exact ⟨a1, a2, a3, rfl, by rw [hFr.c 186 (by decide) (by decide)]⟩
    · have ep : (r : Int) * (x : Int) + ((m + p : Nat) : Int) - (m : Int) = ((x * r + p : Nat) : Int) := by rw [Int.mul_comm]; push_cast; omega
      have hkp := way_20 hmr.1 hmr.2 hx hp
      have ekp : ix ((x * r + p : Nat) : Int) = x * r + p := ix_n (by omega)
      have npo : x * r + p ≠ x * r + o := by omega
      rw [v2]
      refine ok_f (by first | omega | ((try simp (disch := omega) only [w32_eq, w64_eq, ix_n, ix_e, sto_n, sto_e, sto_r, zf_r, Int.toNat_natCast, true_or, or_true, eq_self]) <;> (first | omega | decide))) (ok_chk (by first | omega | ((try simp (disch := omega) only [w32_eq, w64_eq, ix_n, ix_e, sto_n, sto_e, sto_r, zf_r, Int.toNat_natCast, true_or, or_true, eq_self]) <;> (first | omega | decide))) (ok_let (ok_t (by first | omega | ((try simp (disch := omega) only [w32_eq, w64_eq, ix_n, ix_e, sto_n, sto_e, sto_r, zf_r, Int.toNat_natCast, true_or, or_true, eq_self]) <;> (first | omega | decide))) ?_)))
      rw [ep, ekp]
      refine ok_chk (by first | omega | ((try simp (disch := omega) only [w32_eq, w64_eq, ix_n, ix_e, sto_n, sto_e, sto_r, zf_r, Int.toNat_natCast, true_or, or_true, eq_self]) <;> (first | omega | decide))) (ok_let (ok_chk (by first | omega | ((try simp (disch := omega) only [w32_eq, w64_eq, ix_n, ix_e, sto_n, sto_e, sto_r, zf_r, Int.toNat_natCast, true_or, or_true, eq_self]) <;> (first | omega | decide))) (ok_let ?_)))
      unfold k_Mo_bushel_391
      have w1 : sto M 185 (x * r + o) (M 185 (x * r + o) + 1) 185 (x * r + p) = M 185 (x * r + p) := sto_n npo
      rw [w1]
      have q185 : sto (sto M 185 (x * r + o) (M 185 (x * r + o) + 1)) 185 (x * r + p) (M 185 (x * r + p) - 1) 185 = up (up (M 185) (x * r + o) (M 185 (x * r + o) + 1)) (x * r + p) (M 185 (x * r + p) - 1) := by rw [sto_up, sto_up]
      have nx := ih f p (sto (sto M 185 (x * r + o) (M 185 (x * r + o) + 1)) 185 (x * r + p) (M 185 (x * r + p) - 1)) (by omega) hp (fun y hy q => ?_) (hFr.trans (Fr.trans (fr_stoA (by decide)) (fr_stoA (by decide)))) ?_
      · refine ok_mono nx (fun _ M' h => ⟨h.1, h.2.1, h.2.2.1, ?_, h.2.2.2.2⟩)
        rw [h.2.2.2.1, sto_r (by decide), sto_r (by decide)]
      · obtain ⟨y', hy', w', t', -⟩ := way_b hF hp
        have : y' = y := by rw [w'] at q; omega
        subst this
        have := rk_lt (m := m) (ta := ta) hy' (show ta y' < ta x by omega)
        omega
      · rw [q185, sto_r (show 182 ≠ 185 by decide), sto_r (show 182 ≠ 185 by decide), sto_r (show 183 ≠ 185 by decide), sto_r (show 183 ≠ 185 by decide)]
        exact ai_mid (by decide) ho hx hp hpo t1 t2 d1 dx d2 (by omega) hA
theorem l_bu257 {m r : Nat} {M : Mem} {ta : Nat → Nat} {hv wn : Nat → Int} (hmr : m ≤ 5 ∧ r ≤ 4) (hc : ∀ k, k < m * r → 0 ≤ M 184 k ∧ M 184 k ≤ 100) (hI : FI m r hv wn (M 185) (M 182) (M 183)) (hw : ∀ o, o < r → 0 ≤ M 183 o ∧ M 183 o ≤ 30) (hex : ∃ o, o < r ∧ 0 < M 183 o) (hF : Fnd m r (M 184) (M 185) (M 182) (M 186) (M 187) ta) :
    ∀ (j fuel i : Nat) (a : Int), i + j = r → j < fuel → ((a = -1 ∧ ∀ o, o < i → M 183 o = 0) ∨ ∃ o : Nat, a = (o : Int) ∧ o < i ∧ 0 < M 183 o) → Ok (fix (fun _ _ _ _ _ => none) k_Mo_bushel_257 fuel (m : Int) (r : Int) a (i : Int) M) (fun v M' => BuP m r hv wn M v M') := by
  intro j; induction j with
  | zero =>
    intro fuel i a e hf hA
    have : i = r := by omega
    subst this
    rcases hA with ⟨-, h2⟩ | ⟨o, rfl, h2, h3⟩
    · obtain ⟨o, ho, h⟩ := hex
      have := h2 o ho; omega
    · have eo : ix (o : Int) = o := ix_n (by omega)
      have emo : (m : Int) + (o : Int) = ((m + o : Nat) : Int) := by omega
      obtain ⟨f, rfl⟩ : ∃ f, fuel = f + 1 := ⟨fuel - 1, by omega⟩; rw [fix_s]; unfold k_Mo_bushel_257
      refine ok_f (by first | omega | ((try simp (disch := omega) only [w32_eq, w64_eq, ix_n, ix_e, sto_n, sto_e, sto_r, zf_r, Int.toNat_natCast, true_or, or_true, eq_self]) <;> (first | omega | decide))) (ok_chk (by first | omega | ((try simp (disch := omega) only [w32_eq, w64_eq, ix_n, ix_e, sto_n, sto_e, sto_r, zf_r, Int.toNat_natCast, true_or, or_true, eq_self]) <;> (first | omega | decide))) (ok_let (ok_chk (by first | omega | ((try simp (disch := omega) only [w32_eq, w64_eq, ix_n, ix_e, sto_n, sto_e, sto_r, zf_r, Int.toNat_natCast, true_or, or_true, eq_self]) <;> (first | omega | decide))) (ok_let (ok_let ?_)))))
      rw [eo, emo]
      have s : ∀ c, c ≠ 183 → sto M 183 o (M 183 o - 1) c = M c := fun c h => sto_r h
      have q := l_bu326 (B := sto M 183 o (M 183 o - 1)) (ta := ta) (hv := hv) (wn := wn) (t := o) (T := csS m i (M 184) (M 185) + 1 * M 186 (m + o)) hmr h2 (by rw [s 184 (by decide)]; exact hc) (by rw [s 184 (by decide), s 185 (by decide), s 182 (by decide), s 186 (by decide), s 187 (by decide)]; exact hF) 6 FU o (sto M 183 o (M 183 o - 1)) (by unfold FU; omega) h2 (fun x hx _ => by have := rk_b (ta := ta) hx; omega) Fr.rfl' (by
        rw [s 184 (by decide), s 185 (by decide), s 182 (by decide), s 186 (by decide), sto_up]
        exact ai_0 hF hI h2 (by omega))
      refine ok_mono q (fun v M' h => ⟨h.1, ?_, ?_, ?_⟩)
      · rw [← s 184 (by decide)]; exact h.2.1
      · have h3 := h.2.2.1
        rw [s 184 (by decide)] at h3
        rw [h3, h.2.2.2.2, s 186 (by decide), Int.one_mul]
      · rw [h.2.2.2.1, sto_up, sm_up i h2]; omega
  | succ j ih =>
    intro fuel i a e hf hA
    have hj : (i : Int) + 1 = ((i + 1 : Nat) : Int) := by omega
    have ei : ix (i : Int) = i := ix_n (by omega)
    have hwi := hw i (by omega)
    obtain ⟨f, rfl⟩ : ∃ f, fuel = f + 1 := ⟨fuel - 1, by omega⟩
    rw [fix_s]; unfold k_Mo_bushel_257 k_Mo_bushel_299 k_Mo_bushel_303
    by_cases c : 0 < M 183 i
    · have tk := ih f (i + 1) (i : Int) (by omega) (by omega) (Or.inr ⟨i, rfl, by omega, c⟩)
      rcases hA with ⟨h1, h2⟩ | ⟨o, h1, h2, h3⟩
      · rw [h1]
        repeat (first | with_reducible refine ok_let ?_ | with_reducible refine ok_cs ?_ | with_reducible refine ok_clet ?_ | with_reducible refine ok_cc ?_ | (with_reducible refine ok_chk ?_ ?_; · (first | omega | ((try simp (disch := omega) only [w32_eq, w64_eq, ix_n, ix_e, sto_n, sto_e, sto_r, zf_r, Int.toNat_natCast, true_or, or_true, eq_self, ei]) <;> (first | omega | decide)))) | (with_reducible refine ok_cchk ?_ ?_; · (first | omega | ((try simp (disch := omega) only [w32_eq, w64_eq, ix_n, ix_e, sto_n, sto_e, sto_r, zf_r, Int.toNat_natCast, true_or, or_true, eq_self, ei]) <;> (first | omega | decide)))) | (with_reducible refine ok_t ?_ ?_; · (first | omega | ((try simp (disch := omega) only [w32_eq, w64_eq, ix_n, ix_e, sto_n, sto_e, sto_r, zf_r, Int.toNat_natCast, true_or, or_true, eq_self, ei]) <;> (first | omega | decide)))) | (with_reducible refine ok_f ?_ ?_; · (first | omega | ((try simp (disch := omega) only [w32_eq, w64_eq, ix_n, ix_e, sto_n, sto_e, sto_r, zf_r, Int.toNat_natCast, true_or, or_true, eq_self, ei]) <;> (first | omega | decide)))) | (with_reducible refine ok_ct ?_ ?_; · (first | omega | ((try simp (disch := omega) only [w32_eq, w64_eq, ix_n, ix_e, sto_n, sto_e, sto_r, zf_r, Int.toNat_natCast, true_or, or_true, eq_self, ei]) <;> (first | omega | decide)))) | (with_reducible refine ok_cf ?_ ?_; · (first | omega | ((try simp (disch := omega) only [w32_eq, w64_eq, ix_n, ix_e, sto_n, sto_e, sto_r, zf_r, Int.toNat_natCast, true_or, or_true, eq_self, ei]) <;> (first | omega | decide)))))
        rw [hj]; exact tk
      · have kp := ih f (i + 1) (o : Int) (by omega) (by omega) (Or.inr ⟨o, rfl, by omega, h3⟩)
        have g1 := hF.1 (m + i) (by omega)
        have g2 := hF.2.2.1 i (by omega)
        have g3 := hF.1 (m + o) (by omega)
        have g4 := hF.2.2.1 o (by omega)
        have emi : (m : Int) + (i : Int) = ((m + i : Nat) : Int) := by omega
        have emo : (m : Int) + (o : Int) = ((m + o : Nat) : Int) := by omega
        have emi' : ix ((m + i : Nat) : Int) = m + i := ix_n (by omega)
        have emo' : ix ((m + o : Nat) : Int) = m + o := ix_n (by omega)
        rw [h1, emi, emo]
        by_cases c2 : M 186 (m + i) < M 186 (m + o)
        · repeat (first | with_reducible refine ok_let ?_ | with_reducible refine ok_cs ?_ | with_reducible refine ok_clet ?_ | with_reducible refine ok_cc ?_ | (with_reducible refine ok_chk ?_ ?_; · (first | omega | ((try simp (disch := omega) only [w32_eq, w64_eq, ix_n, ix_e, sto_n, sto_e, sto_r, zf_r, Int.toNat_natCast, true_or, or_true, eq_self, ei, emi', emo']) <;> (first | omega | decide)))) | (with_reducible refine ok_cchk ?_ ?_; · (first | omega | ((try simp (disch := omega) only [w32_eq, w64_eq, ix_n, ix_e, sto_n, sto_e, sto_r, zf_r, Int.toNat_natCast, true_or, or_true, eq_self, ei, emi', emo']) <;> (first | omega | decide)))) | (with_reducible refine ok_t ?_ ?_; · (first | omega | ((try simp (disch := omega) only [w32_eq, w64_eq, ix_n, ix_e, sto_n, sto_e, sto_r, zf_r, Int.toNat_natCast, true_or, or_true, eq_self, ei, emi', emo']) <;> (first | omega | decide)))) | (with_reducible refine ok_f ?_ ?_; · (first | omega | ((try simp (disch := omega) only [w32_eq, w64_eq, ix_n, ix_e, sto_n, sto_e, sto_r, zf_r, Int.toNat_natCast, true_or, or_true, eq_self, ei, emi', emo']) <;> (first | omega | decide)))) | (with_reducible refine ok_ct ?_ ?_; · (first | omega | ((try simp (disch := omega) only [w32_eq, w64_eq, ix_n, ix_e, sto_n, sto_e, sto_r, zf_r, Int.toNat_natCast, true_or, or_true, eq_self, ei, emi', emo']) <;> (first | omega | decide)))) | (with_reducible refine ok_cf ?_ ?_; · (first | omega | ((try simp (disch := omega) only [w32_eq, w64_eq, ix_n, ix_e, sto_n, sto_e, sto_r, zf_r, Int.toNat_natCast, true_or, or_true, eq_self, ei, emi', emo']) <;> (first | omega | decide)))))
          rw [hj]; exact tk
        · repeat (first | with_reducible refine ok_let ?_ | with_reducible refine ok_cs ?_ | with_reducible refine ok_clet ?_ | with_reducible refine ok_cc ?_ | (with_reducible refine ok_chk ?_ ?_; · (first | omega | ((try simp (disch := omega) only [w32_eq, w64_eq, ix_n, ix_e, sto_n, sto_e, sto_r, zf_r, Int.toNat_natCast, true_or, or_true, eq_self, ei, emi', emo']) <;> (first | omega | decide)))) | (with_reducible refine ok_cchk ?_ ?_; · (first | omega | ((try simp (disch := omega) only [w32_eq, w64_eq, ix_n, ix_e, sto_n, sto_e, sto_r, zf_r, Int.toNat_natCast, true_or, or_true, eq_self, ei, emi', emo']) <;> (first | omega | decide)))) | (with_reducible refine ok_t ?_ ?_; · (first | omega | ((try simp (disch := omega) only [w32_eq, w64_eq, ix_n, ix_e, sto_n, sto_e, sto_r, zf_r, Int.toNat_natCast, true_or, or_true, eq_self, ei, emi', emo']) <;> (first | omega | decide)))) | (with_reducible refine ok_f ?_ ?_; · (first | omega | ((try simp (disch := omega) only [w32_eq, w64_eq, ix_n, ix_e, sto_n, sto_e, sto_r, zf_r, Int.toNat_natCast, true_or, or_true, eq_self, ei, emi', emo']) <;> (first | omega | decide)))) | (with_reducible refine ok_ct ?_ ?_; · (first | omega | ((try simp (disch := omega) only [w32_eq, w64_eq, ix_n, ix_e, sto_n, sto_e, sto_r, zf_r, Int.toNat_natCast, true_or, or_true, eq_self, ei, emi', emo']) <;> (first | omega | decide)))) | (with_reducible refine ok_cf ?_ ?_; · (first | omega | ((try simp (disch := omega) only [w32_eq, w64_eq, ix_n, ix_e, sto_n, sto_e, sto_r, zf_r, Int.toNat_natCast, true_or, or_true, eq_self, ei, emi', emo']) <;> (first | omega | decide)))))
          rw [hj]; exact kp
    · repeat (first | with_reducible refine ok_let ?_ | with_reducible refine ok_cs ?_ | with_reducible refine ok_clet ?_ | with_reducible refine ok_cc ?_ | (with_reducible refine ok_chk ?_ ?_; · (first | omega | ((try simp (disch := omega) only [w32_eq, w64_eq, ix_n, ix_e, sto_n, sto_e, sto_r, zf_r, Int.toNat_natCast, true_or, or_true, eq_self, ei]) <;> (first | omega | decide)))) | (with_reducible refine ok_cchk ?_ ?_; · (first | omega | ((try simp (disch := omega) only [w32_eq, w64_eq, ix_n, ix_e, sto_n, sto_e, sto_r, zf_r, Int.toNat_natCast, true_or, or_true, eq_self, ei]) <;> (first | omega | decide)))) | (with_reducible refine ok_t ?_ ?_; · (first | omega | ((try simp (disch := omega) only [w32_eq, w64_eq, ix_n, ix_e, sto_n, sto_e, sto_r, zf_r, Int.toNat_natCast, true_or, or_true, eq_self, ei]) <;> (first | omega | decide)))) | (with_reducible refine ok_f ?_ ?_; · (first | omega | ((try simp (disch := omega) only [w32_eq, w64_eq, ix_n, ix_e, sto_n, sto_e, sto_r, zf_r, Int.toNat_natCast, true_or, or_true, eq_self, ei]) <;> (first | omega | decide)))) | (with_reducible refine ok_ct ?_ ?_; · (first | omega | ((try simp (disch := omega) only [w32_eq, w64_eq, ix_n, ix_e, sto_n, sto_e, sto_r, zf_r, Int.toNat_natCast, true_or, or_true, eq_self, ei]) <;> (first | omega | decide)))) | (with_reducible refine ok_cf ?_ ?_; · (first | omega | ((try simp (disch := omega) only [w32_eq, w64_eq, ix_n, ix_e, sto_n, sto_e, sto_r, zf_r, Int.toNat_natCast, true_or, or_true, eq_self, ei]) <;> (first | omega | decide)))))
      rw [hj]
      refine ih f (i + 1) a (by omega) (by omega) ?_
      rcases hA with ⟨h1, h2⟩ | ⟨o, h1, h2, h3⟩
      · refine Or.inl ⟨h1, fun o ho => ?_⟩
        by_cases d : o = i
        · rw [d]; omega
        · exact h2 o (by omega)
      · exact Or.inr ⟨o, h1, by omega, h3⟩
theorem l_bu60 {m r : Nat} {B : Mem} {pot : Nat → Int} {P : Int → Mem → Prop} (hmr : m ≤ 5 ∧ r ≤ 4) (hr0 : 0 < r) (hcf : ∀ k, k < m * r → (0 ≤ B 184 k ∧ B 184 k ≤ 100) ∧ (0 ≤ B 185 k ∧ B 185 k ≤ 30)) (hC : Cer m r (B 184) (B 185) (B 182) pot)
    (hP : ∀ M : Mem, BI (m + r) 100000 100000 (Ed m r (B 184) (B 185)) pot (ini m 100000 (B 182)) (2 * ((m + r) * (m * r))) (stR M) → Cl 100000 (Ed m r (B 184) (B 185)) (M 186) → Fr [186, 187] [] B M → Ok (fix (fun _ _ _ _ _ => none) k_Mo_bushel_257 FU (m : Int) (r : Int) (-1) 0 M) P) :
    ∀ (j fuel i : Nat) (M : Mem), i + j = m + r → j < fuel → WS m r 100000 100000 (B 184) (B 185) (B 182) pot i (stR M) → Fr [186, 187] [] B M → Ok (fix (fun _ _ _ _ _ => none) k_Mo_bushel_60 fuel (m : Int) (r : Int) ((m + r : Nat) : Int) (i : Int) M) P := by
  have hE := edh (fun k hk => (hcf k hk).1) hC
  have b1 : m * r ≤ 5 * 4 := Nat.mul_le_mul hmr.1 hmr.2
  intro j; induction j with
  | zero =>
    intro fuel i M e hf h1 h2
    have : i = m + r := by omega
    subst this
    obtain ⟨f, rfl⟩ : ∃ f, fuel = f + 1 := ⟨fuel - 1, by omega⟩; rw [fix_s]; unfold k_Mo_bushel_60
    repeat (first | with_reducible refine ok_let ?_ | with_reducible refine ok_cs ?_ | with_reducible refine ok_clet ?_ | with_reducible refine ok_cc ?_ | (with_reducible refine ok_chk ?_ ?_; · (first | omega | ((try simp (disch := omega) only [w32_eq, w64_eq, ix_n, ix_e, sto_n, sto_e, sto_r, zf_r, Int.toNat_natCast, true_or, or_true, eq_self]) <;> (first | omega | decide)))) | (with_reducible refine ok_cchk ?_ ?_; · (first | omega | ((try simp (disch := omega) only [w32_eq, w64_eq, ix_n, ix_e, sto_n, sto_e, sto_r, zf_r, Int.toNat_natCast, true_or, or_true, eq_self]) <;> (first | omega | decide)))) | (with_reducible refine ok_t ?_ ?_; · (first | omega | ((try simp (disch := omega) only [w32_eq, w64_eq, ix_n, ix_e, sto_n, sto_e, sto_r, zf_r, Int.toNat_natCast, true_or, or_true, eq_self]) <;> (first | omega | decide)))) | (with_reducible refine ok_f ?_ ?_; · (first | omega | ((try simp (disch := omega) only [w32_eq, w64_eq, ix_n, ix_e, sto_n, sto_e, sto_r, zf_r, Int.toNat_natCast, true_or, or_true, eq_self]) <;> (first | omega | decide)))) | (with_reducible refine ok_ct ?_ ?_; · (first | omega | ((try simp (disch := omega) only [w32_eq, w64_eq, ix_n, ix_e, sto_n, sto_e, sto_r, zf_r, Int.toNat_natCast, true_or, or_true, eq_self]) <;> (first | omega | decide)))) | (with_reducible refine ok_cf ?_ ?_; · (first | omega | ((try simp (disch := omega) only [w32_eq, w64_eq, ix_n, ix_e, sto_n, sto_e, sto_r, zf_r, Int.toNat_natCast, true_or, or_true, eq_self]) <;> (first | omega | decide)))))
    exact hP M h1.1 (ps_cl hE h1.2) h2
  | succ j ih =>
    intro fuel i M e hf h1 h2
    have hj : (i : Int) + 1 = ((i + 1 : Nat) : Int) := by omega
    obtain ⟨f, rfl⟩ : ∃ f, fuel = f + 1 := ⟨fuel - 1, by omega⟩; rw [fix_s]; unfold k_Mo_bushel_60
    repeat (first | with_reducible refine ok_let ?_ | with_reducible refine ok_cs ?_ | with_reducible refine ok_clet ?_ | with_reducible refine ok_cc ?_ | (with_reducible refine ok_chk ?_ ?_; · (first | omega | ((try simp (disch := omega) only [w32_eq, w64_eq, ix_n, ix_e, sto_n, sto_e, sto_r, zf_r, Int.toNat_natCast, true_or, or_true, eq_self]) <;> (first | omega | decide)))) | (with_reducible refine ok_cchk ?_ ?_; · (first | omega | ((try simp (disch := omega) only [w32_eq, w64_eq, ix_n, ix_e, sto_n, sto_e, sto_r, zf_r, Int.toNat_natCast, true_or, or_true, eq_self]) <;> (first | omega | decide)))) | (with_reducible refine ok_t ?_ ?_; · (first | omega | ((try simp (disch := omega) only [w32_eq, w64_eq, ix_n, ix_e, sto_n, sto_e, sto_r, zf_r, Int.toNat_natCast, true_or, or_true, eq_self]) <;> (first | omega | decide)))) | (with_reducible refine ok_f ?_ ?_; · (first | omega | ((try simp (disch := omega) only [w32_eq, w64_eq, ix_n, ix_e, sto_n, sto_e, sto_r, zf_r, Int.toNat_natCast, true_or, or_true, eq_self]) <;> (first | omega | decide)))) | (with_reducible refine ok_ct ?_ ?_; · (first | omega | ((try simp (disch := omega) only [w32_eq, w64_eq, ix_n, ix_e, sto_n, sto_e, sto_r, zf_r, Int.toNat_natCast, true_or, or_true, eq_self]) <;> (first | omega | decide)))) | (with_reducible refine ok_cf ?_ ?_; · (first | omega | ((try simp (disch := omega) only [w32_eq, w64_eq, ix_n, ix_e, sto_n, sto_e, sto_r, zf_r, Int.toNat_natCast, true_or, or_true, eq_self]) <;> (first | omega | decide)))))
    refine l_bu69 hmr hr0 hcf hC (fun M' g1 g2 => ?_) (m * r) FU 0 M (by omega) (by unfold FU; omega) (ws_wi hmr (by omega) (fun k hk => (hcf k hk).1) hC (by decide) (Or.inl rfl) h1) h2
    rw [hj]
    exact ih f (i + 1) M' (by omega) (by omega) (wi_ws g1) g2
theorem l_bu7 {m r : Nat} {B : Mem} {P : Int → Mem → Prop} (hmr : m ≤ 5 ∧ r ≤ 4) (hl : ∀ b, b < m → 0 ≤ B 182 b ∧ B 182 b ≤ 30)
    (hP : ∀ M : Mem, Fr [186, 187] [] B M → (∀ x, x < m + r → M 186 x = ini m 100000 (B 182) x ∧ M 187 x = -1) → Ok (fix (fun _ _ _ _ _ => none) k_Mo_bushel_60 FU (m : Int) (r : Int) ((m + r : Nat) : Int) 0 M) P) :
    ∀ (j fuel v : Nat) (M : Mem), v + j = m + r → j < fuel → Fr [186, 187] [] B M → (∀ x, x < v → M 186 x = ini m 100000 (B 182) x ∧ M 187 x = -1) → Ok (fix (fun _ _ _ _ _ => none) k_Mo_bushel_7 fuel (m : Int) (r : Int) ((m + r : Nat) : Int) (v : Int) M) P := by
  intro j; induction j with
  | zero =>
    intro fuel v M e hf h1 h2
    have : v = m + r := by omega
    subst this
    obtain ⟨f, rfl⟩ : ∃ f, fuel = f + 1 := ⟨fuel - 1, by omega⟩; rw [fix_s]; unfold k_Mo_bushel_7
    repeat (first | with_reducible refine ok_let ?_ | with_reducible refine ok_cs ?_ | with_reducible refine ok_clet ?_ | with_reducible refine ok_cc ?_ | (with_reducible refine ok_chk ?_ ?_; · (first | omega | ((try simp (disch := omega) only [w32_eq, w64_eq, ix_n, ix_e, sto_n, sto_e, sto_r, zf_r, Int.toNat_natCast, true_or, or_true, eq_self]) <;> (first | omega | decide)))) | (with_reducible refine ok_cchk ?_ ?_; · (first | omega | ((try simp (disch := omega) only [w32_eq, w64_eq, ix_n, ix_e, sto_n, sto_e, sto_r, zf_r, Int.toNat_natCast, true_or, or_true, eq_self]) <;> (first | omega | decide)))) | (with_reducible refine ok_t ?_ ?_; · (first | omega | ((try simp (disch := omega) only [w32_eq, w64_eq, ix_n, ix_e, sto_n, sto_e, sto_r, zf_r, Int.toNat_natCast, true_or, or_true, eq_self]) <;> (first | omega | decide)))) | (with_reducible refine ok_f ?_ ?_; · (first | omega | ((try simp (disch := omega) only [w32_eq, w64_eq, ix_n, ix_e, sto_n, sto_e, sto_r, zf_r, Int.toNat_natCast, true_or, or_true, eq_self]) <;> (first | omega | decide)))) | (with_reducible refine ok_ct ?_ ?_; · (first | omega | ((try simp (disch := omega) only [w32_eq, w64_eq, ix_n, ix_e, sto_n, sto_e, sto_r, zf_r, Int.toNat_natCast, true_or, or_true, eq_self]) <;> (first | omega | decide)))) | (with_reducible refine ok_cf ?_ ?_; · (first | omega | ((try simp (disch := omega) only [w32_eq, w64_eq, ix_n, ix_e, sto_n, sto_e, sto_r, zf_r, Int.toNat_natCast, true_or, or_true, eq_self]) <;> (first | omega | decide)))))
    exact hP M h1 h2
  | succ j ih =>
    intro fuel v M e hf h1 h2
    have hj : (v : Int) + 1 = ((v + 1 : Nat) : Int) := by omega
    have ev : ix (v : Int) = v := ix_n (by omega)
    have u182 := h1.c 182 (by decide) (by decide)
    obtain ⟨f, rfl⟩ : ∃ f, fuel = f + 1 := ⟨fuel - 1, by omega⟩
    have nxt : ∀ w : Int, w = ini m 100000 (B 182) v → Ok (fix (fun _ _ _ _ _ => none) k_Mo_bushel_7 f (m : Int) (r : Int) ((m + r : Nat) : Int) ((v : Int) + 1) (sto (sto M 186 v w) 187 v (-1))) P := by
      intro w hw
      rw [hj]
      refine ih f (v + 1) _ (by omega) (by omega) (h1.trans (Fr.trans (fr_stoA (by decide)) (fr_stoA (by decide)))) (fun x hx => ?_)
      simp (disch := decide) only [sto_r, sto_up]
      unfold up
      by_cases c : x = v
      · rw [if_pos c, if_pos c, c]; exact ⟨hw, rfl⟩
      · rw [if_neg c, if_neg c]; exact h2 x (by omega)
    rw [fix_s]; unfold k_Mo_bushel_7
    by_cases c1 : v < m
    · have hlv := hl v c1
      by_cases c2 : 0 < B 182 v
      · repeat (first | with_reducible refine ok_let ?_ | with_reducible refine ok_cs ?_ | with_reducible refine ok_clet ?_ | with_reducible refine ok_cc ?_ | (with_reducible refine ok_chk ?_ ?_; · (first | omega | ((try simp (disch := omega) only [w32_eq, w64_eq, ix_n, ix_e, sto_n, sto_e, sto_r, zf_r, Int.toNat_natCast, true_or, or_true, eq_self, u182, ev]) <;> (first | omega | decide)))) | (with_reducible refine ok_cchk ?_ ?_; · (first | omega | ((try simp (disch := omega) only [w32_eq, w64_eq, ix_n, ix_e, sto_n, sto_e, sto_r, zf_r, Int.toNat_natCast, true_or, or_true, eq_self, u182, ev]) <;> (first | omega | decide)))) | (with_reducible refine ok_t ?_ ?_; · (first | omega | ((try simp (disch := omega) only [w32_eq, w64_eq, ix_n, ix_e, sto_n, sto_e, sto_r, zf_r, Int.toNat_natCast, true_or, or_true, eq_self, u182, ev]) <;> (first | omega | decide)))) | (with_reducible refine ok_f ?_ ?_; · (first | omega | ((try simp (disch := omega) only [w32_eq, w64_eq, ix_n, ix_e, sto_n, sto_e, sto_r, zf_r, Int.toNat_natCast, true_or, or_true, eq_self, u182, ev]) <;> (first | omega | decide)))) | (with_reducible refine ok_ct ?_ ?_; · (first | omega | ((try simp (disch := omega) only [w32_eq, w64_eq, ix_n, ix_e, sto_n, sto_e, sto_r, zf_r, Int.toNat_natCast, true_or, or_true, eq_self, u182, ev]) <;> (first | omega | decide)))) | (with_reducible refine ok_cf ?_ ?_; · (first | omega | ((try simp (disch := omega) only [w32_eq, w64_eq, ix_n, ix_e, sto_n, sto_e, sto_r, zf_r, Int.toNat_natCast, true_or, or_true, eq_self, u182, ev]) <;> (first | omega | decide)))))
        unfold k_Mo_bushel_42
        repeat (first | with_reducible refine ok_let ?_ | with_reducible refine ok_cs ?_ | with_reducible refine ok_clet ?_ | with_reducible refine ok_cc ?_ | (with_reducible refine ok_chk ?_ ?_; · (first | omega | ((try simp (disch := omega) only [w32_eq, w64_eq, ix_n, ix_e, sto_n, sto_e, sto_r, zf_r, Int.toNat_natCast, true_or, or_true, eq_self]) <;> (first | omega | decide)))) | (with_reducible refine ok_cchk ?_ ?_; · (first | omega | ((try simp (disch := omega) only [w32_eq, w64_eq, ix_n, ix_e, sto_n, sto_e, sto_r, zf_r, Int.toNat_natCast, true_or, or_true, eq_self]) <;> (first | omega | decide)))) | (with_reducible refine ok_t ?_ ?_; · (first | omega | ((try simp (disch := omega) only [w32_eq, w64_eq, ix_n, ix_e, sto_n, sto_e, sto_r, zf_r, Int.toNat_natCast, true_or, or_true, eq_self]) <;> (first | omega | decide)))) | (with_reducible refine ok_f ?_ ?_; · (first | omega | ((try simp (disch := omega) only [w32_eq, w64_eq, ix_n, ix_e, sto_n, sto_e, sto_r, zf_r, Int.toNat_natCast, true_or, or_true, eq_self]) <;> (first | omega | decide)))) | (with_reducible refine ok_ct ?_ ?_; · (first | omega | ((try simp (disch := omega) only [w32_eq, w64_eq, ix_n, ix_e, sto_n, sto_e, sto_r, zf_r, Int.toNat_natCast, true_or, or_true, eq_self]) <;> (first | omega | decide)))) | (with_reducible refine ok_cf ?_ ?_; · (first | omega | ((try simp (disch := omega) only [w32_eq, w64_eq, ix_n, ix_e, sto_n, sto_e, sto_r, zf_r, Int.toNat_natCast, true_or, or_true, eq_self]) <;> (first | omega | decide)))))
        rw [ev]
        exact nxt 0 (by unfold ini; rw [if_pos ⟨c1, c2⟩])
      · repeat (first | with_reducible refine ok_let ?_ | with_reducible refine ok_cs ?_ | with_reducible refine ok_clet ?_ | with_reducible refine ok_cc ?_ | (with_reducible refine ok_chk ?_ ?_; · (first | omega | ((try simp (disch := omega) only [w32_eq, w64_eq, ix_n, ix_e, sto_n, sto_e, sto_r, zf_r, Int.toNat_natCast, true_or, or_true, eq_self, u182, ev]) <;> (first | omega | decide)))) | (with_reducible refine ok_cchk ?_ ?_; · (first | omega | ((try simp (disch := omega) only [w32_eq, w64_eq, ix_n, ix_e, sto_n, sto_e, sto_r, zf_r, Int.toNat_natCast, true_or, or_true, eq_self, u182, ev]) <;> (first | omega | decide)))) | (with_reducible refine ok_t ?_ ?_; · (first | omega | ((try simp (disch := omega) only [w32_eq, w64_eq, ix_n, ix_e, sto_n, sto_e, sto_r, zf_r, Int.toNat_natCast, true_or, or_true, eq_self, u182, ev]) <;> (first | omega | decide)))) | (with_reducible refine ok_f ?_ ?_; · (first | omega | ((try simp (disch := omega) only [w32_eq, w64_eq, ix_n, ix_e, sto_n, sto_e, sto_r, zf_r, Int.toNat_natCast, true_or, or_true, eq_self, u182, ev]) <;> (first | omega | decide)))) | (with_reducible refine ok_ct ?_ ?_; · (first | omega | ((try simp (disch := omega) only [w32_eq, w64_eq, ix_n, ix_e, sto_n, sto_e, sto_r, zf_r, Int.toNat_natCast, true_or, or_true, eq_self, u182, ev]) <;> (first | omega | decide)))) | (with_reducible refine ok_cf ?_ ?_; · (first | omega | ((try simp (disch := omega) only [w32_eq, w64_eq, ix_n, ix_e, sto_n, sto_e, sto_r, zf_r, Int.toNat_natCast, true_or, or_true, eq_self, u182, ev]) <;> (first | omega | decide)))))
        unfold k_Mo_bushel_39 k_Mo_bushel_42
        repeat (first | with_reducible refine ok_let ?_ | with_reducible refine ok_cs ?_ | with_reducible refine ok_clet ?_ | with_reducible refine ok_cc ?_ | (with_reducible refine ok_chk ?_ ?_; · (first | omega | ((try simp (disch := omega) only [w32_eq, w64_eq, ix_n, ix_e, sto_n, sto_e, sto_r, zf_r, Int.toNat_natCast, true_or, or_true, eq_self]) <;> (first | omega | decide)))) | (with_reducible refine ok_cchk ?_ ?_; · (first | omega | ((try simp (disch := omega) only [w32_eq, w64_eq, ix_n, ix_e, sto_n, sto_e, sto_r, zf_r, Int.toNat_natCast, true_or, or_true, eq_self]) <;> (first | omega | decide)))) | (with_reducible refine ok_t ?_ ?_; · (first | omega | ((try simp (disch := omega) only [w32_eq, w64_eq, ix_n, ix_e, sto_n, sto_e, sto_r, zf_r, Int.toNat_natCast, true_or, or_true, eq_self]) <;> (first | omega | decide)))) | (with_reducible refine ok_f ?_ ?_; · (first | omega | ((try simp (disch := omega) only [w32_eq, w64_eq, ix_n, ix_e, sto_n, sto_e, sto_r, zf_r, Int.toNat_natCast, true_or, or_true, eq_self]) <;> (first | omega | decide)))) | (with_reducible refine ok_ct ?_ ?_; · (first | omega | ((try simp (disch := omega) only [w32_eq, w64_eq, ix_n, ix_e, sto_n, sto_e, sto_r, zf_r, Int.toNat_natCast, true_or, or_true, eq_self]) <;> (first | omega | decide)))) | (with_reducible refine ok_cf ?_ ?_; · (first | omega | ((try simp (disch := omega) only [w32_eq, w64_eq, ix_n, ix_e, sto_n, sto_e, sto_r, zf_r, Int.toNat_natCast, true_or, or_true, eq_self]) <;> (first | omega | decide)))))
        rw [ev]
        exact nxt 100000 (by unfold ini; rw [if_neg (fun q => c2 q.2)])
    · repeat (first | with_reducible refine ok_let ?_ | with_reducible refine ok_cs ?_ | with_reducible refine ok_clet ?_ | with_reducible refine ok_cc ?_ | (with_reducible refine ok_chk ?_ ?_; · (first | omega | ((try simp (disch := omega) only [w32_eq, w64_eq, ix_n, ix_e, sto_n, sto_e, sto_r, zf_r, Int.toNat_natCast, true_or, or_true, eq_self]) <;> (first | omega | decide)))) | (with_reducible refine ok_cchk ?_ ?_; · (first | omega | ((try simp (disch := omega) only [w32_eq, w64_eq, ix_n, ix_e, sto_n, sto_e, sto_r, zf_r, Int.toNat_natCast, true_or, or_true, eq_self]) <;> (first | omega | decide)))) | (with_reducible refine ok_t ?_ ?_; · (first | omega | ((try simp (disch := omega) only [w32_eq, w64_eq, ix_n, ix_e, sto_n, sto_e, sto_r, zf_r, Int.toNat_natCast, true_or, or_true, eq_self]) <;> (first | omega | decide)))) | (with_reducible refine ok_f ?_ ?_; · (first | omega | ((try simp (disch := omega) only [w32_eq, w64_eq, ix_n, ix_e, sto_n, sto_e, sto_r, zf_r, Int.toNat_natCast, true_or, or_true, eq_self]) <;> (first | omega | decide)))) | (with_reducible refine ok_ct ?_ ?_; · (first | omega | ((try simp (disch := omega) only [w32_eq, w64_eq, ix_n, ix_e, sto_n, sto_e, sto_r, zf_r, Int.toNat_natCast, true_or, or_true, eq_self]) <;> (first | omega | decide)))) | (with_reducible refine ok_cf ?_ ?_; · (first | omega | ((try simp (disch := omega) only [w32_eq, w64_eq, ix_n, ix_e, sto_n, sto_e, sto_r, zf_r, Int.toNat_natCast, true_or, or_true, eq_self]) <;> (first | omega | decide)))))
      unfold k_Mo_bushel_39 k_Mo_bushel_42
      repeat (first | with_reducible refine ok_let ?_ | with_reducible refine ok_cs ?_ | with_reducible refine ok_clet ?_ | with_reducible refine ok_cc ?_ | (with_reducible refine ok_chk ?_ ?_; · (first | omega | ((try simp (disch := omega) only [w32_eq, w64_eq, ix_n, ix_e, sto_n, sto_e, sto_r, zf_r, Int.toNat_natCast, true_or, or_true, eq_self]) <;> (first | omega | decide)))) | (with_reducible refine ok_cchk ?_ ?_; · (first | omega | ((try simp (disch := omega) only [w32_eq, w64_eq, ix_n, ix_e, sto_n, sto_e, sto_r, zf_r, Int.toNat_natCast, true_or, or_true, eq_self]) <;> (first | omega | decide)))) | (with_reducible refine ok_t ?_ ?_; · (first | omega | ((try simp (disch := omega) only [w32_eq, w64_eq, ix_n, ix_e, sto_n, sto_e, sto_r, zf_r, Int.toNat_natCast, true_or, or_true, eq_self]) <;> (first | omega | decide)))) | (with_reducible refine ok_f ?_ ?_; · (first | omega | ((try simp (disch := omega) only [w32_eq, w64_eq, ix_n, ix_e, sto_n, sto_e, sto_r, zf_r, Int.toNat_natCast, true_or, or_true, eq_self]) <;> (first | omega | decide)))) | (with_reducible refine ok_ct ?_ ?_; · (first | omega | ((try simp (disch := omega) only [w32_eq, w64_eq, ix_n, ix_e, sto_n, sto_e, sto_r, zf_r, Int.toNat_natCast, true_or, or_true, eq_self]) <;> (first | omega | decide)))) | (with_reducible refine ok_cf ?_ ?_; · (first | omega | ((try simp (disch := omega) only [w32_eq, w64_eq, ix_n, ix_e, sto_n, sto_e, sto_r, zf_r, Int.toNat_natCast, true_or, or_true, eq_self]) <;> (first | omega | decide)))))
      rw [ev]
      exact nxt 100000 (by unfold ini; rw [if_neg (fun q => c1 q.1)])
theorem s_bushel {m r : Nat} {M : Mem} {hv wn : Nat → Int} (hmr : m ≤ 5 ∧ r ≤ 4) (hr0 : 0 < r) (hc : ∀ k, k < m * r → 0 ≤ M 184 k ∧ M 184 k ≤ 100) (h1 : ∀ b, b < m → hv b ≤ 30) (h2 : ∀ o, o < r → wn o ≤ 30) (hs : sm wn r ≤ sm hv m) (hI : FI m r hv wn (M 185) (M 182) (M 183)) (hC : ∃ pot, Cer m r (M 184) (M 185) (M 182) pot) (hw : 0 < sm (M 183) r) :
    Ok (d_Mo_bushel (m : Int) (r : Int) M) (fun v M' => BuP m r hv wn M v M' ∧ Fr [182, 183, 185, 186, 187] [] M M') := by
  refine ok_fr ?_ (fun r hr => w_Mo_bushel hr)
  obtain ⟨bd1, bd2, bd3⟩ := fi_bd hI h1 h2
  obtain ⟨pot, hC⟩ := hC
  have hex : ∃ o, o < r ∧ 0 < M 183 o := Classical.byContradiction fun q => by
    have : sm (M 183) r = 0 := sm_0 r (fun o ho => by
      have := bd3 o ho
      by_cases c : 0 < M 183 o
      · exact absurd ⟨o, ho, c⟩ q
      · omega)
    omega
  obtain ⟨o0, ho0, hw0⟩ := hex
  obtain ⟨b0, hb0⟩ := fi_left hI hs ho0 hw0
  unfold d_Mo_bushel
  refine ok_let ?_
  rw [show (m : Int) + (r : Int) = ((m + r : Nat) : Int) by omega]
  refine l_bu7 (B := M) hmr bd2 (fun X hX hx => ?_) (m + r) FU 0 M (by omega) (by unfold FU; omega) Fr.rfl' (fun x hx => by omega)
  refine l_bu60 (B := M) (pot := pot) hmr hr0 (fun k hk => ⟨hc k hk, bd1 k hk⟩) hC (fun Y y1 y2 y3 => ?_) (m + r) FU 0 X (by omega) (by unfold FU; omega) (ws_0 hC (by decide) hx) hX
  obtain ⟨ta, hF⟩ := fnd (S := stR Y) hmr (Nat.le_refl _) hc hC (by decide) (by decide) y1 y2 hb0
  have z : ∀ c, c ≠ 186 → c ≠ 187 → Y c = M c := fun c q1 q2 => y3.c c (by simp [q1, q2]) (by simp)
  have e182 := z 182 (by decide) (by decide)
  have e183 := z 183 (by decide) (by decide)
  have e184 := z 184 (by decide) (by decide)
  have e185 := z 185 (by decide) (by decide)
  have q := l_bu257 (M := Y) (ta := ta) (hv := hv) (wn := wn) hmr (by rw [e184]; exact hc) (by rw [e185, e182, e183]; exact hI) (by rw [e183]; exact bd3) ⟨o0, ho0, by rw [e183]; exact hw0⟩ (by rw [e184, e185, e182]; exact hF) r FU 0 (-1) (by omega) (by unfold FU; omega) (Or.inl ⟨rfl, fun o ho => by omega⟩)
  refine ok_mono q (fun v M' h => ?_)
  unfold BuP at h ⊢
  rw [e184, e185, e183] at h
  exact h
theorem l_sn153 {m r : Nat} {B : Mem} {hv wn : Nat → Int} (hmr : m ≤ 5 ∧ r ≤ 4) (hr0 : 0 < r) (hc : ∀ k, k < m * r → 0 ≤ B 184 k ∧ B 184 k ≤ 100) (h1 : ∀ b, b < m → hv b ≤ 30) (h2 : ∀ o, o < r → wn o ≤ 30) (hs : sm wn r ≤ sm hv m) {n : Nat} (hn : n ≤ 120) :
    ∀ (j fuel u : Nat) (M : Mem), u + j = n → j < fuel → Fr [182, 183, 185, 186, 187] [] B M → FI m r hv wn (M 185) (M 182) (M 183) → (∃ pot, Cer m r (B 184) (M 185) (M 182) pot) → sm (M 183) r = j →
    Ok (fix (fun _ _ _ _ _ _ => none) k_Mo_send_153 fuel (m : Int) (r : Int) (n : Int) (csS m r (B 184) (M 185)) (u : Int) M) (fun v M' => (∃ f lf, FI m r hv wn f lf (fun _ => 0) ∧ (∃ pot, Cer m r (B 184) f lf pot) ∧ v = csS m r (B 184) f) ∧ M' 0 0 = B 0 0 ∧ M' 111 0 = B 111 0) := by
  intro j; induction j with
  | zero =>
    intro fuel u M e hf hFr hI hC hsm
    obtain ⟨f, rfl⟩ : ∃ f, fuel = f + 1 := ⟨fuel - 1, by omega⟩; rw [fix_s]; unfold k_Mo_send_153
    refine ok_f (by first | omega | ((try simp (disch := omega) only [w32_eq, w64_eq, ix_n, ix_e, sto_n, sto_e, sto_r, zf_r, Int.toNat_natCast, true_or, or_true, eq_self]) <;> (first | omega | decide))) (ok_ret ⟨⟨M 185, M 182, ⟨hI.1, hI.2.1, fun o ho => ?_⟩, hC, rfl⟩, hFr.f 0 0 (by decide) (by decide), hFr.f 111 0 (by decide) (by decide)⟩)
    have g := sm_ge (w := M 183) r (fun o ho => (hI.2.2 o ho).1) o ho
    have := hI.2.2 o ho
    rw [show M 183 o = 0 by omega] at this
    exact this
  | succ j ih =>
    intro fuel u M e hf hFr hI hC hsm
    have hj : (u : Int) + 1 = ((u + 1 : Nat) : Int) := by omega
    have u184 := hFr.c 184 (by decide) (by decide)
    obtain ⟨f, rfl⟩ : ∃ f, fuel = f + 1 := ⟨fuel - 1, by omega⟩; rw [fix_s]; unfold k_Mo_send_153
    refine ok_t (by first | omega | ((try simp (disch := omega) only [w32_eq, w64_eq, ix_n, ix_e, sto_n, sto_e, sto_r, zf_r, Int.toNat_natCast, true_or, or_true, eq_self]) <;> (first | omega | decide))) (ok_call (s_bushel (hv := hv) (wn := wn) hmr hr0 (by rw [u184]; exact hc) h1 h2 hs hI (by rw [u184]; exact hC) (by omega)) (fun v X h => ?_))
    obtain ⟨⟨p1, p2, p3, p4⟩, hF⟩ := h
    rw [u184] at p2 p3
    refine ok_let (ok_let ?_)
    rw [hj, ← p3]
    exact ih f (u + 1) X (by omega) (by omega) (hFr.trans hF) p1 p2 (by omega)
