/-! wheat sent: the cheapest ways, in themselves -/
/-- one step: y may be reached by way of x -/
def rl (L : Int) (x y : Nat) (w : Int) (S : (Nat → Int) × (Nat → Int)) : (Nat → Int) × (Nat → Int) := if S.1 x < L ∧ S.1 x + w < S.1 y then (up S.1 y (S.1 x + w), up S.2 y (x : Int)) else S
def EdH (N : Nat) (E : Nat → Nat → Int → Prop) (pot : Nat → Int) : Prop := ∀ x y w, E x y w → x < N ∧ y < N ∧ x ≠ y ∧ (-100 ≤ w ∧ w ≤ 100) ∧ pot y ≤ pot x + w
/-- what holds while ways are found; ta tells when a node was last changed -/
def BI (N : Nat) (L K : Int) (E : Nat → Nat → Int → Prop) (pot ini : Nat → Int) (t : Nat) (S : (Nat → Int) × (Nat → Int)) : Prop := ∃ ta : Nat → Nat, ∀ y, y < N → ta y ≤ t ∧ pot y ≤ S.1 y ∧ S.1 y ≤ ini y ∧ (S.1 y ≤ 100 * t ∨ (K - 100 * t ≤ S.1 y ∧ (L ≤ K → S.1 y = K))) ∧ ((S.2 y = -1 ∧ S.1 y = ini y) ∨ ∃ x w, S.2 y = ((x : Nat) : Int) ∧ E x y w ∧ ((ta x < ta y ∧ S.1 y = S.1 x + w) ∨ S.1 x + w < S.1 y))
theorem BI.up {N : Nat} {L K : Int} {E : Nat → Nat → Int → Prop} {pot ini : Nat → Int} {t t' : Nat} {S : (Nat → Int) × (Nat → Int)} (h : BI N L K E pot ini t S) (ht : t ≤ t') : BI N L K E pot ini t' S := by
  obtain ⟨ta, h⟩ := h
  refine ⟨ta, fun y hy => ?_⟩
  obtain ⟨h1, h2, h3, h4, h5⟩ := h y hy
  refine ⟨by omega, h2, h3, ?_, h5⟩
  rcases h4 with q | ⟨q1, q2⟩
  · left; omega
  · right; exact ⟨by omega, q2⟩
theorem bi_rl {N : Nat} {L K : Int} {E : Nat → Nat → Int → Prop} {pot ini : Nat → Int} {t x y : Nat} {w : Int} {S : (Nat → Int) × (Nat → Int)} (hE : EdH N E pot) (he : E x y w) (h : BI N L K E pot ini t S) : BI N L K E pot ini (t + 1) (rl L x y w S) := by
  obtain ⟨e1, e2, e3, e4, e5⟩ := hE x y w he
  unfold rl
  by_cases c : S.1 x < L ∧ S.1 x + w < S.1 y
  · rw [if_pos c]
    obtain ⟨ta, h⟩ := h
    obtain ⟨x1, x2, x3, x4, x5⟩ := h x e1
    obtain ⟨y1, y2, y3, y4, y5⟩ := h y e2
    refine ⟨fun z => if z = y then t + 1 else ta z, fun z hz => ?_⟩
    show (if z = y then t + 1 else ta z) ≤ t + 1 ∧ pot z ≤ up S.1 y (S.1 x + w) z ∧ up S.1 y (S.1 x + w) z ≤ ini z ∧ (up S.1 y (S.1 x + w) z ≤ 100 * ((t + 1 : Nat) : Int) ∨ (K - 100 * ((t + 1 : Nat) : Int) ≤ up S.1 y (S.1 x + w) z ∧ (L ≤ K → up S.1 y (S.1 x + w) z = K))) ∧ ((up S.2 y (x : Int) z = -1 ∧ up S.1 y (S.1 x + w) z = ini z) ∨ ∃ x' w', up S.2 y (x : Int) z = ((x' : Nat) : Int) ∧ E x' z w' ∧ (((if x' = y then t + 1 else ta x') < (if z = y then t + 1 else ta z) ∧ up S.1 y (S.1 x + w) z = up S.1 y (S.1 x + w) x' + w') ∨ up S.1 y (S.1 x + w) x' + w' < up S.1 y (S.1 x + w) z))
    by_cases d : z = y
    · subst d
      rw [if_pos rfl, up_e, up_e]
      refine ⟨by omega, by omega, by omega, ?_, Or.inr ⟨x, w, rfl, he, Or.inl ?_⟩⟩
      · rcases x4 with q | ⟨q1, q2⟩
        · left; omega
        · right
          refine ⟨by omega, fun q => ?_⟩
          have := q2 q
          omega
      · rw [if_neg e3, up_n e3]; exact ⟨by omega, rfl⟩
    · rw [if_neg d, up_n d, up_n d]
      obtain ⟨z1, z2, z3, z4, z5⟩ := h z hz
      refine ⟨by omega, z2, z3, ?_, ?_⟩
      · rcases z4 with q | ⟨q1, q2⟩
        · left; omega
        · right; exact ⟨by omega, q2⟩
      · rcases z5 with q | ⟨x', w', q1, q2, q3⟩
        · exact Or.inl q
        · refine Or.inr ⟨x', w', q1, q2, ?_⟩
          by_cases r : x' = y
          · subst r
            rw [if_pos rfl, up_e]
            right
            rcases q3 with q | q <;> omega
          · rw [if_neg r, up_n r]; exact q3
  · rw [if_neg c]; exact h.up (by omega)
/-- nothing can be bettered -/
def Cl (L : Int) (E : Nat → Nat → Int → Prop) (d : Nat → Int) : Prop := ∀ x y w, E x y w → d x < L → d y ≤ d x + w
/-- the settled nodes: i of them -/
def FpS (N : Nat) (L : Int) (E : Nat → Nat → Int → Prop) (pot : Nat → Int) (i : Nat) (d : Nat → Int) : Prop := Cl L E d ∨ ∃ A : Nat → Int, (∀ x, A x = 0 ∨ A x = 1) ∧ sm A N = (i : Int) ∧ (∀ a, a < N → A a = 1 → d a < L ∧ ∀ y w, E a y w → d y ≤ d a + w) ∧ ∀ a y, a < N → y < N → A a = 1 → A y = 0 → d a - pot a ≤ d y - pot y
def FpR (N : Nat) (L : Int) (E D : Nat → Nat → Int → Prop) (pot : Nat → Int) (i : Nat) (d : Nat → Int) : Prop := Cl L E d ∨ ∃ (A : Nat → Int) (v : Nat), (∀ x, A x = 0 ∨ A x = 1) ∧ sm A N = (i : Int) ∧ (∀ a, a < N → A a = 1 → d a < L ∧ ∀ y w, E a y w → d y ≤ d a + w) ∧ (∀ a y, a < N → y < N → A a = 1 → A y = 0 → d a - pot a ≤ d y - pot y) ∧ (v < N ∧ A v = 0 ∧ d v < L) ∧ (∀ y, y < N → A y = 0 → d v - pot v ≤ d y - pot y) ∧ ∀ y w, D v y w → d y ≤ d v + w
theorem FpR.mono {N : Nat} {L : Int} {E D D' : Nat → Nat → Int → Prop} {pot : Nat → Int} {i : Nat} {d : Nat → Int} (h : FpR N L E D pot i d) (hD : ∀ x y w, D' x y w → D x y w) : FpR N L E D' pot i d := by
  rcases h with h | ⟨A, v, h1, h2, h3, h4, h5, h6, h7⟩
  · exact Or.inl h
  · exact Or.inr ⟨A, v, h1, h2, h3, h4, h5, h6, fun y w q => h7 y w (hD v y w q)⟩
theorem pr_rl {N : Nat} {L : Int} {E D : Nat → Nat → Int → Prop} {pot : Nat → Int} {i x y : Nat} {w : Int} {S : (Nat → Int) × (Nat → Int)} (hE : EdH N E pot) (he : E x y w) (h : FpR N L E D pot i S.1) : FpR N L E (fun a b u => D a b u ∨ (a = x ∧ b = y ∧ u = w)) pot i (rl L x y w S).1 := by
  obtain ⟨e1, e2, e3, e4, e5⟩ := hE x y w he
  unfold rl
  rcases h with h | ⟨A, v, h1, h2, h3, h4, h5, h6, h7⟩
  · have : ¬ (S.1 x < L ∧ S.1 x + w < S.1 y) := fun q => by
      have := h x y w he q.1
      omega
    rw [if_neg this]; exact Or.inl h
  · by_cases c : S.1 x < L ∧ S.1 x + w < S.1 y
    · rw [if_pos c]
      have ax : A x = 0 := by
        rcases h1 x with q | q
        · exact q
        · have := (h3 x e1 q).2 y w he
          omega
      have ay : A y = 0 := by
        rcases h1 y with q | q
        · exact q
        · have := h4 y x e2 e1 q ax
          omega
      have vx := h6 x e1 ax
      have vy : y ≠ v := fun q => by subst q; omega
      have low : ∀ z, up S.1 y (S.1 x + w) z ≤ S.1 z := fun z => by
        by_cases d : z = y
        · rw [d, up_e]; omega
        · rw [up_n d]; omega
      refine Or.inr ⟨A, v, h1, h2, fun a ha qa => ?_, fun a z ha hz qa qz => ?_, ⟨h5.1, h5.2.1, ?_⟩, fun z hz qz => ?_, fun z u hu => ?_⟩
      · have na : a ≠ y := fun q => by rw [q, ay] at qa; exact absurd qa (by decide)
        show up S.1 y (S.1 x + w) a < L ∧ ∀ z u, E a z u → up S.1 y (S.1 x + w) z ≤ up S.1 y (S.1 x + w) a + u
        rw [up_n na]
        refine ⟨(h3 a ha qa).1, fun z u hu => ?_⟩
        have := (h3 a ha qa).2 z u hu
        have := low z
        omega
      · have na : a ≠ y := fun q => by rw [q, ay] at qa; exact absurd qa (by decide)
        show up S.1 y (S.1 x + w) a - pot a ≤ up S.1 y (S.1 x + w) z - pot z
        rw [up_n na]
        by_cases d : z = y
        · rw [d, up_e]
          have := h4 a x ha e1 qa ax
          omega
        · rw [up_n d]; exact h4 a z ha hz qa qz
      · show up S.1 y (S.1 x + w) v < L
        rw [up_n (fun q => vy q.symm)]; exact h5.2.2
      · show up S.1 y (S.1 x + w) v - pot v ≤ up S.1 y (S.1 x + w) z - pot z
        rw [up_n (fun q => vy q.symm)]
        by_cases d : z = y
        · rw [d, up_e]; omega
        · rw [up_n d]; exact h6 z hz qz
      · show up S.1 y (S.1 x + w) z ≤ up S.1 y (S.1 x + w) v + u
        rw [up_n (fun q => vy q.symm)]
        rcases hu with hu | ⟨q1, q2, q3⟩
        · have := h7 z u hu
          have := low z
          omega
        · rw [q2, q3, up_e, q1]; omega
    · rw [if_neg c]
      refine Or.inr ⟨A, v, h1, h2, h3, h4, h5, h6, fun z u hu => ?_⟩
      rcases hu with hu | ⟨q1, q2, q3⟩
      · exact h7 z u hu
      · rw [q2, q3]
        have := h5.2.2
        rw [q1] at this ⊢
        omega
/-- the least of some -/
theorem amin {P : Nat → Prop} {g : Nat → Int} : ∀ n : Nat, (∀ x, x < n → ¬ P x) ∨ ∃ v, v < n ∧ P v ∧ ∀ y, y < n → P y → g v ≤ g y
  | 0 => Or.inl (fun x hx => by omega)
  | n + 1 => by
    by_cases c : P n
    · rcases amin (P := P) (g := g) n with h | ⟨v, h1, h2, h3⟩
      · refine Or.inr ⟨n, by omega, c, fun y hy py => ?_⟩
        by_cases d : y = n
        · rw [d]; exact Int.le_refl _
        · exact absurd py (h y (by omega))
      · by_cases d : g v ≤ g n
        · refine Or.inr ⟨v, by omega, h2, fun y hy py => ?_⟩
          by_cases e : y = n
          · rw [e]; exact d
          · exact h3 y (by omega) py
        · refine Or.inr ⟨n, by omega, c, fun y hy py => ?_⟩
          by_cases e : y = n
          · rw [e]; exact Int.le_refl _
          · have := h3 y (by omega) py; omega
    · rcases amin (P := P) (g := g) n with h | ⟨v, h1, h2, h3⟩
      · refine Or.inl (fun x hx => ?_)
        by_cases d : x = n
        · rw [d]; exact c
        · exact h x (by omega)
      · refine Or.inr ⟨v, by omega, h2, fun y hy py => ?_⟩
        by_cases e : y = n
        · rw [e] at py; exact absurd py c
        · exact h3 y (by omega) py
/-- a round begins -/
theorem ps_pr {N : Nat} {L : Int} {E : Nat → Nat → Int → Prop} {pot : Nat → Int} {i : Nat} {d : Nat → Int} (hE : EdH N E pot) (hL : ∀ v y, v < N → y < N → d v < L → L ≤ d y → d v - pot v ≤ d y - pot y) (h : FpS N L E pot i d) : FpR N L E (fun _ _ _ => False) pot i d := by
  rcases h with h | ⟨A, h1, h2, h3, h4⟩
  · exact Or.inl h
  · rcases amin (P := fun x => A x = 0 ∧ d x < L) (g := fun x => d x - pot x) N with q | ⟨v, v1, v2, v3⟩
    · left
      intro x y w he hx
      have e1 := (hE x y w he).1
      rcases h1 x with a | a
      · exact absurd ⟨a, hx⟩ (q x e1)
      · exact (h3 x e1 a).2 y w he
    · refine Or.inr ⟨A, v, h1, h2, h3, h4, ⟨v1, v2.1, v2.2⟩, fun y hy ay => ?_, fun y w q => q.elim⟩
      by_cases c : d y < L
      · exact v3 y hy ⟨ay, c⟩
      · exact hL v y v1 hy v2.2 (by omega)
/-- a round ends -/
theorem pr_ps {N : Nat} {L : Int} {E D : Nat → Nat → Int → Prop} {pot : Nat → Int} {i : Nat} {d : Nat → Int} (hD : ∀ x y w, E x y w → D x y w) (h : FpR N L E D pot i d) : FpS N L E pot (i + 1) d := by
  rcases h with h | ⟨A, v, h1, h2, h3, h4, h5, h6, h7⟩
  · exact Or.inl h
  · refine Or.inr ⟨up A v 1, fun x => ?_, ?_, fun a ha qa => ?_, fun a y ha hy qa qy => ?_⟩
    · unfold up; split
      · exact Or.inr rfl
      · exact h1 x
    · rw [sm_up N h5.1, h2, h5.2.1]; omega
    · by_cases c : a = v
      · subst c; exact ⟨h5.2.2, fun y w q => h7 y w (hD a y w q)⟩
      · rw [up_n c] at qa; exact h3 a ha qa
    · have ny : y ≠ v := fun q => by rw [q, up_e] at qy; exact absurd qy (by decide)
      rw [up_n ny] at qy
      by_cases c : a = v
      · rw [c]; exact h6 y hy qy
      · rw [up_n c] at qa; exact h4 a y ha hy qa qy
/-- all are settled -/
theorem ps_cl {N : Nat} {L : Int} {E : Nat → Nat → Int → Prop} {pot : Nat → Int} {d : Nat → Int} (hE : EdH N E pot) (h : FpS N L E pot N d) : Cl L E d := by
  rcases h with h | ⟨A, h1, h2, h3, h4⟩
  · exact h
  · intro x y w he hx
    have e1 := (hE x y w he).1
    refine (h3 x e1 ?_).2 y w he
    rcases h1 x with q | q
    · exfalso
      have := sm_up (w := A) (v := 1) N e1
      have hb := sm_b (w := up A x 1) (c := 1) N (fun z hz => by
        unfold up; split
        · exact Int.le_refl _
        · rcases h1 z with r | r <;> omega)
      omega
    · exact q
theorem ps_0 {N : Nat} {L : Int} {E : Nat → Nat → Int → Prop} {pot d : Nat → Int} : FpS N L E pot 0 d := Or.inr ⟨fun _ => 0, fun _ => Or.inl rfl, sm_0 N (fun _ _ => rfl), fun a _ q => absurd (show (0 : Int) = 1 from q) (by decide), fun a y _ _ q _ => absurd (show (0 : Int) = 1 from q) (by decide)⟩
/-- bins and orders: what is left, and what was sent -/
def Ed (m r : Nat) (c f : Nat → Int) (x y : Nat) (w : Int) : Prop := (∃ b o, b < m ∧ o < r ∧ x = b ∧ y = m + o ∧ w = c (b * r + o)) ∨ ∃ b o, b < m ∧ o < r ∧ x = m + o ∧ y = b ∧ w = - c (b * r + o) ∧ 0 < f (b * r + o)
def Dn (m r : Nat) (c f : Nat → Int) (k x y : Nat) (w : Int) : Prop := (∃ b o, b < m ∧ o < r ∧ x = b ∧ y = m + o ∧ w = c (b * r + o) ∧ b * r + o < k) ∨ ∃ b o, b < m ∧ o < r ∧ x = m + o ∧ y = b ∧ w = - c (b * r + o) ∧ 0 < f (b * r + o) ∧ b * r + o < k
theorem way_u {r b o b' o' : Nat} (h : o < r) (h' : o' < r) (e : b * r + o = b' * r + o') : b = b' ∧ o = o' := by
  have e1 : (b * r + o) / r = b := by rw [Nat.mul_comm, Nat.mul_add_div (by omega), Nat.div_eq_of_lt h, Nat.add_zero]
  have e2 : (b' * r + o') / r = b' := by rw [Nat.mul_comm, Nat.mul_add_div (by omega), Nat.div_eq_of_lt h', Nat.add_zero]
  have : b = b' := by rw [← e1, ← e2, e]
  subst this
  exact ⟨rfl, by omega⟩
theorem way_l {m r b o : Nat} (hb : b < m) (ho : o < r) : b * r + o < m * r := by
  have : (b + 1) * r ≤ m * r := Nat.mul_le_mul_right r hb
  rw [Nat.add_mul, Nat.one_mul] at this
  omega
theorem way_20 {m r b o : Nat} (hm : m ≤ 5) (hr : r ≤ 4) (hb : b < m) (ho : o < r) : b * r + o < 20 := by
  have h1 := way_l hb ho
  have h2 : m * r ≤ 5 * 4 := Nat.mul_le_mul hm hr
  omega
/-- what makes a sending cheapest -/
def Cer (m r : Nat) (c f lf pot : Nat → Int) : Prop := (∀ b o, b < m → o < r → pot (m + o) ≤ pot b + c (b * r + o) ∧ (0 < f (b * r + o) → pot (m + o) = pot b + c (b * r + o))) ∧ (∀ b, b < m → 0 < lf b → pot b = 0) ∧ ∀ x, x < m + r → 0 ≤ pot x ∧ pot x ≤ 36000
theorem edh {m r : Nat} {c f lf pot : Nat → Int} (hc : ∀ k, k < m * r → 0 ≤ c k ∧ c k ≤ 100) (h : Cer m r c f lf pot) : EdH (m + r) (Ed m r c f) pot := by
  intro x y w he
  rcases he with ⟨b, o, hb, ho, rfl, rfl, rfl⟩ | ⟨b, o, hb, ho, rfl, rfl, rfl, hf⟩
  · have := hc _ (way_l hb ho)
    exact ⟨by omega, by omega, by omega, by omega, (h.1 _ _ hb ho).1⟩
  · have := hc _ (way_l hb ho)
    have := (h.1 _ _ hb ho).2 hf
    exact ⟨by omega, by omega, by omega, by omega, by omega⟩
def ini (m : Nat) (K : Int) (lf : Nat → Int) (x : Nat) : Int := if x < m ∧ 0 < lf x then 0 else K
/-- a way looked at, forth and back -/
def wst (m : Nat) (L : Int) (c f : Nat → Int) (b o k : Nat) (S : (Nat → Int) × (Nat → Int)) : (Nat → Int) × (Nat → Int) := if 0 < f k then rl L (m + o) b (- c k) (rl L b (m + o) (c k) S) else rl L b (m + o) (c k) S
/-- while ways are found: round i, way k -/
def WI (m r : Nat) (L K : Int) (c f lf pot : Nat → Int) (i k : Nat) (S : (Nat → Int) × (Nat → Int)) : Prop := BI (m + r) L K (Ed m r c f) pot (ini m K lf) (2 * (i * (m * r) + k)) S ∧ FpR (m + r) L (Ed m r c f) (Dn m r c f k) pot i S.1
theorem wi_step {m r : Nat} {L K : Int} {c f lf pot : Nat → Int} {i b o : Nat} {S : (Nat → Int) × (Nat → Int)} (hc : ∀ k, k < m * r → 0 ≤ c k ∧ c k ≤ 100) (hC : Cer m r c f lf pot) (hb : b < m) (ho : o < r) (h : WI m r L K c f lf pot i (b * r + o) S) : WI m r L K c f lf pot i (b * r + o + 1) (wst m L c f b o (b * r + o) S) := by
  have hE := edh hc hC
  have e1 : Ed m r c f b (m + o) (c (b * r + o)) := Or.inl ⟨b, o, hb, ho, rfl, rfl, rfl⟩
  obtain ⟨h1, h2⟩ := h
  have s1 := bi_rl hE e1 h1
  have s2 := pr_rl hE e1 h2
  unfold wst
  by_cases q : 0 < f (b * r + o)
  · rw [if_pos q]
    have e2 : Ed m r c f (m + o) b (- c (b * r + o)) := Or.inr ⟨b, o, hb, ho, rfl, rfl, rfl, q⟩
    refine ⟨(bi_rl hE e2 s1).up (by omega), (pr_rl hE e2 s2).mono (fun x y w hd => ?_)⟩
    rcases hd with ⟨b', o', hb', ho', ex, ey, ew, hk⟩ | ⟨b', o', hb', ho', ex, ey, ew, hf, hk⟩
    · by_cases t : b' * r + o' < b * r + o
      · exact Or.inl (Or.inl (Or.inl ⟨b', o', hb', ho', ex, ey, ew, t⟩))
      · obtain ⟨q1, q2⟩ := way_u ho' ho (show b' * r + o' = b * r + o by omega)
        exact Or.inl (Or.inr ⟨by rw [ex, q1], by rw [ey, q2], by rw [ew, q1, q2]⟩)
    · by_cases t : b' * r + o' < b * r + o
      · exact Or.inl (Or.inl (Or.inr ⟨b', o', hb', ho', ex, ey, ew, hf, t⟩))
      · obtain ⟨q1, q2⟩ := way_u ho' ho (show b' * r + o' = b * r + o by omega)
        exact Or.inr ⟨by rw [ex, q2], by rw [ey, q1], by rw [ew, q1, q2]⟩
  · rw [if_neg q]
    refine ⟨s1.up (by omega), s2.mono (fun x y w hd => ?_)⟩
    rcases hd with ⟨b', o', hb', ho', ex, ey, ew, hk⟩ | ⟨b', o', hb', ho', ex, ey, ew, hf, hk⟩
    · by_cases t : b' * r + o' < b * r + o
      · exact Or.inl (Or.inl ⟨b', o', hb', ho', ex, ey, ew, t⟩)
      · obtain ⟨q1, q2⟩ := way_u ho' ho (show b' * r + o' = b * r + o by omega)
        exact Or.inr ⟨by rw [ex, q1], by rw [ey, q2], by rw [ew, q1, q2]⟩
    · by_cases t : b' * r + o' < b * r + o
      · exact Or.inl (Or.inr ⟨b', o', hb', ho', ex, ey, ew, hf, t⟩)
      · obtain ⟨q1, q2⟩ := way_u ho' ho (show b' * r + o' = b * r + o by omega)
        rw [q1, q2] at hf
        exact absurd hf q
/-- between rounds -/
def WS (m r : Nat) (L K : Int) (c f lf pot : Nat → Int) (i : Nat) (S : (Nat → Int) × (Nat → Int)) : Prop := BI (m + r) L K (Ed m r c f) pot (ini m K lf) (2 * (i * (m * r))) S ∧ FpS (m + r) L (Ed m r c f) pot i S.1
theorem ws_wi {m r : Nat} {L K : Int} {c f lf pot : Nat → Int} {i : Nat} {S : (Nat → Int) × (Nat → Int)} (hmr : m ≤ 5 ∧ r ≤ 4) (hi : i ≤ m + r) (hc : ∀ k, k < m * r → 0 ≤ c k ∧ c k ≤ 100) (hC : Cer m r c f lf pot) (hK : 100000 ≤ K) (hL : L = K ∨ K < L) (h : WS m r L K c f lf pot i S) : WI m r L K c f lf pot i 0 S := by
  obtain ⟨h1, h2⟩ := h
  have b1 : m * r ≤ 5 * 4 := Nat.mul_le_mul hmr.1 hmr.2
  have b2 : i * (m * r) ≤ 9 * 20 := Nat.mul_le_mul (by omega) (by omega)
  refine ⟨h1, (ps_pr (edh hc hC) (fun v y hv hy q1 q2 => ?_) h2).mono (fun x y w hd => ?_)⟩
  · obtain ⟨ta, h1⟩ := h1
    obtain ⟨-, v1, v2, v3, -⟩ := h1 v hv
    obtain ⟨-, y1, y2, y3, -⟩ := h1 y hy
    have pv := hC.2.2 v hv
    have py := hC.2.2 y hy
    have iy : ini m K lf y ≤ K := by unfold ini; split <;> omega
    rcases hL with hL | hL
    · rcases v3 with q | ⟨q, q'⟩
      · omega
      · have := q' (by omega); omega
    · omega
  · rcases hd with ⟨b', o', hb', ho', rfl, rfl, rfl, hk⟩ | ⟨b', o', hb', ho', rfl, rfl, rfl, hf, hk⟩ <;> omega
theorem wi_ws {m r : Nat} {L K : Int} {c f lf pot : Nat → Int} {i : Nat} {S : (Nat → Int) × (Nat → Int)} (h : WI m r L K c f lf pot i (m * r) S) : WS m r L K c f lf pot (i + 1) S := by
  obtain ⟨h1, h2⟩ := h
  refine ⟨by rw [Nat.add_mul, Nat.one_mul]; exact h1, pr_ps (fun x y w he => ?_) h2⟩
  rcases he with ⟨b, o, hb, ho, ex, ey, ew⟩ | ⟨b, o, hb, ho, ex, ey, ew, hf⟩
  · exact Or.inl ⟨b, o, hb, ho, ex, ey, ew, way_l hb ho⟩
  · exact Or.inr ⟨b, o, hb, ho, ex, ey, ew, hf, way_l hb ho⟩
theorem ws_0 {m r : Nat} {L K : Int} {c f lf pot : Nat → Int} {S : (Nat → Int) × (Nat → Int)} (hC : Cer m r c f lf pot) (hK : 100000 ≤ K) (h : ∀ x, x < m + r → S.1 x = ini m K lf x ∧ S.2 x = -1) : WS m r L K c f lf pot 0 S := by
  refine ⟨⟨fun _ => 0, fun y hy => ?_⟩, ps_0⟩
  have py := hC.2.2 y hy
  obtain ⟨s1, s2⟩ := h y hy
  refine ⟨Nat.zero_le _, ?_, by omega, ?_, Or.inl ⟨s2, s1⟩⟩
  · rw [s1]; unfold ini
    by_cases q : y < m ∧ 0 < lf y
    · rw [if_pos q]; have := hC.2.1 y q.1 q.2; omega
    · rw [if_neg q]; omega
  · rw [s1]; unfold ini
    by_cases q : y < m ∧ 0 < lf y
    · rw [if_pos q]; left; omega
    · rw [if_neg q]; right; exact ⟨by omega, fun _ => rfl⟩
/-- the ways are found -/
def Fnd (m r : Nat) (c f lf d via : Nat → Int) (ta : Nat → Nat) : Prop := (∀ x, x < m + r → 0 ≤ d x) ∧ (∀ b, b < m → 0 < lf b → d b = 0) ∧ (∀ o, o < r → d (m + o) ≤ 100) ∧ (∀ b o, b < m → o < r → (d b ≤ 36000 → d (m + o) ≤ d b + c (b * r + o)) ∧ (0 < f (b * r + o) → d b ≤ 36000 ∧ d (m + o) = d b + c (b * r + o))) ∧ ∀ y, y < m + r → d y ≤ 36000 → (via y = -1 ∧ y < m ∧ 0 < lf y) ∨ ∃ x w, via y = ((x : Nat) : Int) ∧ Ed m r c f x y w ∧ ta x < ta y ∧ d y = d x + w ∧ d x ≤ 36000
theorem fnd {m r : Nat} {L K : Int} {c f lf pot : Nat → Int} {i : Nat} {S : (Nat → Int) × (Nat → Int)} (hmr : m ≤ 5 ∧ r ≤ 4) (hi : i ≤ m + r) (hc : ∀ k, k < m * r → 0 ≤ c k ∧ c k ≤ 100) (hC : Cer m r c f lf pot) (hK : 100000 ≤ K) (hL : K ≤ L) (h1 : BI (m + r) L K (Ed m r c f) pot (ini m K lf) (2 * (i * (m * r))) S) (h2 : Cl L (Ed m r c f) S.1) {b0 : Nat} (hb0 : b0 < m ∧ 0 < lf b0) : ∃ ta, Fnd m r c f lf S.1 S.2 ta := by
  obtain ⟨ta, h1⟩ := h1
  have b1 : m * r ≤ 5 * 4 := Nat.mul_le_mul hmr.1 hmr.2
  have b2 : i * (m * r) ≤ 9 * 20 := Nat.mul_le_mul (by omega) (by omega)
  have hE := edh hc hC
  have nn : ∀ x, x < m + r → 0 ≤ S.1 x := fun x hx => by
    have := hC.2.2 x hx
    have := (h1 x hx).2.1
    omega
  have dz : ∀ b, b < m → 0 < lf b → S.1 b = 0 := fun b hb hl => by
    have := (h1 b (by omega)).2.2.1
    have := nn b (by omega)
    unfold ini at *
    rw [if_pos ⟨hb, hl⟩] at *
    omega
  have d0 := dz b0 hb0.1 hb0.2
  have dor : ∀ o, o < r → S.1 (m + o) ≤ 100 := fun o ho => by
    have := h2 b0 (m + o) _ (Or.inl ⟨b0, o, hb0.1, ho, rfl, rfl, rfl⟩) (by omega)
    have := hc _ (way_l hb0.1 ho)
    omega
  refine ⟨ta, nn, dz, dor, fun b o hb ho => ⟨fun q => h2 b (m + o) _ (Or.inl ⟨b, o, hb, ho, rfl, rfl, rfl⟩) (by omega), fun q => ?_⟩, fun y hy q => ?_⟩
  · have := dor o ho
    have := hc _ (way_l hb ho)
    have g1 := h2 (m + o) b _ (Or.inr ⟨b, o, hb, ho, rfl, rfl, rfl, q⟩) (by omega)
    have g2 := h2 b (m + o) _ (Or.inl ⟨b, o, hb, ho, rfl, rfl, rfl⟩) (by omega)
    omega
  · obtain ⟨y1, y2, y3, y4, y5⟩ := h1 y hy
    rcases y5 with ⟨e1, e2⟩ | ⟨x, w, e1, e2, e3⟩
    · left
      unfold ini at e2
      by_cases t : y < m ∧ 0 < lf y
      · exact ⟨e1, t.1, t.2⟩
      · rw [if_neg t] at e2; omega
    · right
      obtain ⟨k1, k2, k3, k4, k5⟩ := hE x y w e2
      have x4 := (h1 x k1).2.2.2.1
      have xr : S.1 x ≤ 36000 := by
        rcases x4 with t | ⟨t, -⟩
        · omega
        · rcases e3 with u | u <;> omega
      have := h2 x y w e2 (by omega)
      rcases e3 with u | u
      · exact ⟨x, w, e1, e2, u.1, u.2, xr⟩
      · omega
