/-! what playing anew comes to -/
def adS (w : Nat → Int) (a : Nat) (p : Nat → Int) : Nat → Int := fun i => if a ≤ i ∧ i < a + 20 then w i + p (i - a) else w i
theorem adS_in {w p : Nat → Int} {a f : Nat} (h : f < 20) : adS w a p (a + f) = w (a + f) + p f := by
  unfold adS; rw [if_pos (by omega), show a + f - a = f by omega]
theorem adS_out {w p : Nat → Int} {a i : Nat} (h : ¬ (a ≤ i ∧ i < a + 20)) : adS w a p i = w i := by unfold adS; rw [if_neg h]
theorem sm_adS {w p : Nat → Int} {a N : Nat} (h : a + 20 ≤ N) : sm (adS w a p) N = sm w N + sm p 20 := by
  obtain ⟨r, rfl⟩ : ∃ r, N = a + (20 + r) := ⟨N - a - 20, by omega⟩
  rw [sm_split a (20 + r), sm_split (w := w) a (20 + r), sm_split 20 r, sm_split (w := fun i => w (a + i)) 20 r]
  have e1 : sm (adS w a p) a = sm w a := sm_ext a (fun i hi => adS_out (by omega))
  have e2 : sm (fun i => adS w a p (a + i)) 20 = sm (fun i => w (a + i) + p i) 20 := sm_ext 20 (fun i hi => adS_in hi)
  have e3 : sm (fun i => adS w a p (a + (20 + i))) r = sm (fun i => w (a + (20 + i))) r := sm_ext r (fun i hi => adS_out (by omega))
  rw [e1, e2, e3, sm_add]; omega
theorem blk_adS {w p : Nat → Int} {e e' b : Nat} (hb : b + 20 ≤ 1200) : sm (fun i => adS w (1200 * e' + b) p (1200 * e + i)) 1200 = sm (fun i => w (1200 * e + i)) 1200 + (if e = e' then sm p 20 else 0) := by
  by_cases c : e = e'
  · subst c
    rw [if_pos rfl, ← sm_adS (w := fun i => w (1200 * e + i)) (a := b) hb]
    refine sm_ext _ (fun i hi => ?_)
    unfold adS
    by_cases c : b ≤ i ∧ i < b + 20
    · rw [if_pos c, if_pos (by omega), show 1200 * e + i - (1200 * e + b) = i - b by omega]
    · rw [if_neg c, if_neg (by omega)]
  · rw [if_neg c, sm_ext (v := fun i => w (1200 * e + i)) 1200 (fun i hi => adS_out (by omega))]; omega
theorem blk_up {w : Nat → Int} {e e' b : Nat} {v : Int} (hb : b < 1200) : sm (fun i => up w (1200 * e' + b) v (1200 * e + i)) 1200 = sm (fun i => w (1200 * e + i)) 1200 + (if e = e' then v - w (1200 * e' + b) else 0) := by
  by_cases c : e = e'
  · subst c
    rw [if_pos rfl, ← sm_up (w := fun i => w (1200 * e + i)) (j := b) (v := v) 1200 hb]
    refine sm_ext _ (fun i hi => ?_)
    unfold up
    by_cases c : i = b
    · rw [if_pos c, if_pos (by omega)]
    · rw [if_neg c, if_neg (by omega)]
  · rw [if_neg c, sm_ext (v := fun i => w (1200 * e + i)) 1200 (fun i hi => up_n (by omega))]; omega
/-- a load: what comes in, and where -/
def cmL (M : Mem) (k : Nat) (S : Mem) : Int := if netS M k ≤ M 119 (M 122 k).toNat - S 1 (M 122 k).toNat then netS M k else M 119 (M 122 k).toNat - S 1 (M 122 k).toNat
def slL (M : Mem) (kw : Int) (k : Nat) : Nat := 60 * (M 122 k).toNat + 10 * (gS M k kw).toNat + (M 125 k).toNat
def stL (M : Mem) (kw : Int) (k : Nat) (S : Mem) : Mem := fun c => match c with
  | 0 => up (S 0) (20 * slL M kw k + (M 121 k).toNat) (S 0 (20 * slL M kw k + (M 121 k).toNat) + cmL M k S)
  | 1 => up (S 1) (M 122 k).toNat (S 1 (M 122 k).toNat + cmL M k S)
  | 2 => up (up (S 2) (M 121 k).toNat (S 2 (M 121 k).toNat + dv32 (M 126 k * M 127 k) 1000)) (20 + (M 121 k).toNat) (S 2 (20 + (M 121 k).toNat) + (netS M k - cmL M k S))
  | 4 => up (S 4) k (cmL M k S)
  | c => S c
/-- a car, a sale, a spoiling: from where, how much, whose -/
def slO (M : Mem) (k : Nat) : Nat := (if M 120 k = 2 then 60 * (8 + (M 122 k).toNat) else 60 * (M 122 k).toNat) + 10 * (M 124 k).toNat + (M 125 k).toNat
def slP (M : Mem) (k : Nat) : Nat := 60 * (8 + (M 123 k).toNat) + 10 * (M 124 k).toNat + (M 125 k).toNat
def wO (S : Mem) (s : Nat) : Nat → Int := fun f => if f < 20 then S 0 (20 * s + f) else 0
def tkO (M : Mem) (k : Nat) (S : Mem) : Int := if M 126 k ≤ sm (wO S (slO M k)) 20 then M 126 k else sm (wO S (slO M k)) 20
def prO (M : Mem) (k : Nat) (S : Mem) : Nat → Int := prtS 20 (tkO M k S) (wO S (slO M k))
def stO (M : Mem) (k : Nat) (S : Mem) : Mem := fun c => match c with
  | 0 => if M 120 k = 1 then adS (adS (S 0) (20 * slO M k) (fun f => - prO M k S f)) (20 * slP M k) (prO M k S) else adS (S 0) (20 * slO M k) (fun f => - prO M k S f)
  | 1 => if M 120 k = 2 then S 1 else up (S 1) (M 122 k).toNat (S 1 (M 122 k).toNat - tkO M k S)
  | 2 => if M 120 k = 2 then adS (S 2) 40 (prO M k S) else if M 120 k = 3 then adS (S 2) 60 (prO M k S) else S 2
  | 3 => up (S 3) 0 (S 3 0 + (M 126 k - tkO M k S))
  | 4 => up (S 4) k (tkO M k S)
  | c => S c
def stp (M : Mem) (kw : Int) (k : Nat) (S : Mem) : Mem := if M 120 k = 0 then stL M kw k S else stO M k S
/-- the state behind n events -/
def pyS (M : Mem) (kw : Int) : Nat → Mem
  | 0 => fun _ _ => 0
  | n + 1 => stp M kw n (pyS M kw n)
def PW (M : Mem) (n : Nat) (S : Mem) : Prop :=
  (∀ i, i < 12000 → 0 ≤ S 0 i ∧ S 0 i ≤ 100000 * n) ∧ (∀ e, e < 8 → S 1 e = sm (fun i => S 0 (1200 * e + i)) 1200) ∧ (∀ e : Nat, (e : Int) < M 111 6 → S 1 e ≤ M 119 e) ∧
  (∀ s f : Nat, s < 600 → M 111 5 ≤ (f : Int) → f < 20 → S 0 (20 * s + f) = 0) ∧ (∀ j, j < 80 → 0 ≤ S 2 j ∧ S 2 j ≤ 100000 * n) ∧ (0 ≤ S 3 0 ∧ S 3 0 ≤ 100000 * n) ∧
  (∀ k, k < n → 0 ≤ S 4 k ∧ S 4 k ≤ 100000 ∧ (M 120 k = 0 → S 4 k ≤ netS M k))
theorem PW.w {M : Mem} {n : Nat} {S : Mem} (h : PW M n S) {s : Nat} (hs : s < 600) : ∀ f, 0 ≤ wO S s f ∧ wO S s f ≤ 100000 * n := by
  intro f; unfold wO
  split
  · exact h.1 _ (by omega)
  · omega
theorem sm_b {w : Nat → Int} {c : Int} : ∀ n : Nat, (∀ i, i < n → w i ≤ c) → sm w n ≤ c * n
  | 0, _ => by unfold sm; rw [show ((0 : Nat) : Int) = 0 from rfl, Int.mul_zero]; exact Int.le_refl _
  | n + 1, h => by
    have h1 := sm_b n (fun i hi => h i (by omega))
    have h2 := h n (by omega)
    unfold sm
    rw [Int.natCast_add, Int.mul_add]; omega
/-- what is known of another event -/
theorem Ev.other {M : Mem} {k : Nat} (h : Ev M k) (h0 : M 120 k ≠ 0) : (M 120 k = 1 ∨ M 120 k = 2 ∨ M 120 k = 3) ∧ M 16 k = M 120 k ∧ M 20 k = M 124 k ∧ M 21 k = M 125 k ∧ M 22 k = M 126 k ∧ (0 ≤ M 124 k ∧ M 124 k ≤ 5) ∧ (0 ≤ M 125 k ∧ M 125 k ≤ 9) ∧ (1 ≤ M 126 k ∧ M 126 k ≤ 100000) ∧
    (M 120 k = 2 → M 19 k = M 122 k ∧ (0 ≤ M 122 k ∧ M 122 k ≤ 1) ∧ M 24 k = M 127 k ∧ (0 ≤ M 127 k ∧ M 127 k ≤ 1000)) ∧ (M 120 k ≠ 2 → M 18 k = M 122 k ∧ 0 ≤ M 122 k ∧ M 122 k < M 111 6) ∧ (M 120 k = 1 → M 19 k = M 123 k ∧ 0 ≤ M 123 k ∧ M 123 k ≤ 1) := by
  obtain ⟨h1, h2, h3, h4, h5, h6, h7, h8, h9, h10⟩ := h
  rcases h10 with h | h | h | h
  · exact absurd h.1 h0
  · obtain ⟨q1, q2, q3, q4, q5, q6, q7⟩ := h
    exact ⟨Or.inl q1, h1, q4, h2, h3, q7, h6, h7, fun e => by omega, fun _ => ⟨q2, q5⟩, fun _ => ⟨q3, q6⟩⟩
  · obtain ⟨q1, q2, q3, q4, q5, q6, q7⟩ := h
    exact ⟨Or.inr (Or.inl q1), h1, q3, h2, h3, q6, h6, h7, fun e => ⟨q2, q5, q4, q7⟩, fun e => absurd q1 e, fun e => by omega⟩
  · obtain ⟨q1, q2, q3, q4, q5⟩ := h
    exact ⟨Or.inr (Or.inr q1), h1, q3, h2, h3, q5, h6, h7, fun e => by omega, fun _ => ⟨q2, q4⟩, fun e => by omega⟩
theorem PW.load {F : Nat → Int → (Nat → Int) → Int} {M : Mem} {n : Nat} {S : Mem} {kw : Int} (h : PW M n S) (hA : AskI F M) (hG : IvG F M) (hE : IvE M) (hP : IvP M) (hn : (n : Int) < M 111 7) (h0 : M 120 n = 0) : PW M (n + 1) (stL M kw n S) ∧ (0 ≤ cmL M n S ∧ cmL M n S ≤ netS M n) ∧ slL M kw n < 480 := by
  obtain ⟨l1, l2, l3, l4, l5, l6, l7, l8, l9, l10, l11, l12, l13, l14⟩ := (hE.2.2.2.2.2.2.2.1 n hn).load h0
  have nb := netS_b l11 l12
  have hg := gS_r hA hG (k := n) (kw := kw)
  have hP1 := hP.1
  have hP2 := hP.2.1
  obtain ⟨p1, p2, p3, p4, p5, p6, p7⟩ := h
  have hc : 0 ≤ cmL M n S ∧ cmL M n S ≤ netS M n := by
    have := p3 (M 122 n).toNat (by omega)
    unfold cmL; split <;> omega
  have hc2 : S 1 (M 122 n).toNat + cmL M n S ≤ M 119 (M 122 n).toNat := by
    unfold cmL; split <;> omega
  have hsl : slL M kw n < 480 := by unfold slL; omega
  refine ⟨⟨?_, ?_, ?_, ?_, ?_, ?_, ?_⟩, hc, hsl⟩
  · intro i hi
    show 0 ≤ up (S 0) _ _ i ∧ up (S 0) _ _ i ≤ _
    have q1 := p1 i hi
    have q2 := p1 (20 * slL M kw n + (M 121 n).toNat) (by omega)
    unfold up; split <;> omega
  · intro e he
    show up (S 1) _ _ e = sm (fun i => up (S 0) _ _ (1200 * e + i)) 1200
    have e1 : 20 * slL M kw n + (M 121 n).toNat = 1200 * (M 122 n).toNat + (20 * (10 * (gS M n kw).toNat + (M 125 n).toNat) + (M 121 n).toNat) := by unfold slL; omega
    rw [e1, blk_up (by omega), ← p2 e he]
    unfold up
    by_cases c : e = (M 122 n).toNat
    · rw [if_pos c, if_pos c, c]; omega
    · rw [if_neg c, if_neg c]; omega
  · intro e he
    show up (S 1) _ _ e ≤ _
    unfold up
    by_cases c : e = (M 122 n).toNat
    · rw [if_pos c, c]; exact hc2
    · rw [if_neg c]; exact p3 e he
  · intro s f hs h1 h2
    show up (S 0) _ _ (20 * s + f) = 0
    rw [up_n (by omega)]; exact p4 s f hs h1 h2
  · intro j hj
    show 0 ≤ up (up (S 2) _ _) _ _ j ∧ up (up (S 2) _ _) _ _ j ≤ _
    have q1 := p5 j hj
    have q2 := p5 (M 121 n).toNat (by omega)
    have q3 := p5 (20 + (M 121 n).toNat) (by omega)
    unfold up
    split
    · omega
    · split <;> omega
  · show 0 ≤ S 3 0 ∧ S 3 0 ≤ _
    omega
  · intro k hk
    show 0 ≤ up (S 4) n (cmL M n S) k ∧ up (S 4) n (cmL M n S) k ≤ _ ∧ (_ → up (S 4) n (cmL M n S) k ≤ _)
    by_cases c : k = n
    · subst c; rw [up_e]; exact ⟨hc.1, by omega, fun _ => hc.2⟩
    · rw [up_n c]; exact p7 k (by omega)
theorem PW.other {M : Mem} {n : Nat} {S : Mem} (h : PW M n S) (hE : IvE M) (hP : IvP M) (hn : (n : Int) < M 111 7) (h0 : M 120 n ≠ 0) : PW M (n + 1) (stO M n S) ∧ (0 ≤ tkO M n S ∧ tkO M n S ≤ M 126 n ∧ tkO M n S ≤ sm (wO S (slO M n)) 20) ∧ slO M n < 600 ∧ (∀ f, 0 ≤ prO M n S f ∧ prO M n S f ≤ wO S (slO M n) f) ∧ sm (prO M n S) 20 = tkO M n S := by
  obtain ⟨t0, t1, t2, t3, t4, t5, t6, t7, t8, t9, t10⟩ := (hE.2.2.2.2.2.2.2.1 n hn).other h0
  have hP1 := hP.1
  have hP2 := hP.2.1
  have hsl : slO M n < 600 := by
    unfold slO; split
    · rename_i c; have := t8 c; omega
    · rename_i c; have := t9 c; omega
  have hw := h.w hsl
  have hs0 := sm_nn (w := wO S (slO M n)) 20 (fun f _ => (hw f).1)
  have htk : 0 ≤ tkO M n S ∧ tkO M n S ≤ M 126 n ∧ tkO M n S ≤ sm (wO S (slO M n)) 20 := by unfold tkO; split <;> omega
  have hpr : ∀ f, 0 ≤ prO M n S f ∧ prO M n S f ≤ wO S (slO M n) f := fun f => ⟨prtS_nn htk.1 (fun f => (hw f).1) f, prtS_le htk.1 (fun f => (hw f).1) htk.2.2 f⟩
  have hsum : sm (prO M n S) 20 = tkO M n S := by
    unfold prO; rw [prtS_sum (fun f _ => (hw f).1)]
    split
    · omega
    · rfl
  have hnsum : sm (fun f => - prO M n S f) 20 = - tkO M n S := by
    have := sm_sub (w := fun _ => 0) (v := prO M n S) 20
    rw [sm_0 (w := fun _ => 0) 20 (fun _ _ => rfl), hsum] at this
    rw [← Int.zero_sub, ← this]
    exact sm_ext 20 (fun f _ => by omega)
  have hpb : ∀ f, f < 20 → prO M n S f ≤ 100000 := fun f hf => by
    have := sm_ge (w := prO M n S) 20 (fun f _ => (hpr f).1) f hf
    omega
  obtain ⟨p1, p2, p3, p4, p5, p6, p7⟩ := h
  have hd : ∀ i, i < 12000 → 0 ≤ adS (S 0) (20 * slO M n) (fun f => - prO M n S f) i ∧ adS (S 0) (20 * slO M n) (fun f => - prO M n S f) i ≤ 100000 * n := by
    intro i hi
    have q := p1 i hi
    unfold adS
    by_cases c : 20 * slO M n ≤ i ∧ i < 20 * slO M n + 20
    · rw [if_pos c]
      have q2 := hpr (i - 20 * slO M n)
      unfold wO at q2
      rw [if_pos (by omega), show 20 * slO M n + (i - 20 * slO M n) = i by omega] at q2
      show 0 ≤ S 0 i + - prO M n S (i - 20 * slO M n) ∧ S 0 i + - prO M n S (i - 20 * slO M n) ≤ _
      omega
    · rw [if_neg c]; exact q
  have hz : ∀ f : Nat, M 111 5 ≤ (f : Int) → f < 20 → prO M n S f = 0 := by
    intro f h1 h2
    have q := hpr f
    unfold wO at q
    rw [if_pos h2, p4 _ f hsl h1 h2] at q
    omega
  have hslP : M 120 n = 1 → slP M n < 600 ∧ 480 ≤ slP M n := fun c => by have := t10 c; unfold slP; omega
  refine ⟨⟨?_, ?_, ?_, ?_, ?_, ?_, ?_⟩, htk, hsl, hpr, hsum⟩
  · intro i hi
    show 0 ≤ (if M 120 n = 1 then _ else _ : Nat → Int) i ∧ (if M 120 n = 1 then _ else _ : Nat → Int) i ≤ _
    have q := hd i hi
    by_cases c : M 120 n = 1
    · rw [if_pos c]
      unfold adS at q ⊢
      by_cases c2 : 20 * slP M n ≤ i ∧ i < 20 * slP M n + 20
      · rw [if_pos c2]
        have q2 := hpr (i - 20 * slP M n)
        have q3 := hpb (i - 20 * slP M n) (by omega)
        omega
      · rw [if_neg c2]; omega
    · rw [if_neg c]; omega
  · intro e he
    show (if M 120 n = 2 then S 1 else _ : Nat → Int) e = sm (fun i => (if M 120 n = 1 then _ else _ : Nat → Int) (1200 * e + i)) 1200
    by_cases c2 : M 120 n = 2
    · rw [if_pos c2, if_neg (by omega)]
      have q := t8 c2
      have e1 : 20 * slO M n = 1200 * (8 + (M 122 n).toNat) + 20 * (10 * (M 124 n).toNat + (M 125 n).toNat) := by unfold slO; rw [if_pos c2]; omega
      rw [e1, blk_adS (by omega), if_neg (by omega), ← p2 e he]; omega
    · rw [if_neg c2]
      have q := t9 c2
      have e1 : 20 * slO M n = 1200 * (M 122 n).toNat + 20 * (10 * (M 124 n).toNat + (M 125 n).toNat) := by unfold slO; rw [if_neg c2]; omega
      have e3 : sm (fun i => adS (S 0) (20 * slO M n) (fun f => - prO M n S f) (1200 * e + i)) 1200 = S 1 e + (if e = (M 122 n).toNat then - tkO M n S else 0) := by
        rw [e1, blk_adS (by omega), ← p2 e he, hnsum]
      have e4 : up (S 1) (M 122 n).toNat (S 1 (M 122 n).toNat - tkO M n S) e = S 1 e + (if e = (M 122 n).toNat then - tkO M n S else 0) := by
        unfold up
        by_cases c : e = (M 122 n).toNat
        · rw [if_pos c, if_pos c, c]; omega
        · rw [if_neg c, if_neg c]; omega
      rw [e4]
      by_cases c1 : M 120 n = 1
      · rw [if_pos c1]
        have q := t10 c1
        have e2 : 20 * slP M n = 1200 * (8 + (M 123 n).toNat) + 20 * (10 * (M 124 n).toNat + (M 125 n).toNat) := by unfold slP; omega
        rw [e2, blk_adS (by omega), if_neg (by omega : ¬ e = 8 + (M 123 n).toNat), e3]; omega
      · rw [if_neg c1, e3]
  · intro e he
    show (if M 120 n = 2 then S 1 else _ : Nat → Int) e ≤ _
    have q := p3 e he
    split
    · exact q
    · unfold up; split
      · rename_i c; rw [← c]; omega
      · exact q
  · intro s f hs h1 h2
    show (if M 120 n = 1 then _ else _ : Nat → Int) (20 * s + f) = 0
    have q := p4 s f hs h1 h2
    have qz := hz f h1 h2
    have d1 : adS (S 0) (20 * slO M n) (fun f => - prO M n S f) (20 * s + f) = 0 := by
      unfold adS; split
      · rename_i c; rw [show 20 * s + f - 20 * slO M n = f by omega, q]; show 0 + - prO M n S f = 0; rw [qz]; rfl
      · exact q
    by_cases c : M 120 n = 1
    · rw [if_pos c]
      unfold adS at d1 ⊢; split
      · rename_i c; rw [d1, show 20 * s + f - 20 * slP M n = f by omega, qz]; rfl
      · exact d1
    · rw [if_neg c]; exact d1
  · intro j hj
    show 0 ≤ (if M 120 n = 2 then _ else _ : Nat → Int) j ∧ (if M 120 n = 2 then _ else _ : Nat → Int) j ≤ _
    have q := p5 j hj
    have ad : ∀ a : Nat, 0 ≤ adS (S 2) a (prO M n S) j ∧ adS (S 2) a (prO M n S) j ≤ 100000 * ((n + 1 : Nat) : Int) := by
      intro a; unfold adS; split
      · rename_i c; have q2 := hpr (j - a); have q3 := hpb (j - a) (by omega); omega
      · omega
    split
    · exact ad 40
    · split
      · exact ad 60
      · omega
  · show 0 ≤ up (S 3) 0 _ 0 ∧ up (S 3) 0 _ 0 ≤ _
    rw [up_e]; omega
  · intro k hk
    show 0 ≤ up (S 4) n _ k ∧ up (S 4) n _ k ≤ _ ∧ (_ → up (S 4) n _ k ≤ _)
    by_cases c : k = n
    · subst c; rw [up_e]; exact ⟨htk.1, by omega, fun c => absurd c h0⟩
    · rw [up_n c]; exact p7 k (by omega)
