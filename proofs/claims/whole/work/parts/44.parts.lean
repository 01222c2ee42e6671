/-! an amount parted by weights -/
def gmx (r : Nat → Int) : Nat → Nat
  | 0 => 0
  | n + 1 => if r (gmx r n) < r n then n else gmx r n
theorem gmx_lt {r : Nat → Int} : ∀ n : Nat, 0 < n → gmx r n < n
  | 0, h => by omega
  | n + 1, _ => by
    unfold gmx
    split
    · omega
    · by_cases h : 0 < n
      · have := gmx_lt (r := r) n h; omega
      · have e : n = 0 := by omega
        subst e; unfold gmx; omega
theorem gmx_max {r : Nat → Int} : ∀ n f : Nat, f < n → r f ≤ r (gmx r n)
  | 0, f, h => by omega
  | n + 1, f, h => by
    unfold gmx
    by_cases e : f = n
    · subst e
      split
      · omega
      · omega
    · have := gmx_max (r := r) n f (by omega)
      split
      · omega
      · exact this
theorem gmx_c {r r' : Nat → Int} : ∀ n : Nat, (∀ f, f < n → r f = r' f) → gmx r n = gmx r' n
  | 0, _ => rfl
  | n + 1, h => by
    have e := gmx_c n (fun f hf => h f (by omega))
    unfold gmx
    by_cases h0 : 0 < n
    · rw [e, h n (by omega), h _ (by have := gmx_lt (r := r') n h0; omega)]
    · have : n = 0 := by omega
      subst this; rw [e, h 0 (by omega)]; unfold gmx; rw [h 0 (by omega)]
theorem gmx_ext {r : Nat → Int} {n : Nat} (hp : 0 < r (gmx r n)) : ∀ d : Nat, (∀ f, n ≤ f → f < n + d → r f ≤ 0) → gmx r (n + d) = gmx r n
  | 0, _ => rfl
  | d + 1, h => by
    show gmx r (n + d + 1) = _
    rw [gmx, gmx_ext hp d (fun f h1 h2 => h f h1 (by omega)), if_neg]
    have := h (n + d) (by omega) (by omega)
    omega
def disP (n : Nat) : Nat → (Nat → Int) → (Nat → Int) → Nat → Int
  | 0, p, _ => p
  | m + 1, p, r => disP n m (up p (gmx r n) (p (gmx r n) + 1)) (up r (gmx r n) (-1))
def ps (r : Nat → Int) : Nat → Int := fun f => if r f < 0 then 0 else r f
theorem ps_up {r : Nat → Int} {j : Nat} : ps (up r j (-1)) = up (ps r) j 0 := by
  funext f; unfold ps up
  by_cases h : f = j
  · rw [if_pos h, if_pos h]; rfl
  · rw [if_neg h, if_neg h]
theorem gmx_pos {r : Nat → Int} {n : Nat} (h : 0 < sm (ps r) n) : 0 < r (gmx r n) := by
  by_cases c : 0 < r (gmx r n)
  · exact c
  · have := sm_0 (w := ps r) n (fun i hi => by
      have := gmx_max (r := r) n i hi
      unfold ps; split <;> omega)
    omega
/-- rests that reach for m more -/
def rsI (n : Nat) (all : Int) (m : Nat) (r : Nat → Int) : Prop := 0 < n ∧ 0 < all ∧ (m : Int) * all ≤ sm (ps r) n ∧ ∀ f, f < n → r f < all
theorem rsI.pos {n : Nat} {all : Int} {m : Nat} {r : Nat → Int} (h : rsI n all (m + 1) r) : 0 < r (gmx r n) := by
  obtain ⟨h1, h2, h3, h4⟩ := h
  refine gmx_pos ?_
  have : (0 : Int) ≤ (m : Int) * all := Int.mul_nonneg (by omega) (by omega)
  rw [Int.natCast_add, Int.add_mul] at h3
  omega
theorem rsI.next {n : Nat} {all : Int} {m : Nat} {r : Nat → Int} (h : rsI n all (m + 1) r) : rsI n all m (up r (gmx r n) (-1)) := by
  have hp := h.pos
  obtain ⟨h1, h2, h3, h4⟩ := h
  have hl := gmx_lt (r := r) n h1
  refine ⟨h1, h2, ?_, fun f hf => ?_⟩
  · rw [ps_up, sm_up n hl]
    have e : ps r (gmx r n) = r (gmx r n) := by unfold ps; rw [if_neg (by omega)]
    rw [e]
    have := h4 _ hl
    rw [Int.natCast_add, Int.add_mul] at h3
    omega
  · unfold up
    split
    · omega
    · exact h4 f hf
theorem disP_ext {n d : Nat} {all : Int} : ∀ (m : Nat) (p r : Nat → Int), rsI n all m r → (∀ f, n ≤ f → f < n + d → r f ≤ 0) → disP (n + d) m p r = disP n m p r
  | 0, _, _, _, _ => rfl
  | m + 1, p, r, h, h0 => by
    rw [disP, disP, gmx_ext h.pos d h0]
    refine disP_ext m _ _ h.next (fun f h1 h2 => ?_)
    unfold up
    split
    · omega
    · exact h0 f h1 h2
theorem disP_sum {n : Nat} (hn : 0 < n) : ∀ (m : Nat) (p r : Nat → Int), sm (disP n m p r) n = sm p n + m
  | 0, p, r => by rw [disP]; omega
  | m + 1, p, r => by
    rw [disP, disP_sum hn m, sm_up n (gmx_lt n hn)]
    omega
theorem disP_ge {n : Nat} : ∀ (m : Nat) (p r : Nat → Int) (f : Nat), p f ≤ disP n m p r f
  | 0, p, r, f => Int.le_refl _
  | m + 1, p, r, f => by
    rw [disP]
    refine Int.le_trans ?_ (disP_ge m _ _ f)
    unfold up
    split
    · subst_vars; omega
    · omega
theorem disP_le {n : Nat} {all : Int} {b : Nat → Int} : ∀ (m : Nat) (p r : Nat → Int), rsI n all m r → (∀ f, p f ≤ b f ∧ (0 < r f → p f + 1 ≤ b f)) → ∀ f, disP n m p r f ≤ b f
  | 0, p, r, _, h, f => (h f).1
  | m + 1, p, r, hi, h, f => by
    rw [disP]
    refine disP_le m _ _ hi.next (fun f => ?_) f
    have hp := hi.pos
    unfold up
    split
    · subst_vars; exact ⟨(h _).2 hp, fun q => by omega⟩
    · exact h f
theorem disP_out {n : Nat} (hn : 0 < n) : ∀ (m : Nat) (p r : Nat → Int) (f : Nat), n ≤ f → disP n m p r f = p f
  | 0, p, r, f, _ => rfl
  | m + 1, p, r, f, h => by
    rw [disP, disP_out hn m _ _ f h, up_n]
    have := gmx_lt (r := r) n hn
    omega
theorem disP_c {n : Nat} (hn : 0 < n) : ∀ (m : Nat) (p r p' r' : Nat → Int), (∀ f, f < n → p f = p' f ∧ r f = r' f) → ∀ f, f < n → disP n m p r f = disP n m p' r' f
  | 0, p, r, p', r', h, f, hf => (h f hf).1
  | m + 1, p, r, p', r', h, f, hf => by
    rw [disP, disP]
    have e := gmx_c (r := r) (r' := r') n (fun f hf => (h f hf).2)
    have hl := gmx_lt (r := r') n hn
    rw [e]
    refine disP_c hn m _ _ _ _ (fun f hf => ?_) f hf
    unfold up
    split
    · exact ⟨by rw [(h _ hl).1], rfl⟩
    · exact h f hf
/-- the parts -/
def pbs (much : Int) (w : Nat → Int) (all : Int) : Nat → Int := fun f => much * w f / all
def prs (much : Int) (w : Nat → Int) (all : Int) : Nat → Int := fun f => much * w f % all
def prtS (n : Nat) (much : Int) (w : Nat → Int) : Nat → Int :=
  if sm w n = 0 then (fun _ => 0) else disP n (much - sm (pbs much w (sm w n)) n).toNat (pbs much w (sm w n)) (prs much w (sm w n))
theorem prs_sum {n : Nat} {much : Int} {w : Nat → Int} {all : Int} (ha : all = sm w n) : sm (prs much w all) n = all * (much - sm (pbs much w all) n) := by
  have h1 : sm (fun f => all * pbs much w all f + prs much w all f) n = sm (fun f => much * w f) n := sm_ext n (fun f _ => by unfold pbs prs; exact Int.mul_ediv_add_emod _ _)
  rw [sm_add, sm_mul, sm_mul, ← ha, Int.mul_comm much all] at h1
  rw [Int.mul_sub]; omega
theorem prs_r {much : Int} {w : Nat → Int} {all : Int} (h : 0 < all) (f : Nat) : 0 ≤ prs much w all f ∧ prs much w all f < all :=
  ⟨Int.emod_nonneg _ (by omega), Int.emod_lt_of_pos _ h⟩
theorem ps_prs {much : Int} {w : Nat → Int} {all : Int} (h : 0 < all) : ps (prs much w all) = prs much w all := by
  funext f; unfold ps; rw [if_neg (by have := prs_r (much := much) (w := w) h f; omega)]
theorem prs_left {n : Nat} {much : Int} {w : Nat → Int} (hn : 0 < sm w n) : 0 ≤ much - sm (pbs much w (sm w n)) n ∧ much - sm (pbs much w (sm w n)) n < n := by
  have e := prs_sum (n := n) (much := much) (w := w) rfl
  have h0 := sm_nn (w := prs much w (sm w n)) n (fun f _ => (prs_r hn f).1)
  have h1 : sm (prs much w (sm w n)) n ≤ sm (fun _ => sm w n - 1) n := sm_le n (fun f _ => by have := (prs_r (much := much) (w := w) hn f).2; omega)
  have h2 : ∀ (c : Int) (k : Nat), sm (fun _ => c) k = c * k := fun c k => by
    induction k with
    | zero => unfold sm; rw [show ((0 : Nat) : Int) = 0 from rfl, Int.mul_zero]
    | succ k ih => unfold sm; rw [ih, Int.natCast_add, Int.mul_add]; omega
  rw [h2, e] at h1
  rw [e] at h0
  constructor
  · exact Int.le_of_mul_le_mul_left (by rw [Int.mul_zero]; exact h0) hn
  · have h3 : sm w n * (much - sm (pbs much w (sm w n)) n) < sm w n * n := by
      refine Int.lt_of_le_of_lt h1 ?_
      rw [Int.sub_mul, Int.one_mul]
      have : (0 : Int) < n := by
        by_cases c : n = 0
        · subst c; exact absurd hn (by unfold sm; decide)
        · omega
      omega
    exact Int.lt_of_mul_lt_mul_left h3 (by omega)
theorem prs_rsI {n : Nat} {much : Int} {w : Nat → Int} (hn : 0 < sm w n) : rsI n (sm w n) (much - sm (pbs much w (sm w n)) n).toNat (prs much w (sm w n)) := by
  have hl := prs_left (much := much) hn
  refine ⟨?_, hn, ?_, fun f _ => (prs_r hn f).2⟩
  · omega
  · rw [ps_prs hn, prs_sum rfl, Int.toNat_of_nonneg hl.1, Int.mul_comm]; exact Int.le_refl _
theorem prtS_sum {n : Nat} {much : Int} {w : Nat → Int} (hw : ∀ f, f < n → 0 ≤ w f) : sm (prtS n much w) n = if sm w n = 0 then 0 else much := by
  unfold prtS
  by_cases c : sm w n = 0
  · rw [if_pos c, if_pos c]; exact sm_0 n (fun _ _ => rfl)
  · have hn : 0 < sm w n := by have := sm_nn n hw; omega
    have hl := prs_left (much := much) hn
    rw [if_neg c, if_neg c, disP_sum (by omega), Int.toNat_of_nonneg hl.1]; omega
theorem prtS_nn {n : Nat} {much : Int} {w : Nat → Int} (hm : 0 ≤ much) (hw : ∀ f, 0 ≤ w f) (f : Nat) : 0 ≤ prtS n much w f := by
  unfold prtS
  split
  · exact Int.le_refl _
  · refine Int.le_trans ?_ (disP_ge _ _ _ f)
    exact Int.ediv_nonneg (Int.mul_nonneg hm (hw f)) (sm_nn n (fun f _ => hw f))
theorem prtS_le {n : Nat} {much : Int} {w : Nat → Int} (hm : 0 ≤ much) (hw : ∀ f, 0 ≤ w f) (hs : much ≤ sm w n) (f : Nat) : prtS n much w f ≤ w f := by
  unfold prtS
  by_cases c : sm w n = 0
  · rw [if_pos c]; exact hw f
  · have hn : 0 < sm w n := by have := sm_nn n (fun f _ => hw f); omega
    rw [if_neg c]
    refine disP_le _ _ _ (prs_rsI hn) (fun f => ?_) f
    have h1 : much * w f ≤ sm w n * w f := Int.mul_le_mul_of_nonneg_right hs (hw f)
    have h2 := Int.mul_ediv_add_emod (much * w f) (sm w n)
    unfold pbs prs
    have h3 := Int.emod_nonneg (much * w f) (show sm w n ≠ 0 by omega)
    constructor
    · refine Int.le_of_mul_le_mul_left (a := sm w n) ?_ hn
      omega
    · intro h
      have : sm w n * (much * w f / sm w n) < sm w n * w f := by omega
      have := Int.lt_of_mul_lt_mul_left this (by omega)
      omega
theorem prtS_ext {n d : Nat} {much : Int} {w : Nat → Int} (hw : ∀ f, 0 ≤ w f) (h0 : ∀ f, n ≤ f → f < n + d → w f = 0) : prtS (n + d) much w = prtS n much w := by
  have e : sm w (n + d) = sm w n := by
    rw [sm_split, sm_0 d (fun i hi => h0 (n + i) (by omega) (by omega))]; omega
  unfold prtS
  rw [e]
  by_cases c : sm w n = 0
  · rw [if_pos c, if_pos c]
  · have hn : 0 < sm w n := by have := sm_nn n (fun f _ => hw f); omega
    rw [if_neg c, if_neg c]
    have e2 : sm (pbs much w (sm w n)) (n + d) = sm (pbs much w (sm w n)) n := by
      rw [sm_split, sm_0 d (fun i hi => by show much * w (n + i) / _ = 0; rw [h0 (n + i) (by omega) (by omega), Int.mul_zero, Int.zero_ediv])]; omega
    rw [e2]
    refine disP_ext _ _ _ (prs_rsI hn) (fun f h1 h2 => ?_)
    unfold prs; rw [h0 f h1 h2, Int.mul_zero, Int.zero_emod]; exact Int.le_refl _
theorem prtS_c {n : Nat} {much : Int} {w w' : Nat → Int} (h : ∀ f, f < n → w f = w' f) : ∀ f, f < n → prtS n much w f = prtS n much w' f := by
  intro f hf
  have e := sm_ext n h
  have e2 : sm (pbs much w (sm w' n)) n = sm (pbs much w' (sm w' n)) n := sm_ext n (fun f hf => by unfold pbs; rw [h f hf])
  unfold prtS
  rw [e]
  by_cases c : sm w' n = 0
  · rw [if_pos c, if_pos c]
  · rw [if_neg c, if_neg c, e2]
    exact disP_c (by omega) _ _ _ _ _ (fun f hf => by unfold pbs prs; rw [h f hf]; exact ⟨rfl, rfl⟩) f hf
