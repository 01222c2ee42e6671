/-! on whom votes hang: the least set -/
def qdS (fr ds : Nat → Int) (d f : Nat) : Int := if fr f = 1 ∧ ds f = (d : Int) then 1 else 0
def tgS (n : Nat) (B : Nat → Nat) (fr ds v g : Nat → Int) (goal : Int) (d : Nat) : Int := fgS n B (qdS fr ds d) v (g d) goal
def fwS (n : Nat) (B : Nat → Nat) (ds v fr g : Nat → Int) (G : Nat) : Int := fdS (dpS (tgS n B fr ds v g 0) (tgS n B fr ds v g 1) 6) (6 + G) (7 - G)
def adV (n : Nat) (ds v a : Nat → Int) (d : Nat) : Int := sm (fun f => if ds f = (d : Int) then a f * v f else 0) n
def trn (n : Nat) (ds v g : Nat → Int) (G : Nat) (a : Nat → Int) : Prop := (G : Int) ≤ whS (fun d => g d + adV n ds v a d) 6
/-- a set of free farms -/
def sbs (n : Nat) (fr a : Nat → Int) : Prop := ∀ f, f < n → a f = 0 ∨ (a f = 1 ∧ fr f = 1)
theorem qd_01 {fr ds : Nat → Int} {d f : Nat} : qdS fr ds d f = 0 ∨ qdS fr ds d f = 1 := by unfold qdS; split <;> simp
theorem tg_b {n : Nat} {B : Nat → Nat} {fr ds v g : Nat → Int} {goal : Int} (d : Nat) : 0 ≤ tgS n B fr ds v g goal d := by
  unfold tgS fgS; split
  · decide
  · exact (fgL_b n).1
theorem cnt_d {n : Nat} {ds a : Nat → Int} (hd : ∀ f, f < n → 0 ≤ ds f ∧ ds f ≤ 5) : sm (fun d : Nat => sm (fun f => if ds f = (d : Int) then a f else 0) n) 6 = sm a n := by
  rw [sm_swap]
  refine sm_ext n (fun f hf => ?_)
  have := hd f hf
  refine Eq.trans (sm_ext 6 (fun d hd' => ?_)) (sm_one (h := fun _ => a f) (j := (ds f).toNat) (n := 6) (by omega))
  by_cases c : d = (ds f).toNat
  · rw [if_pos c, if_pos (by omega)]
  · rw [if_neg c, if_neg (by omega)]
theorem fw_low {n : Nat} {B : Nat → Nat} {ds v fr g a : Nat → Int} {G : Nat} (hG : G ≤ 1) (hO : Ord n B v) (hv : ∀ f, 0 ≤ v f) (hd : ∀ f, f < n → 0 ≤ ds f ∧ ds f ≤ 5) (ha : sbs n fr a) (ht : trn n ds v g G a) : fwS n B ds v fr g G ≤ sm a n := by
  have hb := whS_b (x := fun d => g d + adV n ds v a d) 6
  have hqa : ∀ d f, f < n → 0 ≤ (if ds f = ((d : Nat) : Int) then a f else 0) ∧ (if ds f = ((d : Nat) : Int) then a f else 0) ≤ qdS fr ds d f := by
    intro d f hf
    unfold qdS
    rcases ha f hf with h | h
    · rw [h]; split
      · split <;> omega
      · split <;> omega
    · rw [h.1, h.2]; split
      · rename_i c; rw [if_pos ⟨rfl, c⟩]; omega
      · split <;> omega
  have hsum : ∀ d : Nat, sm (fun f => (if ds f = (d : Int) then a f else 0) * v f) n = adV n ds v a d := fun d => sm_ext n (fun f _ => by split <;> simp)
  have low : ∀ (d : Nat) (goal : Int), goal ≤ g d + adV n ds v a d → tgS n B fr ds v g goal d ≤ sm (fun f => if ds f = (d : Int) then a f else 0) n := fun d goal h =>
    fg_low hO hv (fun f => qd_01) (hqa d) (by rw [hsum d]; exact h)
  have dl := dp_low (te := tgS n B fr ds v g 0) (tw := tgS n B fr ds v g 1) (k := fun d : Nat => sm (fun f => if ds f = (d : Int) then a f else 0) n) (val := fun d => sgn (g d + adV n ds v a d)) 6 (Nat.le_refl _) (fun e he => by
    show (sgn _ = 1 ∧ _) ∨ (sgn _ = 0 ∧ _) ∨ (sgn _ = -1 ∧ _)
    unfold sgn
    by_cases c1 : g e + adV n ds v a e < 0
    · rw [if_pos c1]
      exact Or.inr (Or.inr ⟨rfl, sm_nn n (fun f hf => (hqa e f hf).1)⟩)
    · rw [if_neg c1]
      by_cases c2 : g e + adV n ds v a e = 0
      · rw [if_pos c2]; exact Or.inr (Or.inl ⟨rfl, low e 0 (by omega)⟩)
      · rw [if_neg c2]; exact Or.inl ⟨rfl, low e 1 (by omega)⟩)
  unfold trn at ht
  have e6 : sm (fun d => sgn (g d + adV n ds v a d)) 6 = whS (fun d => g d + adV n ds v a d) 6 := rfl
  rw [e6] at dl
  rw [cnt_d hd] at dl
  generalize whS (fun d => g d + adV n ds v a d) 6 = w at *
  have q := dl (6 + w).toNat (by omega)
  have r := fd_low (D := dpS (tgS n B fr ds v g 0) (tgS n B fr ds v g 1) 6) (p := 6 + G) (7 - G) ((6 + w).toNat - (6 + G)) (by omega)
  rw [show 6 + G + ((6 + w).toNat - (6 + G)) = (6 + w).toNat by omega] at r
  exact Int.le_trans r q
theorem fw_some {n : Nat} {B : Nat → Nat} {ds v fr g : Nat → Int} {G : Nat} (hG : G ≤ 1) (hO : Ord n B v) (hv : ∀ f, 0 ≤ v f) (hd : ∀ f, f < n → 0 ≤ ds f ∧ ds f ≤ 5) (h : fwS n B ds v fr g G < 1000) : ∃ a, sbs n fr a ∧ (∀ f, a f = 0 ∨ a f = 1) ∧ trn n ds v g G a ∧ sm a n = fwS n B ds v fr g G := by
  obtain ⟨j, hj, ej⟩ := fd_some (7 - G) h
  have e0 : fwS n B ds v fr g G = dpS (tgS n B fr ds v g 0) (tgS n B fr ds v g 1) 6 (6 + G + j) := ej
  have nn : ∀ e, 0 ≤ tgS n B fr ds v g 0 e ∧ 0 ≤ tgS n B fr ds v g 1 e := fun e => ⟨tg_b e, tg_b e⟩
  obtain ⟨val, k, g1, g2, g3⟩ := dp_some nn 6 (6 + G + j) (Nat.le_refl _) (by omega)
  have kl : ∀ e, e < 6 → 0 ≤ k e := fun e he => by
    rcases g1 e he with q | q | q
    · rw [q.2]; exact (nn e).2
    · rw [q.2]; exact (nn e).1
    · omega
  have kb : ∀ e, e < 6 → k e < 1000 := fun e he => by
    have := sm_ge (w := k) 6 kl e he
    omega
  have gain : ∀ (d : Nat) (goal : Int), tgS n B fr ds v g goal d < 1000 → ∃ a : Nat → Int, (∀ f, a f = 0 ∨ (a f = 1 ∧ qdS fr ds d f = 1)) ∧ sm a n = tgS n B fr ds v g goal d ∧ goal ≤ g d + sm (fun f => a f * v f) n := by
    intro d goal hl
    obtain ⟨a, b1, -, b3, b4⟩ := fg_some (g := g d) (goal := goal) hO (fun f => qd_01 (fr := fr) (ds := ds) (d := d) (f := f)) n (Nat.le_refl _)
    unfold tgS fgS at hl ⊢
    split at hl
    · omega
    · rename_i c
      rw [if_neg c]
      exact ⟨a, b1, b3, by omega⟩
  have each : ∀ d, ∃ a : Nat → Int, d < 6 → (∀ f, a f = 0 ∨ (a f = 1 ∧ qdS fr ds d f = 1)) ∧ sm a n = k d ∧ val d ≤ sgn (g d + sm (fun f => a f * v f) n) := by
    intro d
    by_cases hd6 : d < 6
    · rcases g1 d hd6 with q | q | q
      · obtain ⟨a, b1, b2, b3⟩ := gain d 1 (by rw [← q.2]; exact kb d hd6)
        refine ⟨a, fun _ => ⟨b1, by rw [b2, q.2], ?_⟩⟩
        rw [q.1]; unfold sgn; rw [if_neg (by omega), if_neg (by omega)]; decide
      · obtain ⟨a, b1, b2, b3⟩ := gain d 0 (by rw [← q.2]; exact kb d hd6)
        refine ⟨a, fun _ => ⟨b1, by rw [b2, q.2], ?_⟩⟩
        rw [q.1]; unfold sgn; rw [if_neg (by omega)]; split <;> decide
      · refine ⟨fun _ => 0, fun _ => ⟨fun f => Or.inl rfl, ?_, ?_⟩⟩
        · rw [sm_0 n (fun _ _ => rfl), q.2]
        · rw [q.1]; exact sgn_b.1
    · exact ⟨fun _ => 0, fun h => absurd h hd6⟩
  -- one function for all districts
  have pick : ∃ A : Nat → Nat → Int, ∀ d, d < 6 → (∀ f, A d f = 0 ∨ (A d f = 1 ∧ qdS fr ds d f = 1)) ∧ sm (A d) n = k d ∧ val d ≤ sgn (g d + sm (fun f => A d f * v f) n) := ⟨fun d => Classical.choose (each d), fun d hd => Classical.choose_spec (each d) hd⟩
  obtain ⟨A, hA⟩ := pick
  have own : ∀ d f, d < 6 → f < n → A d f ≠ 0 → ds f = (d : Int) ∧ fr f = 1 := fun d f hd6 hf h => by
    rcases (hA d hd6).1 f with q | q
    · exact absurd q h
    · have := q.2
      unfold qdS at this
      split at this
      · rename_i c; exact ⟨c.2, c.1⟩
      · omega
  have eqd : ∀ d f : Nat, d < 6 → f < n → (if ds f = (d : Int) then A (ds f).toNat f else 0) = A d f := fun d f hd6 hf => by
    by_cases c : ds f = (d : Int)
    · rw [if_pos c, c, Int.toNat_natCast]
    · rw [if_neg c]
      by_cases z : A d f = 0
      · exact z.symm
      · exact absurd (own d f hd6 hf z).1 c
  refine ⟨fun f => if f < n then A (ds f).toNat f else 0, fun f hf => ?_, fun f => ?_, ?_, ?_⟩
  · show (if f < n then A (ds f).toNat f else 0) = 0 ∨ ((if f < n then A (ds f).toNat f else 0) = 1 ∧ fr f = 1)
    rw [if_pos hf]
    have hdf := hd f hf
    rcases (hA (ds f).toNat (by omega)).1 f with q | q
    · exact Or.inl q
    · exact Or.inr ⟨q.1, (own (ds f).toNat f (by omega) hf (by omega)).2⟩
  · show (if f < n then A (ds f).toNat f else 0) = 0 ∨ (if f < n then A (ds f).toNat f else 0) = 1
    by_cases hf : f < n
    · rw [if_pos hf]
      have hdf := hd f hf
      rcases (hA (ds f).toNat (by omega)).1 f with q | q
      · exact Or.inl q
      · exact Or.inr q.1
    · rw [if_neg hf]; exact Or.inl rfl
  · unfold trn
    have e1 : ∀ d, d < 6 → adV n ds v (fun f => if f < n then A (ds f).toNat f else 0) d = sm (fun f => A d f * v f) n := fun d hd6 => by
      unfold adV
      refine sm_ext n (fun f hf => ?_)
      show (if ds f = (d : Int) then (if f < n then A (ds f).toNat f else 0) * v f else 0) = A d f * v f
      rw [if_pos hf, ← eqd d f hd6 hf]
      split
      · rfl
      · rw [Int.zero_mul]
    have e2 : sm val 6 ≤ whS (fun d => g d + adV n ds v (fun f => if f < n then A (ds f).toNat f else 0) d) 6 := sm_le 6 (fun d hd6 => by
      show val d ≤ sgn (g d + adV n ds v (fun f => if f < n then A (ds f).toNat f else 0) d)
      rw [e1 d hd6]; exact (hA d hd6).2.2)
    omega
  · rw [e0, g3, ← cnt_d hd]
    refine sm_ext 6 (fun d hd6 => ?_)
    rw [← (hA d hd6).2.1]
    refine sm_ext n (fun f hf => ?_)
    rw [if_pos hf]; exact eqd d f hd6 hf
/-- the fewest grow as farms are no longer free -/
theorem fw_mono {n : Nat} {B : Nat → Nat} {ds v fr fr' g : Nat → Int} {G : Nat} (hG : G ≤ 1) (hO : Ord n B v) (hv : ∀ f, 0 ≤ v f) (hd : ∀ f, f < n → 0 ≤ ds f ∧ ds f ≤ 5) (h : ∀ f, f < n → fr' f = 1 → fr f = 1) (hl : fwS n B ds v fr' g G < 1000) : fwS n B ds v fr g G ≤ fwS n B ds v fr' g G := by
  obtain ⟨a, a1, a2, a3, a4⟩ := fw_some hG hO hv hd hl
  rw [← a4]
  refine fw_low hG hO hv hd (fun f hf => ?_) a3
  rcases a1 f hf with q | q
  · exact Or.inl q
  · exact Or.inr ⟨q.1, h f hf q.2⟩
theorem adV_up {n : Nat} {ds v a : Nat → Int} {f d : Nat} (hf : f < n) (h0 : a f = 0) : adV n ds v (up a f 1) d = adV n ds v a d + (if ds f = (d : Int) then v f else 0) := by
  unfold adV
  have e : sm (fun j => if ds j = (d : Int) then up a f 1 j * v j else 0) n = sm (up (fun j => if ds j = (d : Int) then a j * v j else 0) f (if ds f = (d : Int) then v f else 0)) n := sm_ext n (fun j _ => by
    unfold up
    by_cases c : j = f
    · rw [if_pos c, if_pos c, c, Int.one_mul]
    · rw [if_neg c, if_neg c])
  rw [e, sm_up n hf, h0]
  split <;> omega
/-- gains with f chosen -/
def gnU (ds v g : Nat → Int) (f : Nat) : Nat → Int := fun d => g d + (if ds f = (d : Int) then v f else 0)
theorem trn_up {n : Nat} {ds v g a : Nat → Int} {G f : Nat} (hf : f < n) (h0 : a f = 0) : trn n ds v g G (up a f 1) ↔ trn n ds v (gnU ds v g f) G a := by
  unfold trn
  rw [whS_c (y := fun d => gnU ds v g f d + adV n ds v a d) 6 (fun d hd => by
    show g d + adV n ds v (up a f 1) d = _
    rw [adV_up hf h0]; show _ = g d + (if ds f = (d : Int) then v f else 0) + adV n ds v a d; omega)]
/-- farm f is needed: one fewer without it -/
theorem fw_need {n : Nat} {B : Nat → Nat} {ds v fr g : Nat → Int} {G f : Nat} (hG : G ≤ 1) (hO : Ord n B v) (hv : ∀ f, 0 ≤ v f) (hd : ∀ f, f < n → 0 ≤ ds f ∧ ds f ≤ 5) (hf : f < n) (hfr : fr f = 1) (hl : fwS n B ds v fr g G < 1000) (hn : fwS n B ds v fr g G < fwS n B ds v (up fr f 0) g G) : fwS n B ds v (up fr f 0) (gnU ds v g f) G = fwS n B ds v fr g G - 1 := by
  obtain ⟨a, a1, a2, a3, a4⟩ := fw_some hG hO hv hd hl
  have af : a f = 1 := by
    rcases a2 f with q | q
    · have := fw_low (fr := up fr f 0) (B := B) hG hO hv hd (a := a) (fun j hj => by
        rcases a1 j hj with r | r
        · exact Or.inl r
        · by_cases c : j = f
          · rw [c, q] at r; exact absurd r.1 (by decide)
          · rw [up_n c]; exact Or.inr r) a3
      omega
    · exact q
  have ea : up (up a f 0) f 1 = a := by
    funext j; unfold up
    by_cases c : j = f
    · rw [if_pos c, c, af]
    · rw [if_neg c, if_neg c]
  have t1 : trn n ds v (gnU ds v g f) G (up a f 0) := (trn_up hf up_e).1 (by rw [ea]; exact a3)
  have s1 : sbs n (up fr f 0) (up a f 0) := fun j hj => by
    by_cases c : j = f
    · rw [c, up_e]; exact Or.inl rfl
    · rw [up_n c, up_n c]; exact a1 j hj
  have c1 : sm (up a f 0) n = fwS n B ds v fr g G - 1 := by rw [sm_up n hf, af, a4]; omega
  have le := fw_low (B := B) hG hO hv hd s1 t1
  obtain ⟨b, b1, b2, b3, b4⟩ := fw_some (fr := up fr f 0) (g := gnU ds v g f) (B := B) hG hO hv hd (by omega)
  have bf : b f = 0 := by
    rcases b1 f hf with q | q
    · exact q
    · rw [up_e] at q; exact absurd q.2 (by decide)
  have ge := fw_low (B := B) (fr := fr) (g := g) hG hO hv hd (a := up b f 1) (fun j hj => by
    by_cases c : j = f
    · rw [c, up_e]; exact Or.inr ⟨rfl, hfr⟩
    · rw [up_n c]
      rcases b1 j hj with q | q
      · exact Or.inl q
      · rw [up_n c] at q; exact Or.inr q) ((trn_up hf bf).2 b3)
  rw [sm_up n hf, bf, b4] at ge
  omega
