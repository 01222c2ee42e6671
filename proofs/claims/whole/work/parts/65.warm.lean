/-! bins that warm: sets as numbers -/
def bt (s k : Nat) : Nat := s / 2 ^ k % 2
def pc8 (s : Nat) : Nat := bt s 0 + bt s 1 + bt s 2 + bt s 3 + bt s 4 + bt s 5 + bt s 6 + bt s 7
def bits1 (s k : Nat) : Bool := (decide (an32 (s : Int) (sl32 1 (k : Int)) = 0) == decide (bt s k = 0)) && decide (an32 (sr32 (s : Int) (k : Int)) 1 = (bt s k : Int)) && (decide (bt s k ≠ 0) || (decide (or32 (s : Int) (sl32 1 (k : Int)) = ((s + 2 ^ k : Nat) : Int)) && decide (pc8 (s + 2 ^ k) = pc8 s + 1) && decide (s + 2 ^ k < 256)))
theorem bits1_all : (List.range 256).all (fun s => (List.range 8).all (fun k => bits1 s k)) = true := by decide +kernel
theorem bits1_at {s k : Nat} (hs : s < 256) (hk : k < 8) : bits1 s k = true := by
  have h := bits1_all
  rw [List.all_eq_true] at h
  have h1 := h s (List.mem_range.mpr hs)
  rw [List.all_eq_true] at h1
  exact h1 k (List.mem_range.mpr hk)
theorem an_bit {s k : Nat} (hs : s < 256) (hk : k < 8) : an32 (s : Int) (sl32 1 (k : Int)) = 0 ↔ bt s k = 0 := by
  have h := bits1_at hs hk
  unfold bits1 at h
  rw [Bool.and_eq_true, Bool.and_eq_true, beq_iff_eq, decide_eq_decide] at h
  exact h.1.1
theorem sr_bit {s k : Nat} (hs : s < 256) (hk : k < 8) : an32 (sr32 (s : Int) (k : Int)) 1 = (bt s k : Int) := by
  have h := bits1_at hs hk
  unfold bits1 at h
  rw [Bool.and_eq_true, Bool.and_eq_true] at h
  exact of_decide_eq_true h.1.2
theorem or_bit {s k : Nat} (hs : s < 256) (hk : k < 8) (h0 : bt s k = 0) : or32 (s : Int) (sl32 1 (k : Int)) = ((s + 2 ^ k : Nat) : Int) ∧ pc8 (s + 2 ^ k) = pc8 s + 1 ∧ s + 2 ^ k < 256 := by
  have h := bits1_at hs hk
  unfold bits1 at h
  rw [Bool.and_eq_true, Bool.or_eq_true, Bool.and_eq_true] at h
  rcases h.2 with h1 | h1
  · exact absurd h0 (of_decide_eq_true h1)
  · rw [Bool.and_eq_true, Bool.and_eq_true] at h1
    exact ⟨of_decide_eq_true h1.1.1, of_decide_eq_true h1.1.2, of_decide_eq_true h1.2⟩
def bcS (x : Int) : Int :=
  let v1 := x - (an32 (ur32 x 1) 1431655765)
  let v2 := (an32 v1 858993459) + (an32 (ur32 v1 2) 858993459)
  let v3 := an32 (v2 + (ur32 v2 4)) 252645135
  let v4 := v3 + (ur32 v3 8)
  let v5 := v4 + (ur32 v4 16)
  an32 v5 63
theorem s_bitCount {x : Int} {M : Mem} : d_In_bitCount x M = some (bcS x, M) := rfl
theorem bc_all : (List.range 256).all (fun s => decide (bcS (s : Int) = (pc8 s : Int))) = true := by decide +kernel
theorem bc_at {s : Nat} (hs : s < 256) : bcS (s : Int) = (pc8 s : Int) := by
  have h := bc_all
  rw [List.all_eq_true] at h
  exact of_decide_eq_true (h s (List.mem_range.mpr hs))
theorem sl_all : (List.range 9).all (fun n => decide (sl32 1 (n : Int) = ((2 ^ n : Nat) : Int))) = true := by decide +kernel
theorem sl_at {n : Nat} (hn : n ≤ 8) : sl32 1 (n : Int) = ((2 ^ n : Nat) : Int) := by
  have h := sl_all
  rw [List.all_eq_true] at h
  exact of_decide_eq_true (h n (List.mem_range.mpr (by omega)))
theorem pc8_b (s : Nat) : pc8 s ≤ 8 := by
  have h : ∀ k, bt s k ≤ 1 := fun k => by unfold bt; omega
  have h0 := h 0; have h1 := h 1; have h2 := h 2; have h3 := h 3; have h4 := h 4; have h5 := h 5; have h6 := h 6; have h7 := h 7
  unfold pc8; omega
theorem pow_b {n : Nat} (hn : n ≤ 8) : 1 ≤ 2 ^ n ∧ 2 ^ n ≤ 256 := by
  rcases (show n = 0 ∨ n = 1 ∨ n = 2 ∨ n = 3 ∨ n = 4 ∨ n = 5 ∨ n = 6 ∨ n = 7 ∨ n = 8 by omega) with e | e | e | e | e | e | e | e | e <;> subst e <;> decide
def st_all : Bool := (List.range 9).all (fun n => (List.range (2 ^ n)).all (fun s => (List.range n).all (fun k => decide (bt s k ≠ 0) || decide (s + 2 ^ k < 2 ^ n))))
theorem st_all_t : st_all = true := by decide +kernel
theorem st_at {n s k : Nat} (hn : n ≤ 8) (hs : s < 2 ^ n) (hk : k < n) (h0 : bt s k = 0) : s + 2 ^ k < 2 ^ n := by
  have h := st_all_t
  unfold st_all at h
  rw [List.all_eq_true] at h
  have h1 := h n (List.mem_range.mpr (by omega))
  rw [List.all_eq_true] at h1
  have h2 := h1 s (List.mem_range.mpr hs)
  rw [List.all_eq_true] at h2
  have h3 := h2 k (List.mem_range.mpr hk)
  rw [Bool.or_eq_true] at h3
  rcases h3 with h3 | h3
  · exact absurd h0 (of_decide_eq_true h3)
  · exact of_decide_eq_true h3
/-- the most of some -/
def mxN (c : Int) (f : Nat → Int) : Nat → Int
  | 0 => c
  | n + 1 => if mxN c f n < f n then f n else mxN c f n
theorem mxN_c {c : Int} {f : Nat → Int} : ∀ n : Nat, c ≤ mxN c f n
  | 0 => Int.le_refl _
  | n + 1 => by have := mxN_c (c := c) (f := f) n; unfold mxN; split <;> omega
theorem mxN_ge {c : Int} {f : Nat → Int} : ∀ n k : Nat, k < n → f k ≤ mxN c f n
  | 0, k, h => by omega
  | n + 1, k, h => by
    unfold mxN
    by_cases e : k = n
    · subst e; split <;> omega
    · have := mxN_ge (c := c) (f := f) n k (by omega); split <;> omega
theorem mxN_le {c b : Int} {f : Nat → Int} : ∀ n : Nat, c ≤ b → (∀ k, k < n → f k ≤ b) → mxN c f n ≤ b
  | 0, h, _ => h
  | n + 1, h, hf => by
    have := mxN_le n h (fun k hk => hf k (by omega))
    have := hf n (by omega)
    unfold mxN; split <;> omega
theorem mxN_at {c : Int} {f : Nat → Int} : ∀ n : Nat, mxN c f n = c ∨ ∃ k, k < n ∧ f k = mxN c f n
  | 0 => Or.inl rfl
  | n + 1 => by
    unfold mxN; split
    · exact Or.inr ⟨n, by omega, rfl⟩
    · rcases mxN_at (c := c) (f := f) n with h | ⟨k, hk, h⟩
      · exact Or.inl h
      · exact Or.inr ⟨k, by omega, h⟩
theorem mxN_ext {c : Int} {f g : Nat → Int} : ∀ n : Nat, (∀ k, k < n → f k = g k) → mxN c f n = mxN c g n
  | 0, _ => rfl
  | n + 1, h => by unfold mxN; rw [mxN_ext n (fun k hk => h k (by omega)), h n (by omega)]
/-- what a bin saves with a set turned; the two reckonings -/
def svS (w b m : Nat → Int) (s k : Nat) : Int := if bt s k = 0 ∧ (pc8 s : Int) < w k then b k + m (s + 2 ^ k) else 0
def RecC (n : Nat) (w b m : Nat → Int) : Prop := ∀ s, s < 2 ^ n → m s = mxN 0 (svS w b m s) n
def svR (w b : Nat → Int) (W : Nat → Nat → Int) (t s k : Nat) : Int := if bt s k = 0 ∧ (t : Int) < w k then b k + W (t + 1) (s + 2 ^ k) else 0
def RecR (n : Nat) (w b : Nat → Int) (W : Nat → Nat → Int) : Prop := (∀ s, s < 2 ^ n → W 20 s = 0) ∧ ∀ t s, t < 20 → s < 2 ^ n → W t s = mxN (W (t + 1) s) (svR w b W t s) n
theorem recR_nn {n : Nat} (hn : n ≤ 8) {w b : Nat → Int} {W : Nat → Nat → Int} (h : RecR n w b W) : ∀ j t s : Nat, t + j = 20 → s < 2 ^ n → 0 ≤ W t s
  | 0, t, s, e, hs => by
    have : t = 20 := by omega
    subst this; rw [h.1 s hs]; exact Int.le_refl _
  | j + 1, t, s, e, hs => by
    rw [h.2 t s (by omega) hs]
    exact Int.le_trans (recR_nn hn h j (t + 1) s (by omega) hs) (mxN_c n)
theorem rec_le {n : Nat} (hn : n ≤ 8) {w b m : Nat → Int} {W : Nat → Nat → Int} (hb : ∀ k, k < n → 1 ≤ b k) (hC : RecC n w b m) (hR : RecR n w b W) : ∀ j t s : Nat, t + j = 20 → s < 2 ^ n → pc8 s ≤ t → W t s ≤ m s
  | 0, t, s, e, hs, hp => by
    have : t = 20 := by omega
    subst this; rw [hR.1 s hs, hC s hs]; exact mxN_c n
  | j + 1, t, s, e, hs, hp => by
    have p8 := pow_b hn
    rw [hR.2 t s (by omega) hs]
    refine mxN_le n (rec_le hn hb hC hR j (t + 1) s (by omega) hs (by omega)) (fun k hk => ?_)
    have hm : svS w b m s k ≤ m s := by rw [hC s hs]; exact mxN_ge n k hk
    unfold svR
    by_cases c : bt s k = 0 ∧ (t : Int) < w k
    · rw [if_pos c]
      have q := or_bit (s := s) (k := k) (by omega) (by omega) c.1
      have r := rec_le hn hb hC hR j (t + 1) (s + 2 ^ k) (by omega) (st_at hn hs hk c.1) (by omega)
      unfold svS at hm
      rw [if_pos ⟨c.1, by omega⟩] at hm
      omega
    · rw [if_neg c]
      have h0 : 0 ≤ m s := by rw [hC s hs]; exact mxN_c n
      exact h0
theorem rec_ge {n : Nat} (hn : n ≤ 8) {w b m : Nat → Int} {W : Nat → Nat → Int} (hC : RecC n w b m) (hR : RecR n w b W) : ∀ j s : Nat, s + j = 2 ^ n → 0 < j → m s ≤ W (pc8 s) s := by
  intro j
  induction j using Nat.strongRecOn with
  | _ j ih =>
    intro s e hj
    have p8 := pow_b hn
    have hs : s < 2 ^ n := by omega
    have hp := pc8_b s
    rw [hC s hs]
    refine mxN_le n (recR_nn hn hR (20 - pc8 s) (pc8 s) s (by omega) hs) (fun k hk => ?_)
    have hm : svR w b W (pc8 s) s k ≤ W (pc8 s) s := by
      rw [hR.2 (pc8 s) s (by omega) hs]; exact mxN_ge n k hk
    unfold svS
    by_cases c : bt s k = 0 ∧ (pc8 s : Int) < w k
    · rw [if_pos c]
      have q := or_bit (s := s) (k := k) (by omega) (by omega) c.1
      have hst := st_at hn hs hk c.1
      have hpk : 0 < 2 ^ k := Nat.pos_of_ne_zero (by exact Nat.ne_of_gt (Nat.two_pow_pos k))
      have r := ih (2 ^ n - (s + 2 ^ k)) (by omega) (s + 2 ^ k) (by omega) (by omega)
      rw [q.2.1] at r
      unfold svR at hm
      rw [if_pos c] at hm
      omega
    · rw [if_neg c]
      exact recR_nn hn hR (20 - pc8 s) (pc8 s) s (by omega) hs
theorem rec_eq {n : Nat} (hn : n ≤ 8) {w b m : Nat → Int} {W : Nat → Nat → Int} (hb : ∀ k, k < n → 1 ≤ b k) (hC : RecC n w b m) (hR : RecR n w b W) {s : Nat} (hs : s < 2 ^ n) : W (pc8 s) s = m s := by
  have h1 := rec_le hn hb hC hR (20 - pc8 s) (pc8 s) s (by have := pc8_b s; omega) hs (Nat.le_refl _)
  have h2 := rec_ge hn hC hR (2 ^ n - s) s (by omega) (by omega)
  omega
