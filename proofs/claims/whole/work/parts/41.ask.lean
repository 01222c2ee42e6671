/-! tools of the pure part: what runs well; sums; the question that a text is asked -/
def Ok (r : Res) (P : Int → Mem → Prop) : Prop := ∃ v M, r = some (v, M) ∧ P v M
theorem ok_ret {v : Int} {M : Mem} {P : Int → Mem → Prop} (h : P v M) : Ok (some (v, M)) P := ⟨v, M, rfl, h⟩
theorem ok_let {α : Type} {v : α} {k : α → Res} {P : Int → Mem → Prop} (h : Ok (k v) P) : Ok (blet v k) P := h
theorem ok_chk {c : Prop} [Decidable c] {k : Res} {P : Int → Mem → Prop} (hc : c) (h : Ok k P) : Ok (chk c k) P := by rw [chk_t hc]; exact h
theorem ok_call {r : Res} {Q P : Int → Mem → Prop} {k : Int → Mem → Res} (h : Ok r Q) (hk : ∀ v M, Q v M → Ok (k v M) P) : Ok (bcall r k) P := by
  obtain ⟨v, M, e, q⟩ := h; rw [e]; exact hk v M q
theorem ok_if {c : Prop} [Decidable c] {a b : Res} {P : Int → Mem → Prop} (h1 : c → Ok a P) (h2 : ¬ c → Ok b P) : Ok (if c then a else b) P := by
  by_cases h : c
  · rw [if_pos h]; exact h1 h
  · rw [if_neg h]; exact h2 h
theorem ok_t {c : Prop} [Decidable c] {a b : Res} {P : Int → Mem → Prop} (h : c) (h1 : Ok a P) : Ok (if c then a else b) P := by rw [if_pos h]; exact h1
theorem ok_f {c : Prop} [Decidable c] {a b : Res} {P : Int → Mem → Prop} (h : ¬ c) (h1 : Ok b P) : Ok (if c then a else b) P := by rw [if_neg h]; exact h1
theorem ok_mono {r : Res} {P Q : Int → Mem → Prop} (h : Ok r P) (hq : ∀ v M, P v M → Q v M) : Ok r Q := by
  obtain ⟨v, M, e, q⟩ := h; exact ⟨v, M, e, hq v M q⟩
/-- what is known of the end, and what it did not touch -/
theorem ok_fr {r : Res} {P : Int → Mem → Prop} {A : List Nat} {F : List (Nat × Nat)} {M : Mem} (h : Ok r P) (hf : ∀ r1, r = some r1 → Fr A F M r1.2) : Ok r (fun v M' => P v M' ∧ Fr A F M M') := by
  obtain ⟨v, M', e, q⟩ := h; exact ⟨v, M', e, q, hf _ e⟩
theorem ok_eq {r : Res} {v : Int} {M : Mem} {P : Int → Mem → Prop} (e : r = some (v, M)) (h : P v M) : Ok r P := ⟨v, M, e, h⟩
theorem e_let {α : Type} {v : α} {k : α → Res} {R : Res} (h : k v = R) : blet v k = R := h
theorem e_chk {c : Prop} [Decidable c] {k R : Res} (hc : c) (h : k = R) : chk c k = R := by rw [chk_t hc]; exact h
theorem e_t {c : Prop} [Decidable c] {a b R : Res} (hc : c) (h : a = R) : (if c then a else b) = R := by rw [if_pos hc]; exact h
theorem e_f {c : Prop} [Decidable c] {a b R : Res} (hc : ¬ c) (h : b = R) : (if c then a else b) = R := by rw [if_neg hc]; exact h
theorem e_call {d : Res} {v : Int} {M : Mem} {k : Int → Mem → Res} {R : Res} (e : d = some (v, M)) (h : k v M = R) : bcall d k = R := by rw [e]; exact h
theorem e_cs {v : Int} {M : Mem} {k : Int → Mem → Res} {R : Res} (h : k v M = R) : bcall (some (v, M)) k = R := h
theorem e_clet {α : Type} {v : α} {q : α → Res} {k : Int → Mem → Res} {R : Res} (h : bcall (q v) k = R) : bcall (blet v q) k = R := h
theorem e_cchk {c : Prop} [Decidable c] {q : Res} {k : Int → Mem → Res} {R : Res} (hc : c) (h : bcall q k = R) : bcall (chk c q) k = R := by rw [chk_t hc]; exact h
theorem e_ct {c : Prop} [Decidable c] {a b R : Res} {k : Int → Mem → Res} (hc : c) (h : bcall a k = R) : bcall (if c then a else b) k = R := by rw [if_pos hc]; exact h
theorem e_cf {c : Prop} [Decidable c] {a b R : Res} {k : Int → Mem → Res} (hc : ¬ c) (h : bcall b k = R) : bcall (if c then a else b) k = R := by rw [if_neg hc]; exact h
theorem e_cc {d R : Res} {q k : Int → Mem → Res} (h : bcall d (fun v M => bcall (q v M) k) = R) : bcall (bcall d q) k = R := by
  rw [← h]; cases d <;> rfl
theorem e_sp {c : Prop} [Decidable c] {a b R : Res} (h1 : c → a = R) (h2 : ¬ c → b = R) : (if c then a else b) = R := by
  by_cases h : c
  · rw [if_pos h]; exact h1 h
  · rw [if_neg h]; exact h2 h
theorem e_csp {c : Prop} [Decidable c] {a b R : Res} {k : Int → Mem → Res} (h1 : c → bcall a k = R) (h2 : ¬ c → bcall b k = R) : bcall (if c then a else b) k = R := by
  by_cases h : c
  · rw [if_pos h]; exact h1 h
  · rw [if_neg h]; exact h2 h
theorem ok_cs {v : Int} {M : Mem} {k : Int → Mem → Res} {P : Int → Mem → Prop} (h : Ok (k v M) P) : Ok (bcall (some (v, M)) k) P := h
theorem ok_clet {α : Type} {v : α} {q : α → Res} {k : Int → Mem → Res} {P : Int → Mem → Prop} (h : Ok (bcall (q v) k) P) : Ok (bcall (blet v q) k) P := h
theorem ok_cchk {c : Prop} [Decidable c] {q : Res} {k : Int → Mem → Res} {P : Int → Mem → Prop} (hc : c) (h : Ok (bcall q k) P) : Ok (bcall (chk c q) k) P := by rw [chk_t hc]; exact h
theorem ok_ct {c : Prop} [Decidable c] {a b : Res} {P : Int → Mem → Prop} {k : Int → Mem → Res} (hc : c) (h : Ok (bcall a k) P) : Ok (bcall (if c then a else b) k) P := by rw [if_pos hc]; exact h
theorem ok_cf {c : Prop} [Decidable c] {a b : Res} {P : Int → Mem → Prop} {k : Int → Mem → Res} (hc : ¬ c) (h : Ok (bcall b k) P) : Ok (bcall (if c then a else b) k) P := by rw [if_neg hc]; exact h
theorem ok_cc {d : Res} {P : Int → Mem → Prop} {q k : Int → Mem → Res} (h : Ok (bcall d (fun v M => bcall (q v M) k)) P) : Ok (bcall (bcall d q) k) P := by
  cases d <;> exact h
theorem ok_sp {c : Prop} [Decidable c] {a b : Res} {P : Int → Mem → Prop} (h1 : c → Ok a P) (h2 : ¬ c → Ok b P) : Ok (if c then a else b) P := ok_if h1 h2
theorem ok_csp {c : Prop} [Decidable c] {a b : Res} {P : Int → Mem → Prop} {k : Int → Mem → Res} (h1 : c → Ok (bcall a k) P) (h2 : ¬ c → Ok (bcall b k) P) : Ok (bcall (if c then a else b) k) P := by
  by_cases h : c
  · rw [if_pos h]; exact h1 h
  · rw [if_neg h]; exact h2 h
theorem ok_call_eq {d : Res} {v : Int} {M : Mem} {k : Int → Mem → Res} {P : Int → Mem → Prop} (e : d = some (v, M)) (h : Ok (k v M) P) : Ok (bcall d k) P := by rw [e]; exact h
theorem Fr.c {A : List Nat} {F : List (Nat × Nat)} {M M' : Mem} (h : Fr A F M M') (c : Nat) (h1 : c ∉ A) (h2 : ∀ q ∈ F, q.1 ≠ c) : M' c = M c := by
  funext j; exact h c h1 j (fun z => h2 _ z rfl)
theorem Fr.f {A : List Nat} {F : List (Nat × Nat)} {M M' : Mem} (h : Fr A F M M') (c j : Nat) (h1 : c ∉ A) (h2 : (c, j) ∉ F) : M' c j = M c j := h c h1 j h2
/-- sums -/
def sm (w : Nat → Int) : Nat → Int
  | 0 => 0
  | n + 1 => sm w n + w n
theorem sm_ext {w v : Nat → Int} : ∀ n : Nat, (∀ i, i < n → w i = v i) → sm w n = sm v n
  | 0, _ => rfl
  | n + 1, h => by unfold sm; rw [sm_ext n (fun i hi => h i (by omega)), h n (by omega)]
theorem sm_0 {w : Nat → Int} : ∀ n : Nat, (∀ i, i < n → w i = 0) → sm w n = 0
  | 0, _ => rfl
  | n + 1, h => by unfold sm; rw [sm_0 n (fun i hi => h i (by omega)), h n (by omega)]; rfl
theorem sm_add {w v : Nat → Int} : ∀ n : Nat, sm (fun i => w i + v i) n = sm w n + sm v n
  | 0 => rfl
  | n + 1 => by unfold sm; rw [sm_add n]; omega
theorem sm_sub {w v : Nat → Int} : ∀ n : Nat, sm (fun i => w i - v i) n = sm w n - sm v n
  | 0 => rfl
  | n + 1 => by unfold sm; rw [sm_sub n]; omega
theorem sm_le {w v : Nat → Int} : ∀ n : Nat, (∀ i, i < n → w i ≤ v i) → sm w n ≤ sm v n
  | 0, _ => Int.le_refl _
  | n + 1, h => by
    unfold sm
    have h1 := sm_le n (fun i hi => h i (by omega))
    have h2 := h n (by omega)
    omega
theorem sm_nn {w : Nat → Int} : ∀ n : Nat, (∀ i, i < n → 0 ≤ w i) → 0 ≤ sm w n
  | 0, _ => Int.le_refl _
  | n + 1, h => by
    unfold sm
    have h1 := sm_nn n (fun i hi => h i (by omega))
    have h2 := h n (by omega)
    omega
theorem sm_ge {w : Nat → Int} : ∀ n : Nat, (∀ i, i < n → 0 ≤ w i) → ∀ j, j < n → w j ≤ sm w n
  | 0, _, j, hj => by omega
  | n + 1, h, j, hj => by
    unfold sm
    have h0 := sm_nn n (fun i hi => h i (by omega))
    have h2 := h n (by omega)
    by_cases e : j = n
    · subst e; omega
    · have h1 := sm_ge n (fun i hi => h i (by omega)) j (by omega)
      omega
theorem sm_mul {w : Nat → Int} {a : Int} : ∀ n : Nat, sm (fun i => a * w i) n = a * sm w n
  | 0 => by unfold sm; rw [Int.mul_zero]
  | n + 1 => by unfold sm; rw [sm_mul n, Int.mul_add]
theorem sm_split {w : Nat → Int} (m : Nat) : ∀ n : Nat, sm w (m + n) = sm w m + sm (fun i => w (m + i)) n
  | 0 => by show sm w m = sm w m + 0; omega
  | n + 1 => by
    show sm w (m + n) + w (m + n) = sm w m + (sm (fun i => w (m + i)) n + w (m + n))
    rw [sm_split m n]; omega
/-- one entry changed -/
def up (e : Nat → Int) (j : Nat) (v : Int) : Nat → Int := fun i => if i = j then v else e i
theorem up_e {e : Nat → Int} {j : Nat} {v : Int} : up e j v j = v := by unfold up; rw [if_pos rfl]
theorem up_n {e : Nat → Int} {j i : Nat} {v : Int} (h : i ≠ j) : up e j v i = e i := by unfold up; rw [if_neg h]
theorem up_comm {e : Nat → Int} {j k : Nat} {v w : Int} (h : j ≠ k) : up (up e j v) k w = up (up e k w) j v := by
  funext i; unfold up
  by_cases h1 : i = j
  · subst h1; rw [if_neg h, if_pos rfl, if_pos rfl]
  · rw [if_neg h1, if_neg h1]
theorem sto_up {M : Mem} {c j : Nat} {v : Int} : sto M c j v c = up (M c) j v := by
  funext b; rw [sto_c, if_pos rfl]; rfl
theorem sm_up {w : Nat → Int} {j : Nat} {v : Int} : ∀ n : Nat, j < n → sm (up w j v) n = sm w n + (v - w j)
  | 0, h => by omega
  | n + 1, h => by
    unfold sm
    by_cases e : j = n
    · subst e; rw [up_e, sm_ext (v := w) j (fun i hi => up_n (by omega))]; omega
    · rw [sm_up n (by omega), up_n (by omega)]; omega
theorem sm_up' {w : Nat → Int} {j n : Nat} {v : Int} (h : n ≤ j) : sm (up w j v) n = sm w n := sm_ext n (fun i hi => up_n (by omega))
/-- the environment of a question -/
def ev (V : Nat → Int) : Nat → Int := fun i => if i < 11 then w64 (V i) else 0
def e0 : Nat → Int := fun _ => 0
theorem ev_up {V : Nat → Int} {j : Nat} {v : Int} (h : j < 11) : ev (up V j v) = up (ev V) j (w64 v) := by
  funext i; unfold ev up
  by_cases h1 : i = j
  · subst h1; rw [if_pos h, if_pos rfl, if_pos rfl]
  · rw [if_neg h1, if_neg h1]
theorem ev_0 {V : Nat → Int} (h : ∀ i, i < 11 → V i = 0) : ev V = e0 := by
  funext i; unfold ev e0
  by_cases h1 : i < 11
  · rw [if_pos h1, h i h1]; rfl
  · rw [if_neg h1]
theorem ev_c {V W : Nat → Int} (h : ∀ i, i < 11 → V i = W i) : ev V = ev W := by
  funext i; unfold ev
  by_cases h1 : i < 11
  · rw [if_pos h1, if_pos h1, h i h1]
  · rw [if_neg h1, if_neg h1]
/-- the text in force -/
def fcF (fr : Nat → Int) (w : Int) : Nat → Int
  | 0 => -1
  | n + 1 => if fr n ≤ w ∧ (fcF fr w n < 0 ∨ fr (fcF fr w n).toNat ≤ fr n) then (n : Int) else fcF fr w n
theorem fcF_r {fr : Nat → Int} {w : Int} : ∀ n : Nat, -1 ≤ fcF fr w n ∧ fcF fr w n < n
  | 0 => by unfold fcF; omega
  | n + 1 => by
    have h := fcF_r (fr := fr) (w := w) n
    unfold fcF
    split
    · omega
    · omega
theorem fcF_c {fr fr' : Nat → Int} {w : Int} : ∀ n : Nat, (∀ i, i < n → fr i = fr' i) → fcF fr w n = fcF fr' w n
  | 0, _ => rfl
  | n + 1, h => by
    have q := fcF_r (fr := fr') (w := w) n
    have e1 : fcF fr w n = fcF fr' w n := fcF_c n (fun i hi => h i (by omega))
    have e2 := h n (by omega)
    unfold fcF
    rw [e1, e2]
    by_cases e : fcF fr' w n < 0
    · simp only [e, true_or, and_true]
    · rw [h _ (by omega)]
theorem l_begin {w : Int} {N : Nat} {M : Mem} (hN : N ≤ 4) (hT : M 32 0 = N) (hw : 0 ≤ w ∧ w ≤ 519) (hf : ∀ i : Nat, i < N → 0 ≤ M (39 + 4 * i) 0 ∧ M (39 + 4 * i) 0 ≤ 519) :
    ∀ n fuel k : Nat, k + n = N → n < fuel → fix (fun _ _ _ => none) k_As_begin_15 fuel w (k : Int) (sto M 32 2 (fcF (fun i => M (39 + 4 * i) 0) w k)) = some (0, sto M 32 2 (fcF (fun i => M (39 + 4 * i) 0) w N)) := by
  intro n; induction n with
  | zero =>
    intro fuel k e hf'
    obtain ⟨f, rfl⟩ : ∃ f, fuel = f + 1 := ⟨fuel - 1, by omega⟩
    rw [fix_s]; unfold k_As_begin_15
    repeat (first | with_reducible refine e_let ?_ | with_reducible refine e_cs ?_ | with_reducible refine e_clet ?_ | with_reducible refine e_cc ?_ | (with_reducible refine e_chk ?_ ?_; · (first | omega | ((try simp (disch := omega) only [w32_eq, w64_eq, ix_n, ix_e, sto_n, sto_e, sto_r, zf_r, Int.toNat_natCast, true_or, or_true, eq_self, hT]) <;> (first | omega | decide)))) | (with_reducible refine e_cchk ?_ ?_; · (first | omega | ((try simp (disch := omega) only [w32_eq, w64_eq, ix_n, ix_e, sto_n, sto_e, sto_r, zf_r, Int.toNat_natCast, true_or, or_true, eq_self, hT]) <;> (first | omega | decide)))) | (with_reducible refine e_t ?_ ?_; · (first | omega | ((try simp (disch := omega) only [w32_eq, w64_eq, ix_n, ix_e, sto_n, sto_e, sto_r, zf_r, Int.toNat_natCast, true_or, or_true, eq_self, hT]) <;> (first | omega | decide)))) | (with_reducible refine e_f ?_ ?_; · (first | omega | ((try simp (disch := omega) only [w32_eq, w64_eq, ix_n, ix_e, sto_n, sto_e, sto_r, zf_r, Int.toNat_natCast, true_or, or_true, eq_self, hT]) <;> (first | omega | decide)))) | (with_reducible refine e_ct ?_ ?_; · (first | omega | ((try simp (disch := omega) only [w32_eq, w64_eq, ix_n, ix_e, sto_n, sto_e, sto_r, zf_r, Int.toNat_natCast, true_or, or_true, eq_self, hT]) <;> (first | omega | decide)))) | (with_reducible refine e_cf ?_ ?_; · (first | omega | ((try simp (disch := omega) only [w32_eq, w64_eq, ix_n, ix_e, sto_n, sto_e, sto_r, zf_r, Int.toNat_natCast, true_or, or_true, eq_self, hT]) <;> (first | omega | decide)))))
    rw [show k = N by omega]
  | succ n ih =>
    intro fuel k e hf'
    have hk := hf k (by omega)
    have hr := fcF_r (fr := fun i => M (39 + 4 * i) 0) (w := w) k
    have hs : fcF (fun i => M (39 + 4 * i) 0) w (k + 1) = if M (39 + 4 * k) 0 ≤ w ∧ (fcF (fun i => M (39 + 4 * i) 0) w k < 0 ∨ M (39 + 4 * (fcF (fun i => M (39 + 4 * i) 0) w k).toNat) 0 ≤ M (39 + 4 * k) 0) then (k : Int) else fcF (fun i => M (39 + 4 * i) 0) w k := rfl
    obtain ⟨f, rfl⟩ : ∃ f, fuel = f + 1 := ⟨fuel - 1, by omega⟩
    rw [fix_s]
    have := ih f (k + 1) (by omega) (by omega)
    generalize fcF (fun i => M (39 + 4 * i) 0) w k = t at hr hs
    have hj : (k : Int) + 1 = ((k + 1 : Nat) : Int) := by omega
    rw [← hj] at this
    unfold k_As_begin_15
    by_cases c1 : M (39 + 4 * k) 0 ≤ w
    · by_cases c2 : t < 0
      · rw [if_pos (by omega)] at hs
        repeat (first | with_reducible refine e_let ?_ | with_reducible refine e_cs ?_ | with_reducible refine e_clet ?_ | with_reducible refine e_cc ?_ | (with_reducible refine e_chk ?_ ?_; · (first | omega | ((try simp (disch := omega) only [w32_eq, w64_eq, ix_n, ix_e, sto_n, sto_e, sto_r, zf_r, Int.toNat_natCast, true_or, or_true, eq_self, hT]) <;> (first | omega | decide)))) | (with_reducible refine e_cchk ?_ ?_; · (first | omega | ((try simp (disch := omega) only [w32_eq, w64_eq, ix_n, ix_e, sto_n, sto_e, sto_r, zf_r, Int.toNat_natCast, true_or, or_true, eq_self, hT]) <;> (first | omega | decide)))) | (with_reducible refine e_t ?_ ?_; · (first | omega | ((try simp (disch := omega) only [w32_eq, w64_eq, ix_n, ix_e, sto_n, sto_e, sto_r, zf_r, Int.toNat_natCast, true_or, or_true, eq_self, hT]) <;> (first | omega | decide)))) | (with_reducible refine e_f ?_ ?_; · (first | omega | ((try simp (disch := omega) only [w32_eq, w64_eq, ix_n, ix_e, sto_n, sto_e, sto_r, zf_r, Int.toNat_natCast, true_or, or_true, eq_self, hT]) <;> (first | omega | decide)))) | (with_reducible refine e_ct ?_ ?_; · (first | omega | ((try simp (disch := omega) only [w32_eq, w64_eq, ix_n, ix_e, sto_n, sto_e, sto_r, zf_r, Int.toNat_natCast, true_or, or_true, eq_self, hT]) <;> (first | omega | decide)))) | (with_reducible refine e_cf ?_ ?_; · (first | omega | ((try simp (disch := omega) only [w32_eq, w64_eq, ix_n, ix_e, sto_n, sto_e, sto_r, zf_r, Int.toNat_natCast, true_or, or_true, eq_self, hT]) <;> (first | omega | decide)))))
        unfold k_As_begin_41
        repeat (first | with_reducible refine e_let ?_ | with_reducible refine e_cs ?_ | with_reducible refine e_clet ?_ | with_reducible refine e_cc ?_ | (with_reducible refine e_chk ?_ ?_; · (first | omega | ((try simp (disch := omega) only [w32_eq, w64_eq, ix_n, ix_e, sto_n, sto_e, sto_r, zf_r, Int.toNat_natCast, true_or, or_true, eq_self, hT]) <;> (first | omega | decide)))) | (with_reducible refine e_cchk ?_ ?_; · (first | omega | ((try simp (disch := omega) only [w32_eq, w64_eq, ix_n, ix_e, sto_n, sto_e, sto_r, zf_r, Int.toNat_natCast, true_or, or_true, eq_self, hT]) <;> (first | omega | decide)))) | (with_reducible refine e_t ?_ ?_; · (first | omega | ((try simp (disch := omega) only [w32_eq, w64_eq, ix_n, ix_e, sto_n, sto_e, sto_r, zf_r, Int.toNat_natCast, true_or, or_true, eq_self, hT]) <;> (first | omega | decide)))) | (with_reducible refine e_f ?_ ?_; · (first | omega | ((try simp (disch := omega) only [w32_eq, w64_eq, ix_n, ix_e, sto_n, sto_e, sto_r, zf_r, Int.toNat_natCast, true_or, or_true, eq_self, hT]) <;> (first | omega | decide)))) | (with_reducible refine e_ct ?_ ?_; · (first | omega | ((try simp (disch := omega) only [w32_eq, w64_eq, ix_n, ix_e, sto_n, sto_e, sto_r, zf_r, Int.toNat_natCast, true_or, or_true, eq_self, hT]) <;> (first | omega | decide)))) | (with_reducible refine e_cf ?_ ?_; · (first | omega | ((try simp (disch := omega) only [w32_eq, w64_eq, ix_n, ix_e, sto_n, sto_e, sto_r, zf_r, Int.toNat_natCast, true_or, or_true, eq_self, hT]) <;> (first | omega | decide)))))
        unfold k_As_begin_78 k_As_begin_83
        rw [blet_s, blet_s, sto_sto]; rw [hs] at this; exact this
      · have ht2 := hf t.toNat (by omega)
        by_cases c3 : M (39 + 4 * t.toNat) 0 ≤ M (39 + 4 * k) 0
        · rw [if_pos (by omega)] at hs
          repeat (first | with_reducible refine e_let ?_ | with_reducible refine e_cs ?_ | with_reducible refine e_clet ?_ | with_reducible refine e_cc ?_ | (with_reducible refine e_chk ?_ ?_; · (first | omega | ((try simp (disch := omega) only [w32_eq, w64_eq, ix_n, ix_e, sto_n, sto_e, sto_r, zf_r, Int.toNat_natCast, true_or, or_true, eq_self, hT]) <;> (first | omega | decide)))) | (with_reducible refine e_cchk ?_ ?_; · (first | omega | ((try simp (disch := omega) only [w32_eq, w64_eq, ix_n, ix_e, sto_n, sto_e, sto_r, zf_r, Int.toNat_natCast, true_or, or_true, eq_self, hT]) <;> (first | omega | decide)))) | (with_reducible refine e_t ?_ ?_; · (first | omega | ((try simp (disch := omega) only [w32_eq, w64_eq, ix_n, ix_e, sto_n, sto_e, sto_r, zf_r, Int.toNat_natCast, true_or, or_true, eq_self, hT]) <;> (first | omega | decide)))) | (with_reducible refine e_f ?_ ?_; · (first | omega | ((try simp (disch := omega) only [w32_eq, w64_eq, ix_n, ix_e, sto_n, sto_e, sto_r, zf_r, Int.toNat_natCast, true_or, or_true, eq_self, hT]) <;> (first | omega | decide)))) | (with_reducible refine e_ct ?_ ?_; · (first | omega | ((try simp (disch := omega) only [w32_eq, w64_eq, ix_n, ix_e, sto_n, sto_e, sto_r, zf_r, Int.toNat_natCast, true_or, or_true, eq_self, hT]) <;> (first | omega | decide)))) | (with_reducible refine e_cf ?_ ?_; · (first | omega | ((try simp (disch := omega) only [w32_eq, w64_eq, ix_n, ix_e, sto_n, sto_e, sto_r, zf_r, Int.toNat_natCast, true_or, or_true, eq_self, hT]) <;> (first | omega | decide)))))
          unfold k_As_begin_41
          repeat (first | with_reducible refine e_let ?_ | with_reducible refine e_cs ?_ | with_reducible refine e_clet ?_ | with_reducible refine e_cc ?_ | (with_reducible refine e_chk ?_ ?_; · (first | omega | ((try simp (disch := omega) only [w32_eq, w64_eq, ix_n, ix_e, sto_n, sto_e, sto_r, zf_r, Int.toNat_natCast, true_or, or_true, eq_self, hT]) <;> (first | omega | decide)))) | (with_reducible refine e_cchk ?_ ?_; · (first | omega | ((try simp (disch := omega) only [w32_eq, w64_eq, ix_n, ix_e, sto_n, sto_e, sto_r, zf_r, Int.toNat_natCast, true_or, or_true, eq_self, hT]) <;> (first | omega | decide)))) | (with_reducible refine e_t ?_ ?_; · (first | omega | ((try simp (disch := omega) only [w32_eq, w64_eq, ix_n, ix_e, sto_n, sto_e, sto_r, zf_r, Int.toNat_natCast, true_or, or_true, eq_self, hT]) <;> (first | omega | decide)))) | (with_reducible refine e_f ?_ ?_; · (first | omega | ((try simp (disch := omega) only [w32_eq, w64_eq, ix_n, ix_e, sto_n, sto_e, sto_r, zf_r, Int.toNat_natCast, true_or, or_true, eq_self, hT]) <;> (first | omega | decide)))) | (with_reducible refine e_ct ?_ ?_; · (first | omega | ((try simp (disch := omega) only [w32_eq, w64_eq, ix_n, ix_e, sto_n, sto_e, sto_r, zf_r, Int.toNat_natCast, true_or, or_true, eq_self, hT]) <;> (first | omega | decide)))) | (with_reducible refine e_cf ?_ ?_; · (first | omega | ((try simp (disch := omega) only [w32_eq, w64_eq, ix_n, ix_e, sto_n, sto_e, sto_r, zf_r, Int.toNat_natCast, true_or, or_true, eq_self, hT]) <;> (first | omega | decide)))))
          unfold k_As_begin_78 k_As_begin_83
          rw [blet_s, blet_s, sto_sto]; rw [hs] at this; exact this
        · rw [if_neg (by omega)] at hs
          repeat (first | with_reducible refine e_let ?_ | with_reducible refine e_cs ?_ | with_reducible refine e_clet ?_ | with_reducible refine e_cc ?_ | (with_reducible refine e_chk ?_ ?_; · (first | omega | ((try simp (disch := omega) only [w32_eq, w64_eq, ix_n, ix_e, sto_n, sto_e, sto_r, zf_r, Int.toNat_natCast, true_or, or_true, eq_self, hT]) <;> (first | omega | decide)))) | (with_reducible refine e_cchk ?_ ?_; · (first | omega | ((try simp (disch := omega) only [w32_eq, w64_eq, ix_n, ix_e, sto_n, sto_e, sto_r, zf_r, Int.toNat_natCast, true_or, or_true, eq_self, hT]) <;> (first | omega | decide)))) | (with_reducible refine e_t ?_ ?_; · (first | omega | ((try simp (disch := omega) only [w32_eq, w64_eq, ix_n, ix_e, sto_n, sto_e, sto_r, zf_r, Int.toNat_natCast, true_or, or_true, eq_self, hT]) <;> (first | omega | decide)))) | (with_reducible refine e_f ?_ ?_; · (first | omega | ((try simp (disch := omega) only [w32_eq, w64_eq, ix_n, ix_e, sto_n, sto_e, sto_r, zf_r, Int.toNat_natCast, true_or, or_true, eq_self, hT]) <;> (first | omega | decide)))) | (with_reducible refine e_ct ?_ ?_; · (first | omega | ((try simp (disch := omega) only [w32_eq, w64_eq, ix_n, ix_e, sto_n, sto_e, sto_r, zf_r, Int.toNat_natCast, true_or, or_true, eq_self, hT]) <;> (first | omega | decide)))) | (with_reducible refine e_cf ?_ ?_; · (first | omega | ((try simp (disch := omega) only [w32_eq, w64_eq, ix_n, ix_e, sto_n, sto_e, sto_r, zf_r, Int.toNat_natCast, true_or, or_true, eq_self, hT]) <;> (first | omega | decide)))))
          unfold k_As_begin_41
          repeat (first | with_reducible refine e_let ?_ | with_reducible refine e_cs ?_ | with_reducible refine e_clet ?_ | with_reducible refine e_cc ?_ | (with_reducible refine e_chk ?_ ?_; · (first | omega | ((try simp (disch := omega) only [w32_eq, w64_eq, ix_n, ix_e, sto_n, sto_e, sto_r, zf_r, Int.toNat_natCast, true_or, or_true, eq_self, hT]) <;> (first | omega | decide)))) | (with_reducible refine e_cchk ?_ ?_; · (first | omega | ((try simp (disch := omega) only [w32_eq, w64_eq, ix_n, ix_e, sto_n, sto_e, sto_r, zf_r, Int.toNat_natCast, true_or, or_true, eq_self, hT]) <;> (first | omega | decide)))) | (with_reducible refine e_t ?_ ?_; · (first | omega | ((try simp (disch := omega) only [w32_eq, w64_eq, ix_n, ix_e, sto_n, sto_e, sto_r, zf_r, Int.toNat_natCast, true_or, or_true, eq_self, hT]) <;> (first | omega | decide)))) | (with_reducible refine e_f ?_ ?_; · (first | omega | ((try simp (disch := omega) only [w32_eq, w64_eq, ix_n, ix_e, sto_n, sto_e, sto_r, zf_r, Int.toNat_natCast, true_or, or_true, eq_self, hT]) <;> (first | omega | decide)))) | (with_reducible refine e_ct ?_ ?_; · (first | omega | ((try simp (disch := omega) only [w32_eq, w64_eq, ix_n, ix_e, sto_n, sto_e, sto_r, zf_r, Int.toNat_natCast, true_or, or_true, eq_self, hT]) <;> (first | omega | decide)))) | (with_reducible refine e_cf ?_ ?_; · (first | omega | ((try simp (disch := omega) only [w32_eq, w64_eq, ix_n, ix_e, sto_n, sto_e, sto_r, zf_r, Int.toNat_natCast, true_or, or_true, eq_self, hT]) <;> (first | omega | decide)))))
          unfold k_As_begin_83
          rw [blet_s, ← hs]; exact this
    · rw [if_neg (by omega)] at hs
      repeat (first | with_reducible refine e_let ?_ | with_reducible refine e_cs ?_ | with_reducible refine e_clet ?_ | with_reducible refine e_cc ?_ | (with_reducible refine e_chk ?_ ?_; · (first | omega | ((try simp (disch := omega) only [w32_eq, w64_eq, ix_n, ix_e, sto_n, sto_e, sto_r, zf_r, Int.toNat_natCast, true_or, or_true, eq_self, hT]) <;> (first | omega | decide)))) | (with_reducible refine e_cchk ?_ ?_; · (first | omega | ((try simp (disch := omega) only [w32_eq, w64_eq, ix_n, ix_e, sto_n, sto_e, sto_r, zf_r, Int.toNat_natCast, true_or, or_true, eq_self, hT]) <;> (first | omega | decide)))) | (with_reducible refine e_t ?_ ?_; · (first | omega | ((try simp (disch := omega) only [w32_eq, w64_eq, ix_n, ix_e, sto_n, sto_e, sto_r, zf_r, Int.toNat_natCast, true_or, or_true, eq_self, hT]) <;> (first | omega | decide)))) | (with_reducible refine e_f ?_ ?_; · (first | omega | ((try simp (disch := omega) only [w32_eq, w64_eq, ix_n, ix_e, sto_n, sto_e, sto_r, zf_r, Int.toNat_natCast, true_or, or_true, eq_self, hT]) <;> (first | omega | decide)))) | (with_reducible refine e_ct ?_ ?_; · (first | omega | ((try simp (disch := omega) only [w32_eq, w64_eq, ix_n, ix_e, sto_n, sto_e, sto_r, zf_r, Int.toNat_natCast, true_or, or_true, eq_self, hT]) <;> (first | omega | decide)))) | (with_reducible refine e_cf ?_ ?_; · (first | omega | ((try simp (disch := omega) only [w32_eq, w64_eq, ix_n, ix_e, sto_n, sto_e, sto_r, zf_r, Int.toNat_natCast, true_or, or_true, eq_self, hT]) <;> (first | omega | decide)))))
      unfold k_As_begin_41
      repeat (first | with_reducible refine e_let ?_ | with_reducible refine e_cs ?_ | with_reducible refine e_clet ?_ | with_reducible refine e_cc ?_ | (with_reducible refine e_chk ?_ ?_; · (first | omega | ((try simp (disch := omega) only [w32_eq, w64_eq, ix_n, ix_e, sto_n, sto_e, sto_r, zf_r, Int.toNat_natCast, true_or, or_true, eq_self, hT]) <;> (first | omega | decide)))) | (with_reducible refine e_cchk ?_ ?_; · (first | omega | ((try simp (disch := omega) only [w32_eq, w64_eq, ix_n, ix_e, sto_n, sto_e, sto_r, zf_r, Int.toNat_natCast, true_or, or_true, eq_self, hT]) <;> (first | omega | decide)))) | (with_reducible refine e_t ?_ ?_; · (first | omega | ((try simp (disch := omega) only [w32_eq, w64_eq, ix_n, ix_e, sto_n, sto_e, sto_r, zf_r, Int.toNat_natCast, true_or, or_true, eq_self, hT]) <;> (first | omega | decide)))) | (with_reducible refine e_f ?_ ?_; · (first | omega | ((try simp (disch := omega) only [w32_eq, w64_eq, ix_n, ix_e, sto_n, sto_e, sto_r, zf_r, Int.toNat_natCast, true_or, or_true, eq_self, hT]) <;> (first | omega | decide)))) | (with_reducible refine e_ct ?_ ?_; · (first | omega | ((try simp (disch := omega) only [w32_eq, w64_eq, ix_n, ix_e, sto_n, sto_e, sto_r, zf_r, Int.toNat_natCast, true_or, or_true, eq_self, hT]) <;> (first | omega | decide)))) | (with_reducible refine e_cf ?_ ?_; · (first | omega | ((try simp (disch := omega) only [w32_eq, w64_eq, ix_n, ix_e, sto_n, sto_e, sto_r, zf_r, Int.toNat_natCast, true_or, or_true, eq_self, hT]) <;> (first | omega | decide)))))
      unfold k_As_begin_83
      rw [blet_s, ← hs]; exact this
theorem s_begin {w : Int} {M : Mem} (hT : 0 ≤ M 32 0 ∧ M 32 0 ≤ 4) (hw : 0 ≤ w ∧ w ≤ 519) (hf : ∀ i : Nat, (i : Int) < M 32 0 → 0 ≤ M (39 + 4 * i) 0 ∧ M (39 + 4 * i) 0 ≤ 519) :
    d_As_begin w M = some (0, sto (zf M 34 0 11 0) 32 2 (fcF (fun i => M (39 + 4 * i) 0) w (M 32 0).toNat)) := by
  unfold d_As_begin
  rw [s_fill0 (by decide), bcall_s, blet_s]
  have z : ∀ c : Nat, c ≠ 34 → zf M 34 0 11 0 c = M c := fun c h => zf_r h
  have zz : (fun i => zf M 34 0 11 0 (39 + 4 * i) 0) = (fun i => M (39 + 4 * i) 0) := by funext i; rw [z _ (by omega)]
  have q := l_begin (w := w) (N := (M 32 0).toNat) (M := zf M 34 0 11 0) (by omega) (by rw [z _ (by decide)]; omega) hw (fun i hi => by rw [z _ (by omega)]; exact hf i (by omega)) (M 32 0).toNat FU 0 (by omega) (by unfold FU; omega)
  rw [zz] at q; exact q
theorem l_force {w : Int} {N : Nat} {M : Mem} (hN : N ≤ 4) (hT : M 111 56 = N) (hw : 0 ≤ w ∧ w ≤ 519) (hf : ∀ i : Nat, i < N → 0 ≤ M 147 i ∧ M 147 i ≤ 519) :
    ∀ n fuel k : Nat, k + n = N → n < fuel → fix (fun _ _ _ _ => none) k_Mo_force_4 fuel w (fcF (M 147) w k) (k : Int) M = some (fcF (M 147) w N, M) := by
  intro n; induction n with
  | zero =>
    intro fuel k e hf'
    obtain ⟨f, rfl⟩ : ∃ f, fuel = f + 1 := ⟨fuel - 1, by omega⟩
    rw [fix_s]; unfold k_Mo_force_4
    repeat (first | with_reducible refine e_let ?_ | with_reducible refine e_cs ?_ | with_reducible refine e_clet ?_ | with_reducible refine e_cc ?_ | (with_reducible refine e_chk ?_ ?_; · (first | omega | ((try simp (disch := omega) only [w32_eq, w64_eq, ix_n, ix_e, sto_n, sto_e, sto_r, zf_r, Int.toNat_natCast, true_or, or_true, eq_self, hT]) <;> (first | omega | decide)))) | (with_reducible refine e_cchk ?_ ?_; · (first | omega | ((try simp (disch := omega) only [w32_eq, w64_eq, ix_n, ix_e, sto_n, sto_e, sto_r, zf_r, Int.toNat_natCast, true_or, or_true, eq_self, hT]) <;> (first | omega | decide)))) | (with_reducible refine e_t ?_ ?_; · (first | omega | ((try simp (disch := omega) only [w32_eq, w64_eq, ix_n, ix_e, sto_n, sto_e, sto_r, zf_r, Int.toNat_natCast, true_or, or_true, eq_self, hT]) <;> (first | omega | decide)))) | (with_reducible refine e_f ?_ ?_; · (first | omega | ((try simp (disch := omega) only [w32_eq, w64_eq, ix_n, ix_e, sto_n, sto_e, sto_r, zf_r, Int.toNat_natCast, true_or, or_true, eq_self, hT]) <;> (first | omega | decide)))) | (with_reducible refine e_ct ?_ ?_; · (first | omega | ((try simp (disch := omega) only [w32_eq, w64_eq, ix_n, ix_e, sto_n, sto_e, sto_r, zf_r, Int.toNat_natCast, true_or, or_true, eq_self, hT]) <;> (first | omega | decide)))) | (with_reducible refine e_cf ?_ ?_; · (first | omega | ((try simp (disch := omega) only [w32_eq, w64_eq, ix_n, ix_e, sto_n, sto_e, sto_r, zf_r, Int.toNat_natCast, true_or, or_true, eq_self, hT]) <;> (first | omega | decide)))))
    rw [show k = N by omega]
  | succ n ih =>
    intro fuel k e hf'
    have hk := hf k (by omega)
    have hr := fcF_r (fr := M 147) (w := w) k
    have hs : fcF (M 147) w (k + 1) = if M 147 k ≤ w ∧ (fcF (M 147) w k < 0 ∨ M 147 (fcF (M 147) w k).toNat ≤ M 147 k) then (k : Int) else fcF (M 147) w k := rfl
    obtain ⟨f, rfl⟩ : ∃ f, fuel = f + 1 := ⟨fuel - 1, by omega⟩
    rw [fix_s]
    have := ih f (k + 1) (by omega) (by omega)
    generalize fcF (M 147) w k = t at hr hs
    have hj : (k : Int) + 1 = ((k + 1 : Nat) : Int) := by omega
    rw [← hj] at this
    unfold k_Mo_force_4
    by_cases c1 : M 147 k ≤ w
    · by_cases c2 : t < 0
      · rw [if_pos (by omega)] at hs
        repeat (first | with_reducible refine e_let ?_ | with_reducible refine e_cs ?_ | with_reducible refine e_clet ?_ | with_reducible refine e_cc ?_ | (with_reducible refine e_chk ?_ ?_; · (first | omega | ((try simp (disch := omega) only [w32_eq, w64_eq, ix_n, ix_e, sto_n, sto_e, sto_r, zf_r, Int.toNat_natCast, true_or, or_true, eq_self, hT]) <;> (first | omega | decide)))) | (with_reducible refine e_cchk ?_ ?_; · (first | omega | ((try simp (disch := omega) only [w32_eq, w64_eq, ix_n, ix_e, sto_n, sto_e, sto_r, zf_r, Int.toNat_natCast, true_or, or_true, eq_self, hT]) <;> (first | omega | decide)))) | (with_reducible refine e_t ?_ ?_; · (first | omega | ((try simp (disch := omega) only [w32_eq, w64_eq, ix_n, ix_e, sto_n, sto_e, sto_r, zf_r, Int.toNat_natCast, true_or, or_true, eq_self, hT]) <;> (first | omega | decide)))) | (with_reducible refine e_f ?_ ?_; · (first | omega | ((try simp (disch := omega) only [w32_eq, w64_eq, ix_n, ix_e, sto_n, sto_e, sto_r, zf_r, Int.toNat_natCast, true_or, or_true, eq_self, hT]) <;> (first | omega | decide)))) | (with_reducible refine e_ct ?_ ?_; · (first | omega | ((try simp (disch := omega) only [w32_eq, w64_eq, ix_n, ix_e, sto_n, sto_e, sto_r, zf_r, Int.toNat_natCast, true_or, or_true, eq_self, hT]) <;> (first | omega | decide)))) | (with_reducible refine e_cf ?_ ?_; · (first | omega | ((try simp (disch := omega) only [w32_eq, w64_eq, ix_n, ix_e, sto_n, sto_e, sto_r, zf_r, Int.toNat_natCast, true_or, or_true, eq_self, hT]) <;> (first | omega | decide)))))
        unfold k_Mo_force_41 k_Mo_force_43
        rw [hs] at this; exact this
      · have ht2 := hf t.toNat (by omega)
        by_cases c3 : M 147 t.toNat ≤ M 147 k
        · rw [if_pos (by omega)] at hs
          repeat (first | with_reducible refine e_let ?_ | with_reducible refine e_cs ?_ | with_reducible refine e_clet ?_ | with_reducible refine e_cc ?_ | (with_reducible refine e_chk ?_ ?_; · (first | omega | ((try simp (disch := omega) only [w32_eq, w64_eq, ix_n, ix_e, sto_n, sto_e, sto_r, zf_r, Int.toNat_natCast, true_or, or_true, eq_self, hT]) <;> (first | omega | decide)))) | (with_reducible refine e_cchk ?_ ?_; · (first | omega | ((try simp (disch := omega) only [w32_eq, w64_eq, ix_n, ix_e, sto_n, sto_e, sto_r, zf_r, Int.toNat_natCast, true_or, or_true, eq_self, hT]) <;> (first | omega | decide)))) | (with_reducible refine e_t ?_ ?_; · (first | omega | ((try simp (disch := omega) only [w32_eq, w64_eq, ix_n, ix_e, sto_n, sto_e, sto_r, zf_r, Int.toNat_natCast, true_or, or_true, eq_self, hT]) <;> (first | omega | decide)))) | (with_reducible refine e_f ?_ ?_; · (first | omega | ((try simp (disch := omega) only [w32_eq, w64_eq, ix_n, ix_e, sto_n, sto_e, sto_r, zf_r, Int.toNat_natCast, true_or, or_true, eq_self, hT]) <;> (first | omega | decide)))) | (with_reducible refine e_ct ?_ ?_; · (first | omega | ((try simp (disch := omega) only [w32_eq, w64_eq, ix_n, ix_e, sto_n, sto_e, sto_r, zf_r, Int.toNat_natCast, true_or, or_true, eq_self, hT]) <;> (first | omega | decide)))) | (with_reducible refine e_cf ?_ ?_; · (first | omega | ((try simp (disch := omega) only [w32_eq, w64_eq, ix_n, ix_e, sto_n, sto_e, sto_r, zf_r, Int.toNat_natCast, true_or, or_true, eq_self, hT]) <;> (first | omega | decide)))))
          unfold k_Mo_force_41 k_Mo_force_43
          rw [hs] at this; exact this
        · rw [if_neg (by omega)] at hs
          repeat (first | with_reducible refine e_let ?_ | with_reducible refine e_cs ?_ | with_reducible refine e_clet ?_ | with_reducible refine e_cc ?_ | (with_reducible refine e_chk ?_ ?_; · (first | omega | ((try simp (disch := omega) only [w32_eq, w64_eq, ix_n, ix_e, sto_n, sto_e, sto_r, zf_r, Int.toNat_natCast, true_or, or_true, eq_self, hT]) <;> (first | omega | decide)))) | (with_reducible refine e_cchk ?_ ?_; · (first | omega | ((try simp (disch := omega) only [w32_eq, w64_eq, ix_n, ix_e, sto_n, sto_e, sto_r, zf_r, Int.toNat_natCast, true_or, or_true, eq_self, hT]) <;> (first | omega | decide)))) | (with_reducible refine e_t ?_ ?_; · (first | omega | ((try simp (disch := omega) only [w32_eq, w64_eq, ix_n, ix_e, sto_n, sto_e, sto_r, zf_r, Int.toNat_natCast, true_or, or_true, eq_self, hT]) <;> (first | omega | decide)))) | (with_reducible refine e_f ?_ ?_; · (first | omega | ((try simp (disch := omega) only [w32_eq, w64_eq, ix_n, ix_e, sto_n, sto_e, sto_r, zf_r, Int.toNat_natCast, true_or, or_true, eq_self, hT]) <;> (first | omega | decide)))) | (with_reducible refine e_ct ?_ ?_; · (first | omega | ((try simp (disch := omega) only [w32_eq, w64_eq, ix_n, ix_e, sto_n, sto_e, sto_r, zf_r, Int.toNat_natCast, true_or, or_true, eq_self, hT]) <;> (first | omega | decide)))) | (with_reducible refine e_cf ?_ ?_; · (first | omega | ((try simp (disch := omega) only [w32_eq, w64_eq, ix_n, ix_e, sto_n, sto_e, sto_r, zf_r, Int.toNat_natCast, true_or, or_true, eq_self, hT]) <;> (first | omega | decide)))))
          unfold k_Mo_force_43
          rw [hs] at this; exact this
    · rw [if_neg (by omega)] at hs
      repeat (first | with_reducible refine e_let ?_ | with_reducible refine e_cs ?_ | with_reducible refine e_clet ?_ | with_reducible refine e_cc ?_ | (with_reducible refine e_chk ?_ ?_; · (first | omega | ((try simp (disch := omega) only [w32_eq, w64_eq, ix_n, ix_e, sto_n, sto_e, sto_r, zf_r, Int.toNat_natCast, true_or, or_true, eq_self, hT]) <;> (first | omega | decide)))) | (with_reducible refine e_cchk ?_ ?_; · (first | omega | ((try simp (disch := omega) only [w32_eq, w64_eq, ix_n, ix_e, sto_n, sto_e, sto_r, zf_r, Int.toNat_natCast, true_or, or_true, eq_self, hT]) <;> (first | omega | decide)))) | (with_reducible refine e_t ?_ ?_; · (first | omega | ((try simp (disch := omega) only [w32_eq, w64_eq, ix_n, ix_e, sto_n, sto_e, sto_r, zf_r, Int.toNat_natCast, true_or, or_true, eq_self, hT]) <;> (first | omega | decide)))) | (with_reducible refine e_f ?_ ?_; · (first | omega | ((try simp (disch := omega) only [w32_eq, w64_eq, ix_n, ix_e, sto_n, sto_e, sto_r, zf_r, Int.toNat_natCast, true_or, or_true, eq_self, hT]) <;> (first | omega | decide)))) | (with_reducible refine e_ct ?_ ?_; · (first | omega | ((try simp (disch := omega) only [w32_eq, w64_eq, ix_n, ix_e, sto_n, sto_e, sto_r, zf_r, Int.toNat_natCast, true_or, or_true, eq_self, hT]) <;> (first | omega | decide)))) | (with_reducible refine e_cf ?_ ?_; · (first | omega | ((try simp (disch := omega) only [w32_eq, w64_eq, ix_n, ix_e, sto_n, sto_e, sto_r, zf_r, Int.toNat_natCast, true_or, or_true, eq_self, hT]) <;> (first | omega | decide)))))
      unfold k_Mo_force_43
      rw [hs] at this; exact this
theorem s_force {w : Int} {M : Mem} (hT : 0 ≤ M 111 56 ∧ M 111 56 ≤ 4) (hw : 0 ≤ w ∧ w ≤ 519) (hf : ∀ i : Nat, (i : Int) < M 111 56 → 0 ≤ M 147 i ∧ M 147 i ≤ 519) :
    d_Mo_force w M = some (fcF (M 147) w (M 111 56).toNat, M) := by
  unfold d_Mo_force
  exact l_force (N := (M 111 56).toNat) (by omega) (by omega) hw (fun i hi => hf i (by omega)) (M 111 56).toNat FU 0 (by omega) (by unfold FU; omega)
theorem l_letN {M : Mem} : ∀ n fuel k : Nat, k + n = 11 → n < fuel → fix (fun _ _ => none) k_Mo_letNothing_2 fuel (k : Int) (zf M 156 0 k 0) = some (0, zf M 156 0 11 0) := by
  intro n; induction n with
  | zero =>
    intro fuel k e hf'
    obtain ⟨f, rfl⟩ : ∃ f, fuel = f + 1 := ⟨fuel - 1, by omega⟩
    rw [fix_s]; unfold k_Mo_letNothing_2
    simp (disch := omega) only [w32_eq, if_neg]
    rw [show k = 11 by omega]
  | succ n ih =>
    intro fuel k e hf'
    obtain ⟨f, rfl⟩ : ∃ f, fuel = f + 1 := ⟨fuel - 1, by omega⟩
    have := ih f (k + 1) (by omega) (by omega)
    rw [fix_s]; unfold k_Mo_letNothing_2
    simp (disch := omega) only [blet_s, w32_eq, if_pos, chk_t, ix_n]
    rw [show sto (zf M 156 0 k 0) 156 k 0 = zf M 156 0 (k + 1) 0 from ?_]
    · exact this
    · funext a; by_cases h : a = 156
      · subst h; funext b; rw [sto_c, if_pos rfl, zf_c, zf_c]
        by_cases h1 : b = k
        · rw [if_pos h1, if_pos (by omega)]
        · rw [if_neg h1]
          by_cases h2 : 0 ≤ b ∧ b < k
          · rw [if_pos h2, if_pos (by omega)]
          · rw [if_neg h2, if_neg (by omega)]
      · rw [sto_r h, zf_r h, zf_r h]
theorem s_letN {M : Mem} : d_Mo_letNothing M = some (0, zf M 156 0 11 0) := by
  unfold d_Mo_letNothing
  have q := l_letN (M := M) 11 FU 0 (by omega) (by unfold FU; omega)
  rw [zf_0] at q; exact q
theorem ev_zf {M : Mem} {c : Nat} : ev (zf M c 0 11 0 c) = e0 := ev_0 (fun i hi => by rw [zf_c, if_pos (by omega)])
/-- cutting an answer to its bounds -/
def clip (lo hi v : Int) : Int := if v < lo then lo else if hi < v then hi else v
theorem clip_r {lo hi v : Int} (h : lo ≤ hi) : lo ≤ clip lo hi v ∧ clip lo hi v ≤ hi := by
  unfold clip; split
  · omega
  · split <;> omega
/-- what is asked for: how the model spells it; its bounds; the answer without a text -/
def spl : Nat → Int
  | 0 => 591307
  | 1 => 6605428
  | 2 => 267652
  | 3 => 20579780
  | 4 => 86148200
  | 5 => 677454
  | _ => 23580851
def qlo : Nat → Int
  | 0 => -1000000
  | 5 => -1000000
  | _ => 0
def qhi : Nat → Int
  | 0 => 1000000
  | 5 => 1000000
  | _ => 1000
def qwo : Nat → Int
  | 6 => 1
  | _ => 0
def TxL : List Nat := [39, 40, 41, 42, 43, 44, 45, 46, 47, 48, 49, 50, 51, 52, 53, 54, 147, 148, 149, 150, 153]
def TxK : List (Nat × Nat) := [(32, 0), (111, 56)]
/-- both sides answer F -/
def AskI (F : Nat → Int → (Nat → Int) → Int) (M : Mem) : Prop :=
  (0 ≤ M 111 56 ∧ M 111 56 ≤ 4) ∧ M 32 0 = M 111 56 ∧ (∀ i : Nat, (i : Int) < M 111 56 → M (39 + 4 * i) 0 = M 147 i ∧ 0 ≤ M 147 i ∧ M 147 i ≤ 519) ∧
  (∀ (q : Nat) (w : Int) (e : Nat → Int), qlo q ≤ F q w e ∧ F q w e ≤ qhi q) ∧
  ∀ M1, Ag TxL TxK M M1 → ∀ q : Nat, q < 7 → ∀ w : Int, 0 ≤ w ∧ w ≤ 519 →
    (M1 32 2 = fcF (M 147) w (M 111 56).toNat → Ok (d_As_ask (q : Int) M1) (fun v _ => w32 v = F q w (ev (M1 34)))) ∧
    Ok (d_Mo_told (spl q) w (qwo q) M1) (fun v _ => clip (qlo q) (qhi q) (w64 v) = F q w (ev (M1 156)))
theorem Ag.trans {L : List Nat} {K : List (Nat × Nat)} {M M1 M2 : Mem} (h : Ag L K M M1) (h2 : Ag L K M1 M2) : Ag L K M M2 := ⟨fun c hc => (h2.1 c hc).trans (h.1 c hc), fun q hq => (h2.2 q hq).trans (h.2 q hq)⟩
theorem TxF {M M1 : Mem} (h : Ag TxL TxK M M1) {i : Nat} (hi : i < 4) : M1 (39 + 4 * i) 0 = M (39 + 4 * i) 0 := by
  rcases (show i = 0 ∨ i = 1 ∨ i = 2 ∨ i = 3 by omega) with e | e | e | e <;> subst e
  · rw [h.c 39 (by decide)]
  · rw [h.c 43 (by decide)]
  · rw [h.c 47 (by decide)]
  · rw [h.c 51 (by decide)]
theorem AskI.on {F : Nat → Int → (Nat → Int) → Int} {M M1 : Mem} (h : AskI F M) (hg : Ag TxL TxK M M1) : AskI F M1 := by
  obtain ⟨h1, h2, h3, h4, h5⟩ := h
  have g1 := hg.f 111 56 (by decide)
  have g2 := hg.f 32 0 (by decide)
  have g3 := hg.c 147 (by decide)
  refine ⟨by rw [g1]; exact h1, by rw [g1, g2]; exact h2, fun i hi => ?_, h4, fun M2 hm q hq w hw => ?_⟩
  · rw [g1] at hi; rw [g3, TxF hg (by omega)]; exact h3 i hi
  · rw [g1, g3]; exact h5 M2 (hg.trans hm) q hq w hw
theorem ag_of {M M1 : Mem} (h : ∀ c ∈ TxL, M1 c = M c) (h1 : M1 32 0 = M 32 0) (h2 : M1 111 56 = M 111 56) : Ag TxL TxK M M1 := by
  refine ⟨h, fun q hq => ?_⟩
  rcases List.mem_cons.mp hq with e | hq
  · subst e; exact h1
  · rcases List.mem_cons.mp hq with e | hq
    · subst e; exact h2
    · cases hq
theorem TxL_b {c : Nat} (h : c ∈ TxL) : (39 ≤ c ∧ c ≤ 54) ∨ (147 ≤ c ∧ c ≤ 150) ∨ c = 153 := by
  simp only [TxL, List.mem_cons, List.not_mem_nil, or_false] at h; omega
/-- only the environment was written -/
theorem ag_156 {M M1 : Mem} (h : ∀ c, c ≠ 156 → M1 c = M c) : Ag TxL TxK M M1 :=
  ag_of (fun c hc => h c (by have := TxL_b hc; omega)) (by rw [h 32 (by decide)]) (by rw [h 111 (by decide)])
theorem ag_34 {M M1 : Mem} (h : ∀ c, c ≠ 34 → c ≠ 32 → M1 c = M c) (h0 : M1 32 0 = M 32 0) : Ag TxL TxK M M1 :=
  ag_of (fun c hc => h c (by have := TxL_b hc; omega) (by have := TxL_b hc; omega)) h0 (by rw [h 111 (by decide) (by decide)])
theorem told_at {F : Nat → Int → (Nat → Int) → Int} {M0 M1 : Mem} (q : Nat) (w : Int) (E : Nat → Int) {n' w' o' : Int} (h : AskI F M0) (hg : Ag TxL TxK M0 M1) (hq : q < 7) (hw : 0 ≤ w ∧ w ≤ 519) (e1 : n' = spl q) (e2 : w' = w) (e3 : o' = qwo q) (e4 : ev (M1 156) = E) :
    Ok (d_Mo_told n' w' o' M1) (fun v M2 => clip (qlo q) (qhi q) (w64 v) = F q w E ∧ Fr [155, 157, 158, 159] [(111, 72), (111, 108)] M1 M2) := by
  subst e1 e2 e3 e4
  exact ok_fr ((h.2.2.2.2 M1 hg q hq _ hw).2) (fun r hr => w_Mo_told hr)
theorem ask_at {F : Nat → Int → (Nat → Int) → Int} {M0 M1 : Mem} (q : Nat) (w : Int) (E : Nat → Int) {q' : Int} (h : AskI F M0) (hg : Ag TxL TxK M0 M1) (hq : q < 7) (hw : 0 ≤ w ∧ w ≤ 519) (e1 : q' = (q : Int)) (e2 : M1 32 2 = fcF (M0 147) w (M0 111 56).toNat) (e4 : ev (M1 34) = E) :
    Ok (d_As_ask q' M1) (fun v M2 => w32 v = F q w E ∧ Fr [35, 36, 37, 38] [(32, 8)] M1 M2) := by
  subst e1 e4
  exact ok_fr ((h.2.2.2.2 M1 hg q hq _ hw).1 e2) (fun r hr => w_As_ask hr)
theorem begin_at {F : Nat → Int → (Nat → Int) → Int} {M0 M1 : Mem} (w : Int) {w' : Int} (h : AskI F M0) (hg : Ag TxL TxK M0 M1) (hw : 0 ≤ w ∧ w ≤ 519) (e2 : w' = w) :
    d_As_begin w' M1 = some (0, sto (zf M1 34 0 11 0) 32 2 (fcF (M0 147) w (M0 111 56).toNat)) := by
  subst e2
  obtain ⟨h1, h2, h3, -, -⟩ := h
  have g1 := hg.f 111 56 (by decide)
  have g2 := hg.f 32 0 (by decide)
  rw [s_begin (by rw [g2, h2]; exact h1) hw (fun i hi => ?_), g2, h2]
  · rw [fcF_c (fr' := M0 147) _ (fun i hi => ?_)]
    rw [TxF hg (by omega)]; exact (h3 i (by omega)).1
  · rw [g2, h2] at hi
    rw [TxF hg (by omega), (h3 i hi).1]; exact (h3 i hi).2
theorem s_spl0 {M : Mem} : d_Mo_spelled 114 97 110 107 0 0 M = some (spl 0, M) := rfl
theorem s_spl1 {M : Mem} : d_Mo_spelled 102 105 114 115 116 0 M = some (spl 1, M) := rfl
theorem s_spl2 {M : Mem} : d_Mo_spelled 104 101 108 100 0 0 M = some (spl 2, M) := rfl
theorem s_spl3 {M : Mem} : d_Mo_spelled 115 116 97 110 100 0 M = some (spl 3, M) := rfl
theorem s_spl4 {M : Mem} : d_Mo_spelled 98 114 101 97 99 104 M = some (spl 4, M) := rfl
theorem s_spl5 {M : Mem} : d_Mo_spelled 116 117 114 110 0 0 M = some (spl 5, M) := rfl
theorem s_spl6 {M : Mem} : d_Mo_spelled 118 111 116 101 115 0 M = some (spl 6, M) := rfl
theorem s_cut1 {v lo hi : Int} {M : Mem} (h1 : -9223372036854775808 ≤ lo ∧ lo < 9223372036854775808) (h2 : -9223372036854775808 ≤ hi ∧ hi < 9223372036854775808) : ∃ r, d_Mo_cut1 v lo hi M = some (r, M) ∧ w64 r = clip lo hi (w64 v) := by
  unfold d_Mo_cut1 clip
  rw [w64_eq h1.1 h1.2, w64_eq h2.1 h2.2]
  by_cases c1 : w64 v < lo
  · rw [if_pos c1, if_pos c1]; exact ⟨lo, rfl, w64_eq h1.1 h1.2⟩
  · rw [if_neg c1, if_neg c1]
    by_cases c2 : hi < w64 v
    · rw [if_pos c2, if_pos c2]; exact ⟨hi, rfl, w64_eq h2.1 h2.2⟩
    · rw [if_neg c2, if_neg c2]; exact ⟨v, rfl, rfl⟩
theorem s_tell {j v : Int} {M : Mem} (h : 0 ≤ j ∧ j < 11) : d_As_tell j v M = some (0, sto M 34 j.toNat v) := by
  unfold d_As_tell; rw [w32_eq (by omega) (by omega), chk_t h, ix_e (by omega) (by omega)]; rfl
theorem s_tellWeek {w : Int} {M : Mem} (h : 0 ≤ w ∧ w ≤ 519) : d_As_tellWeek w M = some (0, sto (sto M 34 2 w) 34 3 (w / 52)) := by
  unfold d_As_tellWeek; rw [dv52 h, w32_eq (by omega) (by omega), w32_eq (by omega) (by omega)]; rfl
