/-! on whom votes hang: the component makes ready -/
theorem Ord.ins {f p : Nat} {B : Nat → Nat} {v : Nat → Int} (h : Ord f B v) (hp : p ≤ f) (h1 : 0 < p → v f ≤ v (B (p - 1))) (h2 : ∀ j, p ≤ j → j < f → v (B j) < v f) : Ord (f + 1) (fun j => if j < p then B j else if j = p then f else B (j - 1)) v := by
  obtain ⟨o1, o2, o3, o4⟩ := h
  have e1 : ∀ j, j < p → (if j < p then B j else if j = p then f else B (j - 1)) = B j := fun j hj => if_pos hj
  have e2 : (if p < p then B p else if p = p then f else B (p - 1)) = f := by rw [if_neg (by omega), if_pos rfl]
  have e3 : ∀ j, p < j → (if j < p then B j else if j = p then f else B (j - 1)) = B (j - 1) := fun j hj => by rw [if_neg (by omega), if_neg (by omega)]
  refine ⟨fun j hj => ?_, fun i j hi hj e => ?_, fun k hk => ?_, fun i j hij hj => ?_⟩
  · show (if j < p then B j else if j = p then f else B (j - 1)) < f + 1
    by_cases c : j < p
    · rw [e1 j c]; have := o1 j (by omega); omega
    · by_cases d : j = p
      · rw [d, e2]; omega
      · rw [e3 j (by omega)]; have := o1 (j - 1) (by omega); omega
  · have e' : (if i < p then B i else if i = p then f else B (i - 1)) = (if j < p then B j else if j = p then f else B (j - 1)) := e
    have nf : ∀ j, j < f → B j ≠ f := fun j hj q => by have := o1 j hj; omega
    by_cases c : i < p
    · rw [e1 i c] at e'
      by_cases c' : j < p
      · rw [e1 j c'] at e'; exact o2 i j (by omega) (by omega) e'
      · by_cases d : j = p
        · rw [d, e2] at e'; exact absurd e' (nf i (by omega))
        · rw [e3 j (by omega)] at e'
          have := o2 i (j - 1) (by omega) (by omega) e'; omega
    · by_cases d : i = p
      · rw [d, e2] at e'
        by_cases c' : j < p
        · rw [e1 j c'] at e'; exact absurd e'.symm (nf j (by omega))
        · by_cases d' : j = p
          · omega
          · rw [e3 j (by omega)] at e'; exact absurd e'.symm (nf (j - 1) (by omega))
      · rw [e3 i (by omega)] at e'
        by_cases c' : j < p
        · rw [e1 j c'] at e'
          have := o2 (i - 1) j (by omega) (by omega) e'; omega
        · by_cases d' : j = p
          · rw [d', e2] at e'; exact absurd e' (nf (i - 1) (by omega))
          · rw [e3 j (by omega)] at e'
            have := o2 (i - 1) (j - 1) (by omega) (by omega) e'; omega
  · by_cases c : k = f
    · exact ⟨p, by omega, by show (if p < p then B p else if p = p then f else B (p - 1)) = k; rw [e2, c]⟩
    · obtain ⟨j, hj, ej⟩ := o3 k (by omega)
      by_cases d : j < p
      · exact ⟨j, by omega, by show (if j < p then B j else if j = p then f else B (j - 1)) = k; rw [e1 j d, ej]⟩
      · exact ⟨j + 1, by omega, by show (if j + 1 < p then B (j + 1) else if j + 1 = p then f else B (j + 1 - 1)) = k; rw [e3 (j + 1) (by omega)]; exact ej⟩
  · show v (if j < p then B j else if j = p then f else B (j - 1)) ≤ v (if i < p then B i else if i = p then f else B (i - 1))
    by_cases c : i < p
    · rw [e1 i c]
      by_cases c' : j < p
      · rw [e1 j c']; exact o4 i j hij (by omega)
      · by_cases d : j = p
        · rw [d, e2]
          have := h1 (by omega)
          have := o4 i (p - 1) (by omega) (by omega)
          omega
        · rw [e3 j (by omega)]; exact o4 i (j - 1) (by omega) (by omega)
    · by_cases d : i = p
      · rw [d, e2]
        by_cases d' : j = p
        · rw [d', e2]; omega
        · rw [e3 j (by omega)]
          have := h2 (j - 1) (by omega) (by omega); omega
      · rw [e3 i (by omega), e3 j (by omega)]; exact o4 (i - 1) (j - 1) (by omega) (by omega)
theorem l_sort {f : Nat} {v : Nat → Int} {B : Nat → Nat} {M0 : Mem} (hO : Ord f B v) (hf : f < 20) (hv : ∀ k, k ≤ f → w32 (M0 105 k) = v k) :
    ∀ (p fuel : Nat) (M : Mem), p ≤ f → p < fuel → Fr [106] [] M0 M → (∀ j, j < p → M 106 j = (B j : Int)) → (∀ j, p < j → j ≤ f → M 106 j = (B (j - 1) : Int)) → (∀ j, p ≤ j → j < f → v (B j) < v f) →
    Ok (fix (fun _ _ _ => none) k_Ba_sortIn_2 fuel (f : Int) (p : Int) M) (fun _ M' => Fr [106] [] M0 M' ∧ ∃ B' : Nat → Nat, Ord (f + 1) B' v ∧ ∀ j, j < f + 1 → M' 106 j = (B' j : Int)) := by
  have stop : ∀ (p : Nat) (M : Mem), p ≤ f → Fr [106] [] M0 M → (∀ j, j < p → M 106 j = (B j : Int)) → (∀ j, p < j → j ≤ f → M 106 j = (B (j - 1) : Int)) → (∀ j, p ≤ j → j < f → v (B j) < v f) → (0 < p → v f ≤ v (B (p - 1))) → Ok (k_Ba_sortIn_48 (f : Int) (p : Int) M) (fun _ M' => Fr [106] [] M0 M' ∧ ∃ B' : Nat → Nat, Ord (f + 1) B' v ∧ ∀ j, j < f + 1 → M' 106 j = (B' j : Int)) := by
    intro p M hp hF h1 h2 h3 h4
    unfold k_Ba_sortIn_48
    repeat (first | with_reducible refine ok_let ?_ | with_reducible refine ok_cs ?_ | with_reducible refine ok_clet ?_ | with_reducible refine ok_cc ?_ | (with_reducible refine ok_chk ?_ ?_; · (first | omega | ((try simp (disch := omega) only [w32_eq, w64_eq, ix_n, ix_e, sto_n, sto_e, sto_r, zf_r, Int.toNat_natCast, true_or, or_true, eq_self]) <;> (first | omega | decide)))) | (with_reducible refine ok_cchk ?_ ?_; · (first | omega | ((try simp (disch := omega) only [w32_eq, w64_eq, ix_n, ix_e, sto_n, sto_e, sto_r, zf_r, Int.toNat_natCast, true_or, or_true, eq_self]) <;> (first | omega | decide)))) | (with_reducible refine ok_t ?_ ?_; · (first | omega | ((try simp (disch := omega) only [w32_eq, w64_eq, ix_n, ix_e, sto_n, sto_e, sto_r, zf_r, Int.toNat_natCast, true_or, or_true, eq_self]) <;> (first | omega | decide)))) | (with_reducible refine ok_f ?_ ?_; · (first | omega | ((try simp (disch := omega) only [w32_eq, w64_eq, ix_n, ix_e, sto_n, sto_e, sto_r, zf_r, Int.toNat_natCast, true_or, or_true, eq_self]) <;> (first | omega | decide)))) | (with_reducible refine ok_ct ?_ ?_; · (first | omega | ((try simp (disch := omega) only [w32_eq, w64_eq, ix_n, ix_e, sto_n, sto_e, sto_r, zf_r, Int.toNat_natCast, true_or, or_true, eq_self]) <;> (first | omega | decide)))) | (with_reducible refine ok_cf ?_ ?_; · (first | omega | ((try simp (disch := omega) only [w32_eq, w64_eq, ix_n, ix_e, sto_n, sto_e, sto_r, zf_r, Int.toNat_natCast, true_or, or_true, eq_self]) <;> (first | omega | decide)))))
    refine ok_ret ⟨hF.trans (fr_stoA (by decide)), _, hO.ins hp h4 h3, fun j hj => ?_⟩
    rw [ix_n (by omega), sto_up]
    show up (M 106) p (f : Int) j = (((if j < p then B j else if j = p then f else B (j - 1)) : Nat) : Int)
    unfold up
    by_cases c : j = p
    · rw [if_pos c, if_neg (by omega), if_pos c]
    · rw [if_neg c]
      by_cases d : j < p
      · rw [if_pos d]; exact h1 j d
      · rw [if_neg d, if_neg c]; exact h2 j (by omega) (by omega)
  intro p; induction p with
  | zero =>
    intro fuel M hp hfu hF h1 h2 h3
    obtain ⟨f, rfl⟩ : ∃ f, fuel = f + 1 := ⟨fuel - 1, by omega⟩; rw [fix_s]; unfold k_Ba_sortIn_2
    repeat (first | with_reducible refine ok_let ?_ | with_reducible refine ok_cs ?_ | with_reducible refine ok_clet ?_ | with_reducible refine ok_cc ?_ | (with_reducible refine ok_chk ?_ ?_; · (first | omega | ((try simp (disch := omega) only [w32_eq, w64_eq, ix_n, ix_e, sto_n, sto_e, sto_r, zf_r, Int.toNat_natCast, true_or, or_true, eq_self]) <;> (first | omega | decide)))) | (with_reducible refine ok_cchk ?_ ?_; · (first | omega | ((try simp (disch := omega) only [w32_eq, w64_eq, ix_n, ix_e, sto_n, sto_e, sto_r, zf_r, Int.toNat_natCast, true_or, or_true, eq_self]) <;> (first | omega | decide)))) | (with_reducible refine ok_t ?_ ?_; · (first | omega | ((try simp (disch := omega) only [w32_eq, w64_eq, ix_n, ix_e, sto_n, sto_e, sto_r, zf_r, Int.toNat_natCast, true_or, or_true, eq_self]) <;> (first | omega | decide)))) | (with_reducible refine ok_f ?_ ?_; · (first | omega | ((try simp (disch := omega) only [w32_eq, w64_eq, ix_n, ix_e, sto_n, sto_e, sto_r, zf_r, Int.toNat_natCast, true_or, or_true, eq_self]) <;> (first | omega | decide)))) | (with_reducible refine ok_ct ?_ ?_; · (first | omega | ((try simp (disch := omega) only [w32_eq, w64_eq, ix_n, ix_e, sto_n, sto_e, sto_r, zf_r, Int.toNat_natCast, true_or, or_true, eq_self]) <;> (first | omega | decide)))) | (with_reducible refine ok_cf ?_ ?_; · (first | omega | ((try simp (disch := omega) only [w32_eq, w64_eq, ix_n, ix_e, sto_n, sto_e, sto_r, zf_r, Int.toNat_natCast, true_or, or_true, eq_self]) <;> (first | omega | decide)))))
    exact stop 0 M hp hF h1 h2 h3 (fun h => by omega)
  | succ p ih =>
    intro fuel M hp hfu hF h1 h2 h3
    have hb := h1 p (by omega)
    have hBp := hO.1 p (by omega)
    have u105 := hF.c 105 (by decide) (by decide)
    have vp := hv (B p) (by omega)
    have vf := hv f (Nat.le_refl _)
    have ep : ix (((p + 1 : Nat) : Int) - 1) = p := by rw [show ((p + 1 : Nat) : Int) - 1 = (p : Int) by omega, ix_n (by omega)]
    obtain ⟨fu, rfl⟩ : ∃ fu, fuel = fu + 1 := ⟨fuel - 1, by omega⟩
    rw [fix_s]; unfold k_Ba_sortIn_2
    rw [ep, hb]
    repeat (first | with_reducible refine ok_let ?_ | with_reducible refine ok_cs ?_ | with_reducible refine ok_clet ?_ | with_reducible refine ok_cc ?_ | (with_reducible refine ok_chk ?_ ?_; · (first | omega | ((try simp (disch := omega) only [w32_eq, w64_eq, ix_n, ix_e, sto_n, sto_e, sto_r, zf_r, Int.toNat_natCast, true_or, or_true, eq_self]) <;> (first | omega | decide)))) | (with_reducible refine ok_cchk ?_ ?_; · (first | omega | ((try simp (disch := omega) only [w32_eq, w64_eq, ix_n, ix_e, sto_n, sto_e, sto_r, zf_r, Int.toNat_natCast, true_or, or_true, eq_self]) <;> (first | omega | decide)))) | (with_reducible refine ok_t ?_ ?_; · (first | omega | ((try simp (disch := omega) only [w32_eq, w64_eq, ix_n, ix_e, sto_n, sto_e, sto_r, zf_r, Int.toNat_natCast, true_or, or_true, eq_self]) <;> (first | omega | decide)))) | (with_reducible refine ok_f ?_ ?_; · (first | omega | ((try simp (disch := omega) only [w32_eq, w64_eq, ix_n, ix_e, sto_n, sto_e, sto_r, zf_r, Int.toNat_natCast, true_or, or_true, eq_self]) <;> (first | omega | decide)))) | (with_reducible refine ok_ct ?_ ?_; · (first | omega | ((try simp (disch := omega) only [w32_eq, w64_eq, ix_n, ix_e, sto_n, sto_e, sto_r, zf_r, Int.toNat_natCast, true_or, or_true, eq_self]) <;> (first | omega | decide)))) | (with_reducible refine ok_cf ?_ ?_; · (first | omega | ((try simp (disch := omega) only [w32_eq, w64_eq, ix_n, ix_e, sto_n, sto_e, sto_r, zf_r, Int.toNat_natCast, true_or, or_true, eq_self]) <;> (first | omega | decide)))))
    rw [ix_n (show B p < 2147483648 by omega), ix_n (show f < 2147483648 by omega), u105, vp, vf]
    by_cases c : v (B p) < v f
    · rw [if_pos c]
      repeat (first | with_reducible refine ok_let ?_ | with_reducible refine ok_cs ?_ | with_reducible refine ok_clet ?_ | with_reducible refine ok_cc ?_ | (with_reducible refine ok_chk ?_ ?_; · (first | omega | ((try simp (disch := omega) only [w32_eq, w64_eq, ix_n, ix_e, sto_n, sto_e, sto_r, zf_r, Int.toNat_natCast, true_or, or_true, eq_self]) <;> (first | omega | decide)))) | (with_reducible refine ok_cchk ?_ ?_; · (first | omega | ((try simp (disch := omega) only [w32_eq, w64_eq, ix_n, ix_e, sto_n, sto_e, sto_r, zf_r, Int.toNat_natCast, true_or, or_true, eq_self]) <;> (first | omega | decide)))) | (with_reducible refine ok_t ?_ ?_; · (first | omega | ((try simp (disch := omega) only [w32_eq, w64_eq, ix_n, ix_e, sto_n, sto_e, sto_r, zf_r, Int.toNat_natCast, true_or, or_true, eq_self]) <;> (first | omega | decide)))) | (with_reducible refine ok_f ?_ ?_; · (first | omega | ((try simp (disch := omega) only [w32_eq, w64_eq, ix_n, ix_e, sto_n, sto_e, sto_r, zf_r, Int.toNat_natCast, true_or, or_true, eq_self]) <;> (first | omega | decide)))) | (with_reducible refine ok_ct ?_ ?_; · (first | omega | ((try simp (disch := omega) only [w32_eq, w64_eq, ix_n, ix_e, sto_n, sto_e, sto_r, zf_r, Int.toNat_natCast, true_or, or_true, eq_self]) <;> (first | omega | decide)))) | (with_reducible refine ok_cf ?_ ?_; · (first | omega | ((try simp (disch := omega) only [w32_eq, w64_eq, ix_n, ix_e, sto_n, sto_e, sto_r, zf_r, Int.toNat_natCast, true_or, or_true, eq_self]) <;> (first | omega | decide)))))
      rw [ix_n (by omega), show ((p + 1 : Nat) : Int) + -1 = (p : Int) by omega]
      refine ih fu _ (by omega) (by omega) (hF.trans (fr_stoA (by decide))) (fun j hj => ?_) (fun j g1 g2 => ?_) (fun j g1 g2 => ?_)
      · rw [sto_up, up_n (by omega)]; exact h1 j (by omega)
      · rw [sto_up]
        by_cases d : j = p + 1
        · rw [d, up_e]; rfl
        · rw [up_n d]; exact h2 j (by omega) g2
      · by_cases d : j = p
        · rw [d]; exact c
        · exact h3 j (by omega) g2
    · rw [if_neg c]
      exact stop (p + 1) M hp hF h1 h2 h3 (fun _ => by show v f ≤ v (B p); omega)
/-- gains, free farms, order -/
def RdC (n : Nat) (ds v fr g : Nat → Int) (B : Nat → Nat) (M : Mem) : Prop := M 5 0 = (n : Int) ∧ (∀ f, f < n → w32 (M 105 f) = v f ∧ M 106 f = (B f : Int) ∧ M 107 f = fr f ∧ M 6 f = ds f) ∧ ∀ d : Nat, d < 6 → w32 (M 108 d) = g d
theorem l_prep47 {n : Nat} {v fr : Nat → Int} {M0 : Mem} {a1 : Int} (hn : n ≤ 20) (h5 : M0 5 0 = (n : Int)) (hv : ∀ k, k < n → w32 (M0 105 k) = v k) (h12 : ∀ f, f < n → (M0 12 f = -1 ∧ fr f = 1) ∨ ((M0 12 f = 0 ∨ M0 12 f = 1) ∧ fr f = 0)) (ha : a1 = 0 ∨ a1 = 1) :
    ∀ (j fuel i : Nat) (M : Mem), i + j = n → j < fuel → Fr [106, 107] [] M0 M → (∃ B : Nat → Nat, Ord i B v ∧ ∀ k, k < i → M 106 k = (B k : Int)) → (∀ k, k < i → M 107 k = fr k) →
    Ok (fix (fun _ _ _ => none) k_Ba_prepareToTurn_47 fuel a1 (i : Int) M) (fun x M' => x = 1 - a1 ∧ Fr [106, 107] [] M0 M' ∧ (∃ B : Nat → Nat, Ord n B v ∧ ∀ k, k < n → M' 106 k = (B k : Int)) ∧ ∀ k, k < n → M' 107 k = fr k) := by
  intro j; induction j with
  | zero =>
    intro fuel i M e hf hF hB hr
    have : i = n := by omega
    subst this
    have u5 := (hF.f 5 0 (by decide) (by decide)).trans h5
    obtain ⟨f, rfl⟩ : ∃ f, fuel = f + 1 := ⟨fuel - 1, by omega⟩; rw [fix_s]; unfold k_Ba_prepareToTurn_47
    rcases ha with c | c
    · subst c
      repeat (first | with_reducible refine ok_let ?_ | with_reducible refine ok_cs ?_ | with_reducible refine ok_clet ?_ | with_reducible refine ok_cc ?_ | (with_reducible refine ok_chk ?_ ?_; · (first | omega | ((try simp (disch := omega) only [w32_eq, w64_eq, ix_n, ix_e, sto_n, sto_e, sto_r, zf_r, Int.toNat_natCast, true_or, or_true, eq_self, u5]) <;> (first | omega | decide)))) | (with_reducible refine ok_cchk ?_ ?_; · (first | omega | ((try simp (disch := omega) only [w32_eq, w64_eq, ix_n, ix_e, sto_n, sto_e, sto_r, zf_r, Int.toNat_natCast, true_or, or_true, eq_self, u5]) <;> (first | omega | decide)))) | (with_reducible refine ok_t ?_ ?_; · (first | omega | ((try simp (disch := omega) only [w32_eq, w64_eq, ix_n, ix_e, sto_n, sto_e, sto_r, zf_r, Int.toNat_natCast, true_or, or_true, eq_self, u5]) <;> (first | omega | decide)))) | (with_reducible refine ok_f ?_ ?_; · (first | omega | ((try simp (disch := omega) only [w32_eq, w64_eq, ix_n, ix_e, sto_n, sto_e, sto_r, zf_r, Int.toNat_natCast, true_or, or_true, eq_self, u5]) <;> (first | omega | decide)))) | (with_reducible refine ok_ct ?_ ?_; · (first | omega | ((try simp (disch := omega) only [w32_eq, w64_eq, ix_n, ix_e, sto_n, sto_e, sto_r, zf_r, Int.toNat_natCast, true_or, or_true, eq_self, u5]) <;> (first | omega | decide)))) | (with_reducible refine ok_cf ?_ ?_; · (first | omega | ((try simp (disch := omega) only [w32_eq, w64_eq, ix_n, ix_e, sto_n, sto_e, sto_r, zf_r, Int.toNat_natCast, true_or, or_true, eq_self, u5]) <;> (first | omega | decide)))))
      exact ok_ret ⟨rfl, hF, hB, hr⟩
    · subst c
      repeat (first | with_reducible refine ok_let ?_ | with_reducible refine ok_cs ?_ | with_reducible refine ok_clet ?_ | with_reducible refine ok_cc ?_ | (with_reducible refine ok_chk ?_ ?_; · (first | omega | ((try simp (disch := omega) only [w32_eq, w64_eq, ix_n, ix_e, sto_n, sto_e, sto_r, zf_r, Int.toNat_natCast, true_or, or_true, eq_self, u5]) <;> (first | omega | decide)))) | (with_reducible refine ok_cchk ?_ ?_; · (first | omega | ((try simp (disch := omega) only [w32_eq, w64_eq, ix_n, ix_e, sto_n, sto_e, sto_r, zf_r, Int.toNat_natCast, true_or, or_true, eq_self, u5]) <;> (first | omega | decide)))) | (with_reducible refine ok_t ?_ ?_; · (first | omega | ((try simp (disch := omega) only [w32_eq, w64_eq, ix_n, ix_e, sto_n, sto_e, sto_r, zf_r, Int.toNat_natCast, true_or, or_true, eq_self, u5]) <;> (first | omega | decide)))) | (with_reducible refine ok_f ?_ ?_; · (first | omega | ((try simp (disch := omega) only [w32_eq, w64_eq, ix_n, ix_e, sto_n, sto_e, sto_r, zf_r, Int.toNat_natCast, true_or, or_true, eq_self, u5]) <;> (first | omega | decide)))) | (with_reducible refine ok_ct ?_ ?_; · (first | omega | ((try simp (disch := omega) only [w32_eq, w64_eq, ix_n, ix_e, sto_n, sto_e, sto_r, zf_r, Int.toNat_natCast, true_or, or_true, eq_self, u5]) <;> (first | omega | decide)))) | (with_reducible refine ok_cf ?_ ?_; · (first | omega | ((try simp (disch := omega) only [w32_eq, w64_eq, ix_n, ix_e, sto_n, sto_e, sto_r, zf_r, Int.toNat_natCast, true_or, or_true, eq_self, u5]) <;> (first | omega | decide)))))
      exact ok_ret ⟨rfl, hF, hB, hr⟩
  | succ j ih =>
    intro fuel i M e hf hF hB hr
    have hj : (i : Int) + 1 = ((i + 1 : Nat) : Int) := by omega
    have u5 := (hF.f 5 0 (by decide) (by decide)).trans h5
    have u12 := hF.c 12 (by decide) (by decide)
    have ei : ix (i : Int) = i := ix_n (by omega)
    obtain ⟨B, hO, hB⟩ := hB
    obtain ⟨f, rfl⟩ : ∃ f, fuel = f + 1 := ⟨fuel - 1, by omega⟩; rw [fix_s]
    have go : ∀ x : Int, x = fr i → Ok (k_Ba_prepareToTurn_81 (fix (fun _ _ _ => none) k_Ba_prepareToTurn_47 f) a1 (i : Int) (i : Int) x M) (fun x M' => x = 1 - a1 ∧ Fr [106, 107] [] M0 M' ∧ (∃ B : Nat → Nat, Ord n B v ∧ ∀ k, k < n → M' 106 k = (B k : Int)) ∧ ∀ k, k < n → M' 107 k = fr k) := by
      intro x hx
      unfold k_Ba_prepareToTurn_81 d_Ba_sortIn
      repeat (first | with_reducible refine ok_let ?_ | with_reducible refine ok_cs ?_ | with_reducible refine ok_clet ?_ | with_reducible refine ok_cc ?_ | (with_reducible refine ok_chk ?_ ?_; · (first | omega | ((try simp (disch := omega) only [w32_eq, w64_eq, ix_n, ix_e, sto_n, sto_e, sto_r, zf_r, Int.toNat_natCast, true_or, or_true, eq_self]) <;> (first | omega | decide)))) | (with_reducible refine ok_cchk ?_ ?_; · (first | omega | ((try simp (disch := omega) only [w32_eq, w64_eq, ix_n, ix_e, sto_n, sto_e, sto_r, zf_r, Int.toNat_natCast, true_or, or_true, eq_self]) <;> (first | omega | decide)))) | (with_reducible refine ok_t ?_ ?_; · (first | omega | ((try simp (disch := omega) only [w32_eq, w64_eq, ix_n, ix_e, sto_n, sto_e, sto_r, zf_r, Int.toNat_natCast, true_or, or_true, eq_self]) <;> (first | omega | decide)))) | (with_reducible refine ok_f ?_ ?_; · (first | omega | ((try simp (disch := omega) only [w32_eq, w64_eq, ix_n, ix_e, sto_n, sto_e, sto_r, zf_r, Int.toNat_natCast, true_or, or_true, eq_self]) <;> (first | omega | decide)))) | (with_reducible refine ok_ct ?_ ?_; · (first | omega | ((try simp (disch := omega) only [w32_eq, w64_eq, ix_n, ix_e, sto_n, sto_e, sto_r, zf_r, Int.toNat_natCast, true_or, or_true, eq_self]) <;> (first | omega | decide)))) | (with_reducible refine ok_cf ?_ ?_; · (first | omega | ((try simp (disch := omega) only [w32_eq, w64_eq, ix_n, ix_e, sto_n, sto_e, sto_r, zf_r, Int.toNat_natCast, true_or, or_true, eq_self]) <;> (first | omega | decide)))))
      rw [ei]
      refine ok_call (l_sort (M0 := sto M 107 i x) (B := B) (v := v) hO (by omega) (fun k hk => ?_) i FU _ (Nat.le_refl _) (by unfold FU; omega) Fr.rfl' (fun k hk => ?_) (fun k h1 h2 => by omega) (fun k h1 h2 => by omega)) (fun _ M1 h => ?_)
      · rw [sto_r (by decide), hF.c 105 (by decide) (by decide)]; exact hv k (by omega)
      · rw [sto_r (by decide)]; exact hB k hk
      · obtain ⟨F1, B', hO', hB'⟩ := h
        repeat (first | with_reducible refine ok_let ?_ | with_reducible refine ok_cs ?_ | with_reducible refine ok_clet ?_ | with_reducible refine ok_cc ?_ | (with_reducible refine ok_chk ?_ ?_; · (first | omega | ((try simp (disch := omega) only [w32_eq, w64_eq, ix_n, ix_e, sto_n, sto_e, sto_r, zf_r, Int.toNat_natCast, true_or, or_true, eq_self]) <;> (first | omega | decide)))) | (with_reducible refine ok_cchk ?_ ?_; · (first | omega | ((try simp (disch := omega) only [w32_eq, w64_eq, ix_n, ix_e, sto_n, sto_e, sto_r, zf_r, Int.toNat_natCast, true_or, or_true, eq_self]) <;> (first | omega | decide)))) | (with_reducible refine ok_t ?_ ?_; · (first | omega | ((try simp (disch := omega) only [w32_eq, w64_eq, ix_n, ix_e, sto_n, sto_e, sto_r, zf_r, Int.toNat_natCast, true_or, or_true, eq_self]) <;> (first | omega | decide)))) | (with_reducible refine ok_f ?_ ?_; · (first | omega | ((try simp (disch := omega) only [w32_eq, w64_eq, ix_n, ix_e, sto_n, sto_e, sto_r, zf_r, Int.toNat_natCast, true_or, or_true, eq_self]) <;> (first | omega | decide)))) | (with_reducible refine ok_ct ?_ ?_; · (first | omega | ((try simp (disch := omega) only [w32_eq, w64_eq, ix_n, ix_e, sto_n, sto_e, sto_r, zf_r, Int.toNat_natCast, true_or, or_true, eq_self]) <;> (first | omega | decide)))) | (with_reducible refine ok_cf ?_ ?_; · (first | omega | ((try simp (disch := omega) only [w32_eq, w64_eq, ix_n, ix_e, sto_n, sto_e, sto_r, zf_r, Int.toNat_natCast, true_or, or_true, eq_self]) <;> (first | omega | decide)))))
        rw [hj]
        refine ih f (i + 1) M1 (by omega) (by omega) (Fr.trans hF (Fr.trans (fr_stoA (by decide)) (F1.mono (by decide) (by decide)))) ⟨B', hO', hB'⟩ (fun k hk => ?_)
        rw [F1.c 107 (by decide) (by decide), sto_up]; unfold up; split
        · rename_i c; rw [c]; exact hx
        · exact hr k (by omega)
    unfold k_Ba_prepareToTurn_47
    rcases h12 i (by omega) with ⟨c1, c2⟩ | ⟨c1, c2⟩
    · repeat (first | with_reducible refine ok_let ?_ | with_reducible refine ok_cs ?_ | with_reducible refine ok_clet ?_ | with_reducible refine ok_cc ?_ | (with_reducible refine ok_chk ?_ ?_; · (first | omega | ((try simp (disch := omega) only [w32_eq, w64_eq, ix_n, ix_e, sto_n, sto_e, sto_r, zf_r, Int.toNat_natCast, true_or, or_true, eq_self, u5, u12, c1]) <;> (first | omega | decide)))) | (with_reducible refine ok_cchk ?_ ?_; · (first | omega | ((try simp (disch := omega) only [w32_eq, w64_eq, ix_n, ix_e, sto_n, sto_e, sto_r, zf_r, Int.toNat_natCast, true_or, or_true, eq_self, u5, u12, c1]) <;> (first | omega | decide)))) | (with_reducible refine ok_t ?_ ?_; · (first | omega | ((try simp (disch := omega) only [w32_eq, w64_eq, ix_n, ix_e, sto_n, sto_e, sto_r, zf_r, Int.toNat_natCast, true_or, or_true, eq_self, u5, u12, c1]) <;> (first | omega | decide)))) | (with_reducible refine ok_f ?_ ?_; · (first | omega | ((try simp (disch := omega) only [w32_eq, w64_eq, ix_n, ix_e, sto_n, sto_e, sto_r, zf_r, Int.toNat_natCast, true_or, or_true, eq_self, u5, u12, c1]) <;> (first | omega | decide)))) | (with_reducible refine ok_ct ?_ ?_; · (first | omega | ((try simp (disch := omega) only [w32_eq, w64_eq, ix_n, ix_e, sto_n, sto_e, sto_r, zf_r, Int.toNat_natCast, true_or, or_true, eq_self, u5, u12, c1]) <;> (first | omega | decide)))) | (with_reducible refine ok_cf ?_ ?_; · (first | omega | ((try simp (disch := omega) only [w32_eq, w64_eq, ix_n, ix_e, sto_n, sto_e, sto_r, zf_r, Int.toNat_natCast, true_or, or_true, eq_self, u5, u12, c1]) <;> (first | omega | decide)))))
      exact go 1 c2.symm
    · have c1' : 0 ≤ M0 12 i ∧ M0 12 i ≤ 1 := by omega
      repeat (first | with_reducible refine ok_let ?_ | with_reducible refine ok_cs ?_ | with_reducible refine ok_clet ?_ | with_reducible refine ok_cc ?_ | (with_reducible refine ok_chk ?_ ?_; · (first | omega | ((try simp (disch := omega) only [w32_eq, w64_eq, ix_n, ix_e, sto_n, sto_e, sto_r, zf_r, Int.toNat_natCast, true_or, or_true, eq_self, u5, u12]) <;> (first | omega | decide)))) | (with_reducible refine ok_cchk ?_ ?_; · (first | omega | ((try simp (disch := omega) only [w32_eq, w64_eq, ix_n, ix_e, sto_n, sto_e, sto_r, zf_r, Int.toNat_natCast, true_or, or_true, eq_self, u5, u12]) <;> (first | omega | decide)))) | (with_reducible refine ok_t ?_ ?_; · (first | omega | ((try simp (disch := omega) only [w32_eq, w64_eq, ix_n, ix_e, sto_n, sto_e, sto_r, zf_r, Int.toNat_natCast, true_or, or_true, eq_self, u5, u12]) <;> (first | omega | decide)))) | (with_reducible refine ok_f ?_ ?_; · (first | omega | ((try simp (disch := omega) only [w32_eq, w64_eq, ix_n, ix_e, sto_n, sto_e, sto_r, zf_r, Int.toNat_natCast, true_or, or_true, eq_self, u5, u12]) <;> (first | omega | decide)))) | (with_reducible refine ok_ct ?_ ?_; · (first | omega | ((try simp (disch := omega) only [w32_eq, w64_eq, ix_n, ix_e, sto_n, sto_e, sto_r, zf_r, Int.toNat_natCast, true_or, or_true, eq_self, u5, u12]) <;> (first | omega | decide)))) | (with_reducible refine ok_cf ?_ ?_; · (first | omega | ((try simp (disch := omega) only [w32_eq, w64_eq, ix_n, ix_e, sto_n, sto_e, sto_r, zf_r, Int.toNat_natCast, true_or, or_true, eq_self, u5, u12]) <;> (first | omega | decide)))))
      exact go 0 c2.symm
theorem l_prep7 {x : Nat → Int} {M0 : Mem} {a1 : Int} {P : Int → Mem → Prop} (ha : a1 = 0 ∨ a1 = 1) (hx : ∀ d, d < 6 → w32 (M0 104 d) = x d ∧ (-20000 ≤ x d ∧ x d ≤ 20000))
    (hP : ∀ M : Mem, Fr [108] [] M0 M → (∀ d, d < 6 → w32 (M 108 d) = if a1 = 0 then x d else - x d) → Ok (fix (fun _ _ _ => none) k_Ba_prepareToTurn_47 FU a1 0 M) P) :
    ∀ (j fuel i : Nat) (M : Mem), i + j = 6 → j < fuel → Fr [108] [] M0 M → (∀ d, d < i → w32 (M 108 d) = if a1 = 0 then x d else - x d) → Ok (fix (fun _ _ _ => none) k_Ba_prepareToTurn_7 fuel a1 (i : Int) M) P := by
  intro j; induction j with
  | zero =>
    intro fuel i M e hf hF h
    have : i = 6 := by omega
    subst this
    obtain ⟨f, rfl⟩ : ∃ f, fuel = f + 1 := ⟨fuel - 1, by omega⟩; rw [fix_s]; unfold k_Ba_prepareToTurn_7
    repeat (first | with_reducible refine ok_let ?_ | with_reducible refine ok_cs ?_ | with_reducible refine ok_clet ?_ | with_reducible refine ok_cc ?_ | (with_reducible refine ok_chk ?_ ?_; · (first | omega | ((try simp (disch := omega) only [w32_eq, w64_eq, ix_n, ix_e, sto_n, sto_e, sto_r, zf_r, Int.toNat_natCast, true_or, or_true, eq_self]) <;> (first | omega | decide)))) | (with_reducible refine ok_cchk ?_ ?_; · (first | omega | ((try simp (disch := omega) only [w32_eq, w64_eq, ix_n, ix_e, sto_n, sto_e, sto_r, zf_r, Int.toNat_natCast, true_or, or_true, eq_self]) <;> (first | omega | decide)))) | (with_reducible refine ok_t ?_ ?_; · (first | omega | ((try simp (disch := omega) only [w32_eq, w64_eq, ix_n, ix_e, sto_n, sto_e, sto_r, zf_r, Int.toNat_natCast, true_or, or_true, eq_self]) <;> (first | omega | decide)))) | (with_reducible refine ok_f ?_ ?_; · (first | omega | ((try simp (disch := omega) only [w32_eq, w64_eq, ix_n, ix_e, sto_n, sto_e, sto_r, zf_r, Int.toNat_natCast, true_or, or_true, eq_self]) <;> (first | omega | decide)))) | (with_reducible refine ok_ct ?_ ?_; · (first | omega | ((try simp (disch := omega) only [w32_eq, w64_eq, ix_n, ix_e, sto_n, sto_e, sto_r, zf_r, Int.toNat_natCast, true_or, or_true, eq_self]) <;> (first | omega | decide)))) | (with_reducible refine ok_cf ?_ ?_; · (first | omega | ((try simp (disch := omega) only [w32_eq, w64_eq, ix_n, ix_e, sto_n, sto_e, sto_r, zf_r, Int.toNat_natCast, true_or, or_true, eq_self]) <;> (first | omega | decide)))))
    exact hP M hF h
  | succ j ih =>
    intro fuel i M e hf hF h
    have hj : (i : Int) + 1 = ((i + 1 : Nat) : Int) := by omega
    have ei : ix (i : Int) = i := ix_n (by omega)
    have u104 := hF.c 104 (by decide) (by decide)
    obtain ⟨x1, x2⟩ := hx i (by omega)
    obtain ⟨f, rfl⟩ : ∃ f, fuel = f + 1 := ⟨fuel - 1, by omega⟩; rw [fix_s]
    have go : ∀ y : Int, w32 y = (if a1 = 0 then x i else - x i) → Ok (k_Ba_prepareToTurn_38 (fix (fun _ _ _ => none) k_Ba_prepareToTurn_7 f) a1 (i : Int) (i : Int) y M) P := by
      intro y hy
      unfold k_Ba_prepareToTurn_38
      repeat (first | with_reducible refine ok_let ?_ | with_reducible refine ok_cs ?_ | with_reducible refine ok_clet ?_ | with_reducible refine ok_cc ?_ | (with_reducible refine ok_chk ?_ ?_; · (first | omega | ((try simp (disch := omega) only [w32_eq, w64_eq, ix_n, ix_e, sto_n, sto_e, sto_r, zf_r, Int.toNat_natCast, true_or, or_true, eq_self]) <;> (first | omega | decide)))) | (with_reducible refine ok_cchk ?_ ?_; · (first | omega | ((try simp (disch := omega) only [w32_eq, w64_eq, ix_n, ix_e, sto_n, sto_e, sto_r, zf_r, Int.toNat_natCast, true_or, or_true, eq_self]) <;> (first | omega | decide)))) | (with_reducible refine ok_t ?_ ?_; · (first | omega | ((try simp (disch := omega) only [w32_eq, w64_eq, ix_n, ix_e, sto_n, sto_e, sto_r, zf_r, Int.toNat_natCast, true_or, or_true, eq_self]) <;> (first | omega | decide)))) | (with_reducible refine ok_f ?_ ?_; · (first | omega | ((try simp (disch := omega) only [w32_eq, w64_eq, ix_n, ix_e, sto_n, sto_e, sto_r, zf_r, Int.toNat_natCast, true_or, or_true, eq_self]) <;> (first | omega | decide)))) | (with_reducible refine ok_ct ?_ ?_; · (first | omega | ((try simp (disch := omega) only [w32_eq, w64_eq, ix_n, ix_e, sto_n, sto_e, sto_r, zf_r, Int.toNat_natCast, true_or, or_true, eq_self]) <;> (first | omega | decide)))) | (with_reducible refine ok_cf ?_ ?_; · (first | omega | ((try simp (disch := omega) only [w32_eq, w64_eq, ix_n, ix_e, sto_n, sto_e, sto_r, zf_r, Int.toNat_natCast, true_or, or_true, eq_self]) <;> (first | omega | decide)))))
      rw [hj, ei]
      refine ih f (i + 1) _ (by omega) (by omega) (hF.trans (fr_stoA (by decide))) (fun d hd => ?_)
      rw [sto_up]; unfold up; split
      · rename_i c; rw [c]; exact hy
      · exact h d (by omega)
    unfold k_Ba_prepareToTurn_7
    rcases ha with c | c
    · rw [if_pos c] at go
      repeat (first | with_reducible refine ok_let ?_ | with_reducible refine ok_cs ?_ | with_reducible refine ok_clet ?_ | with_reducible refine ok_cc ?_ | (with_reducible refine ok_chk ?_ ?_; · (first | omega | ((try simp (disch := omega) only [w32_eq, w64_eq, ix_n, ix_e, sto_n, sto_e, sto_r, zf_r, Int.toNat_natCast, true_or, or_true, eq_self]) <;> (first | omega | decide)))) | (with_reducible refine ok_cchk ?_ ?_; · (first | omega | ((try simp (disch := omega) only [w32_eq, w64_eq, ix_n, ix_e, sto_n, sto_e, sto_r, zf_r, Int.toNat_natCast, true_or, or_true, eq_self]) <;> (first | omega | decide)))) | (with_reducible refine ok_t ?_ ?_; · (first | omega | ((try simp (disch := omega) only [w32_eq, w64_eq, ix_n, ix_e, sto_n, sto_e, sto_r, zf_r, Int.toNat_natCast, true_or, or_true, eq_self]) <;> (first | omega | decide)))) | (with_reducible refine ok_f ?_ ?_; · (first | omega | ((try simp (disch := omega) only [w32_eq, w64_eq, ix_n, ix_e, sto_n, sto_e, sto_r, zf_r, Int.toNat_natCast, true_or, or_true, eq_self]) <;> (first | omega | decide)))) | (with_reducible refine ok_ct ?_ ?_; · (first | omega | ((try simp (disch := omega) only [w32_eq, w64_eq, ix_n, ix_e, sto_n, sto_e, sto_r, zf_r, Int.toNat_natCast, true_or, or_true, eq_self]) <;> (first | omega | decide)))) | (with_reducible refine ok_cf ?_ ?_; · (first | omega | ((try simp (disch := omega) only [w32_eq, w64_eq, ix_n, ix_e, sto_n, sto_e, sto_r, zf_r, Int.toNat_natCast, true_or, or_true, eq_self]) <;> (first | omega | decide)))))
      refine go _ ?_
      rw [ei, u104]; exact x1
    · rw [if_neg (by omega)] at go
      repeat (first | with_reducible refine ok_let ?_ | with_reducible refine ok_cs ?_ | with_reducible refine ok_clet ?_ | with_reducible refine ok_cc ?_ | (with_reducible refine ok_chk ?_ ?_; · (first | omega | ((try simp (disch := omega) only [w32_eq, w64_eq, ix_n, ix_e, sto_n, sto_e, sto_r, zf_r, Int.toNat_natCast, true_or, or_true, eq_self]) <;> (first | omega | decide)))) | (with_reducible refine ok_cchk ?_ ?_; · (first | omega | ((try simp (disch := omega) only [w32_eq, w64_eq, ix_n, ix_e, sto_n, sto_e, sto_r, zf_r, Int.toNat_natCast, true_or, or_true, eq_self]) <;> (first | omega | decide)))) | (with_reducible refine ok_t ?_ ?_; · (first | omega | ((try simp (disch := omega) only [w32_eq, w64_eq, ix_n, ix_e, sto_n, sto_e, sto_r, zf_r, Int.toNat_natCast, true_or, or_true, eq_self]) <;> (first | omega | decide)))) | (with_reducible refine ok_f ?_ ?_; · (first | omega | ((try simp (disch := omega) only [w32_eq, w64_eq, ix_n, ix_e, sto_n, sto_e, sto_r, zf_r, Int.toNat_natCast, true_or, or_true, eq_self]) <;> (first | omega | decide)))) | (with_reducible refine ok_ct ?_ ?_; · (first | omega | ((try simp (disch := omega) only [w32_eq, w64_eq, ix_n, ix_e, sto_n, sto_e, sto_r, zf_r, Int.toNat_natCast, true_or, or_true, eq_self]) <;> (first | omega | decide)))) | (with_reducible refine ok_cf ?_ ?_; · (first | omega | ((try simp (disch := omega) only [w32_eq, w64_eq, ix_n, ix_e, sto_n, sto_e, sto_r, zf_r, Int.toNat_natCast, true_or, or_true, eq_self]) <;> (first | omega | decide)))))
      refine go _ ?_
      rw [ei, u104, w32_neg, x1, w32_eq (by omega) (by omega)]
