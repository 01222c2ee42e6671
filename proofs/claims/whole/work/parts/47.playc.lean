/-! the component plays so -/
def sc (M : Mem) (c : Nat) (w : Nat → Int) : Mem := fun a => if a = c then w else M a
theorem sc_e {M : Mem} {c : Nat} {w : Nat → Int} : sc M c w c = w := by unfold sc; rw [if_pos rfl]
theorem sc_r {M : Mem} {c a : Nat} {w : Nat → Int} (h : a ≠ c) : sc M c w a = M a := by unfold sc; rw [if_neg h]
theorem sto_sc {M : Mem} {c j : Nat} {w : Nat → Int} {v : Int} : sto (sc M c w) c j v = sc M c (up w j v) := by
  funext a; by_cases h : a = c
  · subst h; rw [sto_up, sc_e, sc_e]
  · rw [sto_r h, sc_r h, sc_r h]
theorem sc_0 {M : Mem} {c : Nat} : sc M c (M c) = M := by
  funext a; by_cases h : a = c
  · subst h; rw [sc_e]
  · rw [sc_r h]
theorem sto_as {M : Mem} {c j : Nat} {v : Int} : sto M c j v = sc M c (up (M c) j v) := by
  rw [← sto_sc, sc_0]
theorem sc_sc {M : Mem} {c : Nat} {w v : Nat → Int} : sc (sc M c w) c v = sc M c v := by
  funext a; by_cases h : a = c
  · subst h; rw [sc_e, sc_e]
  · rw [sc_r h, sc_r h, sc_r h]
theorem fr_sc {A : List Nat} {K : List (Nat × Nat)} {M : Mem} {c : Nat} {w : Nat → Int} (h : c ∈ A) : Fr A K M (sc M c w) := by
  intro a ha b hb
  rw [sc_r (by intro e; subst e; exact ha h)]
def adP (w : Nat → Int) (a : Nat) (p : Nat → Int) (n : Nat) : Nat → Int := fun i => if a ≤ i ∧ i < a + n then w i + p (i - a) else w i
theorem adP_0 {w p : Nat → Int} {a : Nat} : adP w a p 0 = w := by funext i; unfold adP; rw [if_neg (by omega)]
theorem adP_20 {w p : Nat → Int} {a : Nat} : adP w a p 20 = adS w a p := rfl
theorem adP_n {w p : Nat → Int} {a n : Nat} : adP w a p n (a + n) = w (a + n) := by unfold adP; rw [if_neg (by omega)]
theorem adP_s {w p : Nat → Int} {a n : Nat} : up (adP w a p n) (a + n) (w (a + n) + p n) = adP w a p (n + 1) := by
  funext i; unfold up adP
  by_cases c : i = a + n
  · subst c; rw [if_pos rfl, if_pos (by omega), show a + n - a = n by omega]
  · rw [if_neg c]
    by_cases c2 : a ≤ i ∧ i < a + n
    · rw [if_pos c2, if_pos (by omega)]
    · rw [if_neg c2, if_neg (by omega)]
/-- rows of bins, found by their slots -/
def RH (n : Nat) (M : Mem) (H : Nat → Int) : Prop := (0 ≤ M 75 10 ∧ M 75 10 ≤ n) ∧ (∀ s, s < 600 → -1 ≤ M 81 s ∧ M 81 s < M 75 10) ∧ (∀ s s', s < 600 → s' < 600 → M 81 s = M 81 s' → M 81 s ≠ -1 → s = s') ∧ (∀ s f, s < 600 → f < 20 → M 81 s = -1 → H (20 * s + f) = 0) ∧ ∀ s f, s < 600 → f < 20 → M 81 s ≠ -1 → M 82 (20 * (M 81 s).toNat + f) = H (20 * s + f)
theorem RH.on {n : Nat} {M M' : Mem} {H : Nat → Int} (h : RH n M H) (h1 : M' 75 10 = M 75 10) (h2 : M' 81 = M 81) (h3 : M' 82 = M 82) : RH n M' H := by
  unfold RH at h ⊢; rw [h1, h2, h3]; exact h
theorem l_open {s r : Nat} {M : Mem} (hr : r < 120) (h10 : M 75 10 = (r : Int)) : ∀ n fuel i : Nat, i + n = 20 → n < fuel → fix (fun _ _ _ => none) k_Pl_openRow_22 fuel (s : Int) (i : Int) (zf M 82 (20 * r) (20 * r + i) 0) = k_Pl_openRow_59 (s : Int) (sto (zf M 82 (20 * r) (20 * r + 20) 0) 75 10 ((r : Int) + 1)) := by
  intro n; induction n with
  | zero =>
    intro fuel i e hf
    obtain ⟨f, rfl⟩ : ∃ f, fuel = f + 1 := ⟨fuel - 1, by omega⟩
    rw [fix_s]; unfold k_Pl_openRow_22
    repeat (first | with_reducible refine e_let ?_ | with_reducible refine e_cs ?_ | with_reducible refine e_clet ?_ | with_reducible refine e_cc ?_ | (with_reducible refine e_chk ?_ ?_; · (first | omega | ((try simp (disch := omega) only [w32_eq, w64_eq, ix_n, ix_e, sto_n, sto_e, sto_r, zf_r, Int.toNat_natCast, true_or, or_true, eq_self, h10]) <;> (first | omega | decide)))) | (with_reducible refine e_cchk ?_ ?_; · (first | omega | ((try simp (disch := omega) only [w32_eq, w64_eq, ix_n, ix_e, sto_n, sto_e, sto_r, zf_r, Int.toNat_natCast, true_or, or_true, eq_self, h10]) <;> (first | omega | decide)))) | (with_reducible refine e_t ?_ ?_; · (first | omega | ((try simp (disch := omega) only [w32_eq, w64_eq, ix_n, ix_e, sto_n, sto_e, sto_r, zf_r, Int.toNat_natCast, true_or, or_true, eq_self, h10]) <;> (first | omega | decide)))) | (with_reducible refine e_f ?_ ?_; · (first | omega | ((try simp (disch := omega) only [w32_eq, w64_eq, ix_n, ix_e, sto_n, sto_e, sto_r, zf_r, Int.toNat_natCast, true_or, or_true, eq_self, h10]) <;> (first | omega | decide)))) | (with_reducible refine e_ct ?_ ?_; · (first | omega | ((try simp (disch := omega) only [w32_eq, w64_eq, ix_n, ix_e, sto_n, sto_e, sto_r, zf_r, Int.toNat_natCast, true_or, or_true, eq_self, h10]) <;> (first | omega | decide)))) | (with_reducible refine e_cf ?_ ?_; · (first | omega | ((try simp (disch := omega) only [w32_eq, w64_eq, ix_n, ix_e, sto_n, sto_e, sto_r, zf_r, Int.toNat_natCast, true_or, or_true, eq_self, h10]) <;> (first | omega | decide)))))
    rw [zf_r (by decide), h10, show i = 20 by omega]
  | succ n ih =>
    intro fuel i e hf
    obtain ⟨f, rfl⟩ : ∃ f, fuel = f + 1 := ⟨fuel - 1, by omega⟩
    rw [fix_s]
    have := ih f (i + 1) (by omega) (by omega)
    have hj : (i : Int) + 1 = ((i + 1 : Nat) : Int) := by omega
    rw [← hj] at this
    unfold k_Pl_openRow_22
    repeat (first | with_reducible refine e_let ?_ | with_reducible refine e_cs ?_ | with_reducible refine e_clet ?_ | with_reducible refine e_cc ?_ | (with_reducible refine e_chk ?_ ?_; · (first | omega | ((try simp (disch := omega) only [w32_eq, w64_eq, ix_n, ix_e, sto_n, sto_e, sto_r, zf_r, Int.toNat_natCast, true_or, or_true, eq_self, h10]) <;> (first | omega | decide)))) | (with_reducible refine e_cchk ?_ ?_; · (first | omega | ((try simp (disch := omega) only [w32_eq, w64_eq, ix_n, ix_e, sto_n, sto_e, sto_r, zf_r, Int.toNat_natCast, true_or, or_true, eq_self, h10]) <;> (first | omega | decide)))) | (with_reducible refine e_t ?_ ?_; · (first | omega | ((try simp (disch := omega) only [w32_eq, w64_eq, ix_n, ix_e, sto_n, sto_e, sto_r, zf_r, Int.toNat_natCast, true_or, or_true, eq_self, h10]) <;> (first | omega | decide)))) | (with_reducible refine e_f ?_ ?_; · (first | omega | ((try simp (disch := omega) only [w32_eq, w64_eq, ix_n, ix_e, sto_n, sto_e, sto_r, zf_r, Int.toNat_natCast, true_or, or_true, eq_self, h10]) <;> (first | omega | decide)))) | (with_reducible refine e_ct ?_ ?_; · (first | omega | ((try simp (disch := omega) only [w32_eq, w64_eq, ix_n, ix_e, sto_n, sto_e, sto_r, zf_r, Int.toNat_natCast, true_or, or_true, eq_self, h10]) <;> (first | omega | decide)))) | (with_reducible refine e_cf ?_ ?_; · (first | omega | ((try simp (disch := omega) only [w32_eq, w64_eq, ix_n, ix_e, sto_n, sto_e, sto_r, zf_r, Int.toNat_natCast, true_or, or_true, eq_self, h10]) <;> (first | omega | decide)))))
    rw [zf_r (show 75 ≠ 82 by decide), h10, show (r : Int) * 20 + (i : Int) = ((20 * r + i : Nat) : Int) by omega, ix_n (by omega)]
    rw [show sto (zf M 82 (20 * r) (20 * r + i) 0) 82 (20 * r + i) 0 = zf M 82 (20 * r) (20 * r + (i + 1)) 0 from ?_]
    · exact this
    · funext a; by_cases h : a = 82
      · subst h; funext b; rw [sto_c, if_pos rfl, zf_c, zf_c]
        by_cases h1 : b = 20 * r + i
        · rw [if_pos h1, if_pos (by omega)]
        · rw [if_neg h1]
          by_cases h2 : 20 * r ≤ b ∧ b < 20 * r + i
          · rw [if_pos h2, if_pos (by omega)]
          · rw [if_neg h2, if_neg (by omega)]
      · rw [sto_r h, zf_r h, zf_r h]
theorem s_openRow {n s : Nat} {M : Mem} {H : Nat → Int} (h : RH n M H) (hs : s < 600) (hn : n < 120) : Ok (d_Pl_openRow (s : Int) M) (fun v M' => (RH (n + 1) M' H ∧ (0 ≤ M' 81 s ∧ M' 81 s < 120) ∧ v = M' 81 s) ∧ Fr [81, 82] [(75, 10)] M M') := by
  refine ok_fr ?_ (fun r hr => w_Pl_openRow hr)
  obtain ⟨h1, h2, h3, h4, h5⟩ := h
  have hb := h2 s hs
  unfold d_Pl_openRow
  by_cases c : M 81 s = -1
  · obtain ⟨r, hr⟩ : ∃ r : Nat, M 75 10 = (r : Int) := ⟨(M 75 10).toNat, by omega⟩
    repeat (first | with_reducible refine ok_let ?_ | with_reducible refine ok_cs ?_ | with_reducible refine ok_clet ?_ | with_reducible refine ok_cc ?_ | (with_reducible refine ok_chk ?_ ?_; · (first | omega | ((try simp (disch := omega) only [w32_eq, w64_eq, ix_n, ix_e, sto_n, sto_e, sto_r, zf_r, Int.toNat_natCast, true_or, or_true, eq_self, c]) <;> (first | omega | decide)))) | (with_reducible refine ok_cchk ?_ ?_; · (first | omega | ((try simp (disch := omega) only [w32_eq, w64_eq, ix_n, ix_e, sto_n, sto_e, sto_r, zf_r, Int.toNat_natCast, true_or, or_true, eq_self, c]) <;> (first | omega | decide)))) | (with_reducible refine ok_t ?_ ?_; · (first | omega | ((try simp (disch := omega) only [w32_eq, w64_eq, ix_n, ix_e, sto_n, sto_e, sto_r, zf_r, Int.toNat_natCast, true_or, or_true, eq_self, c]) <;> (first | omega | decide)))) | (with_reducible refine ok_f ?_ ?_; · (first | omega | ((try simp (disch := omega) only [w32_eq, w64_eq, ix_n, ix_e, sto_n, sto_e, sto_r, zf_r, Int.toNat_natCast, true_or, or_true, eq_self, c]) <;> (first | omega | decide)))) | (with_reducible refine ok_ct ?_ ?_; · (first | omega | ((try simp (disch := omega) only [w32_eq, w64_eq, ix_n, ix_e, sto_n, sto_e, sto_r, zf_r, Int.toNat_natCast, true_or, or_true, eq_self, c]) <;> (first | omega | decide)))) | (with_reducible refine ok_cf ?_ ?_; · (first | omega | ((try simp (disch := omega) only [w32_eq, w64_eq, ix_n, ix_e, sto_n, sto_e, sto_r, zf_r, Int.toNat_natCast, true_or, or_true, eq_self, c]) <;> (first | omega | decide)))))
    rw [ix_n (by omega), hr]
    have q := l_open (s := s) (r := r) (M := sto M 81 s (r : Int)) (by omega) (by rw [sto_r (by decide)]; exact hr) 20 FU 0 (by omega) (by unfold FU; omega)
    rw [show (20 * r + 0) = 20 * r by omega, zf_0] at q
    refine ok_eqr q ?_
    have e81 : sto (zf (sto M 81 s (r : Int)) 82 (20 * r) (20 * r + 20) 0) 75 10 ((r : Int) + 1) 81 = up (M 81) s r := by rw [sto_r (by decide), zf_r (by decide), sto_up]
    have e82 : sto (zf (sto M 81 s (r : Int)) 82 (20 * r) (20 * r + 20) 0) 75 10 ((r : Int) + 1) 82 = zf M 82 (20 * r) (20 * r + 20) 0 82 := by
      rw [sto_r (by decide)]; funext b; rw [zf_c, zf_c, sto_r (by decide)]
    have e75 : sto (zf (sto M 81 s (r : Int)) 82 (20 * r) (20 * r + 20) 0) 75 10 ((r : Int) + 1) 75 10 = (r : Int) + 1 := sto_e
    generalize sto (zf (sto M 81 s (r : Int)) 82 (20 * r) (20 * r + 20) 0) 75 10 ((r : Int) + 1) = M' at *
    unfold k_Pl_openRow_59
    repeat (first | with_reducible refine ok_let ?_ | with_reducible refine ok_cs ?_ | with_reducible refine ok_clet ?_ | with_reducible refine ok_cc ?_ | (with_reducible refine ok_chk ?_ ?_; · (first | omega | ((try simp (disch := omega) only [w32_eq, w64_eq, ix_n, ix_e, sto_n, sto_e, sto_r, zf_r, Int.toNat_natCast, true_or, or_true, eq_self]) <;> (first | omega | decide)))) | (with_reducible refine ok_cchk ?_ ?_; · (first | omega | ((try simp (disch := omega) only [w32_eq, w64_eq, ix_n, ix_e, sto_n, sto_e, sto_r, zf_r, Int.toNat_natCast, true_or, or_true, eq_self]) <;> (first | omega | decide)))) | (with_reducible refine ok_t ?_ ?_; · (first | omega | ((try simp (disch := omega) only [w32_eq, w64_eq, ix_n, ix_e, sto_n, sto_e, sto_r, zf_r, Int.toNat_natCast, true_or, or_true, eq_self]) <;> (first | omega | decide)))) | (with_reducible refine ok_f ?_ ?_; · (first | omega | ((try simp (disch := omega) only [w32_eq, w64_eq, ix_n, ix_e, sto_n, sto_e, sto_r, zf_r, Int.toNat_natCast, true_or, or_true, eq_self]) <;> (first | omega | decide)))) | (with_reducible refine ok_ct ?_ ?_; · (first | omega | ((try simp (disch := omega) only [w32_eq, w64_eq, ix_n, ix_e, sto_n, sto_e, sto_r, zf_r, Int.toNat_natCast, true_or, or_true, eq_self]) <;> (first | omega | decide)))) | (with_reducible refine ok_cf ?_ ?_; · (first | omega | ((try simp (disch := omega) only [w32_eq, w64_eq, ix_n, ix_e, sto_n, sto_e, sto_r, zf_r, Int.toNat_natCast, true_or, or_true, eq_self]) <;> (first | omega | decide)))))
    refine ok_ret ⟨?_, ?_, ?_⟩
    · unfold RH; rw [e81, e82, e75]
      refine ⟨by omega, fun s' hs' => ?_, fun s1 s2 g1 g2 g3 g4 => ?_, fun s1 f g1 g2 g3 => ?_, fun s1 f g1 g2 g3 => ?_⟩
      · have := h2 s' hs'
        unfold up; split <;> omega
      · have q1 := h2 s1 g1
        have q2 := h2 s2 g2
        unfold up at g3 g4
        by_cases d1 : s1 = s
        · by_cases d2 : s2 = s
          · omega
          · rw [if_pos d1, if_neg d2] at g3; omega
        · rw [if_neg d1] at g3 g4
          by_cases d2 : s2 = s
          · rw [if_pos d2] at g3; omega
          · rw [if_neg d2] at g3; exact h3 s1 s2 g1 g2 g3 g4
      · unfold up at g3
        by_cases d1 : s1 = s
        · rw [if_pos d1] at g3; omega
        · rw [if_neg d1] at g3; exact h4 s1 f g1 g2 g3
      · unfold up at g3 ⊢
        by_cases d1 : s1 = s
        · subst d1; rw [if_pos rfl, zf_c, if_pos (by omega)]; exact (h4 s1 f g1 g2 c).symm
        · rw [if_neg d1] at g3 ⊢
          have := h2 s1 g1
          rw [zf_c, if_neg (by omega)]; exact h5 s1 f g1 g2 g3
    · rw [e81, up_e]; omega
    · rw [ix_n (by omega)]
  · repeat (first | with_reducible refine ok_let ?_ | with_reducible refine ok_cs ?_ | with_reducible refine ok_clet ?_ | with_reducible refine ok_cc ?_ | (with_reducible refine ok_chk ?_ ?_; · (first | omega | ((try simp (disch := omega) only [w32_eq, w64_eq, ix_n, ix_e, sto_n, sto_e, sto_r, zf_r, Int.toNat_natCast, true_or, or_true, eq_self]) <;> (first | omega | decide)))) | (with_reducible refine ok_cchk ?_ ?_; · (first | omega | ((try simp (disch := omega) only [w32_eq, w64_eq, ix_n, ix_e, sto_n, sto_e, sto_r, zf_r, Int.toNat_natCast, true_or, or_true, eq_self]) <;> (first | omega | decide)))) | (with_reducible refine ok_t ?_ ?_; · (first | omega | ((try simp (disch := omega) only [w32_eq, w64_eq, ix_n, ix_e, sto_n, sto_e, sto_r, zf_r, Int.toNat_natCast, true_or, or_true, eq_self]) <;> (first | omega | decide)))) | (with_reducible refine ok_f ?_ ?_; · (first | omega | ((try simp (disch := omega) only [w32_eq, w64_eq, ix_n, ix_e, sto_n, sto_e, sto_r, zf_r, Int.toNat_natCast, true_or, or_true, eq_self]) <;> (first | omega | decide)))) | (with_reducible refine ok_ct ?_ ?_; · (first | omega | ((try simp (disch := omega) only [w32_eq, w64_eq, ix_n, ix_e, sto_n, sto_e, sto_r, zf_r, Int.toNat_natCast, true_or, or_true, eq_self]) <;> (first | omega | decide)))) | (with_reducible refine ok_cf ?_ ?_; · (first | omega | ((try simp (disch := omega) only [w32_eq, w64_eq, ix_n, ix_e, sto_n, sto_e, sto_r, zf_r, Int.toNat_natCast, true_or, or_true, eq_self]) <;> (first | omega | decide)))))
    unfold k_Pl_openRow_59
    repeat (first | with_reducible refine ok_let ?_ | with_reducible refine ok_cs ?_ | with_reducible refine ok_clet ?_ | with_reducible refine ok_cc ?_ | (with_reducible refine ok_chk ?_ ?_; · (first | omega | ((try simp (disch := omega) only [w32_eq, w64_eq, ix_n, ix_e, sto_n, sto_e, sto_r, zf_r, Int.toNat_natCast, true_or, or_true, eq_self]) <;> (first | omega | decide)))) | (with_reducible refine ok_cchk ?_ ?_; · (first | omega | ((try simp (disch := omega) only [w32_eq, w64_eq, ix_n, ix_e, sto_n, sto_e, sto_r, zf_r, Int.toNat_natCast, true_or, or_true, eq_self]) <;> (first | omega | decide)))) | (with_reducible refine ok_t ?_ ?_; · (first | omega | ((try simp (disch := omega) only [w32_eq, w64_eq, ix_n, ix_e, sto_n, sto_e, sto_r, zf_r, Int.toNat_natCast, true_or, or_true, eq_self]) <;> (first | omega | decide)))) | (with_reducible refine ok_f ?_ ?_; · (first | omega | ((try simp (disch := omega) only [w32_eq, w64_eq, ix_n, ix_e, sto_n, sto_e, sto_r, zf_r, Int.toNat_natCast, true_or, or_true, eq_self]) <;> (first | omega | decide)))) | (with_reducible refine ok_ct ?_ ?_; · (first | omega | ((try simp (disch := omega) only [w32_eq, w64_eq, ix_n, ix_e, sto_n, sto_e, sto_r, zf_r, Int.toNat_natCast, true_or, or_true, eq_self]) <;> (first | omega | decide)))) | (with_reducible refine ok_cf ?_ ?_; · (first | omega | ((try simp (disch := omega) only [w32_eq, w64_eq, ix_n, ix_e, sto_n, sto_e, sto_r, zf_r, Int.toNat_natCast, true_or, or_true, eq_self]) <;> (first | omega | decide)))))
    refine ok_ret ⟨⟨by omega, h2, h3, h4, h5⟩, by omega, by rw [ix_n (by omega)]⟩
theorem l_bush {r : Nat} (hr : r < 120) {M : Mem} {H : Nat → Int} (hH : ∀ f, f < 20 → M 82 (20 * r + f) = H f) : ∀ n fuel i : Nat, i + n = 20 → n < fuel → fix (fun _ _ _ _ => none) k_Pl_bushelsAt_38 fuel (r : Int) (sm H i) (i : Int) M = some (sm H 20, M) := by
  intro n; induction n with
  | zero =>
    intro fuel i e hf
    obtain ⟨f, rfl⟩ : ∃ f, fuel = f + 1 := ⟨fuel - 1, by omega⟩
    rw [fix_s]; unfold k_Pl_bushelsAt_38
    repeat (first | with_reducible refine e_let ?_ | with_reducible refine e_cs ?_ | with_reducible refine e_clet ?_ | with_reducible refine e_cc ?_ | (with_reducible refine e_chk ?_ ?_; · (first | omega | ((try simp (disch := omega) only [w32_eq, w64_eq, ix_n, ix_e, sto_n, sto_e, sto_r, zf_r, Int.toNat_natCast, true_or, or_true, eq_self]) <;> (first | omega | decide)))) | (with_reducible refine e_cchk ?_ ?_; · (first | omega | ((try simp (disch := omega) only [w32_eq, w64_eq, ix_n, ix_e, sto_n, sto_e, sto_r, zf_r, Int.toNat_natCast, true_or, or_true, eq_self]) <;> (first | omega | decide)))) | (with_reducible refine e_t ?_ ?_; · (first | omega | ((try simp (disch := omega) only [w32_eq, w64_eq, ix_n, ix_e, sto_n, sto_e, sto_r, zf_r, Int.toNat_natCast, true_or, or_true, eq_self]) <;> (first | omega | decide)))) | (with_reducible refine e_f ?_ ?_; · (first | omega | ((try simp (disch := omega) only [w32_eq, w64_eq, ix_n, ix_e, sto_n, sto_e, sto_r, zf_r, Int.toNat_natCast, true_or, or_true, eq_self]) <;> (first | omega | decide)))) | (with_reducible refine e_ct ?_ ?_; · (first | omega | ((try simp (disch := omega) only [w32_eq, w64_eq, ix_n, ix_e, sto_n, sto_e, sto_r, zf_r, Int.toNat_natCast, true_or, or_true, eq_self]) <;> (first | omega | decide)))) | (with_reducible refine e_cf ?_ ?_; · (first | omega | ((try simp (disch := omega) only [w32_eq, w64_eq, ix_n, ix_e, sto_n, sto_e, sto_r, zf_r, Int.toNat_natCast, true_or, or_true, eq_self]) <;> (first | omega | decide)))))
    rw [show i = 20 by omega]
  | succ n ih =>
    intro fuel i e hf
    obtain ⟨f, rfl⟩ : ∃ f, fuel = f + 1 := ⟨fuel - 1, by omega⟩
    rw [fix_s]
    have := ih f (i + 1) (by omega) (by omega)
    have hj : (i : Int) + 1 = ((i + 1 : Nat) : Int) := by omega
    rw [← hj] at this
    unfold k_Pl_bushelsAt_38
    repeat (first | with_reducible refine e_let ?_ | with_reducible refine e_cs ?_ | with_reducible refine e_clet ?_ | with_reducible refine e_cc ?_ | (with_reducible refine e_chk ?_ ?_; · (first | omega | ((try simp (disch := omega) only [w32_eq, w64_eq, ix_n, ix_e, sto_n, sto_e, sto_r, zf_r, Int.toNat_natCast, true_or, or_true, eq_self]) <;> (first | omega | decide)))) | (with_reducible refine e_cchk ?_ ?_; · (first | omega | ((try simp (disch := omega) only [w32_eq, w64_eq, ix_n, ix_e, sto_n, sto_e, sto_r, zf_r, Int.toNat_natCast, true_or, or_true, eq_self]) <;> (first | omega | decide)))) | (with_reducible refine e_t ?_ ?_; · (first | omega | ((try simp (disch := omega) only [w32_eq, w64_eq, ix_n, ix_e, sto_n, sto_e, sto_r, zf_r, Int.toNat_natCast, true_or, or_true, eq_self]) <;> (first | omega | decide)))) | (with_reducible refine e_f ?_ ?_; · (first | omega | ((try simp (disch := omega) only [w32_eq, w64_eq, ix_n, ix_e, sto_n, sto_e, sto_r, zf_r, Int.toNat_natCast, true_or, or_true, eq_self]) <;> (first | omega | decide)))) | (with_reducible refine e_ct ?_ ?_; · (first | omega | ((try simp (disch := omega) only [w32_eq, w64_eq, ix_n, ix_e, sto_n, sto_e, sto_r, zf_r, Int.toNat_natCast, true_or, or_true, eq_self]) <;> (first | omega | decide)))) | (with_reducible refine e_cf ?_ ?_; · (first | omega | ((try simp (disch := omega) only [w32_eq, w64_eq, ix_n, ix_e, sto_n, sto_e, sto_r, zf_r, Int.toNat_natCast, true_or, or_true, eq_self]) <;> (first | omega | decide)))))
    rw [show (r : Int) * 20 + (i : Int) = ((20 * r + i : Nat) : Int) by omega, ix_n (by omega), hH i (by omega)]
    exact this
theorem s_bushelsAt {n s : Nat} {M : Mem} {H : Nat → Int} (h : RH n M H) (hn : n ≤ 120) (hs : s < 600) : d_Pl_bushelsAt (s : Int) (-1) M = some (sm (fun f => if f < 20 then H (20 * s + f) else 0) 20, M) := by
  obtain ⟨h1, h2, h3, h4, h5⟩ := h
  have hb := h2 s hs
  unfold d_Pl_bushelsAt
  by_cases c : M 81 s = -1
  · repeat (first | with_reducible refine e_let ?_ | with_reducible refine e_cs ?_ | with_reducible refine e_clet ?_ | with_reducible refine e_cc ?_ | (with_reducible refine e_chk ?_ ?_; · (first | omega | ((try simp (disch := omega) only [w32_eq, w64_eq, ix_n, ix_e, sto_n, sto_e, sto_r, zf_r, Int.toNat_natCast, true_or, or_true, eq_self, c]) <;> (first | omega | decide)))) | (with_reducible refine e_cchk ?_ ?_; · (first | omega | ((try simp (disch := omega) only [w32_eq, w64_eq, ix_n, ix_e, sto_n, sto_e, sto_r, zf_r, Int.toNat_natCast, true_or, or_true, eq_self, c]) <;> (first | omega | decide)))) | (with_reducible refine e_t ?_ ?_; · (first | omega | ((try simp (disch := omega) only [w32_eq, w64_eq, ix_n, ix_e, sto_n, sto_e, sto_r, zf_r, Int.toNat_natCast, true_or, or_true, eq_self, c]) <;> (first | omega | decide)))) | (with_reducible refine e_f ?_ ?_; · (first | omega | ((try simp (disch := omega) only [w32_eq, w64_eq, ix_n, ix_e, sto_n, sto_e, sto_r, zf_r, Int.toNat_natCast, true_or, or_true, eq_self, c]) <;> (first | omega | decide)))) | (with_reducible refine e_ct ?_ ?_; · (first | omega | ((try simp (disch := omega) only [w32_eq, w64_eq, ix_n, ix_e, sto_n, sto_e, sto_r, zf_r, Int.toNat_natCast, true_or, or_true, eq_self, c]) <;> (first | omega | decide)))) | (with_reducible refine e_cf ?_ ?_; · (first | omega | ((try simp (disch := omega) only [w32_eq, w64_eq, ix_n, ix_e, sto_n, sto_e, sto_r, zf_r, Int.toNat_natCast, true_or, or_true, eq_self, c]) <;> (first | omega | decide)))))
    rw [sm_0 20 (fun i hi => by rw [if_pos hi]; exact h4 s i hs hi c)]
  · obtain ⟨r, hr⟩ : ∃ r : Nat, M 81 s = (r : Int) := ⟨(M 81 s).toNat, by omega⟩
    repeat (first | with_reducible refine e_let ?_ | with_reducible refine e_cs ?_ | with_reducible refine e_clet ?_ | with_reducible refine e_cc ?_ | (with_reducible refine e_chk ?_ ?_; · (first | omega | ((try simp (disch := omega) only [w32_eq, w64_eq, ix_n, ix_e, sto_n, sto_e, sto_r, zf_r, Int.toNat_natCast, true_or, or_true, eq_self, hr]) <;> (first | omega | decide)))) | (with_reducible refine e_cchk ?_ ?_; · (first | omega | ((try simp (disch := omega) only [w32_eq, w64_eq, ix_n, ix_e, sto_n, sto_e, sto_r, zf_r, Int.toNat_natCast, true_or, or_true, eq_self, hr]) <;> (first | omega | decide)))) | (with_reducible refine e_t ?_ ?_; · (first | omega | ((try simp (disch := omega) only [w32_eq, w64_eq, ix_n, ix_e, sto_n, sto_e, sto_r, zf_r, Int.toNat_natCast, true_or, or_true, eq_self, hr]) <;> (first | omega | decide)))) | (with_reducible refine e_f ?_ ?_; · (first | omega | ((try simp (disch := omega) only [w32_eq, w64_eq, ix_n, ix_e, sto_n, sto_e, sto_r, zf_r, Int.toNat_natCast, true_or, or_true, eq_self, hr]) <;> (first | omega | decide)))) | (with_reducible refine e_ct ?_ ?_; · (first | omega | ((try simp (disch := omega) only [w32_eq, w64_eq, ix_n, ix_e, sto_n, sto_e, sto_r, zf_r, Int.toNat_natCast, true_or, or_true, eq_self, hr]) <;> (first | omega | decide)))) | (with_reducible refine e_cf ?_ ?_; · (first | omega | ((try simp (disch := omega) only [w32_eq, w64_eq, ix_n, ix_e, sto_n, sto_e, sto_r, zf_r, Int.toNat_natCast, true_or, or_true, eq_self, hr]) <;> (first | omega | decide)))))
    rw [ix_n (by omega), hr]
    exact l_bush (by omega) (fun f hf => by rw [if_pos hf, ← h5 s f hs hf c, hr]; rfl) 20 FU 0 (by omega) (by unfold FU; omega)
theorem s_bushelsOf {n s f : Nat} {M : Mem} {H : Nat → Int} (h : RH n M H) (hn : n ≤ 120) (hs : s < 600) (hf : f < 20) : d_Pl_bushelsAt (s : Int) (f : Int) M = some (H (20 * s + f), M) := by
  obtain ⟨h1, h2, h3, h4, h5⟩ := h
  have hb := h2 s hs
  unfold d_Pl_bushelsAt
  by_cases c : M 81 s = -1
  · repeat (first | with_reducible refine e_let ?_ | with_reducible refine e_cs ?_ | with_reducible refine e_clet ?_ | with_reducible refine e_cc ?_ | (with_reducible refine e_chk ?_ ?_; · (first | omega | ((try simp (disch := omega) only [w32_eq, w64_eq, ix_n, ix_e, sto_n, sto_e, sto_r, zf_r, Int.toNat_natCast, true_or, or_true, eq_self, c]) <;> (first | omega | decide)))) | (with_reducible refine e_cchk ?_ ?_; · (first | omega | ((try simp (disch := omega) only [w32_eq, w64_eq, ix_n, ix_e, sto_n, sto_e, sto_r, zf_r, Int.toNat_natCast, true_or, or_true, eq_self, c]) <;> (first | omega | decide)))) | (with_reducible refine e_t ?_ ?_; · (first | omega | ((try simp (disch := omega) only [w32_eq, w64_eq, ix_n, ix_e, sto_n, sto_e, sto_r, zf_r, Int.toNat_natCast, true_or, or_true, eq_self, c]) <;> (first | omega | decide)))) | (with_reducible refine e_f ?_ ?_; · (first | omega | ((try simp (disch := omega) only [w32_eq, w64_eq, ix_n, ix_e, sto_n, sto_e, sto_r, zf_r, Int.toNat_natCast, true_or, or_true, eq_self, c]) <;> (first | omega | decide)))) | (with_reducible refine e_ct ?_ ?_; · (first | omega | ((try simp (disch := omega) only [w32_eq, w64_eq, ix_n, ix_e, sto_n, sto_e, sto_r, zf_r, Int.toNat_natCast, true_or, or_true, eq_self, c]) <;> (first | omega | decide)))) | (with_reducible refine e_cf ?_ ?_; · (first | omega | ((try simp (disch := omega) only [w32_eq, w64_eq, ix_n, ix_e, sto_n, sto_e, sto_r, zf_r, Int.toNat_natCast, true_or, or_true, eq_self, c]) <;> (first | omega | decide)))))
    rw [h4 s f hs hf c]
  · obtain ⟨r, hr⟩ : ∃ r : Nat, M 81 s = (r : Int) := ⟨(M 81 s).toNat, by omega⟩
    repeat (first | with_reducible refine e_let ?_ | with_reducible refine e_cs ?_ | with_reducible refine e_clet ?_ | with_reducible refine e_cc ?_ | (with_reducible refine e_chk ?_ ?_; · (first | omega | ((try simp (disch := omega) only [w32_eq, w64_eq, ix_n, ix_e, sto_n, sto_e, sto_r, zf_r, Int.toNat_natCast, true_or, or_true, eq_self, hr]) <;> (first | omega | decide)))) | (with_reducible refine e_cchk ?_ ?_; · (first | omega | ((try simp (disch := omega) only [w32_eq, w64_eq, ix_n, ix_e, sto_n, sto_e, sto_r, zf_r, Int.toNat_natCast, true_or, or_true, eq_self, hr]) <;> (first | omega | decide)))) | (with_reducible refine e_t ?_ ?_; · (first | omega | ((try simp (disch := omega) only [w32_eq, w64_eq, ix_n, ix_e, sto_n, sto_e, sto_r, zf_r, Int.toNat_natCast, true_or, or_true, eq_self, hr]) <;> (first | omega | decide)))) | (with_reducible refine e_f ?_ ?_; · (first | omega | ((try simp (disch := omega) only [w32_eq, w64_eq, ix_n, ix_e, sto_n, sto_e, sto_r, zf_r, Int.toNat_natCast, true_or, or_true, eq_self, hr]) <;> (first | omega | decide)))) | (with_reducible refine e_ct ?_ ?_; · (first | omega | ((try simp (disch := omega) only [w32_eq, w64_eq, ix_n, ix_e, sto_n, sto_e, sto_r, zf_r, Int.toNat_natCast, true_or, or_true, eq_self, hr]) <;> (first | omega | decide)))) | (with_reducible refine e_cf ?_ ?_; · (first | omega | ((try simp (disch := omega) only [w32_eq, w64_eq, ix_n, ix_e, sto_n, sto_e, sto_r, zf_r, Int.toNat_natCast, true_or, or_true, eq_self, hr]) <;> (first | omega | decide)))))
    have q := h5 s f hs hf c
    rw [hr, Int.toNat_natCast] at q
    rw [ix_n (by omega), hr, show (r : Int) * 20 + (f : Int) = ((20 * r + f : Nat) : Int) by omega, ix_n (by omega), q]
theorem l_take {r : Nat} (hr : r < 120) {M : Mem} : ∀ n fuel i : Nat, i + n = 20 → n < fuel → fix (fun _ _ _ => none) k_Pl_takeParts_103 fuel (r : Int) (i : Int) (sc M 82 (adP (M 82) (20 * r) (fun f => - M 86 f) i)) = some (0, sc M 82 (adS (M 82) (20 * r) (fun f => - M 86 f))) := by
  intro n; induction n with
  | zero =>
    intro fuel i e hf
    obtain ⟨f, rfl⟩ : ∃ f, fuel = f + 1 := ⟨fuel - 1, by omega⟩
    rw [fix_s]; unfold k_Pl_takeParts_103
    repeat (first | with_reducible refine e_let ?_ | with_reducible refine e_cs ?_ | with_reducible refine e_clet ?_ | with_reducible refine e_cc ?_ | (with_reducible refine e_chk ?_ ?_; · (first | omega | ((try simp (disch := omega) only [w32_eq, w64_eq, ix_n, ix_e, sto_n, sto_e, sto_r, zf_r, Int.toNat_natCast, true_or, or_true, eq_self]) <;> (first | omega | decide)))) | (with_reducible refine e_cchk ?_ ?_; · (first | omega | ((try simp (disch := omega) only [w32_eq, w64_eq, ix_n, ix_e, sto_n, sto_e, sto_r, zf_r, Int.toNat_natCast, true_or, or_true, eq_self]) <;> (first | omega | decide)))) | (with_reducible refine e_t ?_ ?_; · (first | omega | ((try simp (disch := omega) only [w32_eq, w64_eq, ix_n, ix_e, sto_n, sto_e, sto_r, zf_r, Int.toNat_natCast, true_or, or_true, eq_self]) <;> (first | omega | decide)))) | (with_reducible refine e_f ?_ ?_; · (first | omega | ((try simp (disch := omega) only [w32_eq, w64_eq, ix_n, ix_e, sto_n, sto_e, sto_r, zf_r, Int.toNat_natCast, true_or, or_true, eq_self]) <;> (first | omega | decide)))) | (with_reducible refine e_ct ?_ ?_; · (first | omega | ((try simp (disch := omega) only [w32_eq, w64_eq, ix_n, ix_e, sto_n, sto_e, sto_r, zf_r, Int.toNat_natCast, true_or, or_true, eq_self]) <;> (first | omega | decide)))) | (with_reducible refine e_cf ?_ ?_; · (first | omega | ((try simp (disch := omega) only [w32_eq, w64_eq, ix_n, ix_e, sto_n, sto_e, sto_r, zf_r, Int.toNat_natCast, true_or, or_true, eq_self]) <;> (first | omega | decide)))))
    rw [show i = 20 by omega]; rfl
  | succ n ih =>
    intro fuel i e hf
    obtain ⟨f, rfl⟩ : ∃ f, fuel = f + 1 := ⟨fuel - 1, by omega⟩
    rw [fix_s]
    have := ih f (i + 1) (by omega) (by omega)
    have hj : (i : Int) + 1 = ((i + 1 : Nat) : Int) := by omega
    rw [← hj] at this
    unfold k_Pl_takeParts_103
    repeat (first | with_reducible refine e_let ?_ | with_reducible refine e_cs ?_ | with_reducible refine e_clet ?_ | with_reducible refine e_cc ?_ | (with_reducible refine e_chk ?_ ?_; · (first | omega | ((try simp (disch := omega) only [w32_eq, w64_eq, ix_n, ix_e, sto_n, sto_e, sto_r, zf_r, Int.toNat_natCast, true_or, or_true, eq_self]) <;> (first | omega | decide)))) | (with_reducible refine e_cchk ?_ ?_; · (first | omega | ((try simp (disch := omega) only [w32_eq, w64_eq, ix_n, ix_e, sto_n, sto_e, sto_r, zf_r, Int.toNat_natCast, true_or, or_true, eq_self]) <;> (first | omega | decide)))) | (with_reducible refine e_t ?_ ?_; · (first | omega | ((try simp (disch := omega) only [w32_eq, w64_eq, ix_n, ix_e, sto_n, sto_e, sto_r, zf_r, Int.toNat_natCast, true_or, or_true, eq_self]) <;> (first | omega | decide)))) | (with_reducible refine e_f ?_ ?_; · (first | omega | ((try simp (disch := omega) only [w32_eq, w64_eq, ix_n, ix_e, sto_n, sto_e, sto_r, zf_r, Int.toNat_natCast, true_or, or_true, eq_self]) <;> (first | omega | decide)))) | (with_reducible refine e_ct ?_ ?_; · (first | omega | ((try simp (disch := omega) only [w32_eq, w64_eq, ix_n, ix_e, sto_n, sto_e, sto_r, zf_r, Int.toNat_natCast, true_or, or_true, eq_self]) <;> (first | omega | decide)))) | (with_reducible refine e_cf ?_ ?_; · (first | omega | ((try simp (disch := omega) only [w32_eq, w64_eq, ix_n, ix_e, sto_n, sto_e, sto_r, zf_r, Int.toNat_natCast, true_or, or_true, eq_self]) <;> (first | omega | decide)))))
    rw [show (r : Int) * 20 + (i : Int) = ((20 * r + i : Nat) : Int) by omega, ix_n (by omega), ix_n (by omega), sto_sc, sc_e, sc_r (show 86 ≠ 82 by decide), adP_n, Int.sub_eq_add_neg, adP_s]
    exact this
theorem l_addP {r : Nat} (hr : r < 120) {M : Mem} : ∀ n fuel i : Nat, i + n = 20 → n < fuel → fix (fun _ _ _ => none) k_Pl_addParts_2 fuel (r : Int) (i : Int) (sc M 82 (adP (M 82) (20 * r) (M 86) i)) = some (0, sc M 82 (adS (M 82) (20 * r) (M 86))) := by
  intro n; induction n with
  | zero =>
    intro fuel i e hf
    obtain ⟨f, rfl⟩ : ∃ f, fuel = f + 1 := ⟨fuel - 1, by omega⟩
    rw [fix_s]; unfold k_Pl_addParts_2
    repeat (first | with_reducible refine e_let ?_ | with_reducible refine e_cs ?_ | with_reducible refine e_clet ?_ | with_reducible refine e_cc ?_ | (with_reducible refine e_chk ?_ ?_; · (first | omega | ((try simp (disch := omega) only [w32_eq, w64_eq, ix_n, ix_e, sto_n, sto_e, sto_r, zf_r, Int.toNat_natCast, true_or, or_true, eq_self]) <;> (first | omega | decide)))) | (with_reducible refine e_cchk ?_ ?_; · (first | omega | ((try simp (disch := omega) only [w32_eq, w64_eq, ix_n, ix_e, sto_n, sto_e, sto_r, zf_r, Int.toNat_natCast, true_or, or_true, eq_self]) <;> (first | omega | decide)))) | (with_reducible refine e_t ?_ ?_; · (first | omega | ((try simp (disch := omega) only [w32_eq, w64_eq, ix_n, ix_e, sto_n, sto_e, sto_r, zf_r, Int.toNat_natCast, true_or, or_true, eq_self]) <;> (first | omega | decide)))) | (with_reducible refine e_f ?_ ?_; · (first | omega | ((try simp (disch := omega) only [w32_eq, w64_eq, ix_n, ix_e, sto_n, sto_e, sto_r, zf_r, Int.toNat_natCast, true_or, or_true, eq_self]) <;> (first | omega | decide)))) | (with_reducible refine e_ct ?_ ?_; · (first | omega | ((try simp (disch := omega) only [w32_eq, w64_eq, ix_n, ix_e, sto_n, sto_e, sto_r, zf_r, Int.toNat_natCast, true_or, or_true, eq_self]) <;> (first | omega | decide)))) | (with_reducible refine e_cf ?_ ?_; · (first | omega | ((try simp (disch := omega) only [w32_eq, w64_eq, ix_n, ix_e, sto_n, sto_e, sto_r, zf_r, Int.toNat_natCast, true_or, or_true, eq_self]) <;> (first | omega | decide)))))
    rw [show i = 20 by omega]; rfl
  | succ n ih =>
    intro fuel i e hf
    obtain ⟨f, rfl⟩ : ∃ f, fuel = f + 1 := ⟨fuel - 1, by omega⟩
    rw [fix_s]
    have := ih f (i + 1) (by omega) (by omega)
    have hj : (i : Int) + 1 = ((i + 1 : Nat) : Int) := by omega
    rw [← hj] at this
    unfold k_Pl_addParts_2
    repeat (first | with_reducible refine e_let ?_ | with_reducible refine e_cs ?_ | with_reducible refine e_clet ?_ | with_reducible refine e_cc ?_ | (with_reducible refine e_chk ?_ ?_; · (first | omega | ((try simp (disch := omega) only [w32_eq, w64_eq, ix_n, ix_e, sto_n, sto_e, sto_r, zf_r, Int.toNat_natCast, true_or, or_true, eq_self]) <;> (first | omega | decide)))) | (with_reducible refine e_cchk ?_ ?_; · (first | omega | ((try simp (disch := omega) only [w32_eq, w64_eq, ix_n, ix_e, sto_n, sto_e, sto_r, zf_r, Int.toNat_natCast, true_or, or_true, eq_self]) <;> (first | omega | decide)))) | (with_reducible refine e_t ?_ ?_; · (first | omega | ((try simp (disch := omega) only [w32_eq, w64_eq, ix_n, ix_e, sto_n, sto_e, sto_r, zf_r, Int.toNat_natCast, true_or, or_true, eq_self]) <;> (first | omega | decide)))) | (with_reducible refine e_f ?_ ?_; · (first | omega | ((try simp (disch := omega) only [w32_eq, w64_eq, ix_n, ix_e, sto_n, sto_e, sto_r, zf_r, Int.toNat_natCast, true_or, or_true, eq_self]) <;> (first | omega | decide)))) | (with_reducible refine e_ct ?_ ?_; · (first | omega | ((try simp (disch := omega) only [w32_eq, w64_eq, ix_n, ix_e, sto_n, sto_e, sto_r, zf_r, Int.toNat_natCast, true_or, or_true, eq_self]) <;> (first | omega | decide)))) | (with_reducible refine e_cf ?_ ?_; · (first | omega | ((try simp (disch := omega) only [w32_eq, w64_eq, ix_n, ix_e, sto_n, sto_e, sto_r, zf_r, Int.toNat_natCast, true_or, or_true, eq_self]) <;> (first | omega | decide)))))
    rw [show (r : Int) * 20 + (i : Int) = ((20 * r + i : Nat) : Int) by omega, ix_n (by omega), ix_n (by omega), sto_sc, sc_e, sc_r (show 86 ≠ 82 by decide), adP_n, adP_s]
    exact this
theorem s_addParts {r : Nat} (hr : r < 120) {M : Mem} : d_Pl_addParts (r : Int) M = some (0, sc M 82 (adS (M 82) (20 * r) (M 86))) := by
  unfold d_Pl_addParts
  have q := l_addP hr (M := M) 20 FU 0 (by omega) (by unfold FU; omega)
  rw [adP_0, sc_0] at q; exact q
theorem l_cntP {r : Nat} (hr : r < 4) {M : Mem} : ∀ n fuel i : Nat, i + n = 20 → n < fuel → fix (fun _ _ _ => none) k_Pl_countParts_2 fuel (r : Int) (i : Int) (sc M 84 (adP (M 84) (20 * r) (M 86) i)) = some (0, sc M 84 (adS (M 84) (20 * r) (M 86))) := by
  intro n; induction n with
  | zero =>
    intro fuel i e hf
    obtain ⟨f, rfl⟩ : ∃ f, fuel = f + 1 := ⟨fuel - 1, by omega⟩
    rw [fix_s]; unfold k_Pl_countParts_2
    repeat (first | with_reducible refine e_let ?_ | with_reducible refine e_cs ?_ | with_reducible refine e_clet ?_ | with_reducible refine e_cc ?_ | (with_reducible refine e_chk ?_ ?_; · (first | omega | ((try simp (disch := omega) only [w32_eq, w64_eq, ix_n, ix_e, sto_n, sto_e, sto_r, zf_r, Int.toNat_natCast, true_or, or_true, eq_self]) <;> (first | omega | decide)))) | (with_reducible refine e_cchk ?_ ?_; · (first | omega | ((try simp (disch := omega) only [w32_eq, w64_eq, ix_n, ix_e, sto_n, sto_e, sto_r, zf_r, Int.toNat_natCast, true_or, or_true, eq_self]) <;> (first | omega | decide)))) | (with_reducible refine e_t ?_ ?_; · (first | omega | ((try simp (disch := omega) only [w32_eq, w64_eq, ix_n, ix_e, sto_n, sto_e, sto_r, zf_r, Int.toNat_natCast, true_or, or_true, eq_self]) <;> (first | omega | decide)))) | (with_reducible refine e_f ?_ ?_; · (first | omega | ((try simp (disch := omega) only [w32_eq, w64_eq, ix_n, ix_e, sto_n, sto_e, sto_r, zf_r, Int.toNat_natCast, true_or, or_true, eq_self]) <;> (first | omega | decide)))) | (with_reducible refine e_ct ?_ ?_; · (first | omega | ((try simp (disch := omega) only [w32_eq, w64_eq, ix_n, ix_e, sto_n, sto_e, sto_r, zf_r, Int.toNat_natCast, true_or, or_true, eq_self]) <;> (first | omega | decide)))) | (with_reducible refine e_cf ?_ ?_; · (first | omega | ((try simp (disch := omega) only [w32_eq, w64_eq, ix_n, ix_e, sto_n, sto_e, sto_r, zf_r, Int.toNat_natCast, true_or, or_true, eq_self]) <;> (first | omega | decide)))))
    rw [show i = 20 by omega]; rfl
  | succ n ih =>
    intro fuel i e hf
    obtain ⟨f, rfl⟩ : ∃ f, fuel = f + 1 := ⟨fuel - 1, by omega⟩
    rw [fix_s]
    have := ih f (i + 1) (by omega) (by omega)
    have hj : (i : Int) + 1 = ((i + 1 : Nat) : Int) := by omega
    rw [← hj] at this
    unfold k_Pl_countParts_2
    repeat (first | with_reducible refine e_let ?_ | with_reducible refine e_cs ?_ | with_reducible refine e_clet ?_ | with_reducible refine e_cc ?_ | (with_reducible refine e_chk ?_ ?_; · (first | omega | ((try simp (disch := omega) only [w32_eq, w64_eq, ix_n, ix_e, sto_n, sto_e, sto_r, zf_r, Int.toNat_natCast, true_or, or_true, eq_self]) <;> (first | omega | decide)))) | (with_reducible refine e_cchk ?_ ?_; · (first | omega | ((try simp (disch := omega) only [w32_eq, w64_eq, ix_n, ix_e, sto_n, sto_e, sto_r, zf_r, Int.toNat_natCast, true_or, or_true, eq_self]) <;> (first | omega | decide)))) | (with_reducible refine e_t ?_ ?_; · (first | omega | ((try simp (disch := omega) only [w32_eq, w64_eq, ix_n, ix_e, sto_n, sto_e, sto_r, zf_r, Int.toNat_natCast, true_or, or_true, eq_self]) <;> (first | omega | decide)))) | (with_reducible refine e_f ?_ ?_; · (first | omega | ((try simp (disch := omega) only [w32_eq, w64_eq, ix_n, ix_e, sto_n, sto_e, sto_r, zf_r, Int.toNat_natCast, true_or, or_true, eq_self]) <;> (first | omega | decide)))) | (with_reducible refine e_ct ?_ ?_; · (first | omega | ((try simp (disch := omega) only [w32_eq, w64_eq, ix_n, ix_e, sto_n, sto_e, sto_r, zf_r, Int.toNat_natCast, true_or, or_true, eq_self]) <;> (first | omega | decide)))) | (with_reducible refine e_cf ?_ ?_; · (first | omega | ((try simp (disch := omega) only [w32_eq, w64_eq, ix_n, ix_e, sto_n, sto_e, sto_r, zf_r, Int.toNat_natCast, true_or, or_true, eq_self]) <;> (first | omega | decide)))))
    rw [show (r : Int) * 20 + (i : Int) = ((20 * r + i : Nat) : Int) by omega, ix_n (by omega), ix_n (by omega), sto_sc, sc_e, sc_r (show 86 ≠ 84 by decide), adP_n, adP_s]
    exact this
theorem s_countParts {r : Nat} (hr : r < 4) {M : Mem} : d_Pl_countParts (r : Int) M = some (0, sc M 84 (adS (M 84) (20 * r) (M 86))) := by
  unfold d_Pl_countParts
  have q := l_cntP hr (M := M) 20 FU 0 (by omega) (by unfold FU; omega)
  rw [adP_0, sc_0] at q; exact q
/-- one row changed by p -/
theorem RH.add {n s : Nat} {M : Mem} {H p : Nat → Int} (h : RH n M H) (hs : s < 600) (hr : M 81 s ≠ -1) {p' : Nat → Int} (hp : ∀ f, f < 20 → p f = p' f) : RH n (sc M 82 (adS (M 82) (20 * (M 81 s).toNat) p)) (adS H (20 * s) p') := by
  obtain ⟨h1, h2, h3, h4, h5⟩ := h
  unfold RH
  rw [sc_r (show 75 ≠ 82 by decide), sc_r (show 81 ≠ 82 by decide), sc_e]
  refine ⟨h1, h2, h3, fun s1 f g1 g2 g3 => ?_, fun s1 f g1 g2 g3 => ?_⟩
  · have : s1 ≠ s := by intro e; subst e; exact hr g3
    rw [adS_out (by omega)]; exact h4 s1 f g1 g2 g3
  · by_cases c : s1 = s
    · subst c; rw [adS_in g2, adS_in g2, h5 s1 f g1 g2 g3, hp f g2]
    · have q1 := h2 s1 g1
      have q2 := h2 s hs
      have : M 81 s1 ≠ M 81 s := fun e => c (h3 s1 s g1 hs e g3)
      rw [adS_out (by omega), adS_out (by omega)]; exact h5 s1 f g1 g2 g3
theorem mn32_eq {x y : Int} (h1 : I32 x) (h2 : I32 y) : mn32 x y = if x ≤ y then x else y := by
  unfold mn32; rw [h1.w, h2.w]
  by_cases c : x ≤ y
  · rw [if_pos c, if_neg (by omega)]
  · rw [if_neg c, if_pos (by omega)]
theorem mx32_eq {x y : Int} (h1 : I32 x) (h2 : I32 y) : mx32 x y = if x ≤ y then y else x := by
  unfold mx32; rw [h1.w, h2.w]
  by_cases c : x < y
  · rw [if_pos c, if_pos (by omega)]
  · rw [if_neg c]
    by_cases c2 : x ≤ y
    · rw [if_pos c2]; omega
    · rw [if_neg c2]
theorem s_takeParts {n k s : Nat} {M : Mem} {H : Nat → Int} (h : RH n M H) (hn : n < 120) (hk : k < 120) (hs : s < 600) (hH : ∀ f, f < 20 → 0 ≤ H (20 * s + f) ∧ H (20 * s + f) ≤ 12000000) {b : Int} (hb : M 22 k = b) (hb1 : 1 ≤ b ∧ b ≤ 100000) {w : Nat → Int} (hw : w = fun f => if f < 20 then H (20 * s + f) else 0) {tk : Int} (htk : tk = if b ≤ sm w 20 then b else sm w 20) :
    Ok (d_Pl_takeParts (k : Int) (s : Int) M) (fun _ M' => (RH n M' (adS H (20 * s) (fun f => - prtS 20 tk w f)) ∧ (∀ f, f < 20 → M' 86 f = prtS 20 tk w f) ∧ M' 76 = up (M 76) k tk ∧ M' 75 14 = M 75 14 + (b - tk)) ∧ Fr [76, 82, 85, 86, 87] [(75, 14)] M M') := by
  refine ok_fr ?_ (fun r hr => w_Pl_takeParts hr)
  have hw0 : ∀ f, 0 ≤ w f ∧ w f ≤ 12000000 := fun f => by
    rw [hw]; show 0 ≤ (if f < 20 then H (20 * s + f) else 0) ∧ (if f < 20 then H (20 * s + f) else 0) ≤ 12000000
    split
    · exact hH f (by assumption)
    · omega
  have hs0 := sm_nn (w := w) 20 (fun f _ => (hw0 f).1)
  have hs1 := sm_b (w := w) (c := 12000000) 20 (fun f _ => (hw0 f).2)
  have htk0 : 0 ≤ tk ∧ tk ≤ 100000 ∧ tk ≤ sm w 20 := by rw [htk]; split <;> omega
  have hba := s_bushelsAt h (by omega) hs
  rw [← hw] at hba
  have h2 := h.2.1 s hs
  have h1 := h.1
  unfold d_Pl_takeParts
  repeat (first | with_reducible refine ok_let ?_ | with_reducible refine ok_cs ?_ | with_reducible refine ok_clet ?_ | with_reducible refine ok_cc ?_ | (with_reducible refine ok_chk ?_ ?_; · (first | omega | ((try simp (disch := omega) only [w32_eq, w64_eq, ix_n, ix_e, sto_n, sto_e, sto_r, zf_r, Int.toNat_natCast, true_or, or_true, eq_self]) <;> (first | omega | decide)))) | (with_reducible refine ok_cchk ?_ ?_; · (first | omega | ((try simp (disch := omega) only [w32_eq, w64_eq, ix_n, ix_e, sto_n, sto_e, sto_r, zf_r, Int.toNat_natCast, true_or, or_true, eq_self]) <;> (first | omega | decide)))) | (with_reducible refine ok_t ?_ ?_; · (first | omega | ((try simp (disch := omega) only [w32_eq, w64_eq, ix_n, ix_e, sto_n, sto_e, sto_r, zf_r, Int.toNat_natCast, true_or, or_true, eq_self]) <;> (first | omega | decide)))) | (with_reducible refine ok_f ?_ ?_; · (first | omega | ((try simp (disch := omega) only [w32_eq, w64_eq, ix_n, ix_e, sto_n, sto_e, sto_r, zf_r, Int.toNat_natCast, true_or, or_true, eq_self]) <;> (first | omega | decide)))) | (with_reducible refine ok_ct ?_ ?_; · (first | omega | ((try simp (disch := omega) only [w32_eq, w64_eq, ix_n, ix_e, sto_n, sto_e, sto_r, zf_r, Int.toNat_natCast, true_or, or_true, eq_self]) <;> (first | omega | decide)))) | (with_reducible refine ok_cf ?_ ?_; · (first | omega | ((try simp (disch := omega) only [w32_eq, w64_eq, ix_n, ix_e, sto_n, sto_e, sto_r, zf_r, Int.toNat_natCast, true_or, or_true, eq_self]) <;> (first | omega | decide)))))
  refine ok_call_eq hba ?_
  repeat (first | with_reducible refine ok_let ?_ | with_reducible refine ok_cs ?_ | with_reducible refine ok_clet ?_ | with_reducible refine ok_cc ?_ | (with_reducible refine ok_chk ?_ ?_; · (first | omega | ((try simp (disch := omega) only [w32_eq, w64_eq, ix_n, ix_e, sto_n, sto_e, sto_r, zf_r, Int.toNat_natCast, true_or, or_true, eq_self]) <;> (first | omega | decide)))) | (with_reducible refine ok_cchk ?_ ?_; · (first | omega | ((try simp (disch := omega) only [w32_eq, w64_eq, ix_n, ix_e, sto_n, sto_e, sto_r, zf_r, Int.toNat_natCast, true_or, or_true, eq_self]) <;> (first | omega | decide)))) | (with_reducible refine ok_t ?_ ?_; · (first | omega | ((try simp (disch := omega) only [w32_eq, w64_eq, ix_n, ix_e, sto_n, sto_e, sto_r, zf_r, Int.toNat_natCast, true_or, or_true, eq_self]) <;> (first | omega | decide)))) | (with_reducible refine ok_f ?_ ?_; · (first | omega | ((try simp (disch := omega) only [w32_eq, w64_eq, ix_n, ix_e, sto_n, sto_e, sto_r, zf_r, Int.toNat_natCast, true_or, or_true, eq_self]) <;> (first | omega | decide)))) | (with_reducible refine ok_ct ?_ ?_; · (first | omega | ((try simp (disch := omega) only [w32_eq, w64_eq, ix_n, ix_e, sto_n, sto_e, sto_r, zf_r, Int.toNat_natCast, true_or, or_true, eq_self]) <;> (first | omega | decide)))) | (with_reducible refine ok_cf ?_ ?_; · (first | omega | ((try simp (disch := omega) only [w32_eq, w64_eq, ix_n, ix_e, sto_n, sto_e, sto_r, zf_r, Int.toNat_natCast, true_or, or_true, eq_self]) <;> (first | omega | decide)))))
  have e1 : mn32 (M 22 (ix (k : Int))) (sm w 20) = tk := by
    rw [ix_n (by omega), hb, mn32_eq ⟨by omega, by omega⟩ ⟨by omega, by omega⟩, htk]
  rw [e1, ix_n (by omega), hb]
  refine ok_call_eq (s_fill0 (by decide)) ?_
  have x81 : zf (sto (sto M 76 k tk) 75 14 (sto M 76 k tk 75 14 + (b - tk))) 86 0 20 0 81 = M 81 := by rw [zf_r (by decide), sto_r (by decide), sto_r (by decide)]
  have x82 : zf (sto (sto M 76 k tk) 75 14 (sto M 76 k tk 75 14 + (b - tk))) 86 0 20 0 82 = M 82 := by rw [zf_r (by decide), sto_r (by decide), sto_r (by decide)]
  have x76 : zf (sto (sto M 76 k tk) 75 14 (sto M 76 k tk 75 14 + (b - tk))) 86 0 20 0 76 = up (M 76) k tk := by rw [zf_r (by decide), sto_r (by decide), sto_up]
  have x10 : zf (sto (sto M 76 k tk) 75 14 (sto M 76 k tk 75 14 + (b - tk))) 86 0 20 0 75 10 = M 75 10 := by rw [zf_r (by decide), sto_n (by decide), sto_r (by decide)]
  have x14 : zf (sto (sto M 76 k tk) 75 14 (sto M 76 k tk 75 14 + (b - tk))) 86 0 20 0 75 14 = M 75 14 + (b - tk) := by rw [zf_r (by decide), sto_e, sto_r (by decide)]
  have x86 : ∀ f, f < 20 → zf (sto (sto M 76 k tk) 75 14 (sto M 76 k tk 75 14 + (b - tk))) 86 0 20 0 86 f = 0 := fun f hf => by rw [zf_c, if_pos (by omega)]
  generalize zf (sto (sto M 76 k tk) 75 14 (sto M 76 k tk 75 14 + (b - tk))) 86 0 20 0 = M1 at *
  by_cases c : M 81 s = -1
  · repeat (first | with_reducible refine ok_let ?_ | with_reducible refine ok_cs ?_ | with_reducible refine ok_clet ?_ | with_reducible refine ok_cc ?_ | (with_reducible refine ok_chk ?_ ?_; · (first | omega | ((try simp (disch := omega) only [w32_eq, w64_eq, ix_n, ix_e, sto_n, sto_e, sto_r, zf_r, Int.toNat_natCast, true_or, or_true, eq_self, x81, c]) <;> (first | omega | decide)))) | (with_reducible refine ok_cchk ?_ ?_; · (first | omega | ((try simp (disch := omega) only [w32_eq, w64_eq, ix_n, ix_e, sto_n, sto_e, sto_r, zf_r, Int.toNat_natCast, true_or, or_true, eq_self, x81, c]) <;> (first | omega | decide)))) | (with_reducible refine ok_t ?_ ?_; · (first | omega | ((try simp (disch := omega) only [w32_eq, w64_eq, ix_n, ix_e, sto_n, sto_e, sto_r, zf_r, Int.toNat_natCast, true_or, or_true, eq_self, x81, c]) <;> (first | omega | decide)))) | (with_reducible refine ok_f ?_ ?_; · (first | omega | ((try simp (disch := omega) only [w32_eq, w64_eq, ix_n, ix_e, sto_n, sto_e, sto_r, zf_r, Int.toNat_natCast, true_or, or_true, eq_self, x81, c]) <;> (first | omega | decide)))) | (with_reducible refine ok_ct ?_ ?_; · (first | omega | ((try simp (disch := omega) only [w32_eq, w64_eq, ix_n, ix_e, sto_n, sto_e, sto_r, zf_r, Int.toNat_natCast, true_or, or_true, eq_self, x81, c]) <;> (first | omega | decide)))) | (with_reducible refine ok_cf ?_ ?_; · (first | omega | ((try simp (disch := omega) only [w32_eq, w64_eq, ix_n, ix_e, sto_n, sto_e, sto_r, zf_r, Int.toNat_natCast, true_or, or_true, eq_self, x81, c]) <;> (first | omega | decide)))))
    have hz : sm w 20 = 0 := sm_0 20 (fun f hf => by rw [hw]; show (if f < 20 then H (20 * s + f) else 0) = 0; rw [if_pos hf]; exact h.2.2.2.1 s f hs hf c)
    have hp : prtS 20 tk w = fun _ => 0 := by unfold prtS; rw [if_pos hz]
    refine ok_ret ⟨?_, ?_, x76, x14⟩
    · rw [hp]
      have : adS H (20 * s) (fun _ => -0) = H := by
        funext i; unfold adS; split
        · show H i + -0 = H i; omega
        · rfl
      show RH n M1 (adS H (20 * s) (fun _ => -0))
      rw [this]; exact h.on x10 x81 x82
    · intro f hf; rw [hp, x86 f hf]
  · obtain ⟨r, hr⟩ : ∃ r : Nat, M 81 s = (r : Int) := ⟨(M 81 s).toNat, by omega⟩
    repeat (first | with_reducible refine ok_let ?_ | with_reducible refine ok_cs ?_ | with_reducible refine ok_clet ?_ | with_reducible refine ok_cc ?_ | (with_reducible refine ok_chk ?_ ?_; · (first | omega | ((try simp (disch := omega) only [w32_eq, w64_eq, ix_n, ix_e, sto_n, sto_e, sto_r, zf_r, Int.toNat_natCast, true_or, or_true, eq_self, x81, hr]) <;> (first | omega | decide)))) | (with_reducible refine ok_cchk ?_ ?_; · (first | omega | ((try simp (disch := omega) only [w32_eq, w64_eq, ix_n, ix_e, sto_n, sto_e, sto_r, zf_r, Int.toNat_natCast, true_or, or_true, eq_self, x81, hr]) <;> (first | omega | decide)))) | (with_reducible refine ok_t ?_ ?_; · (first | omega | ((try simp (disch := omega) only [w32_eq, w64_eq, ix_n, ix_e, sto_n, sto_e, sto_r, zf_r, Int.toNat_natCast, true_or, or_true, eq_self, x81, hr]) <;> (first | omega | decide)))) | (with_reducible refine ok_f ?_ ?_; · (first | omega | ((try simp (disch := omega) only [w32_eq, w64_eq, ix_n, ix_e, sto_n, sto_e, sto_r, zf_r, Int.toNat_natCast, true_or, or_true, eq_self, x81, hr]) <;> (first | omega | decide)))) | (with_reducible refine ok_ct ?_ ?_; · (first | omega | ((try simp (disch := omega) only [w32_eq, w64_eq, ix_n, ix_e, sto_n, sto_e, sto_r, zf_r, Int.toNat_natCast, true_or, or_true, eq_self, x81, hr]) <;> (first | omega | decide)))) | (with_reducible refine ok_cf ?_ ?_; · (first | omega | ((try simp (disch := omega) only [w32_eq, w64_eq, ix_n, ix_e, sto_n, sto_e, sto_r, zf_r, Int.toNat_natCast, true_or, or_true, eq_self, x81, hr]) <;> (first | omega | decide)))))
    have er : ix (M1 81 (ix (s : Int)) * 20) = 20 * r := by
      rw [x81, ix_n (by omega), hr, show (r : Int) * 20 = ((20 * r : Nat) : Int) by omega, ix_n (by omega)]
    have er2 : M1 81 (ix (s : Int)) = (r : Int) := by rw [x81, ix_n (by omega), hr]
    rw [er, er2, w32_eq (x := tk) (by omega) (by omega)]
    refine ok_call (s_part (k3 := 85) (k4 := 86) (by decide) (by decide) (by decide) (w := w) (fun f hf => ?_) (fun f => (hw0 f).1) htk0.1 (by omega) ?_) (fun v M2 hv => ?_)
    · rw [cpy_c, if_pos (by omega), x82, hw]
      show M 82 (20 * r + (f - 0)) = if f < 20 then H (20 * s + f) else 0
      rw [if_pos hf, ← h.2.2.2.2 s f hs hf c, hr]; rfl
    · have := mul_b (x := tk) (y := sm w 20) (a := 100000) (b := 240000000) ⟨htk0.1, htk0.2.1⟩ ⟨hs0, by omega⟩
      omega
    · obtain ⟨hv1, hF⟩ := hv
      have q := l_take (r := r) (by omega) (M := M2) 20 FU 0 (by omega) (by unfold FU; omega)
      rw [adP_0, sc_0] at q
      refine ok_eqr q (ok_ret ?_)
      have y81 : M2 81 = M 81 := by rw [hF.c 81 (by decide) (by decide), cpy_r (by decide), x81]
      have y82 : M2 82 = M 82 := by rw [hF.c 82 (by decide) (by decide), cpy_r (by decide), x82]
      have y76 : M2 76 = up (M 76) k tk := by rw [hF.c 76 (by decide) (by decide), cpy_r (by decide), x76]
      have y10 : M2 75 10 = M 75 10 := by rw [hF.c 75 (by decide) (by decide), cpy_r (by decide), x10]
      have y14 : M2 75 14 = M 75 14 + (b - tk) := by rw [hF.c 75 (by decide) (by decide), cpy_r (by decide), x14]
      refine ⟨?_, ?_, ?_, ?_⟩
      · have q2 := (h.on y10 y81 y82).add hs (p := fun f => - M2 86 f) (p' := fun f => - prtS 20 tk w f) (by rw [y81]; exact c) (fun f hf => by show - M2 86 f = - prtS 20 tk w f; rw [hv1 f hf])
        rw [y81, hr, Int.toNat_natCast] at q2; exact q2
      · intro f hf; rw [sc_r (by decide)]; exact hv1 f hf
      · rw [sc_r (by decide)]; exact y76
      · rw [sc_r (by decide)]; exact y14
theorem s_slotB {a b c : Int} {M : Mem} : d_Pl_slotOfBin a b c M = some (a * 60 + b * 10 + c, M) := rfl
theorem s_slotP {a b c : Int} {M : Mem} : d_Pl_slotOfPort a b c M = some ((8 + a) * 60 + b * 10 + c, M) := rfl
/-- the component's play and the state -/
def RC (n : Nat) (M S : Mem) : Prop := RH n M (S 0) ∧ (∀ e, e < 8 → M 83 e = S 1 e) ∧ (∀ j, j < 80 → M 84 j = S 2 j) ∧ M 75 14 = S 3 0 ∧ ∀ k, k < n → M 76 k = S 4 k
def caL : List Nat := [14, 16, 17, 18, 19, 20, 21, 22, 23]
theorem c_bring {F : Nat → Int → (Nat → Int) → Int} {M0 M S : Mem} {n : Nat} {kw : Int} (hA : AskI F M0) (hG : IvG F M0) (hE : IvE M0) (hP : IvP M0) (hM : ∀ c ∈ caL, M c = M0 c) (h77 : ∀ k : Nat, k < 120 → M 77 k = gS M0 k kw) (hn : (n : Int) < M0 111 7) (h0 : M0 120 n = 0) (hW : PW M0 n S) (hR : RC n M S) :
    Ok (d_Pl_bring (n : Int) (M0 122 n) M) (fun _ M' => RC (n + 1) M' (stL M0 kw n S)) := by
  obtain ⟨l1, l2, l3, l4, l5, l6, l7, l8, l9, l10, l11, l12, l13, l14⟩ := (hE.2.2.2.2.2.2.2.1 n hn).load h0
  have nb := netS_b l11 l12
  have hg := gS_r hA hG (k := n) (kw := kw)
  have hE1 := hE.1
  have hP1 := hP.1
  have hP2 := hP.2.1
  have hpe := hP.2.2.2.2.2.2.1 (M0 122 n).toNat (by omega)
  obtain ⟨-, hc, hsl⟩ := hW.load (kw := kw) hA hG hE hP hn h0
  obtain ⟨p1, p2, p3, p4, p5, p6, p7⟩ := hW
  have he := p3 (M0 122 n).toNat (by omega)
  have he0 : 0 ≤ S 1 (M0 122 n).toNat := by rw [p2 _ (by omega)]; exact sm_nn 1200 (fun i hi => (p1 _ (by omega)).1)
  have hfl := p1 (20 * slL M0 kw n + (M0 121 n).toNat) (by omega)
  have ht1 := p5 (M0 121 n).toNat (by omega)
  have ht2 := p5 (20 + (M0 121 n).toNat) (by omega)
  obtain ⟨r1, r2, r3, r4, r5⟩ := hR
  have n120 : n < 120 := by omega
  obtain ⟨e, hee⟩ : ∃ e : Nat, M0 122 n = (e : Int) := ⟨(M0 122 n).toNat, by omega⟩
  obtain ⟨f, hff⟩ : ∃ f : Nat, M0 121 n = (f : Int) := ⟨(M0 121 n).toNat, by omega⟩
  have q83 := r2 e (by omega)
  have q84 := r3 f (by omega)
  have q84b := r3 (20 + f) (by omega)
  have q17 := hM 17 (by decide)
  have q14 := hM 14 (by decide)
  have q22 := hM 22 (by decide)
  have q23 := hM 23 (by decide)
  have q21 := hM 21 (by decide)
  have q77 := h77 n n120
  have hcm : cmL M0 n S = if netS M0 n ≤ M0 119 e - S 1 e then netS M0 n else M0 119 e - S 1 e := by unfold cmL; rw [hee, Int.toNat_natCast]
  rw [hee, Int.toNat_natCast] at hpe he he0
  rw [hff, Int.toNat_natCast] at hfl ht1 ht2
  have enet : M 22 n - M 23 n = netS M0 n := by rw [q22, q23, l5, l6]; rfl
  rw [hee]
  unfold d_Pl_bring
  repeat (first | with_reducible refine ok_let ?_ | with_reducible refine ok_cs ?_ | with_reducible refine ok_clet ?_ | with_reducible refine ok_cc ?_ | (with_reducible refine ok_chk ?_ ?_; · (first | omega | ((try simp (disch := omega) only [w32_eq, w64_eq, ix_n, ix_e, sto_n, sto_e, sto_r, zf_r, Int.toNat_natCast, true_or, or_true, eq_self, q17, l2, hff]) <;> (first | omega | decide)))) | (with_reducible refine ok_cchk ?_ ?_; · (first | omega | ((try simp (disch := omega) only [w32_eq, w64_eq, ix_n, ix_e, sto_n, sto_e, sto_r, zf_r, Int.toNat_natCast, true_or, or_true, eq_self, q17, l2, hff]) <;> (first | omega | decide)))) | (with_reducible refine ok_t ?_ ?_; · (first | omega | ((try simp (disch := omega) only [w32_eq, w64_eq, ix_n, ix_e, sto_n, sto_e, sto_r, zf_r, Int.toNat_natCast, true_or, or_true, eq_self, q17, l2, hff]) <;> (first | omega | decide)))) | (with_reducible refine ok_f ?_ ?_; · (first | omega | ((try simp (disch := omega) only [w32_eq, w64_eq, ix_n, ix_e, sto_n, sto_e, sto_r, zf_r, Int.toNat_natCast, true_or, or_true, eq_self, q17, l2, hff]) <;> (first | omega | decide)))) | (with_reducible refine ok_ct ?_ ?_; · (first | omega | ((try simp (disch := omega) only [w32_eq, w64_eq, ix_n, ix_e, sto_n, sto_e, sto_r, zf_r, Int.toNat_natCast, true_or, or_true, eq_self, q17, l2, hff]) <;> (first | omega | decide)))) | (with_reducible refine ok_cf ?_ ?_; · (first | omega | ((try simp (disch := omega) only [w32_eq, w64_eq, ix_n, ix_e, sto_n, sto_e, sto_r, zf_r, Int.toNat_natCast, true_or, or_true, eq_self, q17, l2, hff]) <;> (first | omega | decide)))))
  refine ok_call_eq (s_netOf n120) ?_
  repeat (first | with_reducible refine ok_let ?_ | with_reducible refine ok_cs ?_ | with_reducible refine ok_clet ?_ | with_reducible refine ok_cc ?_ | (with_reducible refine ok_chk ?_ ?_; · (first | omega | ((try simp (disch := omega) only [w32_eq, w64_eq, ix_n, ix_e, sto_n, sto_e, sto_r, zf_r, Int.toNat_natCast, true_or, or_true, eq_self]) <;> (first | omega | decide)))) | (with_reducible refine ok_cchk ?_ ?_; · (first | omega | ((try simp (disch := omega) only [w32_eq, w64_eq, ix_n, ix_e, sto_n, sto_e, sto_r, zf_r, Int.toNat_natCast, true_or, or_true, eq_self]) <;> (first | omega | decide)))) | (with_reducible refine ok_t ?_ ?_; · (first | omega | ((try simp (disch := omega) only [w32_eq, w64_eq, ix_n, ix_e, sto_n, sto_e, sto_r, zf_r, Int.toNat_natCast, true_or, or_true, eq_self]) <;> (first | omega | decide)))) | (with_reducible refine ok_f ?_ ?_; · (first | omega | ((try simp (disch := omega) only [w32_eq, w64_eq, ix_n, ix_e, sto_n, sto_e, sto_r, zf_r, Int.toNat_natCast, true_or, or_true, eq_self]) <;> (first | omega | decide)))) | (with_reducible refine ok_ct ?_ ?_; · (first | omega | ((try simp (disch := omega) only [w32_eq, w64_eq, ix_n, ix_e, sto_n, sto_e, sto_r, zf_r, Int.toNat_natCast, true_or, or_true, eq_self]) <;> (first | omega | decide)))) | (with_reducible refine ok_cf ?_ ?_; · (first | omega | ((try simp (disch := omega) only [w32_eq, w64_eq, ix_n, ix_e, sto_n, sto_e, sto_r, zf_r, Int.toNat_natCast, true_or, or_true, eq_self]) <;> (first | omega | decide)))))
  rw [enet, ix_n (by omega), ix_n (by omega), q14, hpe.2.1, q83]
  have e1 : mn32 (netS M0 n) (M0 119 e - S 1 e) = cmL M0 n S := by rw [mn32_eq ⟨by omega, by omega⟩ ⟨by omega, by omega⟩, hcm]
  rw [e1]
  repeat (first | with_reducible refine ok_let ?_ | with_reducible refine ok_cs ?_ | with_reducible refine ok_clet ?_ | with_reducible refine ok_cc ?_ | (with_reducible refine ok_chk ?_ ?_; · (first | omega | ((try simp (disch := omega) only [w32_eq, w64_eq, ix_n, ix_e, sto_n, sto_e, sto_r, zf_r, Int.toNat_natCast, true_or, or_true, eq_self, q17, l2, hff]) <;> (first | omega | decide)))) | (with_reducible refine ok_cchk ?_ ?_; · (first | omega | ((try simp (disch := omega) only [w32_eq, w64_eq, ix_n, ix_e, sto_n, sto_e, sto_r, zf_r, Int.toNat_natCast, true_or, or_true, eq_self, q17, l2, hff]) <;> (first | omega | decide)))) | (with_reducible refine ok_t ?_ ?_; · (first | omega | ((try simp (disch := omega) only [w32_eq, w64_eq, ix_n, ix_e, sto_n, sto_e, sto_r, zf_r, Int.toNat_natCast, true_or, or_true, eq_self, q17, l2, hff]) <;> (first | omega | decide)))) | (with_reducible refine ok_f ?_ ?_; · (first | omega | ((try simp (disch := omega) only [w32_eq, w64_eq, ix_n, ix_e, sto_n, sto_e, sto_r, zf_r, Int.toNat_natCast, true_or, or_true, eq_self, q17, l2, hff]) <;> (first | omega | decide)))) | (with_reducible refine ok_ct ?_ ?_; · (first | omega | ((try simp (disch := omega) only [w32_eq, w64_eq, ix_n, ix_e, sto_n, sto_e, sto_r, zf_r, Int.toNat_natCast, true_or, or_true, eq_self, q17, l2, hff]) <;> (first | omega | decide)))) | (with_reducible refine ok_cf ?_ ?_; · (first | omega | ((try simp (disch := omega) only [w32_eq, w64_eq, ix_n, ix_e, sto_n, sto_e, sto_r, zf_r, Int.toNat_natCast, true_or, or_true, eq_self, q17, l2, hff]) <;> (first | omega | decide)))))
  have xa : ix (0 + M 17 n) = f := by rw [q17, l2, hff, Int.zero_add, ix_n (by omega)]
  have xb : ix (20 + M 17 n) = 20 + f := by rw [q17, l2, hff, show (20 : Int) + (f : Int) = ((20 + f : Nat) : Int) by omega, ix_n (by omega)]
  simp (disch := omega) only [xa, xb, sto_r, sto_n]
  refine ok_call_eq s_slotB ?_
  have es : (e : Int) * 60 + M 77 n * 10 + M 21 n = ((slL M0 kw n : Nat) : Int) := by
    rw [q77, q21, l4]; unfold slL; rw [hee]; omega
  rw [es, q83, q84, q84b, q23, l6]
  generalize hx : sto (sto (sto (sto M 76 n (cmL M0 n S)) 83 e (S 1 e + cmL M0 n S)) 84 f (S 2 f + dv32 (M0 126 n * M0 127 n) 1000)) 84 (20 + f) (S 2 (20 + f) + (netS M0 n - cmL M0 n S)) = M1
  have x76 : M1 76 = up (M 76) n (cmL M0 n S) := by rw [← hx]; simp (disch := decide) only [sto_r, sto_up]
  have x83 : M1 83 = up (M 83) e (S 1 e + cmL M0 n S) := by rw [← hx]; simp (disch := decide) only [sto_r, sto_up]
  have x84 : M1 84 = up (up (M 84) f (S 2 f + dv32 (M0 126 n * M0 127 n) 1000)) (20 + f) (S 2 (20 + f) + (netS M0 n - cmL M0 n S)) := by rw [← hx]; simp (disch := decide) only [sto_r, sto_up]
  have x75 : M1 75 = M 75 := by rw [← hx]; simp (disch := decide) only [sto_r]
  have x81 : M1 81 = M 81 := by rw [← hx]; simp (disch := decide) only [sto_r]
  have x82 : M1 82 = M 82 := by rw [← hx]; simp (disch := decide) only [sto_r]
  refine ok_call (s_openRow (r1.on (by rw [x75]) x81 x82) (s := slL M0 kw n) (by omega) n120) (fun v M2 hv => ?_)
  obtain ⟨⟨o1, o2, o3⟩, hF⟩ := hv
  obtain ⟨r, hr⟩ : ∃ r : Nat, M2 81 (slL M0 kw n) = (r : Int) := ⟨(M2 81 (slL M0 kw n)).toNat, by omega⟩
  rw [o3, hr, q17, l2, hff]
  repeat (first | with_reducible refine ok_let ?_ | with_reducible refine ok_cs ?_ | with_reducible refine ok_clet ?_ | with_reducible refine ok_cc ?_ | (with_reducible refine ok_chk ?_ ?_; · (first | omega | ((try simp (disch := omega) only [w32_eq, w64_eq, ix_n, ix_e, sto_n, sto_e, sto_r, zf_r, Int.toNat_natCast, true_or, or_true, eq_self]) <;> (first | omega | decide)))) | (with_reducible refine ok_cchk ?_ ?_; · (first | omega | ((try simp (disch := omega) only [w32_eq, w64_eq, ix_n, ix_e, sto_n, sto_e, sto_r, zf_r, Int.toNat_natCast, true_or, or_true, eq_self]) <;> (first | omega | decide)))) | (with_reducible refine ok_t ?_ ?_; · (first | omega | ((try simp (disch := omega) only [w32_eq, w64_eq, ix_n, ix_e, sto_n, sto_e, sto_r, zf_r, Int.toNat_natCast, true_or, or_true, eq_self]) <;> (first | omega | decide)))) | (with_reducible refine ok_f ?_ ?_; · (first | omega | ((try simp (disch := omega) only [w32_eq, w64_eq, ix_n, ix_e, sto_n, sto_e, sto_r, zf_r, Int.toNat_natCast, true_or, or_true, eq_self]) <;> (first | omega | decide)))) | (with_reducible refine ok_ct ?_ ?_; · (first | omega | ((try simp (disch := omega) only [w32_eq, w64_eq, ix_n, ix_e, sto_n, sto_e, sto_r, zf_r, Int.toNat_natCast, true_or, or_true, eq_self]) <;> (first | omega | decide)))) | (with_reducible refine ok_cf ?_ ?_; · (first | omega | ((try simp (disch := omega) only [w32_eq, w64_eq, ix_n, ix_e, sto_n, sto_e, sto_r, zf_r, Int.toNat_natCast, true_or, or_true, eq_self]) <;> (first | omega | decide)))))
  refine ok_ret ?_
  have ey : ix ((r : Int) * 20 + (f : Int)) = 20 * r + f := by rw [show (r : Int) * 20 + (f : Int) = ((20 * r + f : Nat) : Int) by omega, ix_n (by omega)]
  rw [ey, w32_eq (x := cmL M0 n S) (by omega) (by omega), sto_as]
  have e0 : stL M0 kw n S 0 = up (S 0) (20 * slL M0 kw n + f) (S 0 (20 * slL M0 kw n + f) + cmL M0 n S) := by
    show up (S 0) (20 * slL M0 kw n + (M0 121 n).toNat) _ = _
    rw [hff]; rfl
  refine ⟨?_, ?_, ?_, ?_, ?_⟩
  · rw [e0]
    obtain ⟨u1, u2, u3, u4, u5⟩ := o1
    unfold RH
    rw [sc_r (show 75 ≠ 82 by decide), sc_r (show 81 ≠ 82 by decide), sc_e]
    refine ⟨u1, u2, u3, fun s1 g g1 g2 g3 => ?_, fun s1 g g1 g2 g3 => ?_⟩
    · have : s1 ≠ slL M0 kw n := by intro e; subst e; omega
      rw [up_n (by omega)]; exact u4 s1 g g1 g2 g3
    · have q := u5 s1 g g1 g2 g3
      by_cases c : s1 = slL M0 kw n
      · subst c
        rw [hr, Int.toNat_natCast] at q ⊢
        by_cases c2 : g = f
        · subst c2; rw [up_e, up_e, q]
        · rw [up_n (by omega), up_n (by omega)]; exact q
      · have q1 := u2 s1 g1
        have : M2 81 s1 ≠ M2 81 (slL M0 kw n) := fun e => c (u3 s1 _ g1 (by omega) e g3)
        rw [up_n (by omega), up_n (by omega)]; exact q
  · intro e1 he1
    rw [sc_r (by decide), hF.c 83 (by decide) (by decide), x83]
    show _ = up (S 1) (M0 122 n).toNat _ e1
    rw [hee, Int.toNat_natCast]
    unfold up; split
    · rfl
    · exact r2 e1 he1
  · intro j hj
    rw [sc_r (by decide), hF.c 84 (by decide) (by decide), x84]
    show _ = up (up (S 2) (M0 121 n).toNat _) (20 + (M0 121 n).toNat) _ j
    rw [hff, Int.toNat_natCast]
    unfold up; split
    · rfl
    · split
      · rfl
      · exact r3 j hj
  · rw [sc_r (by decide), hF.f 75 14 (by decide) (by decide), x75]; exact r4
  · intro k hk
    rw [sc_r (by decide), hF.c 76 (by decide) (by decide), x76]
    show _ = up (S 4) n _ k
    unfold up; split
    · rfl
    · exact r5 k (by omega)
