/-! gradings: whose counts -/
def netS (M : Mem) (k : Nat) : Int := M 126 k - dv32 (M 126 k * M 127 k) 1000
def rkE (M : Mem) (g : Nat) : Nat → Int := up (up (up (up (up (up e0 0 (M 132 g)) 1 (M 131 g)) 2 (M 128 (M 130 g).toNat)) 3 (M 128 (M 130 g).toNat / 52)) 4 (netS M (M 130 g).toNat)) 7 (M 115 (M 121 (M 130 g).toNat).toNat)
/-- a grading, told alike -/
def Gr (M : Mem) (g : Nat) : Prop := M 27 g = M 130 g ∧ M 28 g = M 131 g ∧ M 29 g = M 132 g ∧ M 31 g = M 133 g ∧ (0 ≤ M 130 g ∧ M 130 g < M 111 7) ∧ M 120 (M 130 g).toNat = 0 ∧ (0 ≤ M 131 g ∧ M 131 g ≤ 5) ∧ (0 ≤ M 132 g ∧ M 132 g ≤ 5) ∧ (0 ≤ M 133 g ∧ M 133 g ≤ 519)
def IvG (F : Nat → Int → (Nat → Int) → Int) (M : Mem) : Prop := (0 ≤ M 111 8 ∧ M 111 8 ≤ 100) ∧ M 15 13 = M 111 8 ∧ ∀ g : Nat, (g : Int) < M 111 8 → Gr M g ∧ w32 (M 30 g) = F 0 (M 128 (M 130 g).toNat) (rkE M g)
theorem dv1000 {x : Int} (h : 0 ≤ x ∧ x < 2147483648) : dv32 x 1000 = x / 1000 := by
  unfold dv32; rw [w32_eq (by omega) (by omega), show w32 1000 = 1000 from rfl, Int.tdiv_eq_ediv_of_nonneg h.1]
theorem mul_b {x y a b : Int} (hx : 0 ≤ x ∧ x ≤ a) (hy : 0 ≤ y ∧ y ≤ b) : 0 ≤ x * y ∧ x * y ≤ a * b :=
  ⟨Int.mul_nonneg hx.1 hy.1, Int.mul_le_mul hx.2 hy.2 hy.1 (by omega)⟩
/-- what is known of a load -/
theorem Ev.load {M : Mem} {k : Nat} (h : Ev M k) (h0 : M 120 k = 0) : M 16 k = 0 ∧ M 17 k = M 121 k ∧ M 18 k = M 122 k ∧ M 21 k = M 125 k ∧ M 22 k = M 126 k ∧ M 23 k = dv32 (M 126 k * M 127 k) 1000 ∧ M 25 k = M 128 k ∧ M 26 k = M 129 k ∧ (0 ≤ M 121 k ∧ M 121 k < M 111 5) ∧ (0 ≤ M 122 k ∧ M 122 k < M 111 6) ∧ (1 ≤ M 126 k ∧ M 126 k ≤ 10000) ∧ (0 ≤ M 127 k ∧ M 127 k ≤ 1000) ∧ (0 ≤ M 128 k ∧ M 128 k ≤ 519) ∧ (0 ≤ M 125 k ∧ M 125 k ≤ 9) := by
  obtain ⟨h1, h2, h3, h4, h5, h6, h7, h8, h9, h10⟩ := h
  rcases h10 with h | h | h | h
  · obtain ⟨-, q2, q3, q4, q5, q6, q7, q8, q9⟩ := h
    exact ⟨by rw [h1, h0], q2, q3, h2, h3, q8, h4, h5, q4, q5, ⟨h7.1, q6⟩, q7, h8, h6⟩
  · exact absurd (h.1.symm.trans h0) (by decide)
  · exact absurd (h.1.symm.trans h0) (by decide)
  · exact absurd (h.1.symm.trans h0) (by decide)
theorem netS_b {M : Mem} {k : Nat} (h1 : 1 ≤ M 126 k ∧ M 126 k ≤ 10000) (h2 : 0 ≤ M 127 k ∧ M 127 k ≤ 1000) : 0 ≤ dv32 (M 126 k * M 127 k) 1000 ∧ dv32 (M 126 k * M 127 k) 1000 ≤ M 126 k ∧ 0 ≤ netS M k ∧ netS M k ≤ 10000 := by
  have q := mul_b (x := M 126 k) (y := M 127 k) (a := 10000) (b := 1000) ⟨by omega, h1.2⟩ h2
  have q2 := mul_b (x := M 126 k) (y := M 127 k) (a := M 126 k) (b := 1000) ⟨by omega, by omega⟩ h2
  have e := dv1000 (x := M 126 k * M 127 k) ⟨q.1, by omega⟩
  unfold netS; rw [e]
  generalize M 126 k * M 127 k = z at *
  omega
theorem s_net {M : Mem} {k : Nat} (hk : k < 120) : d_Mo_net (k : Int) M = some (netS M k, M) := by
  unfold d_Mo_net netS
  repeat (first | with_reducible refine e_let ?_ | with_reducible refine e_cs ?_ | with_reducible refine e_clet ?_ | with_reducible refine e_cc ?_ | (with_reducible refine e_chk ?_ ?_; · (first | omega | ((try simp (disch := omega) only [w32_eq, w64_eq, ix_n, ix_e, sto_n, sto_e, sto_r, zf_r, Int.toNat_natCast, true_or, or_true, eq_self]) <;> (first | omega | decide)))) | (with_reducible refine e_cchk ?_ ?_; · (first | omega | ((try simp (disch := omega) only [w32_eq, w64_eq, ix_n, ix_e, sto_n, sto_e, sto_r, zf_r, Int.toNat_natCast, true_or, or_true, eq_self]) <;> (first | omega | decide)))) | (with_reducible refine e_t ?_ ?_; · (first | omega | ((try simp (disch := omega) only [w32_eq, w64_eq, ix_n, ix_e, sto_n, sto_e, sto_r, zf_r, Int.toNat_natCast, true_or, or_true, eq_self]) <;> (first | omega | decide)))) | (with_reducible refine e_f ?_ ?_; · (first | omega | ((try simp (disch := omega) only [w32_eq, w64_eq, ix_n, ix_e, sto_n, sto_e, sto_r, zf_r, Int.toNat_natCast, true_or, or_true, eq_self]) <;> (first | omega | decide)))) | (with_reducible refine e_ct ?_ ?_; · (first | omega | ((try simp (disch := omega) only [w32_eq, w64_eq, ix_n, ix_e, sto_n, sto_e, sto_r, zf_r, Int.toNat_natCast, true_or, or_true, eq_self]) <;> (first | omega | decide)))) | (with_reducible refine e_cf ?_ ?_; · (first | omega | ((try simp (disch := omega) only [w32_eq, w64_eq, ix_n, ix_e, sto_n, sto_e, sto_r, zf_r, Int.toNat_natCast, true_or, or_true, eq_self]) <;> (first | omega | decide)))))
  simp (disch := omega) only [ix_n]
theorem s_netOf {M : Mem} {k : Nat} (hk : k < 120) : d_Jo_netOf (k : Int) M = some (M 22 k - M 23 k, M) := by
  unfold d_Jo_netOf
  repeat (first | with_reducible refine e_let ?_ | with_reducible refine e_cs ?_ | with_reducible refine e_clet ?_ | with_reducible refine e_cc ?_ | (with_reducible refine e_chk ?_ ?_; · (first | omega | ((try simp (disch := omega) only [w32_eq, w64_eq, ix_n, ix_e, sto_n, sto_e, sto_r, zf_r, Int.toNat_natCast, true_or, or_true, eq_self]) <;> (first | omega | decide)))) | (with_reducible refine e_cchk ?_ ?_; · (first | omega | ((try simp (disch := omega) only [w32_eq, w64_eq, ix_n, ix_e, sto_n, sto_e, sto_r, zf_r, Int.toNat_natCast, true_or, or_true, eq_self]) <;> (first | omega | decide)))) | (with_reducible refine e_t ?_ ?_; · (first | omega | ((try simp (disch := omega) only [w32_eq, w64_eq, ix_n, ix_e, sto_n, sto_e, sto_r, zf_r, Int.toNat_natCast, true_or, or_true, eq_self]) <;> (first | omega | decide)))) | (with_reducible refine e_f ?_ ?_; · (first | omega | ((try simp (disch := omega) only [w32_eq, w64_eq, ix_n, ix_e, sto_n, sto_e, sto_r, zf_r, Int.toNat_natCast, true_or, or_true, eq_self]) <;> (first | omega | decide)))) | (with_reducible refine e_ct ?_ ?_; · (first | omega | ((try simp (disch := omega) only [w32_eq, w64_eq, ix_n, ix_e, sto_n, sto_e, sto_r, zf_r, Int.toNat_natCast, true_or, or_true, eq_self]) <;> (first | omega | decide)))) | (with_reducible refine e_cf ?_ ?_; · (first | omega | ((try simp (disch := omega) only [w32_eq, w64_eq, ix_n, ix_e, sto_n, sto_e, sto_r, zf_r, Int.toNat_natCast, true_or, or_true, eq_self]) <;> (first | omega | decide)))))
  simp (disch := omega) only [ix_n]
/-- the rank of a grading: what the component asks -/
def rkC (M : Mem) (g : Nat) : Nat → Int := up (up (up (up (up (up e0 2 (M 25 (M 27 g).toNat)) 3 (M 25 (M 27 g).toNat / 52)) 0 (M 29 g)) 1 (M 28 g)) 4 (M 22 (M 27 g).toNat - M 23 (M 27 g).toNat)) 7 (M 6 (M 17 (M 27 g).toNat).toNat)
theorem s_rankOf {F : Nat → Int → (Nat → Int) → Int} {M0 M : Mem} (hA : AskI F M0) (hg : Ag TxL TxK M0 M) {g : Nat} (h1 : g < 100) (h2 : 0 ≤ M 27 g ∧ M 27 g < 120) (h3 : 0 ≤ M 25 (M 27 g).toNat ∧ M 25 (M 27 g).toNat ≤ 519) (h4 : 0 ≤ M 29 g ∧ M 29 g ≤ 5) (h5 : 0 ≤ M 28 g ∧ M 28 g ≤ 5) (h6 : 0 ≤ M 22 (M 27 g).toNat - M 23 (M 27 g).toNat ∧ M 22 (M 27 g).toNat - M 23 (M 27 g).toNat ≤ 10000) (h7 : 0 ≤ M 17 (M 27 g).toNat ∧ M 17 (M 27 g).toNat < 20) (h8 : 0 ≤ M 6 (M 17 (M 27 g).toNat).toNat ∧ M 6 (M 17 (M 27 g).toNat).toNat ≤ 5) :
    Ok (d_PP_rankOf (g : Int) M) (fun v M' => w32 v = F 0 (M 25 (M 27 g).toNat) (rkC M g) ∧ Fr [34, 35, 36, 37, 38] [(32, 2), (32, 8)] M M') := by
  refine ok_fr ?_ (fun r hr => w_PP_rankOf hr)
  obtain ⟨k, hk⟩ : ∃ k : Nat, M 27 g = (k : Int) := ⟨(M 27 g).toNat, by omega⟩
  unfold rkC
  simp only [hk, Int.toNat_natCast] at h2 h3 h6 h7 h8 ⊢
  have hk2 : k < 120 := by omega
  unfold d_PP_rankOf
  repeat (first | with_reducible refine ok_let ?_ | with_reducible refine ok_cs ?_ | with_reducible refine ok_clet ?_ | with_reducible refine ok_cc ?_ | (with_reducible refine ok_chk ?_ ?_; · (first | omega | ((try simp (disch := omega) only [w32_eq, w64_eq, ix_n, ix_e, sto_n, sto_e, sto_r, zf_r, Int.toNat_natCast, true_or, or_true, eq_self, hk]) <;> (first | omega | decide)))) | (with_reducible refine ok_cchk ?_ ?_; · (first | omega | ((try simp (disch := omega) only [w32_eq, w64_eq, ix_n, ix_e, sto_n, sto_e, sto_r, zf_r, Int.toNat_natCast, true_or, or_true, eq_self, hk]) <;> (first | omega | decide)))) | (with_reducible refine ok_t ?_ ?_; · (first | omega | ((try simp (disch := omega) only [w32_eq, w64_eq, ix_n, ix_e, sto_n, sto_e, sto_r, zf_r, Int.toNat_natCast, true_or, or_true, eq_self, hk]) <;> (first | omega | decide)))) | (with_reducible refine ok_f ?_ ?_; · (first | omega | ((try simp (disch := omega) only [w32_eq, w64_eq, ix_n, ix_e, sto_n, sto_e, sto_r, zf_r, Int.toNat_natCast, true_or, or_true, eq_self, hk]) <;> (first | omega | decide)))) | (with_reducible refine ok_ct ?_ ?_; · (first | omega | ((try simp (disch := omega) only [w32_eq, w64_eq, ix_n, ix_e, sto_n, sto_e, sto_r, zf_r, Int.toNat_natCast, true_or, or_true, eq_self, hk]) <;> (first | omega | decide)))) | (with_reducible refine ok_cf ?_ ?_; · (first | omega | ((try simp (disch := omega) only [w32_eq, w64_eq, ix_n, ix_e, sto_n, sto_e, sto_r, zf_r, Int.toNat_natCast, true_or, or_true, eq_self, hk]) <;> (first | omega | decide)))))
  refine ok_call_eq (begin_at (M 25 k) hA hg h3 (by first | omega | ((try simp (disch := omega) only [w32_eq, w64_eq, ix_n, ix_e, sto_n, sto_e, sto_r, zf_r, Int.toNat_natCast, true_or, or_true, eq_self, hk]) <;> (first | omega | decide)))) ?_
  refine ok_call_eq (s_tellWeek (w := M (25) (ix (M 27 (ix g)))) (by first | omega | ((try simp (disch := omega) only [w32_eq, w64_eq, ix_n, ix_e, sto_n, sto_e, sto_r, zf_r, Int.toNat_natCast, true_or, or_true, eq_self, hk]) <;> (first | omega | decide)))) ?_
  repeat (first | with_reducible refine ok_let ?_ | with_reducible refine ok_cs ?_ | with_reducible refine ok_clet ?_ | with_reducible refine ok_cc ?_ | (with_reducible refine ok_chk ?_ ?_; · (first | omega | ((try simp (disch := omega) only [w32_eq, w64_eq, ix_n, ix_e, sto_n, sto_e, sto_r, zf_r, Int.toNat_natCast, true_or, or_true, eq_self, hk]) <;> (first | omega | decide)))) | (with_reducible refine ok_cchk ?_ ?_; · (first | omega | ((try simp (disch := omega) only [w32_eq, w64_eq, ix_n, ix_e, sto_n, sto_e, sto_r, zf_r, Int.toNat_natCast, true_or, or_true, eq_self, hk]) <;> (first | omega | decide)))) | (with_reducible refine ok_t ?_ ?_; · (first | omega | ((try simp (disch := omega) only [w32_eq, w64_eq, ix_n, ix_e, sto_n, sto_e, sto_r, zf_r, Int.toNat_natCast, true_or, or_true, eq_self, hk]) <;> (first | omega | decide)))) | (with_reducible refine ok_f ?_ ?_; · (first | omega | ((try simp (disch := omega) only [w32_eq, w64_eq, ix_n, ix_e, sto_n, sto_e, sto_r, zf_r, Int.toNat_natCast, true_or, or_true, eq_self, hk]) <;> (first | omega | decide)))) | (with_reducible refine ok_ct ?_ ?_; · (first | omega | ((try simp (disch := omega) only [w32_eq, w64_eq, ix_n, ix_e, sto_n, sto_e, sto_r, zf_r, Int.toNat_natCast, true_or, or_true, eq_self, hk]) <;> (first | omega | decide)))) | (with_reducible refine ok_cf ?_ ?_; · (first | omega | ((try simp (disch := omega) only [w32_eq, w64_eq, ix_n, ix_e, sto_n, sto_e, sto_r, zf_r, Int.toNat_natCast, true_or, or_true, eq_self, hk]) <;> (first | omega | decide)))))
  refine ok_call_eq (s_tell (by decide)) ?_
  repeat (first | with_reducible refine ok_let ?_ | with_reducible refine ok_cs ?_ | with_reducible refine ok_clet ?_ | with_reducible refine ok_cc ?_ | (with_reducible refine ok_chk ?_ ?_; · (first | omega | ((try simp (disch := omega) only [w32_eq, w64_eq, ix_n, ix_e, sto_n, sto_e, sto_r, zf_r, Int.toNat_natCast, true_or, or_true, eq_self, hk]) <;> (first | omega | decide)))) | (with_reducible refine ok_cchk ?_ ?_; · (first | omega | ((try simp (disch := omega) only [w32_eq, w64_eq, ix_n, ix_e, sto_n, sto_e, sto_r, zf_r, Int.toNat_natCast, true_or, or_true, eq_self, hk]) <;> (first | omega | decide)))) | (with_reducible refine ok_t ?_ ?_; · (first | omega | ((try simp (disch := omega) only [w32_eq, w64_eq, ix_n, ix_e, sto_n, sto_e, sto_r, zf_r, Int.toNat_natCast, true_or, or_true, eq_self, hk]) <;> (first | omega | decide)))) | (with_reducible refine ok_f ?_ ?_; · (first | omega | ((try simp (disch := omega) only [w32_eq, w64_eq, ix_n, ix_e, sto_n, sto_e, sto_r, zf_r, Int.toNat_natCast, true_or, or_true, eq_self, hk]) <;> (first | omega | decide)))) | (with_reducible refine ok_ct ?_ ?_; · (first | omega | ((try simp (disch := omega) only [w32_eq, w64_eq, ix_n, ix_e, sto_n, sto_e, sto_r, zf_r, Int.toNat_natCast, true_or, or_true, eq_self, hk]) <;> (first | omega | decide)))) | (with_reducible refine ok_cf ?_ ?_; · (first | omega | ((try simp (disch := omega) only [w32_eq, w64_eq, ix_n, ix_e, sto_n, sto_e, sto_r, zf_r, Int.toNat_natCast, true_or, or_true, eq_self, hk]) <;> (first | omega | decide)))))
  refine ok_call_eq (s_tell (by decide)) ?_
  have ex : ix (g : Int) = g := ix_n (by omega)
  rw [ex, hk]
  refine ok_call_eq (s_netOf hk2) ?_
  refine ok_call_eq (s_tell (by decide)) ?_
  repeat (first | with_reducible refine ok_let ?_ | with_reducible refine ok_cs ?_ | with_reducible refine ok_clet ?_ | with_reducible refine ok_cc ?_ | (with_reducible refine ok_chk ?_ ?_; · (first | omega | ((try simp (disch := omega) only [w32_eq, w64_eq, ix_n, ix_e, sto_n, sto_e, sto_r, zf_r, Int.toNat_natCast, true_or, or_true, eq_self, hk]) <;> (first | omega | decide)))) | (with_reducible refine ok_cchk ?_ ?_; · (first | omega | ((try simp (disch := omega) only [w32_eq, w64_eq, ix_n, ix_e, sto_n, sto_e, sto_r, zf_r, Int.toNat_natCast, true_or, or_true, eq_self, hk]) <;> (first | omega | decide)))) | (with_reducible refine ok_t ?_ ?_; · (first | omega | ((try simp (disch := omega) only [w32_eq, w64_eq, ix_n, ix_e, sto_n, sto_e, sto_r, zf_r, Int.toNat_natCast, true_or, or_true, eq_self, hk]) <;> (first | omega | decide)))) | (with_reducible refine ok_f ?_ ?_; · (first | omega | ((try simp (disch := omega) only [w32_eq, w64_eq, ix_n, ix_e, sto_n, sto_e, sto_r, zf_r, Int.toNat_natCast, true_or, or_true, eq_self, hk]) <;> (first | omega | decide)))) | (with_reducible refine ok_ct ?_ ?_; · (first | omega | ((try simp (disch := omega) only [w32_eq, w64_eq, ix_n, ix_e, sto_n, sto_e, sto_r, zf_r, Int.toNat_natCast, true_or, or_true, eq_self, hk]) <;> (first | omega | decide)))) | (with_reducible refine ok_cf ?_ ?_; · (first | omega | ((try simp (disch := omega) only [w32_eq, w64_eq, ix_n, ix_e, sto_n, sto_e, sto_r, zf_r, Int.toNat_natCast, true_or, or_true, eq_self, hk]) <;> (first | omega | decide)))))
  refine ok_call_eq (s_tell (by decide)) ?_
  have e1 : w32 (M 29 g) = M 29 g := w32_eq (by omega) (by omega)
  have e2 : w32 (M 28 g) = M 28 g := w32_eq (by omega) (by omega)
  have e3 : w32 (M 22 k - M 23 k) = M 22 k - M 23 k := w32_eq (by omega) (by omega)
  have e4 : w32 (M 6 (M 17 k).toNat) = M 6 (M 17 k).toNat := w32_eq (by omega) (by omega)
  have e5 : ix (k : Int) = k := ix_n (by omega)
  have e6 : ix (M 17 k) = (M 17 k).toNat := ix_e (by omega) (by omega)
  have g1 := e1; have g2 := e2
  refine ok_call (ask_at 0 (M 25 k) _ hA (hg.trans (ag_34 (fun c h h' => ?_) ?_)) (by decide) h3 rfl ?_ rfl) (fun v M' h => ok_ret ?_)
  · simp (disch := assumption) only [sto_r, zf_r]
  · simp (disch := decide) only [sto_r, sto_n, zf_r]
  · simp (disch := decide) only [sto_r, sto_e]
  · rw [h.1]
    have z : ∀ c : Nat, c ≠ 34 → zf M 34 0 11 0 c = M c := fun c h => zf_r h
    simp (disch := decide) only [sto_up, ev_up, sto_r, ev_zf, z, e1, e2, e3, e4, e5, e6]
    rw [show Int.toNat 0 = 0 from rfl, show Int.toNat 1 = 1 from rfl, show Int.toNat 4 = 4 from rfl, show Int.toNat 7 = 7 from rfl]
    rw [w64_eq (x := M 29 g) (by omega) (by omega), w64_eq (x := M 28 g) (by omega) (by omega), w64_eq (x := M 22 k - M 23 k) (by omega) (by omega), w64_eq (x := M 6 (M 17 k).toNat) (by omega) (by omega), w64_eq (x := M 25 k) (by omega) (by omega), w64_eq (x := M 25 k / 52) (by omega) (by omega)]
/-- the two environments are one -/
theorem rk_eq {M : Mem} {g : Nat} (hE : IvE M) (hP : IvP M) (hg : Gr M g) : rkC M g = rkE M g ∧ M 25 (M 27 g).toNat = M 128 (M 130 g).toNat := by
  obtain ⟨q1, q2, q3, q4, q5, q6, q7, q8, q9⟩ := hg
  have ek := hE.2.2.2.2.2.2.2.1 (M 130 g).toNat (by omega)
  obtain ⟨l1, l2, l3, l4, l5, l6, l7, l8, l9, l10, l11, l12, l13, l14⟩ := ek.load q6
  have hp := hP.2.2.2.2.1 (M 121 (M 130 g).toNat).toNat (by omega)
  unfold rkC rkE netS
  rw [q1, q2, q3, l2, l5, l6, l7, hp.1]
  refine ⟨?_, rfl⟩
  rw [up_comm (j := 3) (k := 0) (by decide), up_comm (j := 2) (k := 0) (by decide), up_comm (j := 3) (k := 1) (by decide), up_comm (j := 2) (k := 1) (by decide)]
theorem s_rank {F : Nat → Int → (Nat → Int) → Int} {M : Mem} (hA : AskI F M) (hE : IvE M) (hP : IvP M) {g : Nat} (h1 : g < 100) (hg : Gr M g) :
    Ok (d_PP_rankOf (g : Int) M) (fun v M' => w32 v = F 0 (M 128 (M 130 g).toNat) (rkE M g) ∧ Fr [34, 35, 36, 37, 38] [(32, 2), (32, 8)] M M') := by
  obtain ⟨r1, r2⟩ := rk_eq hE hP hg
  obtain ⟨q1, q2, q3, q4, q5, q6, q7, q8, q9⟩ := hg
  have ek := hE.2.2.2.2.2.2.2.1 (M 130 g).toNat (by omega)
  obtain ⟨l1, l2, l3, l4, l5, l6, l7, l8, l9, l10, l11, l12, l13, l14⟩ := ek.load q6
  have hp := hP.2.2.2.2.1 (M 121 (M 130 g).toNat).toNat (by omega)
  have nb := netS_b l11 l12
  have hP1 := hP.1; have hE1 := hE.1
  unfold netS at nb
  have := s_rankOf (M0 := M) (M := M) hA ⟨fun _ _ => rfl, fun _ _ => rfl⟩ (g := g) h1 (by rw [q1]; omega) (by rw [q1, l7]; omega) (by rw [q3]; omega) (by rw [q2]; omega) (by rw [q1, l5, l6]; omega) (by rw [q1, l2]; omega) (by rw [q1, l2, hp.1]; omega)
  rw [r1, r2] at this; exact this
/-- the grading that counts for load k, among the first n: its grade and its rank -/
def gB (L K R G : Nat → Int) (k kw : Int) : Nat → Int × Int
  | 0 => (5, -1000001)
  | n + 1 => if L n = k ∧ K n ≤ kw ∧ (gB L K R G k kw n).2 ≤ R n then (G n, R n) else gB L K R G k kw n
theorem gB_t {L K R G : Nat → Int} {k kw : Int} {n : Nat} (h : L n = k ∧ K n ≤ kw ∧ (gB L K R G k kw n).2 ≤ R n) : gB L K R G k kw (n + 1) = (G n, R n) := by rw [gB, if_pos h]
theorem gB_f {L K R G : Nat → Int} {k kw : Int} {n : Nat} (h : ¬ (L n = k ∧ K n ≤ kw ∧ (gB L K R G k kw n).2 ≤ R n)) : gB L K R G k kw (n + 1) = gB L K R G k kw n := by rw [gB, if_neg h]
theorem gB_r {L K R G : Nat → Int} {k kw : Int} : ∀ n : Nat, (∀ g, g < n → (-1000000 ≤ R g ∧ R g ≤ 1000000) ∧ (0 ≤ G g ∧ G g ≤ 5)) → (0 ≤ (gB L K R G k kw n).1 ∧ (gB L K R G k kw n).1 ≤ 5) ∧ ((gB L K R G k kw n).2 = -1000001 ∨ (-1000000 ≤ (gB L K R G k kw n).2 ∧ (gB L K R G k kw n).2 ≤ 1000000))
  | 0, _ => ⟨by unfold gB; decide, Or.inl rfl⟩
  | n + 1, h => by
    have q := gB_r (L := L) (K := K) (k := k) (kw := kw) n (fun g hg => h g (by omega))
    have q2 := h n (by omega)
    by_cases c : L n = k ∧ K n ≤ kw ∧ (gB L K R G k kw n).2 ≤ R n
    · rw [gB_t c]; exact ⟨q2.2, Or.inr q2.1⟩
    · rw [gB_f c]; exact q
theorem gB_c {L K R G L' K' R' G' : Nat → Int} {k kw : Int} : ∀ n : Nat, (∀ g, g < n → L g = L' g ∧ K g = K' g ∧ R g = R' g ∧ G g = G' g) → gB L K R G k kw n = gB L' K' R' G' k kw n
  | 0, _ => rfl
  | n + 1, h => by
    obtain ⟨h1, h2, h3, h4⟩ := h n (by omega)
    rw [gB, gB, gB_c n (fun g hg => h g (by omega)), h1, h2, h3, h4]
theorem l_judge {M0 : Mem} {kw : Int} {N : Nat} (hN : N ≤ 100) (h15 : M0 15 13 = N) (hkw : 0 ≤ kw ∧ kw ≤ 519) (hc : ∀ g : Nat, g < N → (0 ≤ M0 27 g ∧ M0 27 g < 120) ∧ (0 ≤ M0 31 g ∧ M0 31 g ≤ 519) ∧ (-1000000 ≤ w32 (M0 30 g) ∧ w32 (M0 30 g) ≤ 1000000) ∧ (0 ≤ M0 29 g ∧ M0 29 g ≤ 5)) :
    ∀ (n fuel g : Nat) (M : Mem), g + n = N → n < fuel → (∀ c, c ≠ 77 → c ≠ 78 → M c = M0 c) → (∀ k : Nat, k < 120 → M 77 k = (gB (M0 27) (M0 31) (fun g => w32 (M0 30 g)) (M0 29) k kw g).1 ∧ w32 (M 78 k) = (gB (M0 27) (M0 31) (fun g => w32 (M0 30 g)) (M0 29) k kw g).2) →
    Ok (fix (fun _ _ _ => none) k_Pl_judge_19 fuel kw (g : Int) M) (fun _ M' => ∀ k : Nat, k < 120 → M' 77 k = (gB (M0 27) (M0 31) (fun g => w32 (M0 30 g)) (M0 29) k kw N).1) := by
  intro n; induction n with
  | zero =>
    intro fuel g M e hf hM hI
    obtain ⟨f, rfl⟩ : ∃ f, fuel = f + 1 := ⟨fuel - 1, by omega⟩
    rw [fix_s]; unfold k_Pl_judge_19
    have q15 := hM 15 (by decide) (by decide)
    repeat (first | with_reducible refine ok_let ?_ | with_reducible refine ok_cs ?_ | with_reducible refine ok_clet ?_ | with_reducible refine ok_cc ?_ | (with_reducible refine ok_chk ?_ ?_; · (first | omega | ((try simp (disch := omega) only [w32_eq, w64_eq, ix_n, ix_e, sto_n, sto_e, sto_r, zf_r, Int.toNat_natCast, true_or, or_true, eq_self, q15, h15]) <;> (first | omega | decide)))) | (with_reducible refine ok_cchk ?_ ?_; · (first | omega | ((try simp (disch := omega) only [w32_eq, w64_eq, ix_n, ix_e, sto_n, sto_e, sto_r, zf_r, Int.toNat_natCast, true_or, or_true, eq_self, q15, h15]) <;> (first | omega | decide)))) | (with_reducible refine ok_t ?_ ?_; · (first | omega | ((try simp (disch := omega) only [w32_eq, w64_eq, ix_n, ix_e, sto_n, sto_e, sto_r, zf_r, Int.toNat_natCast, true_or, or_true, eq_self, q15, h15]) <;> (first | omega | decide)))) | (with_reducible refine ok_f ?_ ?_; · (first | omega | ((try simp (disch := omega) only [w32_eq, w64_eq, ix_n, ix_e, sto_n, sto_e, sto_r, zf_r, Int.toNat_natCast, true_or, or_true, eq_self, q15, h15]) <;> (first | omega | decide)))) | (with_reducible refine ok_ct ?_ ?_; · (first | omega | ((try simp (disch := omega) only [w32_eq, w64_eq, ix_n, ix_e, sto_n, sto_e, sto_r, zf_r, Int.toNat_natCast, true_or, or_true, eq_self, q15, h15]) <;> (first | omega | decide)))) | (with_reducible refine ok_cf ?_ ?_; · (first | omega | ((try simp (disch := omega) only [w32_eq, w64_eq, ix_n, ix_e, sto_n, sto_e, sto_r, zf_r, Int.toNat_natCast, true_or, or_true, eq_self, q15, h15]) <;> (first | omega | decide)))))
    exact ok_ret (fun k hk => by rw [(hI k hk).1, show g = N by omega])
  | succ n ih =>
    intro fuel g M e hf hM hI
    obtain ⟨b1, b2, b3, b4⟩ := hc g (by omega)
    obtain ⟨k, hk⟩ : ∃ k : Nat, M0 27 g = (k : Int) := ⟨(M0 27 g).toNat, by omega⟩
    have q15 := hM 15 (by decide) (by decide)
    have q27 := hM 27 (by decide) (by decide)
    have q30 := hM 30 (by decide) (by decide)
    have q31 := hM 31 (by decide) (by decide)
    have q29 := hM 29 (by decide) (by decide)
    have hr := (gB_r (L := M0 27) (K := M0 31) (R := fun g => w32 (M0 30 g)) (G := M0 29) (k := k) (kw := kw) g (fun g' hg' => ⟨(hc g' (by omega)).2.2.1, (hc g' (by omega)).2.2.2⟩)).2
    have q78 := (hI k (by omega)).2
    obtain ⟨f, rfl⟩ : ∃ f, fuel = f + 1 := ⟨fuel - 1, by omega⟩
    rw [fix_s]
    have hj : (g : Int) + 1 = ((g + 1 : Nat) : Int) := by omega
    unfold k_Pl_judge_19
    by_cases c1 : M0 31 g ≤ kw
    · by_cases c2 : (gB (M0 27) (M0 31) (fun g => w32 (M0 30 g)) (M0 29) k kw g).2 ≤ w32 (M0 30 g)
      · repeat (first | with_reducible refine ok_let ?_ | with_reducible refine ok_cs ?_ | with_reducible refine ok_clet ?_ | with_reducible refine ok_cc ?_ | (with_reducible refine ok_chk ?_ ?_; · (first | omega | ((try simp (disch := omega) only [w32_eq, w64_eq, ix_n, ix_e, sto_n, sto_e, sto_r, zf_r, Int.toNat_natCast, true_or, or_true, eq_self, q15, h15, q27, q30, q31, q29, hk, q78]) <;> (first | omega | decide)))) | (with_reducible refine ok_cchk ?_ ?_; · (first | omega | ((try simp (disch := omega) only [w32_eq, w64_eq, ix_n, ix_e, sto_n, sto_e, sto_r, zf_r, Int.toNat_natCast, true_or, or_true, eq_self, q15, h15, q27, q30, q31, q29, hk, q78]) <;> (first | omega | decide)))) | (with_reducible refine ok_t ?_ ?_; · (first | omega | ((try simp (disch := omega) only [w32_eq, w64_eq, ix_n, ix_e, sto_n, sto_e, sto_r, zf_r, Int.toNat_natCast, true_or, or_true, eq_self, q15, h15, q27, q30, q31, q29, hk, q78]) <;> (first | omega | decide)))) | (with_reducible refine ok_f ?_ ?_; · (first | omega | ((try simp (disch := omega) only [w32_eq, w64_eq, ix_n, ix_e, sto_n, sto_e, sto_r, zf_r, Int.toNat_natCast, true_or, or_true, eq_self, q15, h15, q27, q30, q31, q29, hk, q78]) <;> (first | omega | decide)))) | (with_reducible refine ok_ct ?_ ?_; · (first | omega | ((try simp (disch := omega) only [w32_eq, w64_eq, ix_n, ix_e, sto_n, sto_e, sto_r, zf_r, Int.toNat_natCast, true_or, or_true, eq_self, q15, h15, q27, q30, q31, q29, hk, q78]) <;> (first | omega | decide)))) | (with_reducible refine ok_cf ?_ ?_; · (first | omega | ((try simp (disch := omega) only [w32_eq, w64_eq, ix_n, ix_e, sto_n, sto_e, sto_r, zf_r, Int.toNat_natCast, true_or, or_true, eq_self, q15, h15, q27, q30, q31, q29, hk, q78]) <;> (first | omega | decide)))))
        unfold k_Pl_judge_98
        repeat (first | with_reducible refine ok_let ?_ | with_reducible refine ok_cs ?_ | with_reducible refine ok_clet ?_ | with_reducible refine ok_cc ?_ | (with_reducible refine ok_chk ?_ ?_; · (first | omega | ((try simp (disch := omega) only [w32_eq, w64_eq, ix_n, ix_e, sto_n, sto_e, sto_r, zf_r, Int.toNat_natCast, true_or, or_true, eq_self]) <;> (first | omega | decide)))) | (with_reducible refine ok_cchk ?_ ?_; · (first | omega | ((try simp (disch := omega) only [w32_eq, w64_eq, ix_n, ix_e, sto_n, sto_e, sto_r, zf_r, Int.toNat_natCast, true_or, or_true, eq_self]) <;> (first | omega | decide)))) | (with_reducible refine ok_t ?_ ?_; · (first | omega | ((try simp (disch := omega) only [w32_eq, w64_eq, ix_n, ix_e, sto_n, sto_e, sto_r, zf_r, Int.toNat_natCast, true_or, or_true, eq_self]) <;> (first | omega | decide)))) | (with_reducible refine ok_f ?_ ?_; · (first | omega | ((try simp (disch := omega) only [w32_eq, w64_eq, ix_n, ix_e, sto_n, sto_e, sto_r, zf_r, Int.toNat_natCast, true_or, or_true, eq_self]) <;> (first | omega | decide)))) | (with_reducible refine ok_ct ?_ ?_; · (first | omega | ((try simp (disch := omega) only [w32_eq, w64_eq, ix_n, ix_e, sto_n, sto_e, sto_r, zf_r, Int.toNat_natCast, true_or, or_true, eq_self]) <;> (first | omega | decide)))) | (with_reducible refine ok_cf ?_ ?_; · (first | omega | ((try simp (disch := omega) only [w32_eq, w64_eq, ix_n, ix_e, sto_n, sto_e, sto_r, zf_r, Int.toNat_natCast, true_or, or_true, eq_self]) <;> (first | omega | decide)))))
        rw [hj]
        refine ih f (g + 1) _ (by omega) (by omega) (fun c h1 h2 => ?_) (fun k' hk' => ?_)
        · rw [sto_r h1, sto_r h2]; exact hM c h1 h2
        · have ex : ix (g : Int) = g := ix_n (by omega)
          have ek : ix (k : Int) = k := ix_n (by omega)
          have s77 : ∀ (A : Mem) (j : Nat) (x : Int), sto A 78 j x 77 = A 77 := fun A j x => sto_r (by decide)
          have s29 : ∀ (A : Mem) (j : Nat) (x : Int), sto A 78 j x 29 = A 29 := fun A j x => sto_r (by decide)
          have s78 : ∀ (A : Mem) (j : Nat) (x : Int), sto A 77 j x 78 = A 78 := fun A j x => sto_r (by decide)
          rw [ex, q27, hk, ek, q30, s29, q29, s78, sto_up, sto_up, s77]
          by_cases e1 : k' = k
          · subst e1; rw [up_e, up_e, gB_t ⟨hk, c1, c2⟩]; exact ⟨rfl, rfl⟩
          · rw [up_n e1, up_n e1, gB_f (fun h => e1 (by omega))]; exact hI k' hk'
      · repeat (first | with_reducible refine ok_let ?_ | with_reducible refine ok_cs ?_ | with_reducible refine ok_clet ?_ | with_reducible refine ok_cc ?_ | (with_reducible refine ok_chk ?_ ?_; · (first | omega | ((try simp (disch := omega) only [w32_eq, w64_eq, ix_n, ix_e, sto_n, sto_e, sto_r, zf_r, Int.toNat_natCast, true_or, or_true, eq_self, q15, h15, q27, q30, q31, hk, q78]) <;> (first | omega | decide)))) | (with_reducible refine ok_cchk ?_ ?_; · (first | omega | ((try simp (disch := omega) only [w32_eq, w64_eq, ix_n, ix_e, sto_n, sto_e, sto_r, zf_r, Int.toNat_natCast, true_or, or_true, eq_self, q15, h15, q27, q30, q31, hk, q78]) <;> (first | omega | decide)))) | (with_reducible refine ok_t ?_ ?_; · (first | omega | ((try simp (disch := omega) only [w32_eq, w64_eq, ix_n, ix_e, sto_n, sto_e, sto_r, zf_r, Int.toNat_natCast, true_or, or_true, eq_self, q15, h15, q27, q30, q31, hk, q78]) <;> (first | omega | decide)))) | (with_reducible refine ok_f ?_ ?_; · (first | omega | ((try simp (disch := omega) only [w32_eq, w64_eq, ix_n, ix_e, sto_n, sto_e, sto_r, zf_r, Int.toNat_natCast, true_or, or_true, eq_self, q15, h15, q27, q30, q31, hk, q78]) <;> (first | omega | decide)))) | (with_reducible refine ok_ct ?_ ?_; · (first | omega | ((try simp (disch := omega) only [w32_eq, w64_eq, ix_n, ix_e, sto_n, sto_e, sto_r, zf_r, Int.toNat_natCast, true_or, or_true, eq_self, q15, h15, q27, q30, q31, hk, q78]) <;> (first | omega | decide)))) | (with_reducible refine ok_cf ?_ ?_; · (first | omega | ((try simp (disch := omega) only [w32_eq, w64_eq, ix_n, ix_e, sto_n, sto_e, sto_r, zf_r, Int.toNat_natCast, true_or, or_true, eq_self, q15, h15, q27, q30, q31, hk, q78]) <;> (first | omega | decide)))))
        unfold k_Pl_judge_98
        repeat (first | with_reducible refine ok_let ?_ | with_reducible refine ok_cs ?_ | with_reducible refine ok_clet ?_ | with_reducible refine ok_cc ?_ | (with_reducible refine ok_chk ?_ ?_; · (first | omega | ((try simp (disch := omega) only [w32_eq, w64_eq, ix_n, ix_e, sto_n, sto_e, sto_r, zf_r, Int.toNat_natCast, true_or, or_true, eq_self]) <;> (first | omega | decide)))) | (with_reducible refine ok_cchk ?_ ?_; · (first | omega | ((try simp (disch := omega) only [w32_eq, w64_eq, ix_n, ix_e, sto_n, sto_e, sto_r, zf_r, Int.toNat_natCast, true_or, or_true, eq_self]) <;> (first | omega | decide)))) | (with_reducible refine ok_t ?_ ?_; · (first | omega | ((try simp (disch := omega) only [w32_eq, w64_eq, ix_n, ix_e, sto_n, sto_e, sto_r, zf_r, Int.toNat_natCast, true_or, or_true, eq_self]) <;> (first | omega | decide)))) | (with_reducible refine ok_f ?_ ?_; · (first | omega | ((try simp (disch := omega) only [w32_eq, w64_eq, ix_n, ix_e, sto_n, sto_e, sto_r, zf_r, Int.toNat_natCast, true_or, or_true, eq_self]) <;> (first | omega | decide)))) | (with_reducible refine ok_ct ?_ ?_; · (first | omega | ((try simp (disch := omega) only [w32_eq, w64_eq, ix_n, ix_e, sto_n, sto_e, sto_r, zf_r, Int.toNat_natCast, true_or, or_true, eq_self]) <;> (first | omega | decide)))) | (with_reducible refine ok_cf ?_ ?_; · (first | omega | ((try simp (disch := omega) only [w32_eq, w64_eq, ix_n, ix_e, sto_n, sto_e, sto_r, zf_r, Int.toNat_natCast, true_or, or_true, eq_self]) <;> (first | omega | decide)))))
        rw [hj]
        refine ih f (g + 1) _ (by omega) (by omega) hM (fun k' hk' => ?_)
        by_cases e1 : k' = k
        · subst e1; rw [gB_f (fun h => c2 h.2.2)]; exact hI _ hk'
        · rw [gB_f (fun h => e1 (by omega))]; exact hI k' hk'
    · repeat (first | with_reducible refine ok_let ?_ | with_reducible refine ok_cs ?_ | with_reducible refine ok_clet ?_ | with_reducible refine ok_cc ?_ | (with_reducible refine ok_chk ?_ ?_; · (first | omega | ((try simp (disch := omega) only [w32_eq, w64_eq, ix_n, ix_e, sto_n, sto_e, sto_r, zf_r, Int.toNat_natCast, true_or, or_true, eq_self, q15, h15, q27, q30, q31, hk]) <;> (first | omega | decide)))) | (with_reducible refine ok_cchk ?_ ?_; · (first | omega | ((try simp (disch := omega) only [w32_eq, w64_eq, ix_n, ix_e, sto_n, sto_e, sto_r, zf_r, Int.toNat_natCast, true_or, or_true, eq_self, q15, h15, q27, q30, q31, hk]) <;> (first | omega | decide)))) | (with_reducible refine ok_t ?_ ?_; · (first | omega | ((try simp (disch := omega) only [w32_eq, w64_eq, ix_n, ix_e, sto_n, sto_e, sto_r, zf_r, Int.toNat_natCast, true_or, or_true, eq_self, q15, h15, q27, q30, q31, hk]) <;> (first | omega | decide)))) | (with_reducible refine ok_f ?_ ?_; · (first | omega | ((try simp (disch := omega) only [w32_eq, w64_eq, ix_n, ix_e, sto_n, sto_e, sto_r, zf_r, Int.toNat_natCast, true_or, or_true, eq_self, q15, h15, q27, q30, q31, hk]) <;> (first | omega | decide)))) | (with_reducible refine ok_ct ?_ ?_; · (first | omega | ((try simp (disch := omega) only [w32_eq, w64_eq, ix_n, ix_e, sto_n, sto_e, sto_r, zf_r, Int.toNat_natCast, true_or, or_true, eq_self, q15, h15, q27, q30, q31, hk]) <;> (first | omega | decide)))) | (with_reducible refine ok_cf ?_ ?_; · (first | omega | ((try simp (disch := omega) only [w32_eq, w64_eq, ix_n, ix_e, sto_n, sto_e, sto_r, zf_r, Int.toNat_natCast, true_or, or_true, eq_self, q15, h15, q27, q30, q31, hk]) <;> (first | omega | decide)))))
      unfold k_Pl_judge_98
      repeat (first | with_reducible refine ok_let ?_ | with_reducible refine ok_cs ?_ | with_reducible refine ok_clet ?_ | with_reducible refine ok_cc ?_ | (with_reducible refine ok_chk ?_ ?_; · (first | omega | ((try simp (disch := omega) only [w32_eq, w64_eq, ix_n, ix_e, sto_n, sto_e, sto_r, zf_r, Int.toNat_natCast, true_or, or_true, eq_self]) <;> (first | omega | decide)))) | (with_reducible refine ok_cchk ?_ ?_; · (first | omega | ((try simp (disch := omega) only [w32_eq, w64_eq, ix_n, ix_e, sto_n, sto_e, sto_r, zf_r, Int.toNat_natCast, true_or, or_true, eq_self]) <;> (first | omega | decide)))) | (with_reducible refine ok_t ?_ ?_; · (first | omega | ((try simp (disch := omega) only [w32_eq, w64_eq, ix_n, ix_e, sto_n, sto_e, sto_r, zf_r, Int.toNat_natCast, true_or, or_true, eq_self]) <;> (first | omega | decide)))) | (with_reducible refine ok_f ?_ ?_; · (first | omega | ((try simp (disch := omega) only [w32_eq, w64_eq, ix_n, ix_e, sto_n, sto_e, sto_r, zf_r, Int.toNat_natCast, true_or, or_true, eq_self]) <;> (first | omega | decide)))) | (with_reducible refine ok_ct ?_ ?_; · (first | omega | ((try simp (disch := omega) only [w32_eq, w64_eq, ix_n, ix_e, sto_n, sto_e, sto_r, zf_r, Int.toNat_natCast, true_or, or_true, eq_self]) <;> (first | omega | decide)))) | (with_reducible refine ok_cf ?_ ?_; · (first | omega | ((try simp (disch := omega) only [w32_eq, w64_eq, ix_n, ix_e, sto_n, sto_e, sto_r, zf_r, Int.toNat_natCast, true_or, or_true, eq_self]) <;> (first | omega | decide)))))
      rw [hj]
      refine ih f (g + 1) _ (by omega) (by omega) hM (fun k' hk' => ?_)
      rw [gB_f (fun h => c1 h.2.1)]; exact hI k' hk'
/-- the grade of a load as known by a week -/
def gS (M : Mem) (k kw : Int) : Int := (gB (M 130) (M 133) (fun g => w32 (M 30 g)) (M 132) k kw (M 111 8).toNat).1
theorem IvG.rk {F : Nat → Int → (Nat → Int) → Int} {M : Mem} (hA : AskI F M) (h : IvG F M) {g : Nat} (hg : (g : Int) < M 111 8) : -1000000 ≤ w32 (M 30 g) ∧ w32 (M 30 g) ≤ 1000000 := by
  rw [(h.2.2 g hg).2]; exact hA.2.2.2.1 0 _ _
theorem gS_r {F : Nat → Int → (Nat → Int) → Int} {M : Mem} (hA : AskI F M) (h : IvG F M) {k kw : Int} : 0 ≤ gS M k kw ∧ gS M k kw ≤ 5 :=
  (gB_r _ (fun g hg => ⟨h.rk hA (by have := h.1; omega), (h.2.2 g (by have := h.1; omega)).1.2.2.2.2.2.2.2.1⟩)).1
theorem s_judge {F : Nat → Int → (Nat → Int) → Int} {M0 M : Mem} {kw : Int} (hA : AskI F M0) (hG : IvG F M0) (hE : IvE M0) (hkw : 0 ≤ kw ∧ kw ≤ 519) (hM : ∀ c ∈ [15, 27, 29, 30, 31], M c = M0 c) :
    Ok (d_Pl_judge kw M) (fun _ M' => (∀ k : Nat, k < 120 → M' 77 k = gS M0 k kw) ∧ Fr [77, 78] [] M M') := by
  refine ok_fr ?_ (fun r hr => w_Pl_judge hr)
  have h1 := hG.1
  have hE1 := hE.1
  have q15 := hM 15 (by decide)
  have q27 := hM 27 (by decide)
  have q29 := hM 29 (by decide)
  have q30 := hM 30 (by decide)
  have q31 := hM 31 (by decide)
  have z : ∀ c : Nat, c ≠ 77 → c ≠ 78 → zf (zf M 77 0 120 5) 78 0 120 (-1000001) c = M c := fun c h1 h2 => by rw [zf_r h2, zf_r h1]
  unfold d_Pl_judge
  refine ok_call_eq (s_fill1 (by decide)) ?_
  refine ok_call_eq (s_fill1 (by decide)) ?_
  refine ok_mono (l_judge (M0 := zf (zf M 77 0 120 5) 78 0 120 (-1000001)) (N := (M0 111 8).toNat) (by omega) ?_ hkw (fun g hg => ?_) (M0 111 8).toNat FU 0 _ (by omega) (by unfold FU; omega) (fun _ _ _ => rfl) (fun k hk => ?_)) (fun v M' h k hk => ?_)
  · rw [z 15 (by decide) (by decide), q15, hG.2.1]; omega
  · rw [z 27 (by decide) (by decide), z 31 (by decide) (by decide), z 30 (by decide) (by decide), z 29 (by decide) (by decide), q27, q31, q30, q29]
    have hr := hG.rk hA (g := g) (by omega)
    obtain ⟨q1, q2, q3, q4, q5, q6, q7, q8, q9⟩ := (hG.2.2 g (by omega)).1
    rw [q1, q3, q4]; omega
  · have e1 : zf (zf M 77 0 120 5) 78 0 120 (-1000001) 77 k = 5 := by rw [zf_r (by decide), zf_c, if_pos (by omega)]
    have e2 : zf (zf M 77 0 120 5) 78 0 120 (-1000001) 78 k = -1000001 := by rw [zf_c, if_pos (by omega)]
    rw [e1, e2]; exact ⟨rfl, rfl⟩
  · rw [h k hk, z 27 (by decide) (by decide), z 31 (by decide) (by decide), z 30 (by decide) (by decide), z 29 (by decide) (by decide), q27, q31, q30, q29]
    unfold gS
    rw [gB_c (L' := M0 130) (K' := M0 133) (R' := fun g => w32 (M0 30 g)) (G' := M0 132) _ (fun g hg => ?_)]
    obtain ⟨q1, q2, q3, q4, -⟩ := (hG.2.2 g (by omega)).1
    exact ⟨q1, q4, rfl, q3⟩
theorem l_gradeOf {F : Nat → Int → (Nat → Int) → Int} {M0 : Mem} {k : Nat} {kw : Int} (hA : AskI F M0) (hG : IvG F M0) (hE : IvE M0) (hP : IvP M0) (hkw : 0 ≤ kw ∧ kw ≤ 519) (hk : (k : Int) < M0 111 7) (hl : M0 120 k = 0) :
    ∀ (n fuel g : Nat) (M : Mem) (a3 a4 a5 : Int), g + n = (M0 111 8).toNat → n < fuel → Fr [155, 156, 157, 158, 159] [(111, 72), (111, 108)] M0 M → a3 = (gB (M0 130) (M0 133) (fun g => w32 (M0 30 g)) (M0 132) k kw g).1 → ((a4 = 0 ∧ (gB (M0 130) (M0 133) (fun g => w32 (M0 30 g)) (M0 132) k kw g).2 = -1000001) ∨ (a4 = 1 ∧ w64 a5 = (gB (M0 130) (M0 133) (fun g => w32 (M0 30 g)) (M0 132) k kw g).2)) →
    Ok (fix (fun _ _ _ _ _ _ _ => none) k_Mo_gradeOf_11 fuel (k : Int) kw a3 a4 a5 (g : Int) M) (fun v _ => v = gS M0 k kw) := by
  have hG1 := hG.1
  have hE1 := hE.1
  have hP1 := hP.1
  obtain ⟨l1, l2, l3, l4, l5, l6, l7, l8, l9, l10, l11, l12, l13, l14⟩ := (hE.2.2.2.2.2.2.2.1 k hk).load hl
  have hp := (hP.2.2.2.2.1 (M0 121 k).toNat (by omega)).2.2.2.2.1
  have nb := netS_b l11 l12
  intro n; induction n with
  | zero =>
    intro fuel g M a3 a4 a5 e hf hM h3 h4
    have q8 := hM.f 111 8 (by decide) (by decide)
    obtain ⟨f, rfl⟩ : ∃ f, fuel = f + 1 := ⟨fuel - 1, by omega⟩
    rw [fix_s]; unfold k_Mo_gradeOf_11
    repeat (first | with_reducible refine ok_let ?_ | with_reducible refine ok_cs ?_ | with_reducible refine ok_clet ?_ | with_reducible refine ok_cc ?_ | (with_reducible refine ok_chk ?_ ?_; · (first | omega | ((try simp (disch := omega) only [w32_eq, w64_eq, ix_n, ix_e, sto_n, sto_e, sto_r, zf_r, Int.toNat_natCast, true_or, or_true, eq_self, q8]) <;> (first | omega | decide)))) | (with_reducible refine ok_cchk ?_ ?_; · (first | omega | ((try simp (disch := omega) only [w32_eq, w64_eq, ix_n, ix_e, sto_n, sto_e, sto_r, zf_r, Int.toNat_natCast, true_or, or_true, eq_self, q8]) <;> (first | omega | decide)))) | (with_reducible refine ok_t ?_ ?_; · (first | omega | ((try simp (disch := omega) only [w32_eq, w64_eq, ix_n, ix_e, sto_n, sto_e, sto_r, zf_r, Int.toNat_natCast, true_or, or_true, eq_self, q8]) <;> (first | omega | decide)))) | (with_reducible refine ok_f ?_ ?_; · (first | omega | ((try simp (disch := omega) only [w32_eq, w64_eq, ix_n, ix_e, sto_n, sto_e, sto_r, zf_r, Int.toNat_natCast, true_or, or_true, eq_self, q8]) <;> (first | omega | decide)))) | (with_reducible refine ok_ct ?_ ?_; · (first | omega | ((try simp (disch := omega) only [w32_eq, w64_eq, ix_n, ix_e, sto_n, sto_e, sto_r, zf_r, Int.toNat_natCast, true_or, or_true, eq_self, q8]) <;> (first | omega | decide)))) | (with_reducible refine ok_cf ?_ ?_; · (first | omega | ((try simp (disch := omega) only [w32_eq, w64_eq, ix_n, ix_e, sto_n, sto_e, sto_r, zf_r, Int.toNat_natCast, true_or, or_true, eq_self, q8]) <;> (first | omega | decide)))))
    refine ok_ret ?_
    rw [h3, show g = (M0 111 8).toNat by omega]; rfl
  | succ n ih =>
    intro fuel g M a3 a4 a5 e hf hM h3 h4
    have q8 := hM.f 111 8 (by decide) (by decide)
    have q130 := hM.c 130 (by decide) (by decide)
    have q133 := hM.c 133 (by decide) (by decide)
    have hr := hG.rk hA (g := g) (by omega)
    obtain ⟨⟨-, -, -, -, q5, q6, q7, q8', q9⟩, hR⟩ := hG.2.2 g (by omega)
    have hj : (g : Int) + 1 = ((g + 1 : Nat) : Int) := by omega
    obtain ⟨f, rfl⟩ : ∃ f, fuel = f + 1 := ⟨fuel - 1, by omega⟩
    rw [fix_s]; unfold k_Mo_gradeOf_11
    by_cases c0 : M0 130 g = k
    · by_cases c1 : M0 133 g ≤ kw
      · repeat (first | with_reducible refine ok_let ?_ | with_reducible refine ok_cs ?_ | with_reducible refine ok_clet ?_ | with_reducible refine ok_cc ?_ | (with_reducible refine ok_chk ?_ ?_; · (first | omega | ((try simp (disch := omega) only [w32_eq, w64_eq, ix_n, ix_e, sto_n, sto_e, sto_r, zf_r, Int.toNat_natCast, true_or, or_true, eq_self, q8, q130, q133]) <;> (first | omega | decide)))) | (with_reducible refine ok_cchk ?_ ?_; · (first | omega | ((try simp (disch := omega) only [w32_eq, w64_eq, ix_n, ix_e, sto_n, sto_e, sto_r, zf_r, Int.toNat_natCast, true_or, or_true, eq_self, q8, q130, q133]) <;> (first | omega | decide)))) | (with_reducible refine ok_t ?_ ?_; · (first | omega | ((try simp (disch := omega) only [w32_eq, w64_eq, ix_n, ix_e, sto_n, sto_e, sto_r, zf_r, Int.toNat_natCast, true_or, or_true, eq_self, q8, q130, q133]) <;> (first | omega | decide)))) | (with_reducible refine ok_f ?_ ?_; · (first | omega | ((try simp (disch := omega) only [w32_eq, w64_eq, ix_n, ix_e, sto_n, sto_e, sto_r, zf_r, Int.toNat_natCast, true_or, or_true, eq_self, q8, q130, q133]) <;> (first | omega | decide)))) | (with_reducible refine ok_ct ?_ ?_; · (first | omega | ((try simp (disch := omega) only [w32_eq, w64_eq, ix_n, ix_e, sto_n, sto_e, sto_r, zf_r, Int.toNat_natCast, true_or, or_true, eq_self, q8, q130, q133]) <;> (first | omega | decide)))) | (with_reducible refine ok_cf ?_ ?_; · (first | omega | ((try simp (disch := omega) only [w32_eq, w64_eq, ix_n, ix_e, sto_n, sto_e, sto_r, zf_r, Int.toNat_natCast, true_or, or_true, eq_self, q8, q130, q133]) <;> (first | omega | decide)))))
        refine ok_call_eq s_letN ?_
        repeat (first | with_reducible refine ok_let ?_ | with_reducible refine ok_cs ?_ | with_reducible refine ok_clet ?_ | with_reducible refine ok_cc ?_ | (with_reducible refine ok_chk ?_ ?_; · (first | omega | ((try simp (disch := omega) only [w32_eq, w64_eq, ix_n, ix_e, sto_n, sto_e, sto_r, zf_r, Int.toNat_natCast, true_or, or_true, eq_self]) <;> (first | omega | decide)))) | (with_reducible refine ok_cchk ?_ ?_; · (first | omega | ((try simp (disch := omega) only [w32_eq, w64_eq, ix_n, ix_e, sto_n, sto_e, sto_r, zf_r, Int.toNat_natCast, true_or, or_true, eq_self]) <;> (first | omega | decide)))) | (with_reducible refine ok_t ?_ ?_; · (first | omega | ((try simp (disch := omega) only [w32_eq, w64_eq, ix_n, ix_e, sto_n, sto_e, sto_r, zf_r, Int.toNat_natCast, true_or, or_true, eq_self]) <;> (first | omega | decide)))) | (with_reducible refine ok_f ?_ ?_; · (first | omega | ((try simp (disch := omega) only [w32_eq, w64_eq, ix_n, ix_e, sto_n, sto_e, sto_r, zf_r, Int.toNat_natCast, true_or, or_true, eq_self]) <;> (first | omega | decide)))) | (with_reducible refine ok_ct ?_ ?_; · (first | omega | ((try simp (disch := omega) only [w32_eq, w64_eq, ix_n, ix_e, sto_n, sto_e, sto_r, zf_r, Int.toNat_natCast, true_or, or_true, eq_self]) <;> (first | omega | decide)))) | (with_reducible refine ok_cf ?_ ?_; · (first | omega | ((try simp (disch := omega) only [w32_eq, w64_eq, ix_n, ix_e, sto_n, sto_e, sto_r, zf_r, Int.toNat_natCast, true_or, or_true, eq_self]) <;> (first | omega | decide)))))
        refine ok_call_eq (s_net (by omega)) ?_
        repeat (first | with_reducible refine ok_let ?_ | with_reducible refine ok_cs ?_ | with_reducible refine ok_clet ?_ | with_reducible refine ok_cc ?_ | (with_reducible refine ok_chk ?_ ?_; · (first | omega | ((try simp (disch := omega) only [w32_eq, w64_eq, ix_n, ix_e, sto_n, sto_e, sto_r, zf_r, Int.toNat_natCast, true_or, or_true, eq_self, hM.c 121 (by decide) (by decide)]) <;> (first | omega | decide)))) | (with_reducible refine ok_cchk ?_ ?_; · (first | omega | ((try simp (disch := omega) only [w32_eq, w64_eq, ix_n, ix_e, sto_n, sto_e, sto_r, zf_r, Int.toNat_natCast, true_or, or_true, eq_self, hM.c 121 (by decide) (by decide)]) <;> (first | omega | decide)))) | (with_reducible refine ok_t ?_ ?_; · (first | omega | ((try simp (disch := omega) only [w32_eq, w64_eq, ix_n, ix_e, sto_n, sto_e, sto_r, zf_r, Int.toNat_natCast, true_or, or_true, eq_self, hM.c 121 (by decide) (by decide)]) <;> (first | omega | decide)))) | (with_reducible refine ok_f ?_ ?_; · (first | omega | ((try simp (disch := omega) only [w32_eq, w64_eq, ix_n, ix_e, sto_n, sto_e, sto_r, zf_r, Int.toNat_natCast, true_or, or_true, eq_self, hM.c 121 (by decide) (by decide)]) <;> (first | omega | decide)))) | (with_reducible refine ok_ct ?_ ?_; · (first | omega | ((try simp (disch := omega) only [w32_eq, w64_eq, ix_n, ix_e, sto_n, sto_e, sto_r, zf_r, Int.toNat_natCast, true_or, or_true, eq_self, hM.c 121 (by decide) (by decide)]) <;> (first | omega | decide)))) | (with_reducible refine ok_cf ?_ ?_; · (first | omega | ((try simp (disch := omega) only [w32_eq, w64_eq, ix_n, ix_e, sto_n, sto_e, sto_r, zf_r, Int.toNat_natCast, true_or, or_true, eq_self, hM.c 121 (by decide) (by decide)]) <;> (first | omega | decide)))))
        refine ok_call_eq s_spl0 ?_
        repeat (first | with_reducible refine ok_let ?_ | with_reducible refine ok_cs ?_ | with_reducible refine ok_clet ?_ | with_reducible refine ok_cc ?_ | (with_reducible refine ok_chk ?_ ?_; · (first | omega | ((try simp (disch := omega) only [w32_eq, w64_eq, ix_n, ix_e, sto_n, sto_e, sto_r, zf_r, Int.toNat_natCast, true_or, or_true, eq_self]) <;> (first | omega | decide)))) | (with_reducible refine ok_cchk ?_ ?_; · (first | omega | ((try simp (disch := omega) only [w32_eq, w64_eq, ix_n, ix_e, sto_n, sto_e, sto_r, zf_r, Int.toNat_natCast, true_or, or_true, eq_self]) <;> (first | omega | decide)))) | (with_reducible refine ok_t ?_ ?_; · (first | omega | ((try simp (disch := omega) only [w32_eq, w64_eq, ix_n, ix_e, sto_n, sto_e, sto_r, zf_r, Int.toNat_natCast, true_or, or_true, eq_self]) <;> (first | omega | decide)))) | (with_reducible refine ok_f ?_ ?_; · (first | omega | ((try simp (disch := omega) only [w32_eq, w64_eq, ix_n, ix_e, sto_n, sto_e, sto_r, zf_r, Int.toNat_natCast, true_or, or_true, eq_self]) <;> (first | omega | decide)))) | (with_reducible refine ok_ct ?_ ?_; · (first | omega | ((try simp (disch := omega) only [w32_eq, w64_eq, ix_n, ix_e, sto_n, sto_e, sto_r, zf_r, Int.toNat_natCast, true_or, or_true, eq_self]) <;> (first | omega | decide)))) | (with_reducible refine ok_cf ?_ ?_; · (first | omega | ((try simp (disch := omega) only [w32_eq, w64_eq, ix_n, ix_e, sto_n, sto_e, sto_r, zf_r, Int.toNat_natCast, true_or, or_true, eq_self]) <;> (first | omega | decide)))))
        refine ok_call (told_at 0 (M0 128 k) (rkE M0 g) hA ?_ (by decide) l13 rfl ?_ rfl ?_) (fun v M1 hv => ?_)
        · refine Ag.trans (hM.ag (by decide) (by decide)) (ag_156 (fun c hc => ?_))
          simp (disch := assumption) only [sto_r, zf_r]
        · simp (disch := omega) only [w32_eq, w64_eq, ix_n, ix_e, sto_n, sto_e, sto_r, zf_r, Int.toNat_natCast, hM.c 128 (by decide) (by decide)]
        · have ex : ix (g : Int) = g := ix_n (by omega)
          have ek : ix (k : Int) = k := ix_n (by omega)
          have z : ∀ c : Nat, c ≠ 156 → zf M 156 0 11 0 c = M c := fun c h => zf_r h
          have w1 : w32 (M0 132 g) = M0 132 g := w32_eq (by omega) (by omega)
          have w2 : w32 (M0 131 g) = M0 131 g := w32_eq (by omega) (by omega)
          have w3 : w32 (M0 128 k) = M0 128 k := w32_eq (by omega) (by omega)
          have w4 : w32 (M0 128 k / 52) = M0 128 k / 52 := w32_eq (by omega) (by omega)
          have w5 : w32 (netS M0 k) = netS M0 k := w32_eq (by omega) (by omega)
          have w6 : w32 (M0 115 (M0 121 k).toNat) = M0 115 (M0 121 k).toNat := w32_eq (by omega) (by omega)
          have w7 : ix (M0 121 k) = (M0 121 k).toNat := ix_e (by omega) (by omega)
          unfold rkE
          have hn : ∀ A : Mem, A 126 = M0 126 → A 127 = M0 127 → netS A k = netS M0 k := fun A h1 h2 => by unfold netS; rw [h1, h2]
          rw [hn _ (by simp (disch := decide) only [sto_r, z]; exact hM.c 126 (by decide) (by decide)) (by simp (disch := decide) only [sto_r, z]; exact hM.c 127 (by decide) (by decide))]
          simp (disch := decide) only [sto_up, ev_up, sto_r, ev_zf, z, ex, ek, hM.c 132 (by decide) (by decide), hM.c 131 (by decide) (by decide), hM.c 128 (by decide) (by decide), hM.c 121 (by decide) (by decide), hM.c 115 (by decide) (by decide), dv52 l13, w1, w2, w3, w4, w5, w6, w7, c0, Int.toNat_natCast]
          rw [w64_eq (x := M0 132 g) (by omega) (by omega), w64_eq (x := M0 131 g) (by omega) (by omega), w64_eq (x := M0 128 k) (by omega) (by omega), w64_eq (x := M0 128 k / 52) (by omega) (by omega), w64_eq (x := netS M0 k) (by omega) (by omega), w64_eq (x := M0 115 (M0 121 k).toNat) (by omega) (by omega)]
        · obtain ⟨hv1, hv2⟩ := hv
          obtain ⟨r, er, hr2⟩ := s_cut1 (v := v) (lo := -1000000) (hi := 1000000) (M := M1) (by decide) (by decide)
          refine ok_call_eq er ?_
          have hrr : w64 r = w32 (M0 30 g) := by rw [hr2, hR, c0, Int.toNat_natCast]; exact hv1
          have hM1 : Fr [155, 156, 157, 158, 159] [(111, 72), (111, 108)] M0 M1 := by
            refine hM.trans (Fr.trans ?_ (hv2.mono (by decide) (by decide)))
            intro c hc j hj'
            have hc' : c ≠ 156 := fun h => hc (by rw [h]; decide)
            simp (disch := assumption) only [sto_r, zf_r]
          by_cases c2 : (gB (M0 130) (M0 133) (fun g => w32 (M0 30 g)) (M0 132) k kw g).2 ≤ w32 (M0 30 g)
          · have hg2 : Ok (k_Mo_gradeOf_188 (fix (fun _ _ _ _ _ _ _ => none) k_Mo_gradeOf_11 f) (k : Int) kw (g : Int) r M1) (fun v _ => v = gS M0 k kw) := by
              unfold k_Mo_gradeOf_188 k_Mo_gradeOf_203
              repeat (first | with_reducible refine ok_let ?_ | with_reducible refine ok_cs ?_ | with_reducible refine ok_clet ?_ | with_reducible refine ok_cc ?_ | (with_reducible refine ok_chk ?_ ?_; · (first | omega | ((try simp (disch := omega) only [w32_eq, w64_eq, ix_n, ix_e, sto_n, sto_e, sto_r, zf_r, Int.toNat_natCast, true_or, or_true, eq_self]) <;> (first | omega | decide)))) | (with_reducible refine ok_cchk ?_ ?_; · (first | omega | ((try simp (disch := omega) only [w32_eq, w64_eq, ix_n, ix_e, sto_n, sto_e, sto_r, zf_r, Int.toNat_natCast, true_or, or_true, eq_self]) <;> (first | omega | decide)))) | (with_reducible refine ok_t ?_ ?_; · (first | omega | ((try simp (disch := omega) only [w32_eq, w64_eq, ix_n, ix_e, sto_n, sto_e, sto_r, zf_r, Int.toNat_natCast, true_or, or_true, eq_self]) <;> (first | omega | decide)))) | (with_reducible refine ok_f ?_ ?_; · (first | omega | ((try simp (disch := omega) only [w32_eq, w64_eq, ix_n, ix_e, sto_n, sto_e, sto_r, zf_r, Int.toNat_natCast, true_or, or_true, eq_self]) <;> (first | omega | decide)))) | (with_reducible refine ok_ct ?_ ?_; · (first | omega | ((try simp (disch := omega) only [w32_eq, w64_eq, ix_n, ix_e, sto_n, sto_e, sto_r, zf_r, Int.toNat_natCast, true_or, or_true, eq_self]) <;> (first | omega | decide)))) | (with_reducible refine ok_cf ?_ ?_; · (first | omega | ((try simp (disch := omega) only [w32_eq, w64_eq, ix_n, ix_e, sto_n, sto_e, sto_r, zf_r, Int.toNat_natCast, true_or, or_true, eq_self]) <;> (first | omega | decide)))))
              rw [hj]
              refine ih f (g + 1) M1 _ _ _ (by omega) (by omega) hM1 ?_ (Or.inr ⟨rfl, ?_⟩)
              · rw [gB_t ⟨c0, c1, c2⟩, ix_n (by omega), hM1.c 132 (by decide) (by decide)]
              · rw [gB_t ⟨c0, c1, c2⟩]; exact hrr
            rcases h4 with ⟨h4, h5⟩ | ⟨h4, h5⟩
            · subst h4; refine ok_t (by decide) ?_; exact hg2
            · subst h4; refine ok_f (by decide) (ok_f (by omega) ?_); exact hg2
          · rcases h4 with ⟨h4, h5⟩ | ⟨h4, h5⟩
            · omega
            · refine ok_f (by rw [h4]; decide) (ok_t (by omega) ?_)
              unfold k_Mo_gradeOf_203
              repeat (first | with_reducible refine ok_let ?_ | with_reducible refine ok_cs ?_ | with_reducible refine ok_clet ?_ | with_reducible refine ok_cc ?_ | (with_reducible refine ok_chk ?_ ?_; · (first | omega | ((try simp (disch := omega) only [w32_eq, w64_eq, ix_n, ix_e, sto_n, sto_e, sto_r, zf_r, Int.toNat_natCast, true_or, or_true, eq_self]) <;> (first | omega | decide)))) | (with_reducible refine ok_cchk ?_ ?_; · (first | omega | ((try simp (disch := omega) only [w32_eq, w64_eq, ix_n, ix_e, sto_n, sto_e, sto_r, zf_r, Int.toNat_natCast, true_or, or_true, eq_self]) <;> (first | omega | decide)))) | (with_reducible refine ok_t ?_ ?_; · (first | omega | ((try simp (disch := omega) only [w32_eq, w64_eq, ix_n, ix_e, sto_n, sto_e, sto_r, zf_r, Int.toNat_natCast, true_or, or_true, eq_self]) <;> (first | omega | decide)))) | (with_reducible refine ok_f ?_ ?_; · (first | omega | ((try simp (disch := omega) only [w32_eq, w64_eq, ix_n, ix_e, sto_n, sto_e, sto_r, zf_r, Int.toNat_natCast, true_or, or_true, eq_self]) <;> (first | omega | decide)))) | (with_reducible refine ok_ct ?_ ?_; · (first | omega | ((try simp (disch := omega) only [w32_eq, w64_eq, ix_n, ix_e, sto_n, sto_e, sto_r, zf_r, Int.toNat_natCast, true_or, or_true, eq_self]) <;> (first | omega | decide)))) | (with_reducible refine ok_cf ?_ ?_; · (first | omega | ((try simp (disch := omega) only [w32_eq, w64_eq, ix_n, ix_e, sto_n, sto_e, sto_r, zf_r, Int.toNat_natCast, true_or, or_true, eq_self]) <;> (first | omega | decide)))))
              rw [hj]
              refine ih f (g + 1) M1 _ _ _ (by omega) (by omega) hM1 ?_ ?_
              · rw [gB_f (fun h => c2 h.2.2)]; exact h3
              · rw [gB_f (fun h => c2 h.2.2)]; exact Or.inr ⟨h4, h5⟩
      · repeat (first | with_reducible refine ok_let ?_ | with_reducible refine ok_cs ?_ | with_reducible refine ok_clet ?_ | with_reducible refine ok_cc ?_ | (with_reducible refine ok_chk ?_ ?_; · (first | omega | ((try simp (disch := omega) only [w32_eq, w64_eq, ix_n, ix_e, sto_n, sto_e, sto_r, zf_r, Int.toNat_natCast, true_or, or_true, eq_self, q8, q130, q133]) <;> (first | omega | decide)))) | (with_reducible refine ok_cchk ?_ ?_; · (first | omega | ((try simp (disch := omega) only [w32_eq, w64_eq, ix_n, ix_e, sto_n, sto_e, sto_r, zf_r, Int.toNat_natCast, true_or, or_true, eq_self, q8, q130, q133]) <;> (first | omega | decide)))) | (with_reducible refine ok_t ?_ ?_; · (first | omega | ((try simp (disch := omega) only [w32_eq, w64_eq, ix_n, ix_e, sto_n, sto_e, sto_r, zf_r, Int.toNat_natCast, true_or, or_true, eq_self, q8, q130, q133]) <;> (first | omega | decide)))) | (with_reducible refine ok_f ?_ ?_; · (first | omega | ((try simp (disch := omega) only [w32_eq, w64_eq, ix_n, ix_e, sto_n, sto_e, sto_r, zf_r, Int.toNat_natCast, true_or, or_true, eq_self, q8, q130, q133]) <;> (first | omega | decide)))) | (with_reducible refine ok_ct ?_ ?_; · (first | omega | ((try simp (disch := omega) only [w32_eq, w64_eq, ix_n, ix_e, sto_n, sto_e, sto_r, zf_r, Int.toNat_natCast, true_or, or_true, eq_self, q8, q130, q133]) <;> (first | omega | decide)))) | (with_reducible refine ok_cf ?_ ?_; · (first | omega | ((try simp (disch := omega) only [w32_eq, w64_eq, ix_n, ix_e, sto_n, sto_e, sto_r, zf_r, Int.toNat_natCast, true_or, or_true, eq_self, q8, q130, q133]) <;> (first | omega | decide)))))
        unfold k_Mo_gradeOf_203
        repeat (first | with_reducible refine ok_let ?_ | with_reducible refine ok_cs ?_ | with_reducible refine ok_clet ?_ | with_reducible refine ok_cc ?_ | (with_reducible refine ok_chk ?_ ?_; · (first | omega | ((try simp (disch := omega) only [w32_eq, w64_eq, ix_n, ix_e, sto_n, sto_e, sto_r, zf_r, Int.toNat_natCast, true_or, or_true, eq_self]) <;> (first | omega | decide)))) | (with_reducible refine ok_cchk ?_ ?_; · (first | omega | ((try simp (disch := omega) only [w32_eq, w64_eq, ix_n, ix_e, sto_n, sto_e, sto_r, zf_r, Int.toNat_natCast, true_or, or_true, eq_self]) <;> (first | omega | decide)))) | (with_reducible refine ok_t ?_ ?_; · (first | omega | ((try simp (disch := omega) only [w32_eq, w64_eq, ix_n, ix_e, sto_n, sto_e, sto_r, zf_r, Int.toNat_natCast, true_or, or_true, eq_self]) <;> (first | omega | decide)))) | (with_reducible refine ok_f ?_ ?_; · (first | omega | ((try simp (disch := omega) only [w32_eq, w64_eq, ix_n, ix_e, sto_n, sto_e, sto_r, zf_r, Int.toNat_natCast, true_or, or_true, eq_self]) <;> (first | omega | decide)))) | (with_reducible refine ok_ct ?_ ?_; · (first | omega | ((try simp (disch := omega) only [w32_eq, w64_eq, ix_n, ix_e, sto_n, sto_e, sto_r, zf_r, Int.toNat_natCast, true_or, or_true, eq_self]) <;> (first | omega | decide)))) | (with_reducible refine ok_cf ?_ ?_; · (first | omega | ((try simp (disch := omega) only [w32_eq, w64_eq, ix_n, ix_e, sto_n, sto_e, sto_r, zf_r, Int.toNat_natCast, true_or, or_true, eq_self]) <;> (first | omega | decide)))))
        rw [hj]
        refine ih f (g + 1) M _ _ _ (by omega) (by omega) hM ?_ ?_
        · rw [gB_f (fun h => c1 h.2.1)]; exact h3
        · rw [gB_f (fun h => c1 h.2.1)]; exact h4
    · repeat (first | with_reducible refine ok_let ?_ | with_reducible refine ok_cs ?_ | with_reducible refine ok_clet ?_ | with_reducible refine ok_cc ?_ | (with_reducible refine ok_chk ?_ ?_; · (first | omega | ((try simp (disch := omega) only [w32_eq, w64_eq, ix_n, ix_e, sto_n, sto_e, sto_r, zf_r, Int.toNat_natCast, true_or, or_true, eq_self, q8, q130, q133]) <;> (first | omega | decide)))) | (with_reducible refine ok_cchk ?_ ?_; · (first | omega | ((try simp (disch := omega) only [w32_eq, w64_eq, ix_n, ix_e, sto_n, sto_e, sto_r, zf_r, Int.toNat_natCast, true_or, or_true, eq_self, q8, q130, q133]) <;> (first | omega | decide)))) | (with_reducible refine ok_t ?_ ?_; · (first | omega | ((try simp (disch := omega) only [w32_eq, w64_eq, ix_n, ix_e, sto_n, sto_e, sto_r, zf_r, Int.toNat_natCast, true_or, or_true, eq_self, q8, q130, q133]) <;> (first | omega | decide)))) | (with_reducible refine ok_f ?_ ?_; · (first | omega | ((try simp (disch := omega) only [w32_eq, w64_eq, ix_n, ix_e, sto_n, sto_e, sto_r, zf_r, Int.toNat_natCast, true_or, or_true, eq_self, q8, q130, q133]) <;> (first | omega | decide)))) | (with_reducible refine ok_ct ?_ ?_; · (first | omega | ((try simp (disch := omega) only [w32_eq, w64_eq, ix_n, ix_e, sto_n, sto_e, sto_r, zf_r, Int.toNat_natCast, true_or, or_true, eq_self, q8, q130, q133]) <;> (first | omega | decide)))) | (with_reducible refine ok_cf ?_ ?_; · (first | omega | ((try simp (disch := omega) only [w32_eq, w64_eq, ix_n, ix_e, sto_n, sto_e, sto_r, zf_r, Int.toNat_natCast, true_or, or_true, eq_self, q8, q130, q133]) <;> (first | omega | decide)))))
      unfold k_Mo_gradeOf_203
      repeat (first | with_reducible refine ok_let ?_ | with_reducible refine ok_cs ?_ | with_reducible refine ok_clet ?_ | with_reducible refine ok_cc ?_ | (with_reducible refine ok_chk ?_ ?_; · (first | omega | ((try simp (disch := omega) only [w32_eq, w64_eq, ix_n, ix_e, sto_n, sto_e, sto_r, zf_r, Int.toNat_natCast, true_or, or_true, eq_self]) <;> (first | omega | decide)))) | (with_reducible refine ok_cchk ?_ ?_; · (first | omega | ((try simp (disch := omega) only [w32_eq, w64_eq, ix_n, ix_e, sto_n, sto_e, sto_r, zf_r, Int.toNat_natCast, true_or, or_true, eq_self]) <;> (first | omega | decide)))) | (with_reducible refine ok_t ?_ ?_; · (first | omega | ((try simp (disch := omega) only [w32_eq, w64_eq, ix_n, ix_e, sto_n, sto_e, sto_r, zf_r, Int.toNat_natCast, true_or, or_true, eq_self]) <;> (first | omega | decide)))) | (with_reducible refine ok_f ?_ ?_; · (first | omega | ((try simp (disch := omega) only [w32_eq, w64_eq, ix_n, ix_e, sto_n, sto_e, sto_r, zf_r, Int.toNat_natCast, true_or, or_true, eq_self]) <;> (first | omega | decide)))) | (with_reducible refine ok_ct ?_ ?_; · (first | omega | ((try simp (disch := omega) only [w32_eq, w64_eq, ix_n, ix_e, sto_n, sto_e, sto_r, zf_r, Int.toNat_natCast, true_or, or_true, eq_self]) <;> (first | omega | decide)))) | (with_reducible refine ok_cf ?_ ?_; · (first | omega | ((try simp (disch := omega) only [w32_eq, w64_eq, ix_n, ix_e, sto_n, sto_e, sto_r, zf_r, Int.toNat_natCast, true_or, or_true, eq_self]) <;> (first | omega | decide)))))
      rw [hj]
      refine ih f (g + 1) M _ _ _ (by omega) (by omega) hM ?_ ?_
      · rw [gB_f (fun h => c0 h.1)]; exact h3
      · rw [gB_f (fun h => c0 h.1)]; exact h4
theorem s_gradeOf {F : Nat → Int → (Nat → Int) → Int} {M : Mem} {k : Nat} {kw : Int} (hA : AskI F M) (hG : IvG F M) (hE : IvE M) (hP : IvP M) (hkw : 0 ≤ kw ∧ kw ≤ 519) (hk : (k : Int) < M 111 7) (hl : M 120 k = 0) :
    Ok (d_Mo_gradeOf (k : Int) kw M) (fun v M' => v = gS M k kw ∧ Fr [155, 156, 157, 158, 159] [(111, 72), (111, 108)] M M') := by
  refine ok_fr ?_ (fun r hr => w_Mo_gradeOf hr)
  unfold d_Mo_gradeOf
  exact l_gradeOf hA hG hE hP hkw hk hl (M 111 8).toNat FU 0 M 5 0 0 (by omega) (by have := hG.1; unfold FU; omega) Fr.rfl' rfl (Or.inl ⟨rfl, rfl⟩)
theorem sim_no {f g : Mem → Res} {M : Mem} {P : Mem → Prop} {r code : Int} (e1 : f M = some (r, sto M 0 0 code)) (e2 : g (sto M 0 0 code) = some (r, sto (sto (sto M 0 0 code) 111 1 0) 111 0 code)) (hP : P (sto (sto (sto M 0 0 code) 111 1 0) 111 0 code)) : Simi f g M P :=
  ⟨_, _, _, _, e1, e2, rfl, by simp (disch := decide) only [sto_r, sto_e], hP⟩
theorem siml_no {f g : Mem → Res} {M : Mem} {P : Mem → Prop} {r code : Int} (e1 : f M = some (r, sto M 0 0 code)) (e2 : g (sto M 0 0 code) = some (r, sto (sto (sto M 0 0 code) 111 1 0) 111 0 code)) (hP : P (sto (sto (sto M 0 0 code) 111 1 0) 111 0 code)) : Siml f g M P :=
  ⟨_, _, _, _, e1, e2, rfl, by simp (disch := decide) only [sto_r, sto_e], hP⟩
