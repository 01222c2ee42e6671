/-! the component plays an event; all events -/
theorem c_event {F : Nat → Int → (Nat → Int) → Int} {M0 M S : Mem} {n : Nat} {kw : Int} (hA : AskI F M0) (hG : IvG F M0) (hE : IvE M0) (hP : IvP M0) (hM : ∀ c ∈ caL, M c = M0 c) (h77 : ∀ k : Nat, k < 120 → M 77 k = gS M0 k kw) (hn : (n : Int) < M0 111 7) (hW : PW M0 n S) (hR : RC n M S) :
    Ok (d_Pl_playEvent (n : Int) M) (fun _ M' => RC (n + 1) M' (stp M0 kw n S)) := by
  have hE1 := hE.1
  have hP1 := hP.1
  have hP2 := hP.2.1
  have n120 : n < 120 := by omega
  have q16 := hM 16 (by decide)
  have q18 := hM 18 (by decide)
  have q19 := hM 19 (by decide)
  have q20 := hM 20 (by decide)
  have q21 := hM 21 (by decide)
  have q22 := hM 22 (by decide)
  have ex : ix (n : Int) = n := ix_n (by omega)
  unfold d_Pl_playEvent
  by_cases h0 : M0 120 n = 0
  · obtain ⟨l1, l2, l3, l4, l5, l6, l7, l8, l9, l10, l11, l12, l13, l14⟩ := (hE.2.2.2.2.2.2.2.1 n hn).load h0
    repeat (first | with_reducible refine ok_let ?_ | with_reducible refine ok_cs ?_ | with_reducible refine ok_clet ?_ | with_reducible refine ok_cc ?_ | (with_reducible refine ok_chk ?_ ?_; · (first | omega | ((try simp (disch := omega) only [w32_eq, w64_eq, ix_n, ix_e, sto_n, sto_e, sto_r, zf_r, Int.toNat_natCast, true_or, or_true, eq_self, q16, l1]) <;> (first | omega | decide)))) | (with_reducible refine ok_cchk ?_ ?_; · (first | omega | ((try simp (disch := omega) only [w32_eq, w64_eq, ix_n, ix_e, sto_n, sto_e, sto_r, zf_r, Int.toNat_natCast, true_or, or_true, eq_self, q16, l1]) <;> (first | omega | decide)))) | (with_reducible refine ok_t ?_ ?_; · (first | omega | ((try simp (disch := omega) only [w32_eq, w64_eq, ix_n, ix_e, sto_n, sto_e, sto_r, zf_r, Int.toNat_natCast, true_or, or_true, eq_self, q16, l1]) <;> (first | omega | decide)))) | (with_reducible refine ok_f ?_ ?_; · (first | omega | ((try simp (disch := omega) only [w32_eq, w64_eq, ix_n, ix_e, sto_n, sto_e, sto_r, zf_r, Int.toNat_natCast, true_or, or_true, eq_self, q16, l1]) <;> (first | omega | decide)))) | (with_reducible refine ok_ct ?_ ?_; · (first | omega | ((try simp (disch := omega) only [w32_eq, w64_eq, ix_n, ix_e, sto_n, sto_e, sto_r, zf_r, Int.toNat_natCast, true_or, or_true, eq_self, q16, l1]) <;> (first | omega | decide)))) | (with_reducible refine ok_cf ?_ ?_; · (first | omega | ((try simp (disch := omega) only [w32_eq, w64_eq, ix_n, ix_e, sto_n, sto_e, sto_r, zf_r, Int.toNat_natCast, true_or, or_true, eq_self, q16, l1]) <;> (first | omega | decide)))))
    rw [ex, q18, l3]
    refine ok_call (c_bring hA hG hE hP hM h77 hn h0 hW hR) (fun v M' h => ok_ret ?_)
    unfold stp; rw [if_pos h0]; exact h
  · obtain ⟨t0, t1, t2, t3, t4, t5, t6, t7, t8, t9, t10⟩ := (hE.2.2.2.2.2.2.2.1 n hn).other h0
    obtain ⟨-, htk, hsl, hpr, hsum⟩ := hW.other hE hP hn h0
    obtain ⟨p1, p2, p3, p4, p5, p6, p7⟩ := hW
    obtain ⟨r1, r2, r3, r4, r5⟩ := hR
    have take := s_takeParts r1 n120 n120 hsl (fun f hf => by have := p1 (20 * slO M0 n + f) (by omega); omega) (show M 22 n = M0 126 n by rw [q22, t4]) t7 (w := wO S (slO M0 n)) rfl (tk := tkO M0 n S) rfl
    have k01 : ∀ M' : Mem, M' 76 = up (M 76) n (tkO M0 n S) → ∀ k, k < n + 1 → M' 76 k = stp M0 kw n S 4 k := by
      intro M' h k hk
      unfold stp; rw [if_neg h0, h]
      show _ = up (S 4) n _ k
      unfold up; split
      · rfl
      · exact r5 k (by omega)
    have k02 : ∀ M' : Mem, M' 75 14 = M 75 14 + (M0 126 n - tkO M0 n S) → M' 75 14 = stp M0 kw n S 3 0 := by
      intro M' h
      unfold stp; rw [if_neg h0, h, r4]
      show _ = up (S 3) 0 _ 0
      rw [up_e]
    have hstp : stp M0 kw n S = stO M0 n S := by unfold stp; rw [if_neg h0]
    rcases t0 with h1 | h1 | h1
    · -- a car
      have t9' := t9 (by omega)
      have t10' := t10 h1
      obtain ⟨e, hee⟩ : ∃ e : Nat, M0 122 n = (e : Int) := ⟨(M0 122 n).toNat, by omega⟩
      have es : (e : Int) * 60 + M0 124 n * 10 + M0 125 n = ((slO M0 n : Nat) : Int) := by unfold slO; rw [if_neg (by omega), hee]; omega
      have ep : (8 + M0 123 n) * 60 + M0 124 n * 10 + M0 125 n = ((slP M0 n : Nat) : Int) := by unfold slP; omega
      have hslP : slP M0 n < 600 := by unfold slP; omega
      repeat (first | with_reducible refine ok_let ?_ | with_reducible refine ok_cs ?_ | with_reducible refine ok_clet ?_ | with_reducible refine ok_cc ?_ | (with_reducible refine ok_chk ?_ ?_; · (first | omega | ((try simp (disch := omega) only [w32_eq, w64_eq, ix_n, ix_e, sto_n, sto_e, sto_r, zf_r, Int.toNat_natCast, true_or, or_true, eq_self, q16, t1, h1]) <;> (first | omega | decide)))) | (with_reducible refine ok_cchk ?_ ?_; · (first | omega | ((try simp (disch := omega) only [w32_eq, w64_eq, ix_n, ix_e, sto_n, sto_e, sto_r, zf_r, Int.toNat_natCast, true_or, or_true, eq_self, q16, t1, h1]) <;> (first | omega | decide)))) | (with_reducible refine ok_t ?_ ?_; · (first | omega | ((try simp (disch := omega) only [w32_eq, w64_eq, ix_n, ix_e, sto_n, sto_e, sto_r, zf_r, Int.toNat_natCast, true_or, or_true, eq_self, q16, t1, h1]) <;> (first | omega | decide)))) | (with_reducible refine ok_f ?_ ?_; · (first | omega | ((try simp (disch := omega) only [w32_eq, w64_eq, ix_n, ix_e, sto_n, sto_e, sto_r, zf_r, Int.toNat_natCast, true_or, or_true, eq_self, q16, t1, h1]) <;> (first | omega | decide)))) | (with_reducible refine ok_ct ?_ ?_; · (first | omega | ((try simp (disch := omega) only [w32_eq, w64_eq, ix_n, ix_e, sto_n, sto_e, sto_r, zf_r, Int.toNat_natCast, true_or, or_true, eq_self, q16, t1, h1]) <;> (first | omega | decide)))) | (with_reducible refine ok_cf ?_ ?_; · (first | omega | ((try simp (disch := omega) only [w32_eq, w64_eq, ix_n, ix_e, sto_n, sto_e, sto_r, zf_r, Int.toNat_natCast, true_or, or_true, eq_self, q16, t1, h1]) <;> (first | omega | decide)))))
      rw [ex, q18, t9'.1, q20, t2, q21, t3, q19, t10'.1, hee]
      refine ok_call_eq s_slotB ?_
      rw [es]
      refine ok_call take (fun v M1 hv => ?_)
      obtain ⟨⟨a1, a2, a3, a4⟩, hF⟩ := hv
      repeat (first | with_reducible refine ok_let ?_ | with_reducible refine ok_cs ?_ | with_reducible refine ok_clet ?_ | with_reducible refine ok_cc ?_ | (with_reducible refine ok_chk ?_ ?_; · (first | omega | ((try simp (disch := omega) only [w32_eq, w64_eq, ix_n, ix_e, sto_n, sto_e, sto_r, zf_r, Int.toNat_natCast, true_or, or_true, eq_self]) <;> (first | omega | decide)))) | (with_reducible refine ok_cchk ?_ ?_; · (first | omega | ((try simp (disch := omega) only [w32_eq, w64_eq, ix_n, ix_e, sto_n, sto_e, sto_r, zf_r, Int.toNat_natCast, true_or, or_true, eq_self]) <;> (first | omega | decide)))) | (with_reducible refine ok_t ?_ ?_; · (first | omega | ((try simp (disch := omega) only [w32_eq, w64_eq, ix_n, ix_e, sto_n, sto_e, sto_r, zf_r, Int.toNat_natCast, true_or, or_true, eq_self]) <;> (first | omega | decide)))) | (with_reducible refine ok_f ?_ ?_; · (first | omega | ((try simp (disch := omega) only [w32_eq, w64_eq, ix_n, ix_e, sto_n, sto_e, sto_r, zf_r, Int.toNat_natCast, true_or, or_true, eq_self]) <;> (first | omega | decide)))) | (with_reducible refine ok_ct ?_ ?_; · (first | omega | ((try simp (disch := omega) only [w32_eq, w64_eq, ix_n, ix_e, sto_n, sto_e, sto_r, zf_r, Int.toNat_natCast, true_or, or_true, eq_self]) <;> (first | omega | decide)))) | (with_reducible refine ok_cf ?_ ?_; · (first | omega | ((try simp (disch := omega) only [w32_eq, w64_eq, ix_n, ix_e, sto_n, sto_e, sto_r, zf_r, Int.toNat_natCast, true_or, or_true, eq_self]) <;> (first | omega | decide)))))
      refine ok_call_eq s_slotP ?_
      rw [ep, ix_n (show e < 2147483648 by omega)]
      refine ok_call (s_openRow (a1.on (M' := sto M1 83 e (M1 83 e - M1 76 n)) (by rw [sto_r (by decide)]) (by rw [sto_r (by decide)]) (by rw [sto_r (by decide)])) hslP n120) (fun v M2 hv => ?_)
      obtain ⟨⟨o1, o2, o3⟩, hF2⟩ := hv
      obtain ⟨r, hr⟩ : ∃ r : Nat, M2 81 (slP M0 n) = (r : Int) := ⟨(M2 81 (slP M0 n)).toNat, by omega⟩
      rw [o3, hr]
      refine ok_call_eq (s_addParts (by omega)) (ok_ret ?_)
      rw [hstp]
      have h86 : M2 86 = M1 86 := by rw [hF2.c 86 (by decide) (by decide), sto_r (by decide)]
      refine ⟨?_, fun e1 he1 => ?_, fun j hj => ?_, ?_, ?_⟩
      · have q := o1.add hslP (p := M2 86) (p' := prO M0 n S) (by omega) (fun f hf => by rw [h86, a2 f hf]; rfl)
        rw [hr, Int.toNat_natCast] at q
        have e0 : stO M0 n S 0 = adS (adS (S 0) (20 * slO M0 n) (fun f => - prO M0 n S f)) (20 * slP M0 n) (prO M0 n S) := by
          show (if M0 120 n = 1 then _ else _) = _
          rw [if_pos h1]
        rw [e0]; exact q
      · rw [sc_r (by decide), hF2.c 83 (by decide) (by decide), sto_up, hF.c 83 (by decide) (by decide), a3, up_e]
        show _ = (if M0 120 n = 2 then S 1 else _ : Nat → Int) e1
        rw [if_neg (by omega), hee, Int.toNat_natCast]
        unfold up; split
        · rw [r2 e (by omega)]
        · exact r2 e1 he1
      · rw [sc_r (by decide), hF2.c 84 (by decide) (by decide), sto_r (by decide), hF.c 84 (by decide) (by decide)]
        show _ = (if M0 120 n = 2 then _ else if M0 120 n = 3 then _ else S 2 : Nat → Int) j
        rw [if_neg (by omega), if_neg (by omega)]; exact r3 j hj
      · rw [← hstp]; refine k02 _ ?_
        rw [sc_r (by decide), hF2.f 75 14 (by decide) (by decide), sto_r (by decide)]; exact a4
      · rw [← hstp]; refine k01 _ ?_
        rw [sc_r (by decide), hF2.c 76 (by decide) (by decide), sto_r (by decide)]; exact a3
    · -- a sale
      have t8' := t8 h1
      have es : (8 + M0 122 n) * 60 + M0 124 n * 10 + M0 125 n = ((slO M0 n : Nat) : Int) := by unfold slO; rw [if_pos h1]; omega
      repeat (first | with_reducible refine ok_let ?_ | with_reducible refine ok_cs ?_ | with_reducible refine ok_clet ?_ | with_reducible refine ok_cc ?_ | (with_reducible refine ok_chk ?_ ?_; · (first | omega | ((try simp (disch := omega) only [w32_eq, w64_eq, ix_n, ix_e, sto_n, sto_e, sto_r, zf_r, Int.toNat_natCast, true_or, or_true, eq_self, q16, t1, h1]) <;> (first | omega | decide)))) | (with_reducible refine ok_cchk ?_ ?_; · (first | omega | ((try simp (disch := omega) only [w32_eq, w64_eq, ix_n, ix_e, sto_n, sto_e, sto_r, zf_r, Int.toNat_natCast, true_or, or_true, eq_self, q16, t1, h1]) <;> (first | omega | decide)))) | (with_reducible refine ok_t ?_ ?_; · (first | omega | ((try simp (disch := omega) only [w32_eq, w64_eq, ix_n, ix_e, sto_n, sto_e, sto_r, zf_r, Int.toNat_natCast, true_or, or_true, eq_self, q16, t1, h1]) <;> (first | omega | decide)))) | (with_reducible refine ok_f ?_ ?_; · (first | omega | ((try simp (disch := omega) only [w32_eq, w64_eq, ix_n, ix_e, sto_n, sto_e, sto_r, zf_r, Int.toNat_natCast, true_or, or_true, eq_self, q16, t1, h1]) <;> (first | omega | decide)))) | (with_reducible refine ok_ct ?_ ?_; · (first | omega | ((try simp (disch := omega) only [w32_eq, w64_eq, ix_n, ix_e, sto_n, sto_e, sto_r, zf_r, Int.toNat_natCast, true_or, or_true, eq_self, q16, t1, h1]) <;> (first | omega | decide)))) | (with_reducible refine ok_cf ?_ ?_; · (first | omega | ((try simp (disch := omega) only [w32_eq, w64_eq, ix_n, ix_e, sto_n, sto_e, sto_r, zf_r, Int.toNat_natCast, true_or, or_true, eq_self, q16, t1, h1]) <;> (first | omega | decide)))))
      rw [ex, q20, t2, q21, t3, q19, t8'.1]
      refine ok_call_eq s_slotP ?_
      rw [es]
      refine ok_call take (fun v M1 hv => ?_)
      obtain ⟨⟨a1, a2, a3, a4⟩, hF⟩ := hv
      refine ok_call_eq (s_countParts (r := 2) (by decide)) (ok_ret ?_)
      rw [hstp]
      refine ⟨?_, fun e1 he1 => ?_, fun j hj => ?_, ?_, ?_⟩
      · have e0 : stO M0 n S 0 = adS (S 0) (20 * slO M0 n) (fun f => - prO M0 n S f) := by
          show (if M0 120 n = 1 then _ else _) = _
          rw [if_neg (by omega)]
        rw [e0]
        obtain ⟨u1, u2, u3, u4, u5⟩ := a1.on (M' := sc M1 84 (adS (M1 84) (20 * 2) (M1 86))) (by rw [sc_r (by decide)]) (by rw [sc_r (by decide)]) (by rw [sc_r (by decide)])
        exact ⟨⟨u1.1, by omega⟩, u2, u3, u4, u5⟩
      · rw [sc_r (by decide), hF.c 83 (by decide) (by decide)]
        show _ = (if M0 120 n = 2 then S 1 else _ : Nat → Int) e1
        rw [if_pos h1]; exact r2 e1 he1
      · rw [sc_e, hF.c 84 (by decide) (by decide)]
        show _ = (if M0 120 n = 2 then _ else if M0 120 n = 3 then _ else S 2 : Nat → Int) j
        rw [if_pos h1]
        show adS (M 84) 40 (M1 86) j = adS (S 2) 40 (prO M0 n S) j
        unfold adS; split
        · rename_i c; rw [r3 j hj, a2 (j - 40) (by omega)]; rfl
        · exact r3 j hj
      · rw [← hstp]; refine k02 _ ?_
        rw [sc_r (by decide)]; exact a4
      · rw [← hstp]; refine k01 _ ?_
        rw [sc_r (by decide)]; exact a3
    · -- a spoiling
      have t9' := t9 (by omega)
      obtain ⟨e, hee⟩ : ∃ e : Nat, M0 122 n = (e : Int) := ⟨(M0 122 n).toNat, by omega⟩
      have es : (e : Int) * 60 + M0 124 n * 10 + M0 125 n = ((slO M0 n : Nat) : Int) := by unfold slO; rw [if_neg (by omega), hee]; omega
      repeat (first | with_reducible refine ok_let ?_ | with_reducible refine ok_cs ?_ | with_reducible refine ok_clet ?_ | with_reducible refine ok_cc ?_ | (with_reducible refine ok_chk ?_ ?_; · (first | omega | ((try simp (disch := omega) only [w32_eq, w64_eq, ix_n, ix_e, sto_n, sto_e, sto_r, zf_r, Int.toNat_natCast, true_or, or_true, eq_self, q16, t1, h1]) <;> (first | omega | decide)))) | (with_reducible refine ok_cchk ?_ ?_; · (first | omega | ((try simp (disch := omega) only [w32_eq, w64_eq, ix_n, ix_e, sto_n, sto_e, sto_r, zf_r, Int.toNat_natCast, true_or, or_true, eq_self, q16, t1, h1]) <;> (first | omega | decide)))) | (with_reducible refine ok_t ?_ ?_; · (first | omega | ((try simp (disch := omega) only [w32_eq, w64_eq, ix_n, ix_e, sto_n, sto_e, sto_r, zf_r, Int.toNat_natCast, true_or, or_true, eq_self, q16, t1, h1]) <;> (first | omega | decide)))) | (with_reducible refine ok_f ?_ ?_; · (first | omega | ((try simp (disch := omega) only [w32_eq, w64_eq, ix_n, ix_e, sto_n, sto_e, sto_r, zf_r, Int.toNat_natCast, true_or, or_true, eq_self, q16, t1, h1]) <;> (first | omega | decide)))) | (with_reducible refine ok_ct ?_ ?_; · (first | omega | ((try simp (disch := omega) only [w32_eq, w64_eq, ix_n, ix_e, sto_n, sto_e, sto_r, zf_r, Int.toNat_natCast, true_or, or_true, eq_self, q16, t1, h1]) <;> (first | omega | decide)))) | (with_reducible refine ok_cf ?_ ?_; · (first | omega | ((try simp (disch := omega) only [w32_eq, w64_eq, ix_n, ix_e, sto_n, sto_e, sto_r, zf_r, Int.toNat_natCast, true_or, or_true, eq_self, q16, t1, h1]) <;> (first | omega | decide)))))
      rw [ex, q18, t9'.1, q20, t2, q21, t3, hee]
      refine ok_call_eq s_slotB ?_
      rw [es]
      refine ok_call take (fun v M1 hv => ?_)
      obtain ⟨⟨a1, a2, a3, a4⟩, hF⟩ := hv
      repeat (first | with_reducible refine ok_let ?_ | with_reducible refine ok_cs ?_ | with_reducible refine ok_clet ?_ | with_reducible refine ok_cc ?_ | (with_reducible refine ok_chk ?_ ?_; · (first | omega | ((try simp (disch := omega) only [w32_eq, w64_eq, ix_n, ix_e, sto_n, sto_e, sto_r, zf_r, Int.toNat_natCast, true_or, or_true, eq_self]) <;> (first | omega | decide)))) | (with_reducible refine ok_cchk ?_ ?_; · (first | omega | ((try simp (disch := omega) only [w32_eq, w64_eq, ix_n, ix_e, sto_n, sto_e, sto_r, zf_r, Int.toNat_natCast, true_or, or_true, eq_self]) <;> (first | omega | decide)))) | (with_reducible refine ok_t ?_ ?_; · (first | omega | ((try simp (disch := omega) only [w32_eq, w64_eq, ix_n, ix_e, sto_n, sto_e, sto_r, zf_r, Int.toNat_natCast, true_or, or_true, eq_self]) <;> (first | omega | decide)))) | (with_reducible refine ok_f ?_ ?_; · (first | omega | ((try simp (disch := omega) only [w32_eq, w64_eq, ix_n, ix_e, sto_n, sto_e, sto_r, zf_r, Int.toNat_natCast, true_or, or_true, eq_self]) <;> (first | omega | decide)))) | (with_reducible refine ok_ct ?_ ?_; · (first | omega | ((try simp (disch := omega) only [w32_eq, w64_eq, ix_n, ix_e, sto_n, sto_e, sto_r, zf_r, Int.toNat_natCast, true_or, or_true, eq_self]) <;> (first | omega | decide)))) | (with_reducible refine ok_cf ?_ ?_; · (first | omega | ((try simp (disch := omega) only [w32_eq, w64_eq, ix_n, ix_e, sto_n, sto_e, sto_r, zf_r, Int.toNat_natCast, true_or, or_true, eq_self]) <;> (first | omega | decide)))))
      rw [ix_n (show e < 2147483648 by omega)]
      refine ok_call_eq (s_countParts (r := 3) (by decide)) (ok_ret ?_)
      rw [hstp]
      refine ⟨?_, fun e1 he1 => ?_, fun j hj => ?_, ?_, ?_⟩
      · have e0 : stO M0 n S 0 = adS (S 0) (20 * slO M0 n) (fun f => - prO M0 n S f) := by
          show (if M0 120 n = 1 then _ else _) = _
          rw [if_neg (by omega)]
        rw [e0]
        obtain ⟨u1, u2, u3, u4, u5⟩ := a1.on (M' := sc (sto M1 83 e (M1 83 e - M1 76 n)) 84 (adS (sto M1 83 e (M1 83 e - M1 76 n) 84) (20 * 3) (sto M1 83 e (M1 83 e - M1 76 n) 86))) (by rw [sc_r (by decide), sto_r (by decide)]) (by rw [sc_r (by decide), sto_r (by decide)]) (by rw [sc_r (by decide), sto_r (by decide)])
        exact ⟨⟨u1.1, by omega⟩, u2, u3, u4, u5⟩
      · rw [sc_r (by decide), sto_up, hF.c 83 (by decide) (by decide), a3, up_e]
        show _ = (if M0 120 n = 2 then S 1 else _ : Nat → Int) e1
        rw [if_neg (by omega), hee, Int.toNat_natCast]
        unfold up; split
        · rw [r2 e (by omega)]
        · exact r2 e1 he1
      · rw [sc_e, sto_r (by decide), sto_r (by decide), hF.c 84 (by decide) (by decide)]
        show _ = (if M0 120 n = 2 then _ else if M0 120 n = 3 then _ else S 2 : Nat → Int) j
        rw [if_neg (by omega), if_pos h1]
        show adS (M 84) 60 (M1 86) j = adS (S 2) 60 (prO M0 n S) j
        unfold adS; split
        · rename_i c; rw [r3 j hj, a2 (j - 60) (by omega)]; rfl
        · exact r3 j hj
      · rw [← hstp]; refine k02 _ ?_
        rw [sc_r (by decide), sto_r (by decide)]; exact a4
      · rw [← hstp]; refine k01 _ ?_
        rw [sc_r (by decide), sto_r (by decide)]; exact a3
