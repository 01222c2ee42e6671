/-! ranks asked anew -/
theorem s_rkC {F : Nat → Int → (Nat → Int) → Int} {fr : Nat → Int} {N : Nat} {M0 Mb M : Mem} (hA : AskC F fr N M0) (hg0 : Ag TcL TcK M0 M) (hE : IvE Mb) (hP : IvP Mb) {g : Nat} (h1 : g < 100) (hg : Gr Mb g) (hF : Fr [30, 34, 35, 36, 37, 38] [(32, 2), (32, 8)] Mb M) :
    Ok (d_PP_rankOf (g : Int) M) (fun v M' => w32 v = F 0 (Mb 128 (Mb 130 g).toNat) (rkE Mb g) ∧ Fr [34, 35, 36, 37, 38] [(32, 2), (32, 8)] M M') := by
  obtain ⟨r1, r2⟩ := rk_eq hE hP hg
  obtain ⟨q1, q2, q3, q4, q5, q6, q7, q8, q9⟩ := hg
  have ek := hE.2.2.2.2.2.2.2.1 (Mb 130 g).toNat (by omega)
  obtain ⟨l1, l2, l3, l4, l5, l6, l7, l8, l9, l10, l11, l12, l13, l14⟩ := ek.load q6
  have hp := hP.2.2.2.2.1 (Mb 121 (Mb 130 g).toNat).toNat (by omega)
  have nb := netS_b l11 l12
  have hP1 := hP.1; have hE1 := hE.1
  unfold netS at nb
  have u27 := hF.c 27 (by decide) (by decide)
  have u25 := hF.c 25 (by decide) (by decide)
  have u29 := hF.c 29 (by decide) (by decide)
  have u28 := hF.c 28 (by decide) (by decide)
  have u22 := hF.c 22 (by decide) (by decide)
  have u23 := hF.c 23 (by decide) (by decide)
  have u17 := hF.c 17 (by decide) (by decide)
  have u6 := hF.c 6 (by decide) (by decide)
  have := s_rankOfC (M0 := M0) (M := M) hA hg0 (g := g) h1 (by rw [u27, q1]; omega) (by rw [u27, u25, q1, l7]; omega) (by rw [u29, q3]; omega) (by rw [u28, q2]; omega) (by rw [u27, u22, u23, q1, l5, l6]; omega) (by rw [u27, u17, q1, l2]; omega) (by rw [u27, u17, u6, q1, l2, hp.1]; omega)
  rw [show rkC M g = rkC Mb g by unfold rkC; rw [u27, u25, u29, u28, u22, u23, u17, u6], r1, u27, u25, r2] at this
  exact this
theorem l_rank {F : Nat → Int → (Nat → Int) → Int} {fr : Nat → Int} {N : Nat} {Mb : Mem} (hA : AskC F fr N Mb) (hE : IvE Mb) (hP : IvP Mb) {Q : Nat} (hQ : Q ≤ 100) (h13 : Mb 15 13 = (Q : Int)) (hG : ∀ g : Nat, g < Q → Gr Mb g) : ∀ (r fuel k : Nat) (M : Mem), k + r = Q → r < fuel → Fr [30, 34, 35, 36, 37, 38] [(32, 2), (32, 8)] Mb M → (∀ g, g < k → w32 (M 30 g) = F 0 (Mb 128 (Mb 130 g).toNat) (rkE Mb g)) → Ok (fix (fun _ _ => none) k_PP_rankAll_2 fuel (k : Int) M) (fun _ M' => Fr [30, 34, 35, 36, 37, 38] [(32, 2), (32, 8)] Mb M' ∧ ∀ g, g < Q → w32 (M' 30 g) = F 0 (Mb 128 (Mb 130 g).toNat) (rkE Mb g)) := by
  intro r; induction r with
  | zero =>
    intro fuel k M e hf hF hR
    obtain ⟨f, rfl⟩ : ∃ f, fuel = f + 1 := ⟨fuel - 1, by omega⟩
    have u15 := hF.c 15 (by decide) (by decide)
    rw [fix_s]; unfold k_PP_rankAll_2
    rw [u15, h13]
    refine ok_let (ok_f (by rw [w32_eq (by omega) (by omega), w32_eq (by omega) (by omega)]; omega) (ok_ret ⟨hF, fun g hg => hR g (by omega)⟩))
  | succ r ih =>
    intro fuel k M e hf hF hR
    obtain ⟨f, rfl⟩ : ∃ f, fuel = f + 1 := ⟨fuel - 1, by omega⟩
    have u15 := hF.c 15 (by decide) (by decide)
    have xk : ix (k : Int) = k := ix_n (by omega)
    have ag : Ag TcL TcK Mb M := hF.ag (by decide) (by decide)
    have key : ∀ R2 : Int → Mem → Res, (∀ M' : Mem, Fr [30, 34, 35, 36, 37, 38] [(32, 2), (32, 8)] Mb M' → (∀ g, g < k + 1 → w32 (M' 30 g) = F 0 (Mb 128 (Mb 130 g).toNat) (rkE Mb g)) → Ok (R2 ((k + 1 : Nat) : Int) M') (fun _ M' => Fr [30, 34, 35, 36, 37, 38] [(32, 2), (32, 8)] Mb M' ∧ ∀ g, g < Q → w32 (M' 30 g) = F 0 (Mb 128 (Mb 130 g).toNat) (rkE Mb g))) → Ok (k_PP_rankAll_2 R2 (k : Int) M) (fun _ M' => Fr [30, 34, 35, 36, 37, 38] [(32, 2), (32, 8)] Mb M' ∧ ∀ g, g < Q → w32 (M' 30 g) = F 0 (Mb 128 (Mb 130 g).toNat) (rkE Mb g)) := fun R2 hR2 => by
      unfold k_PP_rankAll_2
      rw [u15, h13]
      refine ok_let (ok_t (by rw [w32_eq (by omega) (by omega), w32_eq (by omega) (by omega)]; omega) ?_)
      refine ok_call (s_rkC hA ag hE hP (by omega) (hG k (by omega)) hF) (fun v M4 q => ?_)
      obtain ⟨q1, q2⟩ := q
      refine ok_chk (by rw [w32_eq (by omega) (by omega)]; omega) (ok_let (ok_let ?_))
      rw [xk, show (k : Int) + 1 = ((k + 1 : Nat) : Int) by omega]
      have f4 : Fr [30, 34, 35, 36, 37, 38] [(32, 2), (32, 8)] Mb M4 := hF.trans (q2.mono (by decide) (by decide))
      refine hR2 _ (f4.trans (fr_stoA (by decide))) (fun g hg => ?_)
      by_cases c : g = k
      · rw [c, sto_e, q1]
      · rw [sto_n c, q2.f 30 g (by decide) (by simp)]
        exact hR g (by omega)
    rw [fix_s]
    exact key _ (fun M' h1 h2 => ih f (k + 1) M' (by omega) (by omega) h1 h2)
theorem s_rankAll {F : Nat → Int → (Nat → Int) → Int} {fr : Nat → Int} {N : Nat} {M : Mem} (hA : AskC F fr N M) (hE : IvE M) (hP : IvP M) {Q : Nat} (hQ : Q ≤ 100) (h13 : M 15 13 = (Q : Int)) (hG : ∀ g : Nat, g < Q → Gr M g) : Ok (d_PP_rankAll M) (fun _ M' => Fr [30, 34, 35, 36, 37, 38] [(32, 2), (32, 8)] M M' ∧ ∀ g, g < Q → w32 (M' 30 g) = F 0 (M 128 (M 130 g).toNat) (rkE M g)) := by
  unfold d_PP_rankAll
  exact l_rank hA hE hP hQ h13 hG Q FU 0 M (by omega) (by unfold FU; omega) Fr.rfl' (fun g hg => by omega)
/-- the model's answer shows in its memory -/
theorem v_228 {a2 : Int} : ∀ (fuel : Nat) (a3 : Int) (M : Mem) (r : Int × Mem), fix (fun _ _ _ => none) k_Mo_acts_228 fuel a2 a3 M = some r → r.1 = r.2 111 57 ∧ r.2 111 48 = M 111 48
  | 0, _, _, _, h => by cases h
  | f + 1, a3, M, r, h => by
    have key : ∀ R : Int → Int → Mem → Res, (∀ a3 M r, R a2 a3 M = some r → r.1 = r.2 111 57 ∧ r.2 111 48 = M 111 48) → k_Mo_acts_228 R a2 a3 M = some r → r.1 = r.2 111 57 ∧ r.2 111 48 = M 111 48 := fun R hR h => by
      unfold k_Mo_acts_228 at h
      obtain ⟨v1, rfl, h⟩ := blet_e h
      rcases ite_e h with ⟨-, h⟩ | ⟨-, h⟩
      · obtain ⟨v3, rfl, h⟩ := blet_e h
        obtain ⟨-, h⟩ := chk_e h
        obtain ⟨v5, rfl, h⟩ := blet_e h
        obtain ⟨-, h⟩ := chk_e h
        obtain ⟨M7, rfl, h⟩ := blet_e h
        obtain ⟨v8, rfl, h⟩ := blet_e h
        have := hR _ _ _ h
        rw [sto_r (show 111 ≠ 153 by decide)] at this
        exact this
      · obtain ⟨v9, rfl, h⟩ := blet_e h
        obtain ⟨v10, rfl, h⟩ := blet_e h
        obtain ⟨-, h⟩ := chk_e h
        obtain ⟨M12, rfl, h⟩ := blet_e h
        obtain ⟨v13, rfl, h⟩ := blet_e h
        obtain ⟨-, h⟩ := chk_e h
        obtain ⟨M15, rfl, h⟩ := blet_e h
        obtain ⟨v16, rfl, h⟩ := blet_e h
        obtain ⟨M17, rfl, h⟩ := blet_e h
        obtain ⟨v18, rfl, h⟩ := blet_e h
        cases h
        refine ⟨rfl, ?_⟩
        simp (disch := omega) only [w32_eq, w64_eq, ix_n, ix_e, sto_n, sto_e, sto_r, zf_r, Int.toNat_natCast]
    rw [fix_s] at h
    exact key _ (fun a3 M r => v_228 f a3 M r) h
theorem v_192 {a2 : Int} : ∀ (fuel : Nat) (a3 : Int) (M : Mem) (r : Int × Mem), fix (fun _ _ _ => none) k_Mo_acts_192 fuel a2 a3 M = some r → r.1 = r.2 111 57 ∧ r.2 111 48 = M 111 48
  | 0, _, _, _, h => by cases h
  | f + 1, a3, M, r, h => by
    have key : ∀ R : Int → Int → Mem → Res, (∀ a3 M r, R a2 a3 M = some r → r.1 = r.2 111 57 ∧ r.2 111 48 = M 111 48) → k_Mo_acts_192 R a2 a3 M = some r → r.1 = r.2 111 57 ∧ r.2 111 48 = M 111 48 := fun R hR h => by
      unfold k_Mo_acts_192 at h
      obtain ⟨v1, rfl, h⟩ := blet_e h
      rcases ite_e h with ⟨-, h⟩ | ⟨-, h⟩
      · exact v_228 FU 0 M r h
      · obtain ⟨v3, rfl, h⟩ := blet_e h
        obtain ⟨-, h⟩ := chk_e h
        obtain ⟨v5, rfl, h⟩ := blet_e h
        obtain ⟨-, h⟩ := chk_e h
        obtain ⟨M7, rfl, h⟩ := blet_e h
        obtain ⟨v8, rfl, h⟩ := blet_e h
        have := hR _ _ _ h
        rw [sto_r (show 111 ≠ 149 by decide)] at this
        exact this
    rw [fix_s] at h
    exact key _ (fun a3 M r => v_192 f a3 M r) h
theorem v_155 {a2 : Int} : ∀ (fuel : Nat) (a3 : Int) (M : Mem) (r : Int × Mem), fix (fun _ _ _ => none) k_Mo_acts_155 fuel a2 a3 M = some r → r.1 = r.2 111 57 ∧ r.2 111 48 = M 111 48
  | 0, _, _, _, h => by cases h
  | f + 1, a3, M, r, h => by
    have key : ∀ R : Int → Int → Mem → Res, (∀ a3 M r, R a2 a3 M = some r → r.1 = r.2 111 57 ∧ r.2 111 48 = M 111 48) → k_Mo_acts_155 R a2 a3 M = some r → r.1 = r.2 111 57 ∧ r.2 111 48 = M 111 48 := fun R hR h => by
      unfold k_Mo_acts_155 at h
      obtain ⟨v1, rfl, h⟩ := blet_e h
      rcases ite_e h with ⟨-, h⟩ | ⟨-, h⟩
      · obtain ⟨v3, rfl, h⟩ := blet_e h
        obtain ⟨-, h⟩ := chk_e h
        obtain ⟨v5, rfl, h⟩ := blet_e h
        obtain ⟨-, h⟩ := chk_e h
        obtain ⟨M7, rfl, h⟩ := blet_e h
        obtain ⟨v8, rfl, h⟩ := blet_e h
        have := hR _ _ _ h
        rw [sto_r (show 111 ≠ 150 by decide)] at this
        exact this
      · exact v_192 FU 0 M r h
    rw [fix_s] at h
    exact key _ (fun a3 M r => v_155 f a3 M r) h
theorem v_112 {a2 : Int} {M : Mem} {r : Int × Mem} (h : k_Mo_acts_112 a2 M = some r) : (0 < w32 (r.2 111 48) ∧ r.1 = -1) ∨ (¬ 0 < w32 (r.2 111 48) ∧ r.1 = r.2 111 57) := by
  have k136 : ∀ (s1 : Int) (M : Mem), k_Mo_acts_136 a2 s1 M = some r → (0 < w32 (r.2 111 48) ∧ r.1 = -1) ∨ (¬ 0 < w32 (r.2 111 48) ∧ r.1 = r.2 111 57) := fun s1 M h => by
    unfold k_Mo_acts_136 at h
    obtain ⟨M1, rfl, h⟩ := blet_e h
    obtain ⟨v2, rfl, h⟩ := blet_e h
    rcases ite_e h with ⟨c, h⟩ | ⟨c, h⟩
    · obtain ⟨v4, M5, h4, h⟩ := bcall_e h
      unfold d_Mo_refuse at h4
      obtain ⟨M6, rfl, h4⟩ := blet_e h4
      cases h4
      cases h
      left
      refine ⟨?_, rfl⟩
      show 0 < w32 ((sto (sto M 111 47 s1) 111 0 10) 111 48)
      rw [sto_n (show 48 ≠ 0 by decide)]; exact c
    · right
      obtain ⟨e1, e2⟩ := v_155 FU 0 _ r h
      exact ⟨by rw [e2]; exact c, e1⟩
  unfold k_Mo_acts_112 at h
  obtain ⟨v1, rfl, h⟩ := blet_e h
  obtain ⟨M2, rfl, h⟩ := blet_e h
  obtain ⟨v3, rfl, h⟩ := blet_e h
  rcases ite_e h with ⟨c, h⟩ | ⟨c, h⟩
  · exact k136 _ _ h
  · obtain ⟨v5, rfl, h⟩ := blet_e h
    exact k136 _ _ h
theorem v_91 {a2 : Int} : ∀ (fuel : Nat) (M : Mem) (r : Int × Mem), fix (fun _ _ => none) k_Mo_acts_91 fuel a2 M = some r → (0 < w32 (r.2 111 48) ∧ r.1 = -1) ∨ (¬ 0 < w32 (r.2 111 48) ∧ r.1 = r.2 111 57)
  | 0, _, _, h => by cases h
  | f + 1, M, r, h => by
    have key : ∀ R : Int → Mem → Res, (∀ M r, R a2 M = some r → (0 < w32 (r.2 111 48) ∧ r.1 = -1) ∨ (¬ 0 < w32 (r.2 111 48) ∧ r.1 = r.2 111 57)) → k_Mo_acts_91 R a2 M = some r → (0 < w32 (r.2 111 48) ∧ r.1 = -1) ∨ (¬ 0 < w32 (r.2 111 48) ∧ r.1 = r.2 111 57) := fun R hR h => by
      unfold k_Mo_acts_91 at h
      obtain ⟨v1, rfl, h⟩ := blet_e h
      rcases ite_e h with ⟨-, h⟩ | ⟨-, h⟩
      · obtain ⟨v3, rfl, h⟩ := blet_e h
        rcases ite_e h with ⟨-, h⟩ | ⟨-, h⟩
        · exact v_112 h
        · obtain ⟨v5, M6, -, h⟩ := bcall_e h
          exact hR _ _ h
      · exact v_112 h
    rw [fix_s] at h
    exact key _ (fun M r => v_91 f M r) h
