/-! what a text's steps come to -/
abbrev Fnn : Type := (Nat → Int) → (Nat → Int) → (Nat → Int) → Int × Int
def vlC (M : Mem) (F : Fnn) : Int × Int := F (ev (M 34)) (fun i => w64 (M 35 i)) (fun i => M 36 i % 2)
def vlR (M : Mem) (F : Fnn) : Int × Int := F (ev (M 156)) (fun i => w64 (M 157 i)) (fun i => M 159 i % 2)
def arV (w a b : Int) : Int := if w = 4 then w64 (a + b) else if w = 5 then w64 (a - b) else if w = 6 then w64 (a * b) else if w = 7 then w64 (a.tdiv b) else if w = 8 then w64 (a.tmod b) else if w = 9 then (if a < b then a else b) else (if b < a then a else b)
def cmV (w a b : Int) : Int := if w = 13 then (if a < b then 1 else 0) else if w = 14 then (if b < a then 1 else 0) else (if a = b then 1 else 0)
def bnV (w v : Int) (A B : Int × Int) : Int × Int := if w = 11 then (w64 (an64 A.1 B.1), 0) else if w = 12 then (w64 (or64 A.1 B.1), 0) else if 13 ≤ w then (if A.2 = 0 ∧ B.2 = 0 ∧ cmV w A.1 B.1 ≠ (if v = 1 then 1 else 0) then 1 else 0, 0) else if A.2 ≠ 0 ∨ B.2 ≠ 0 ∨ ((w = 7 ∨ w = 8) ∧ B.1 = 0) then (0, 1) else (arV w A.1 B.1, 0)
/-- the stacks: the topmost two are A and B -/
def StC (h : Nat) (A B : Int × Int) (M : Mem) : Prop := M 32 8 = ((h + 2 : Nat) : Int) ∧ h + 2 ≤ 64 ∧ w64 (M 37 h) = A.1 ∧ M 38 h % 2 = A.2 ∧ w64 (M 37 (h + 1)) = B.1 ∧ M 38 (h + 1) % 2 = B.2
def PoC (h : Nat) (V : Int × Int) (M M' : Mem) : Prop := M' 32 8 = ((h + 1 : Nat) : Int) ∧ w64 (M' 37 h) = V.1 ∧ M' 38 h % 2 = V.2 ∧ ∀ i, i < h → M' 37 i = M 37 i ∧ M' 38 i = M 38 i
def StR (h : Nat) (A B : Int × Int) (M : Mem) : Prop := M 111 72 = ((h + 2 : Nat) : Int) ∧ h + 2 ≤ 600 ∧ w64 (M 155 h) = A.1 ∧ M 158 h % 2 = A.2 ∧ w64 (M 155 (h + 1)) = B.1 ∧ M 158 (h + 1) % 2 = B.2
def PoR (h : Nat) (V : Int × Int) (M M' : Mem) : Prop := M' 111 72 = ((h + 1 : Nat) : Int) ∧ w64 (M' 155 h) = V.1 ∧ M' 158 h % 2 = V.2 ∧ ∀ i, i < h → M' 155 i = M 155 i ∧ M' 158 i = M 158 i
def jdV (w x y : Int) : Int := if w = 4 then x + y else if w = 5 then x - y else if w = 6 then x * y else if w = 7 then dv64 x y else if w = 8 then rm64 x y else if w = 9 then (if w64 x < w64 y then x else y) else (if w64 y < w64 x then x else y)
theorem s_joined {w x y : Int} {M : Mem} (hw : 4 ≤ w ∧ w ≤ 10) (hz : ¬ ((w = 7 ∨ w = 8) ∧ w64 y = 0)) : d_As_joined w x y M = some (jdV w x y, M) := by
  unfold d_As_joined jdV
  rcases (show w = 4 ∨ w = 5 ∨ w = 6 ∨ w = 7 ∨ w = 8 ∨ w = 9 ∨ w = 10 by omega) with e | e | e | e | e | e | e <;> subst e
  · rfl
  · rfl
  · rfl
  · have hy : ¬ w64 y = 0 := fun q => hz ⟨Or.inl rfl, q⟩
    rw [if_neg (by decide), if_neg (by decide), if_neg (by decide), if_pos (by decide), if_neg hy, chk_t hy]; rfl
  · have hy : ¬ w64 y = 0 := fun q => hz ⟨Or.inr rfl, q⟩
    rw [if_neg (by decide), if_neg (by decide), if_neg (by decide), if_neg (by decide), if_pos (by decide), if_neg hy, chk_t hy]; rfl
  · by_cases c : w64 x < w64 y
    · rw [if_neg (by decide), if_neg (by decide), if_neg (by decide), if_neg (by decide), if_neg (by decide), if_pos (by decide), if_pos c]
      rw [if_neg (by decide), if_neg (by decide), if_neg (by decide), if_neg (by decide), if_neg (by decide), if_pos rfl, if_pos c]
    · rw [if_neg (by decide), if_neg (by decide), if_neg (by decide), if_neg (by decide), if_neg (by decide), if_pos (by decide), if_neg c]
      rw [if_neg (by decide), if_neg (by decide), if_neg (by decide), if_neg (by decide), if_neg (by decide), if_pos rfl, if_neg c]
  · by_cases c : w64 y < w64 x
    · rw [if_neg (by decide), if_neg (by decide), if_neg (by decide), if_neg (by decide), if_neg (by decide), if_neg (by decide), if_pos c]
      rw [if_neg (by decide), if_neg (by decide), if_neg (by decide), if_neg (by decide), if_neg (by decide), if_neg (by decide), if_pos c]
    · rw [if_neg (by decide), if_neg (by decide), if_neg (by decide), if_neg (by decide), if_neg (by decide), if_neg (by decide), if_neg c]
      rw [if_neg (by decide), if_neg (by decide), if_neg (by decide), if_neg (by decide), if_neg (by decide), if_neg (by decide), if_neg c]
theorem jdV_w {w x y : Int} : w64 (jdV w x y) = arV w (w64 x) (w64 y) := by
  unfold jdV arV
  by_cases c4 : w = 4
  · rw [if_pos c4, if_pos c4]; exact w64_add
  rw [if_neg c4, if_neg c4]
  by_cases c5 : w = 5
  · rw [if_pos c5, if_pos c5]; exact w64_sub
  rw [if_neg c5, if_neg c5]
  by_cases c6 : w = 6
  · rw [if_pos c6, if_pos c6]; exact w64_mul
  rw [if_neg c6, if_neg c6]
  by_cases c7 : w = 7
  · rw [if_pos c7, if_pos c7]; rfl
  rw [if_neg c7, if_neg c7]
  by_cases c8 : w = 8
  · rw [if_pos c8, if_pos c8]; rfl
  rw [if_neg c8, if_neg c8]
  by_cases c9 : w = 9
  · rw [if_pos c9, if_pos c9]; split <;> rfl
  rw [if_neg c9, if_neg c9]; split <;> rfl
theorem StC.g {h : Nat} {A B : Int × Int} {M : Mem} (H : StC h A B M) : ix ((h + 2 : Nat) : Int) = h + 2 ∧ ix (((h + 2 : Nat) : Int) - 1) = h + 1 ∧ ix (((h + 2 : Nat) : Int) - 1 - 1) = h := by
  have := H.2.1
  exact ⟨ix_n (by omega), by rw [ix_e (by omega) (by omega)]; omega, by rw [ix_e (by omega) (by omega)]; omega⟩
/-- numbers joined -/
theorem s_jn90 {h : Nat} {w y : Int} {s0 : Int} {V : Int × Int} {M0 M : Mem} (hh : h + 2 ≤ 64) (h8 : M 32 8 = ((h + 2 : Nat) : Int) - 1) (hM : ∀ i, M 37 i = M0 37 i ∧ M 38 i = M0 38 i)
    (hc : (s0 = 1 ∧ V = (0, 1)) ∨ (s0 = 0 ∧ V.2 = 0 ∧ ∃ r, (∀ M : Mem, d_As_joined w (M0 37 h) y M = some (r, M)) ∧ w64 r = V.1)) : Ok (k_As_joinNumbers_90 w y s0 M) (fun _ M' => PoC h V M0 M') := by
  have x1 : ix (((h + 2 : Nat) : Int) - 1 - 1) = h := by rw [ix_e (by omega) (by omega)]; omega
  unfold k_As_joinNumbers_90 k_As_joinNumbers_140
  rw [h8]
  refine ok_let ?_
  refine ok_chk (by rw [w32_eq (by omega) (by omega)]; omega) ?_
  refine ok_let ?_
  rw [x1, sto_r (show 32 ≠ 38 by decide), h8]
  refine ok_let ?_
  have fin : ∀ z : Int, w64 z = V.1 → s0 % 2 = V.2 → Ok (chk (0 ≤ w32 (((h + 2 : Nat) : Int) - 1 - 1) ∧ w32 (((h + 2 : Nat) : Int) - 1 - 1) < 64) (blet (sto (sto M 38 h s0) 37 (ix (((h + 2 : Nat) : Int) - 1 - 1)) z) fun M2 => some (0, M2))) (fun _ M' => PoC h V M0 M') := fun z q1 q2 => by
    rw [x1]
    refine ok_chk (by rw [w32_eq (by omega) (by omega)]; omega) ?_
    refine ok_let ?_
    refine ok_ret ⟨?_, ?_, ?_, fun i hi => ⟨?_, ?_⟩⟩
    · simp (disch := omega) only [w32_eq, w64_eq, ix_n, ix_e, sto_n, sto_e, sto_r, zf_r, Int.toNat_natCast, h8]; omega
    · rw [sto_e]; exact q1
    · rw [sto_r (by decide), sto_e]; exact q2
    · simp (disch := omega) only [w32_eq, w64_eq, ix_n, ix_e, sto_n, sto_e, sto_r, zf_r, Int.toNat_natCast]; exact (hM i).1
    · simp (disch := omega) only [w32_eq, w64_eq, ix_n, ix_e, sto_n, sto_e, sto_r, zf_r, Int.toNat_natCast]; exact (hM i).2
  rcases hc with ⟨e1, e2⟩ | ⟨e1, e2, r, e3, e4⟩
  · subst e1 e2
    exact ok_f (by decide) (fin 0 rfl rfl)
  · subst e1
    refine ok_t (by decide) ?_
    refine ok_let ?_
    refine ok_chk (by rw [w32_eq (by omega) (by omega)]; omega) ?_
    refine ok_let ?_
    refine ok_call_eq (v := r) (M := sto M 38 h 0) (by rw [sto_r (show 37 ≠ 38 by decide), x1, (hM h).1]; exact e3 _) ?_
    exact fin r e4 (by rw [e2]; rfl)
theorem s_jn {h : Nat} {w v : Int} {A B : Int × Int} {M : Mem} (hw : 4 ≤ w ∧ w ≤ 10) (H : StC h A B M) : Ok (d_As_joinNumbers w M) (fun _ M' => PoC h (bnV w v A B) M M') := by
  obtain ⟨h1, h2, h3, h4, h5, h6⟩ := H
  have x0 : ix (((h + 2 : Nat) : Int) - 1) = h + 1 := by rw [ix_e (by omega) (by omega)]; omega
  have x1 : ix (((h + 2 : Nat) : Int) - 1 - 1) = h := by rw [ix_e (by omega) (by omega)]; omega
  have eV : bnV w v A B = if A.2 ≠ 0 ∨ B.2 ≠ 0 ∨ ((w = 7 ∨ w = 8) ∧ B.1 = 0) then (0, 1) else (arV w A.1 B.1, 0) := by
    unfold bnV
    rw [if_neg (by omega), if_neg (by omega), if_neg (by omega)]
  have pa : A.2 = 0 ∨ A.2 = 1 := by omega
  have pb : B.2 = 0 ∨ B.2 = 1 := by omega
  have k90 : ∀ s0 : Int, ((s0 = 1 ∧ bnV w v A B = (0, 1)) ∨ (s0 = 0 ∧ (bnV w v A B).2 = 0 ∧ ∃ r, (∀ M1 : Mem, d_As_joined w (M 37 h) (M 37 (h + 1)) M1 = some (r, M1)) ∧ w64 r = (bnV w v A B).1)) → Ok (k_As_joinNumbers_90 w (M 37 (h + 1)) s0 (sto M 32 8 (((h + 2 : Nat) : Int) - 1))) (fun _ M' => PoC h (bnV w v A B) M M') := fun s0 q => s_jn90 h2 sto_e (fun i => ⟨by rw [sto_r (by decide)], by rw [sto_r (by decide)]⟩) q
  have k52 : ∀ z : Int, ((z = 1 ∧ (w = 7 ∨ w = 8) ∧ B.1 = 0) ∨ (z = 0 ∧ ¬ ((w = 7 ∨ w = 8) ∧ B.1 = 0))) → Ok (k_As_joinNumbers_52 w (M 37 (h + 1)) z (sto M 32 8 (((h + 2 : Nat) : Int) - 1))) (fun _ M' => PoC h (bnV w v A B) M M') := fun z q => by
    unfold k_As_joinNumbers_52 k_As_joinNumbers_85
    rw [sto_e]
    refine ok_let ?_
    refine ok_chk (by rw [w32_eq (by omega) (by omega)]; omega) ?_
    rw [x1, sto_r (by decide), h4]
    refine ok_let ?_
    by_cases ca : A.2 = 0
    · refine ok_t (by rw [ca]; decide) ?_
      try rw [sto_e]
      refine ok_let ?_
      refine ok_chk (by rw [w32_eq (by omega) (by omega)]; omega) ?_
      rw [x0, h6]
      refine ok_let ?_
      by_cases cb : B.2 = 0
      · refine ok_t (by rw [cb]; decide) ?_
        rcases q with ⟨q1, q2⟩ | ⟨q1, q2⟩
        · subst q1
          refine ok_f (by decide) ?_
          exact k90 1 (Or.inl ⟨rfl, by rw [eV, if_pos (Or.inr (Or.inr q2))]⟩)
        · subst q1
          refine ok_t (by decide) ?_
          have hn : ¬ (A.2 ≠ 0 ∨ B.2 ≠ 0 ∨ ((w = 7 ∨ w = 8) ∧ B.1 = 0)) := by
            rintro (q | q | q)
            · exact q ca
            · exact q cb
            · exact q2 q
          refine k90 0 (Or.inr ⟨rfl, by rw [eV, if_neg hn], ?_⟩)
          rw [eV, if_neg hn]
          exact ⟨jdV w (M 37 h) (M 37 (h + 1)), fun M1 => s_joined hw (by rw [h5]; exact q2), by rw [jdV_w, h3, h5]⟩
      · refine ok_f (by rw [w32_eq (by omega) (by omega)]; exact cb) ?_
        exact k90 1 (Or.inl ⟨rfl, by rw [eV, if_pos (Or.inr (Or.inl cb))]⟩)
    · refine ok_f (by rw [w32_eq (by omega) (by omega)]; exact ca) ?_
      exact k90 1 (Or.inl ⟨rfl, by rw [eV, if_pos (Or.inl ca)]⟩)
  unfold d_As_joinNumbers k_As_joinNumbers_47 k_As_joinNumbers_51
  rw [h1]
  refine ok_let ?_
  refine ok_f (by rw [w32_eq (by omega) (by omega)]; omega) ?_
  refine ok_let ?_
  refine ok_let ?_
  rw [sto_e]
  refine ok_let ?_
  refine ok_chk (by rw [w32_eq (by omega) (by omega)]; omega) ?_
  rw [x0, sto_r (by decide)]
  refine ok_let ?_
  rw [h5]
  by_cases cz : B.1 = 0
  · rw [if_pos cz]
    by_cases c7 : w = 7
    · refine ok_t (by rw [c7]; decide) (k52 1 (Or.inl ⟨rfl, Or.inl c7, cz⟩))
    · refine ok_f (by rw [w32_eq (by omega) (by omega)]; exact c7) ?_
      by_cases c8 : w = 8
      · refine ok_t (by rw [c8]; decide) (k52 1 (Or.inl ⟨rfl, Or.inr c8, cz⟩))
      · refine ok_f (by rw [w32_eq (by omega) (by omega)]; exact c8) (k52 0 (Or.inr ⟨rfl, by omega⟩))
  · rw [if_neg cz]
    exact k52 0 (Or.inr ⟨rfl, fun q => cz q.2⟩)
/-- tests joined, numbers compared -/
theorem an64_w {x y : Int} : an64 x y = an64 (w64 x) (w64 y) := by unfold an64; rw [i64_of, i64_of]
theorem or64_w {x y : Int} : or64 x y = or64 (w64 x) (w64 y) := by unfold or64; rw [i64_of, i64_of]
theorem s_jt {h : Nat} {w v : Int} {A B : Int × Int} {M : Mem} (hw : w = 11 ∨ w = 12) (hA : A.2 = 0) (H : StC h A B M) : Ok (d_As_joinTests w M) (fun _ M' => PoC h (bnV w v A B) M M') := by
  obtain ⟨h1, h2, h3, h4, h5, h6⟩ := H
  have x0 : ix (((h + 2 : Nat) : Int) - 1) = h + 1 := by rw [ix_e (by omega) (by omega)]; omega
  have x1 : ix (((h + 2 : Nat) : Int) - 1 - 1) = h := by rw [ix_e (by omega) (by omega)]; omega
  have fin : ∀ z : Int, w64 z = (bnV w v A B).1 → Ok (k_As_joinTests_69 (((h + 2 : Nat) : Int) - 1 - 1) z (sto M 32 8 (((h + 2 : Nat) : Int) - 1))) (fun _ M' => PoC h (bnV w v A B) M M') := fun z q => by
    unfold k_As_joinTests_69
    refine ok_chk (by rw [w32_eq (by omega) (by omega)]; omega) ?_
    rw [x1]
    refine ok_let ?_
    refine ok_ret ⟨?_, ?_, ?_, fun i hi => ⟨?_, ?_⟩⟩
    · simp (disch := omega) only [w32_eq, w64_eq, ix_n, ix_e, sto_n, sto_e, sto_r, zf_r, Int.toNat_natCast]; omega
    · rw [sto_e]; exact q
    · rw [sto_r (by decide), sto_r (by decide), h4, hA]
      unfold bnV
      rcases hw with e | e
      · rw [if_pos e]
      · rw [if_neg (by omega), if_pos e]
    · simp (disch := omega) only [w32_eq, w64_eq, ix_n, ix_e, sto_n, sto_e, sto_r, zf_r, Int.toNat_natCast]
    · simp (disch := omega) only [w32_eq, w64_eq, ix_n, ix_e, sto_n, sto_e, sto_r, zf_r, Int.toNat_natCast]
  unfold d_As_joinTests
  rw [h1]
  refine ok_let ?_
  refine ok_f (by rw [w32_eq (by omega) (by omega)]; omega) ?_
  refine ok_let ?_
  refine ok_let ?_
  rw [sto_e]
  refine ok_let ?_
  refine ok_chk (by rw [w32_eq (by omega) (by omega)]; omega) ?_
  rw [x1, sto_r (by decide)]
  refine ok_let ?_
  refine ok_let ?_
  refine ok_chk (by rw [w32_eq (by omega) (by omega)]; omega) ?_
  rw [x0]
  refine ok_let ?_
  refine ok_let ?_
  rcases hw with e | e
  · refine ok_t (by rw [e]; decide) (fin _ ?_)
    rw [an64_w, h3, h5]; unfold bnV; rw [if_pos e]
  · refine ok_f (by rw [e]; decide) (fin _ ?_)
    rw [or64_w, h3, h5]; unfold bnV; rw [if_neg (by omega), if_pos e]
theorem s_cp {h : Nat} {w v : Int} {A B : Int × Int} {M : Mem} (hw : 13 ≤ w ∧ w ≤ 15) (H : StC h A B M) : Ok (d_As_compare w (if v = 1 then 1 else 0) M) (fun _ M' => PoC h (bnV w v A B) M M') := by
  obtain ⟨h1, h2, h3, h4, h5, h6⟩ := H
  have x0 : ix (((h + 2 : Nat) : Int) - 1) = h + 1 := by rw [ix_e (by omega) (by omega)]; omega
  have x1 : ix (((h + 2 : Nat) : Int) - 1 - 1) = h := by rw [ix_e (by omega) (by omega)]; omega
  have eV : bnV w v A B = (if A.2 = 0 ∧ B.2 = 0 ∧ cmV w A.1 B.1 ≠ (if v = 1 then 1 else 0) then 1 else 0, 0) := by
    unfold bnV
    rw [if_neg (by omega), if_neg (by omega), if_pos (by omega)]
  have pa : A.2 = 0 ∨ A.2 = 1 := by omega
  have pb : B.2 = 0 ∨ B.2 = 1 := by omega
  have fin : ∀ z : Int, z = (bnV w v A B).1 → Ok (k_As_compare_151 (((h + 2 : Nat) : Int) - 1 - 1) z (sto M 32 8 (((h + 2 : Nat) : Int) - 1))) (fun _ M' => PoC h (bnV w v A B) M M') := fun z q => by
    unfold k_As_compare_151
    refine ok_chk (by rw [w32_eq (by omega) (by omega)]; omega) ?_
    rw [x1]
    refine ok_let ?_
    rw [sto_r (by decide), sto_e]
    refine ok_let ?_
    refine ok_chk (by rw [w32_eq (by omega) (by omega)]; omega) ?_
    rw [x1]
    refine ok_let ?_
    refine ok_ret ⟨?_, ?_, ?_, fun i hi => ⟨?_, ?_⟩⟩
    · simp (disch := omega) only [w32_eq, w64_eq, ix_n, ix_e, sto_n, sto_e, sto_r, zf_r, Int.toNat_natCast]; omega
    · rw [sto_r (by decide), sto_e, q, eV]
      by_cases cc : A.2 = 0 ∧ B.2 = 0 ∧ cmV w A.1 B.1 ≠ (if v = 1 then 1 else 0)
      · rw [if_pos cc]; rfl
      · rw [if_neg cc]; rfl
    · rw [sto_e, eV]; rfl
    · simp (disch := omega) only [w32_eq, w64_eq, ix_n, ix_e, sto_n, sto_e, sto_r, zf_r, Int.toNat_natCast]
    · simp (disch := omega) only [w32_eq, w64_eq, ix_n, ix_e, sto_n, sto_e, sto_r, zf_r, Int.toNat_natCast]
  have k124 : ∀ z o : Int, ((z = 0 ∧ A.2 = 0 ∧ B.2 = 0) ∨ (z = 1 ∧ ¬ (A.2 = 0 ∧ B.2 = 0))) → o = cmV w A.1 B.1 → Ok (k_As_compare_124 (if v = 1 then 1 else 0) z o (sto M 32 8 (((h + 2 : Nat) : Int) - 1))) (fun _ M' => PoC h (bnV w v A B) M M') := fun z o q e => by
    have ob : o = 0 ∨ o = 1 := by
      rw [e]; unfold cmV
      repeat' split
      all_goals omega
    have nb : (if v = 1 then (1 : Int) else 0) = 0 ∨ (if v = 1 then (1 : Int) else 0) = 1 := by split <;> omega
    unfold k_As_compare_124 k_As_compare_150
    rw [sto_e]
    refine ok_let ?_
    rcases q with ⟨q1, q2, q3⟩ | ⟨q1, q2⟩
    · refine ok_t (by rw [q1]; decide) ?_
      by_cases c : o = (if v = 1 then (1 : Int) else 0)
      · refine ok_t (by rw [c]) (fin 0 ?_)
        rw [eV]
        show (0 : Int) = if _ then _ else _
        rw [if_neg (fun z => z.2.2 (by rw [← e]; exact c))]
      · refine ok_f (by rw [w32_eq (by omega) (by omega), w32_eq (by omega) (by omega)]; exact c) (fin 1 ?_)
        rw [eV]
        show (1 : Int) = if _ then _ else _
        rw [if_pos ⟨q2, q3, by rw [← e]; exact c⟩]
    · refine ok_f (by rw [q1]; decide) (fin 0 ?_)
      rw [eV]
      show (0 : Int) = if _ then _ else _
      rw [if_neg (fun z => q2 ⟨z.1, z.2.1⟩)]
  have k50 : ∀ z : Int, ((z = 0 ∧ A.2 = 0 ∧ B.2 = 0) ∨ (z = 1 ∧ ¬ (A.2 = 0 ∧ B.2 = 0))) → Ok (k_As_compare_50 w (if v = 1 then 1 else 0) z (sto M 32 8 (((h + 2 : Nat) : Int) - 1))) (fun _ M' => PoC h (bnV w v A B) M M') := fun z q => by
    unfold k_As_compare_50 d_Lo_compare
    rw [sto_e]
    refine ok_let ?_
    refine ok_chk (by rw [w32_eq (by omega) (by omega)]; omega) ?_
    rw [x1, sto_r (by decide)]
    refine ok_let ?_
    refine ok_let ?_
    refine ok_chk (by rw [w32_eq (by omega) (by omega)]; omega) ?_
    rw [x0]
    refine ok_let ?_
    rw [h3, h5]
    unfold cmV at k124
    by_cases c1 : A.1 < B.1
    · refine ok_ct c1 ?_
      refine ok_cs ?_
      by_cases d1 : w = 13
      · refine ok_t (by rw [d1]; decide) (ok_t (by decide) (k124 z 1 q ?_))
        rw [if_pos d1, if_pos c1]
      · refine ok_f (by rw [w32_eq (by omega) (by omega)]; exact d1) ?_
        by_cases d2 : w = 14
        · refine ok_t (by rw [d2]; decide) (ok_f (by decide) (k124 z 0 q ?_))
          rw [if_neg d1, if_pos d2, if_neg (by omega)]
        · refine ok_f (by rw [w32_eq (by omega) (by omega)]; exact d2) (ok_f (by decide) (k124 z 0 q ?_))
          rw [if_neg d1, if_neg d2, if_neg (by omega)]
    · refine ok_cf c1 ?_
      by_cases c2 : A.1 = B.1
      · refine ok_ct c2 ?_
        refine ok_cs ?_
        by_cases d1 : w = 13
        · refine ok_t (by rw [d1]; decide) (ok_f (by decide) (k124 z 0 q ?_))
          rw [if_pos d1, if_neg c1]
        · refine ok_f (by rw [w32_eq (by omega) (by omega)]; exact d1) ?_
          by_cases d2 : w = 14
          · refine ok_t (by rw [d2]; decide) (ok_f (by decide) (k124 z 0 q ?_))
            rw [if_neg d1, if_pos d2, if_neg (by omega)]
          · refine ok_f (by rw [w32_eq (by omega) (by omega)]; exact d2) (ok_t (by decide) (k124 z 1 q ?_))
            rw [if_neg d1, if_neg d2, if_pos c2]
      · refine ok_cf c2 ?_
        refine ok_cs ?_
        by_cases d1 : w = 13
        · refine ok_t (by rw [d1]; decide) (ok_f (by decide) (k124 z 0 q ?_))
          rw [if_pos d1, if_neg c1]
        · refine ok_f (by rw [w32_eq (by omega) (by omega)]; exact d1) ?_
          by_cases d2 : w = 14
          · refine ok_t (by rw [d2]; decide) (ok_t (by decide) (k124 z 1 q ?_))
            rw [if_neg d1, if_pos d2, if_pos (by omega)]
          · refine ok_f (by rw [w32_eq (by omega) (by omega)]; exact d2) (ok_f (by decide) (k124 z 0 q ?_))
            rw [if_neg d1, if_neg d2, if_neg c2]
  unfold d_As_compare k_As_compare_45
  rw [h1]
  refine ok_let ?_
  refine ok_f (by rw [w32_eq (by omega) (by omega)]; omega) ?_
  refine ok_let ?_
  refine ok_let ?_
  rw [sto_e]
  refine ok_let ?_
  refine ok_chk (by rw [w32_eq (by omega) (by omega)]; omega) ?_
  rw [x1, sto_r (by decide), h4]
  refine ok_let ?_
  by_cases ca : A.2 = 0
  · refine ok_t (by rw [ca]; decide) ?_
    try rw [sto_e]
    refine ok_let ?_
    refine ok_chk (by rw [w32_eq (by omega) (by omega)]; omega) ?_
    rw [x0, h6]
    refine ok_let ?_
    by_cases cb : B.2 = 0
    · exact ok_t (by rw [cb]; decide) (k50 0 (Or.inl ⟨rfl, ca, cb⟩))
    · exact ok_f (by rw [w32_eq (by omega) (by omega)]; exact cb) (k50 1 (Or.inr ⟨rfl, fun q => cb q.2⟩))
  · exact ok_f (by rw [w32_eq (by omega) (by omega)]; exact ca) (k50 1 (Or.inr ⟨rfl, fun q => ca q.1⟩))
/-- a step of two -/
theorem s_bin {h : Nat} {w v : Int} {A B : Int × Int} {M : Mem} (hw : 4 ≤ w ∧ w ≤ 15) (hv : 0 ≤ v ∧ v < 1048576) (hA : w = 11 ∨ w = 12 → A.2 = 0) (H : StC h A B M) : Ok (d_As_playStep w v M) (fun _ M' => PoC h (bnV w v A B) M M') := by
  have e1 : ∀ d : Res, Ok d (fun _ M' => PoC h (bnV w v A B) M M') → Ok (bcall d fun _ M' => some (0, M')) (fun _ M' => PoC h (bnV w v A B) M M') := fun d q => ok_call q (fun _ M' z => ok_ret z)
  by_cases c1 : w ≤ 10
  · have q := e1 _ (s_jn (v := v) ⟨hw.1, c1⟩ H)
    unfold d_As_playStep
    rcases (show w = 4 ∨ w = 5 ∨ w = 6 ∨ w = 7 ∨ w = 8 ∨ w = 9 ∨ w = 10 by omega) with e | e | e | e | e | e | e <;> subst e <;> (repeat (first | with_reducible refine ok_let ?_ | with_reducible refine ok_cs ?_ | with_reducible refine ok_clet ?_ | with_reducible refine ok_cc ?_ | (with_reducible refine ok_chk ?_ ?_; · (first | omega | ((try simp (disch := omega) only [w32_eq, w64_eq, ix_n, ix_e, sto_n, sto_e, sto_r, zf_r, Int.toNat_natCast, true_or, or_true, eq_self]) <;> (first | omega | decide)))) | (with_reducible refine ok_cchk ?_ ?_; · (first | omega | ((try simp (disch := omega) only [w32_eq, w64_eq, ix_n, ix_e, sto_n, sto_e, sto_r, zf_r, Int.toNat_natCast, true_or, or_true, eq_self]) <;> (first | omega | decide)))) | (with_reducible refine ok_t ?_ ?_; · (first | omega | ((try simp (disch := omega) only [w32_eq, w64_eq, ix_n, ix_e, sto_n, sto_e, sto_r, zf_r, Int.toNat_natCast, true_or, or_true, eq_self]) <;> (first | omega | decide)))) | (with_reducible refine ok_f ?_ ?_; · (first | omega | ((try simp (disch := omega) only [w32_eq, w64_eq, ix_n, ix_e, sto_n, sto_e, sto_r, zf_r, Int.toNat_natCast, true_or, or_true, eq_self]) <;> (first | omega | decide)))) | (with_reducible refine ok_ct ?_ ?_; · (first | omega | ((try simp (disch := omega) only [w32_eq, w64_eq, ix_n, ix_e, sto_n, sto_e, sto_r, zf_r, Int.toNat_natCast, true_or, or_true, eq_self]) <;> (first | omega | decide)))) | (with_reducible refine ok_cf ?_ ?_; · (first | omega | ((try simp (disch := omega) only [w32_eq, w64_eq, ix_n, ix_e, sto_n, sto_e, sto_r, zf_r, Int.toNat_natCast, true_or, or_true, eq_self]) <;> (first | omega | decide))))); exact q)
  · by_cases c2 : w ≤ 12
    · have q := e1 _ (s_jt (v := v) (w := w) (by omega) (hA (by omega)) H)
      unfold d_As_playStep
      rcases (show w = 11 ∨ w = 12 by omega) with e | e <;> subst e <;> (repeat (first | with_reducible refine ok_let ?_ | with_reducible refine ok_cs ?_ | with_reducible refine ok_clet ?_ | with_reducible refine ok_cc ?_ | (with_reducible refine ok_chk ?_ ?_; · (first | omega | ((try simp (disch := omega) only [w32_eq, w64_eq, ix_n, ix_e, sto_n, sto_e, sto_r, zf_r, Int.toNat_natCast, true_or, or_true, eq_self]) <;> (first | omega | decide)))) | (with_reducible refine ok_cchk ?_ ?_; · (first | omega | ((try simp (disch := omega) only [w32_eq, w64_eq, ix_n, ix_e, sto_n, sto_e, sto_r, zf_r, Int.toNat_natCast, true_or, or_true, eq_self]) <;> (first | omega | decide)))) | (with_reducible refine ok_t ?_ ?_; · (first | omega | ((try simp (disch := omega) only [w32_eq, w64_eq, ix_n, ix_e, sto_n, sto_e, sto_r, zf_r, Int.toNat_natCast, true_or, or_true, eq_self]) <;> (first | omega | decide)))) | (with_reducible refine ok_f ?_ ?_; · (first | omega | ((try simp (disch := omega) only [w32_eq, w64_eq, ix_n, ix_e, sto_n, sto_e, sto_r, zf_r, Int.toNat_natCast, true_or, or_true, eq_self]) <;> (first | omega | decide)))) | (with_reducible refine ok_ct ?_ ?_; · (first | omega | ((try simp (disch := omega) only [w32_eq, w64_eq, ix_n, ix_e, sto_n, sto_e, sto_r, zf_r, Int.toNat_natCast, true_or, or_true, eq_self]) <;> (first | omega | decide)))) | (with_reducible refine ok_cf ?_ ?_; · (first | omega | ((try simp (disch := omega) only [w32_eq, w64_eq, ix_n, ix_e, sto_n, sto_e, sto_r, zf_r, Int.toNat_natCast, true_or, or_true, eq_self]) <;> (first | omega | decide))))); exact q)
    · have q := e1 _ (s_cp (v := v) (w := w) (by omega) H)
      unfold d_As_playStep k_As_playStep_150
      have ev : w32 v = v := w32_eq (by omega) (by omega)
      by_cases c : v = 1
      · rw [if_pos c] at q
        rcases (show w = 13 ∨ w = 14 ∨ w = 15 by omega) with e | e | e <;> subst e
        · exact ok_f (by decide) (ok_f (by decide) (ok_f (by decide) (ok_f (by decide) (ok_f (by decide) (ok_f (by decide) (ok_f (by decide) (ok_f (by decide) (ok_f (by decide) (ok_f (by decide) (ok_f (by decide) (ok_f (by decide) (ok_f (by decide) (ok_t (by decide) (ok_t (by rw [ev]; exact c) q))))))))))))))
        · exact ok_f (by decide) (ok_f (by decide) (ok_f (by decide) (ok_f (by decide) (ok_f (by decide) (ok_f (by decide) (ok_f (by decide) (ok_f (by decide) (ok_f (by decide) (ok_f (by decide) (ok_f (by decide) (ok_f (by decide) (ok_f (by decide) (ok_f (by decide) (ok_t (by decide) (ok_t (by rw [ev]; exact c) q)))))))))))))))
        · exact ok_f (by decide) (ok_f (by decide) (ok_f (by decide) (ok_f (by decide) (ok_f (by decide) (ok_f (by decide) (ok_f (by decide) (ok_f (by decide) (ok_f (by decide) (ok_f (by decide) (ok_f (by decide) (ok_f (by decide) (ok_f (by decide) (ok_f (by decide) (ok_f (by decide) (ok_t (by decide) (ok_t (by rw [ev]; exact c) q))))))))))))))))
      · rw [if_neg c] at q
        rcases (show w = 13 ∨ w = 14 ∨ w = 15 by omega) with e | e | e <;> subst e
        · exact ok_f (by decide) (ok_f (by decide) (ok_f (by decide) (ok_f (by decide) (ok_f (by decide) (ok_f (by decide) (ok_f (by decide) (ok_f (by decide) (ok_f (by decide) (ok_f (by decide) (ok_f (by decide) (ok_f (by decide) (ok_f (by decide) (ok_t (by decide) (ok_f (by rw [ev]; exact c) q))))))))))))))
        · exact ok_f (by decide) (ok_f (by decide) (ok_f (by decide) (ok_f (by decide) (ok_f (by decide) (ok_f (by decide) (ok_f (by decide) (ok_f (by decide) (ok_f (by decide) (ok_f (by decide) (ok_f (by decide) (ok_f (by decide) (ok_f (by decide) (ok_f (by decide) (ok_t (by decide) (ok_f (by rw [ev]; exact c) q)))))))))))))))
        · exact ok_f (by decide) (ok_f (by decide) (ok_f (by decide) (ok_f (by decide) (ok_f (by decide) (ok_f (by decide) (ok_f (by decide) (ok_f (by decide) (ok_f (by decide) (ok_f (by decide) (ok_f (by decide) (ok_f (by decide) (ok_f (by decide) (ok_f (by decide) (ok_f (by decide) (ok_t (by decide) (ok_f (by rw [ev]; exact c) q))))))))))))))))
