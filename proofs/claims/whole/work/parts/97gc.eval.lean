/-! what a text answers: cut -/
/-- the answers -/
def afn (G : Nat → Nat → Fnn) (dq : Nat → Nat → Int) (fr : Nat → Int) (N : Nat) (q : Nat) (w : Int) (e : Nat → Int) : Int := if fcF fr w N < 0 then clip (qlo q) (qhi q) (qwo q) else if dq (fcF fr w N).toNat q < 0 then clip (qlo q) (qhi q) (qwo q) else if (vls (G (fcF fr w N).toNat) e ((dq (fcF fr w N).toNat q).toNat + 1)).2 (dq (fcF fr w N).toNat q).toNat = 0 then clip (qlo q) (qhi q) ((vls (G (fcF fr w N).toNat) e ((dq (fcF fr w N).toNat q).toNat + 1)).1 (dq (fcF fr w N).toNat q).toNat) else clip (qlo q) (qhi q) (qwo q)
theorem q_lh {q : Nat} : qlo q ≤ qhi q ∧ -1000000 ≤ qlo q ∧ qhi q ≤ 1000000 ∧ 0 ≤ qwo q ∧ qwo q ≤ 1 := by
  unfold qlo qhi qwo
  repeat' split
  all_goals omega
theorem afn_b {G : Nat → Nat → Fnn} {dq : Nat → Nat → Int} {fr : Nat → Int} {N q : Nat} {w : Int} {e : Nat → Int} : qlo q ≤ afn G dq fr N q w e ∧ afn G dq fr N q w e ≤ qhi q := by
  have h := (q_lh (q := q)).1
  unfold afn
  repeat' split
  all_goals exact clip_r h
theorem s_sti {q : Nat} (hq : q < 7) : sti 0 q = qwo q ∧ sti 1 q = qlo q ∧ sti 2 q = qhi q := by
  rcases (show q = 0 ∨ q = 1 ∨ q = 2 ∨ q = 3 ∨ q = 4 ∨ q = 5 ∨ q = 6 by omega) with e | e | e | e | e | e | e <;> subst e <;> exact ⟨rfl, rfl, rfl⟩
theorem s_ask78 {q : Nat} {z : Int} {M : Mem} (hq : q < 7) : Ok (k_As_ask_78 (q : Int) z M) (fun v _ => w32 v = clip (qlo q) (qhi q) (w64 z)) := by
  obtain ⟨-, s1, s2⟩ := s_sti hq
  obtain ⟨b1, b2, b3, -, -⟩ := q_lh (q := q)
  have xq : ix (q : Int) = q := ix_n (by omega)
  unfold k_As_ask_78
  refine ok_chk (by rw [w32_eq (by omega) (by omega)]; omega) (ok_let (ok_chk (by rw [w32_eq (by omega) (by omega)]; omega) (ok_let (ok_ret ?_))))
  rw [xq, s1, s2, w32_eq (x := qlo q) (by omega) (by omega), w32_eq (x := qhi q) (by omega) (by omega)]
  unfold mx64 mn64 clip
  rw [w64_eq (x := qhi q) (by omega) (by omega), w64_eq (x := qlo q) (by omega) (by omega)]
  have zz := w32_w64 z
  by_cases c1 : w64 z < qhi q
  · rw [if_pos c1]
    by_cases c2 : w64 z < qlo q
    · rw [if_pos c2, if_pos c2, w32_eq (by omega) (by omega)]
    · rw [if_neg c2, if_neg c2, if_neg (by omega), ← zz, w32_eq (by omega) (by omega)]
  · rw [if_neg c1, w64_eq (x := qhi q) (by omega) (by omega), if_neg (by omega), w32_eq (by omega) (by omega)]
    rw [if_neg (by omega)]
    by_cases c3 : qhi q < w64 z
    · rw [if_pos c3]
    · rw [if_neg c3]; omega
