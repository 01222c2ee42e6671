/-! the start: what the statement gives there; the law from its entry -/
set_option maxRecDepth 100000
theorem hts_tb {args : Array Value} {s : State} (h : ∀ w ∈ lw_tbl, w.before args s = true) : ∀ w ∈ TB, w.before args s = true := fun w hw => h w (List.mem_filter.mp hw).1
theorem st_cls {args : Array Value} {s : State} (hts : ∀ w ∈ TB, w.before args s = true) : ∃ (dC : Nat → ClassId) (dI : Nat → Nat → Nat), ∀ (k : Nat) (q : vw_C), cls[k]? = some q → u_Kn s q.1 q.2.1 q.2.2 (dC k) (dI k) := by
  obtain ⟨c0, i0, h0⟩ := u_known (n := 9) hts cw_0.2.1 (hts _ is_As)
  obtain ⟨c1, i1, h1⟩ := u_known (n := 9) hts cw_1.2.1 (hts _ is_Ba)
  obtain ⟨c2, i2, h2⟩ := u_known (n := 19) hts cw_2.2.1 (hts _ is_Jo)
  obtain ⟨c3, i3, h3⟩ := u_known (n := 7) hts cw_3.2.1 (hts _ is_Ou)
  obtain ⟨c4, i4, h4⟩ := u_known (n := 12) hts cw_4.2.1 (hts _ is_Pa)
  obtain ⟨c5, i5, h5⟩ := u_known (n := 15) hts cw_5.2.1 (hts _ is_Py)
  obtain ⟨c6, i6, h6⟩ := u_known (n := 18) hts cw_6.2.1 (hts _ is_Pl)
  obtain ⟨c7, i7, h7⟩ := u_known (n := 11) hts cw_7.2.1 (hts _ is_Pr)
  obtain ⟨c8, i8, h8⟩ := u_known (n := 6) hts cw_8.2.1 (hts _ is_Tx)
  obtain ⟨c9, i9, h9⟩ := u_known (n := 3) hts cw_9.2.1 (hts _ is_Tr)
  obtain ⟨c10, i10, h10⟩ := u_known (n := 13) hts cw_10.2.1 (hts _ is_Ya)
  obtain ⟨c11, i11, h11⟩ := u_known (n := 11) hts cw_11.2.1 (hts _ is_PP)
  obtain ⟨c12, i12, h12⟩ := u_known (n := 109) hts cw_12.2.1 (hts _ is_Mo)
  refine ⟨fun k => [c0, c1, c2, c3, c4, c5, c6, c7, c8, c9, c10, c11, c12].getD k c0, fun k => [i0, i1, i2, i3, i4, i5, i6, i7, i8, i9, i10, i11, i12].getD k i0, ?_⟩
  intro k q hq
  match k, hq with
  | 0, hq => cases hq; exact h0
  | 1, hq => cases hq; exact h1
  | 2, hq => cases hq; exact h2
  | 3, hq => cases hq; exact h3
  | 4, hq => cases hq; exact h4
  | 5, hq => cases hq; exact h5
  | 6, hq => cases hq; exact h6
  | 7, hq => cases hq; exact h7
  | 8, hq => cases hq; exact h8
  | 9, hq => cases hq; exact h9
  | 10, hq => cases hq; exact h10
  | 11, hq => cases hq; exact h11
  | 12, hq => cases hq; exact h12
  | k + 13, hq => simp [cls] at hq
theorem st_arr {args : Array Value} {s : State} (hts : ∀ w ∈ TB, w.before args s = true) (hao : va_AO "PrairiePool$Text" s) : ∃ cA : Nat → ClassId, ∀ (k : Nat) (q : ClassId × FieldType), ([(cA 1, .int), (cA 2, .long), (cA 3, .byte), (cA 4, .boolean), (cA 5, .object "PrairiePool$Text")] : List (ClassId × FieldType))[k]? = some q → ArrOfT s q.1 q.2 ∧ va_RA s q.1 q.2 := by
  obtain ⟨c1, k1, m1, a1, b1, d1⟩ := Cond.arrayClass_spec (hts _ ac_int)
  obtain ⟨c2, k2, m2, a2, b2, d2⟩ := Cond.arrayClass_spec (hts _ ac_long)
  obtain ⟨c3, k3, m3, a3, b3, d3⟩ := Cond.arrayClass_spec (hts _ ac_byte)
  obtain ⟨c4, k4, m4, a4, b4, d4⟩ := Cond.arrayClass_spec (hts _ ac_boolean)
  obtain ⟨m5, c5, k5, e5, f5, b5, d5, a5⟩ := Cond.arrayOver_spec hao
  refine ⟨fun k => [c1, c1, c2, c3, c4, c5].getD k c1, ?_⟩
  intro k q hq
  match k, hq with
  | 0, hq => cases hq; exact ⟨fun n z => ⟨fun k h => (by cases h), k1, b1, m1, d1⟩, a1⟩
  | 1, hq => cases hq; exact ⟨fun n z => ⟨fun k h => (by cases h), k2, b2, m2, d2⟩, a2⟩
  | 2, hq => cases hq; exact ⟨fun n z => ⟨fun k h => (by cases h), k3, b3, m3, d3⟩, a3⟩
  | 3, hq => cases hq; exact ⟨fun n z => ⟨fun k h => (by cases h), k4, b4, m4, d4⟩, a4⟩
  | 4, hq => cases hq; exact ⟨fun n z => ⟨fun k h => (by cases h), k5, b5, m5, d5⟩, k5, m5, b5, d5, e5, a5⟩
  | k + 5, hq => simp at hq
theorem st_nests {args : Array Value} {s : State} (hts : ∀ w ∈ lw_tbl, w.before args s = true) : ∀ q ∈ nests, va_Nw (.methodLinkNest q.1 q.2.1 q.2.2 "PrairiePool") s := by
  intro q hq
  simp only [nests, List.mem_cons, List.not_mem_nil, or_false] at hq
  rcases hq with rfl | rfl | rfl | rfl | rfl | rfl | rfl | rfl | rfl | rfl
  · exact va_Nw.of rfl (hts _ (List.mem_append_right _ (tm1 (List.mem_of_getElem? (i := 34) rfl))))
  · exact va_Nw.of rfl (hts _ (List.mem_append_right _ (tm1 (List.mem_of_getElem? (i := 53) rfl))))
  · exact va_Nw.of rfl (hts _ (List.mem_append_right _ (tm1 (List.mem_of_getElem? (i := 107) rfl))))
  · exact va_Nw.of rfl (hts _ (List.mem_append_right _ (tm1 (List.mem_of_getElem? (i := 213) rfl))))
  · exact va_Nw.of rfl (hts _ (List.mem_append_right _ (tm2 (List.mem_of_getElem? (i := 32) rfl))))
  · exact va_Nw.of rfl (hts _ (List.mem_append_right _ (tm2 (List.mem_of_getElem? (i := 37) rfl))))
  · exact va_Nw.of rfl (hts _ (List.mem_append_right _ (tm2 (List.mem_of_getElem? (i := 82) rfl))))
  · exact va_Nw.of rfl (hts _ (List.mem_append_right _ (tm3 (List.mem_of_getElem? (i := 148) rfl))))
  · exact va_Nw.of rfl (hts _ (List.mem_append_right _ (tm3 (List.mem_of_getElem? (i := 218) rfl))))
  · exact va_Nw.of rfl (hts _ (List.mem_append_right _ (tm4 (List.mem_of_getElem? (i := 34) rfl))))
def stm (i : Nat) : Term := .string "PrairiePool$Parser" (strs.getD i (0, "")).1
theorem st_c0 : ∀ i : Nat, i < 4 → strsL.getD i 0 < 2 ^ 31 := by decide
theorem st_c1 : ∀ i : Nat, i < 4 → Cond.exactly (stm i) "java/lang/String" ∈ flatC (Jvm.Cond.and given_1 narrow_1) := by decide +kernel
theorem st_c2 : ∀ i : Nat, i < 4 → Cond.eq (.field (stm i) "java/lang/String" "coder" "B") (.int 0) ∈ flatC (Jvm.Cond.and given_1 narrow_1) := by decide +kernel
theorem st_c3 : ∀ i : Nat, i < 4 → Cond.arrayOf (.field (stm i) "java/lang/String" "value" "[B") .byte ∈ flatC (Jvm.Cond.and given_1 narrow_1) := by decide +kernel
theorem st_c4 : ∀ i : Nat, i < 4 → Cond.eq (.length (.field (stm i) "java/lang/String" "value" "[B")) (.int (Int32.ofNat (strsL.getD i 0))) ∈ flatC (Jvm.Cond.and given_1 narrow_1) := by decide +kernel
theorem andL {args : Array Value} {s : State} {a b : Cond} (h : (Cond.and a b).before args s = true) : a.before args s = true := by rw [Cond.before_and, Bool.and_eq_true] at h; exact h.1
theorem andR {args : Array Value} {s : State} {a b : Cond} (h : (Cond.and a b).before args s = true) : b.before args s = true := by rw [Cond.before_and, Bool.and_eq_true] at h; exact h.2
def strsX : List (List Int32) := [[105, 102, 32, 116, 104, 101, 110, 32, 101, 108, 115, 101, 32, 97, 110, 100, 32, 111, 114, 32, 110, 111, 116, 32, 108, 101, 97, 115, 116, 32, 109, 111, 115, 116], [58, 59, 60, 62, 61, 43, 45, 42, 47, 37, 40, 41, 44], [103, 114, 97, 100, 101, 32, 103, 114, 97, 100, 101, 114, 32, 119, 101, 101, 107, 32, 121, 101, 97, 114, 32, 98, 117, 115, 104, 101, 108, 115, 32, 97, 99, 114, 101, 115, 32, 100, 101, 98, 116, 32, 100, 105, 115, 116, 114, 105, 99, 116, 32, 99, 97, 114, 115, 32, 119, 97, 105, 116, 115, 32, 112, 114, 105, 99, 101], [114, 97, 110, 107, 32, 102, 105, 114, 115, 116, 32, 104, 101, 108, 100, 32, 115, 116, 97, 110, 100, 32, 98, 114, 101, 97, 99, 104, 32, 116, 117, 114, 110, 32, 118, 111, 116, 101, 115]]
theorem strsX_eq : strsB = strsX := by decide +kernel
theorem st_c5_0 {args : Array Value} {s : State} (hn : narrow_1.before args s = true) : ∀ j : Nat, j < 34 → (Cond.eq (.elem (.field (stm 0) "java/lang/String" "value" "[B") (.int (Int32.ofNat j))) (.int ((strsX.getD 0 []).getD j 0))).before args s = true := by
  intro j hj
  match j, hj with
  | 0, _ => exact andR (andR (andL (andL (andR (andR (andL (andL (hn))))))))
  | 1, _ => exact andL (andL (andR (andL (andR (andR (andL (andL (hn))))))))
  | 2, _ => exact andR (andL (andR (andL (andR (andR (andL (andL (hn))))))))
  | 3, _ => exact andL (andR (andR (andL (andR (andR (andL (andL (hn))))))))
  | 4, _ => exact andR (andR (andR (andL (andR (andR (andL (andL (hn))))))))
  | 5, _ => exact andL (andL (andR (andR (andR (andL (andL (hn)))))))
  | 6, _ => exact andL (andR (andL (andR (andR (andR (andL (andL (hn))))))))
  | 7, _ => exact andR (andR (andL (andR (andR (andR (andL (andL (hn))))))))
  | 8, _ => exact andL (andL (andR (andR (andR (andR (andL (andL (hn))))))))
  | 9, _ => exact andR (andL (andR (andR (andR (andR (andL (andL (hn))))))))
  | 10, _ => exact andL (andR (andR (andR (andR (andR (andL (andL (hn))))))))
  | 11, _ => exact andR (andR (andR (andR (andR (andR (andL (andL (hn))))))))
  | 12, _ => exact andL (andL (andL (andL (andL (andR (andL (hn)))))))
  | 13, _ => exact andL (andR (andL (andL (andL (andL (andR (andL (hn))))))))
  | 14, _ => exact andR (andR (andL (andL (andL (andL (andR (andL (hn))))))))
  | 15, _ => exact andL (andR (andL (andL (andL (andR (andL (hn)))))))
  | 16, _ => exact andL (andR (andR (andL (andL (andL (andR (andL (hn))))))))
  | 17, _ => exact andR (andR (andR (andL (andL (andL (andR (andL (hn))))))))
  | 18, _ => exact andL (andL (andR (andL (andL (andR (andL (hn)))))))
  | 19, _ => exact andL (andR (andL (andR (andL (andL (andR (andL (hn))))))))
  | 20, _ => exact andR (andR (andL (andR (andL (andL (andR (andL (hn))))))))
  | 21, _ => exact andL (andL (andR (andR (andL (andL (andR (andL (hn))))))))
  | 22, _ => exact andR (andL (andR (andR (andL (andL (andR (andL (hn))))))))
  | 23, _ => exact andL (andR (andR (andR (andL (andL (andR (andL (hn))))))))
  | 24, _ => exact andR (andR (andR (andR (andL (andL (andR (andL (hn))))))))
  | 25, _ => exact andL (andL (andL (andR (andL (andR (andL (hn)))))))
  | 26, _ => exact andL (andR (andL (andL (andR (andL (andR (andL (hn))))))))
  | 27, _ => exact andR (andR (andL (andL (andR (andL (andR (andL (hn))))))))
  | 28, _ => exact andL (andL (andR (andL (andR (andL (andR (andL (hn))))))))
  | 29, _ => exact andR (andL (andR (andL (andR (andL (andR (andL (hn))))))))
  | 30, _ => exact andL (andR (andR (andL (andR (andL (andR (andL (hn))))))))
  | 31, _ => exact andR (andR (andR (andL (andR (andL (andR (andL (hn))))))))
  | 32, _ => exact andL (andL (andR (andR (andL (andR (andL (hn)))))))
  | 33, _ => exact andL (andR (andL (andR (andR (andL (andR (andL (hn))))))))
  | j + 34, hj => exact absurd hj (by omega)
theorem st_c5_1 {args : Array Value} {s : State} (hn : narrow_1.before args s = true) : ∀ j : Nat, j < 13 → (Cond.eq (.elem (.field (stm 1) "java/lang/String" "value" "[B") (.int (Int32.ofNat j))) (.int ((strsX.getD 1 []).getD j 0))).before args s = true := by
  intro j hj
  match j, hj with
  | 0, _ => exact andR (andR (andR (andR (andR (andL (andR (andL (hn))))))))
  | 1, _ => exact andL (andL (andL (andL (andR (andR (andL (hn)))))))
  | 2, _ => exact andL (andR (andL (andL (andL (andR (andR (andL (hn))))))))
  | 3, _ => exact andR (andR (andL (andL (andL (andR (andR (andL (hn))))))))
  | 4, _ => exact andL (andR (andL (andL (andR (andR (andL (hn)))))))
  | 5, _ => exact andL (andR (andR (andL (andL (andR (andR (andL (hn))))))))
  | 6, _ => exact andR (andR (andR (andL (andL (andR (andR (andL (hn))))))))
  | 7, _ => exact andL (andL (andR (andL (andR (andR (andL (hn)))))))
  | 8, _ => exact andL (andR (andL (andR (andL (andR (andR (andL (hn))))))))
  | 9, _ => exact andR (andR (andL (andR (andL (andR (andR (andL (hn))))))))
  | 10, _ => exact andL (andL (andR (andR (andL (andR (andR (andL (hn))))))))
  | 11, _ => exact andR (andL (andR (andR (andL (andR (andR (andL (hn))))))))
  | 12, _ => exact andL (andR (andR (andR (andL (andR (andR (andL (hn))))))))
  | j + 13, hj => exact absurd hj (by omega)
theorem st_c5_2 {args : Array Value} {s : State} (hn : narrow_1.before args s = true) : ∀ j : Nat, j < 67 → (Cond.eq (.elem (.field (stm 2) "java/lang/String" "value" "[B") (.int (Int32.ofNat j))) (.int ((strsX.getD 2 []).getD j 0))).before args s = true := by
  intro j hj
  match j, hj with
  | 0, _ => exact andR (andL (andR (andL (andR (andR (andR (andL (hn))))))))
  | 1, _ => exact andL (andR (andR (andL (andR (andR (andR (andL (hn))))))))
  | 2, _ => exact andR (andR (andR (andL (andR (andR (andR (andL (hn))))))))
  | 3, _ => exact andL (andL (andR (andR (andR (andR (andL (hn)))))))
  | 4, _ => exact andL (andR (andL (andR (andR (andR (andR (andL (hn))))))))
  | 5, _ => exact andR (andR (andL (andR (andR (andR (andR (andL (hn))))))))
  | 6, _ => exact andL (andL (andR (andR (andR (andR (andR (andL (hn))))))))
  | 7, _ => exact andR (andL (andR (andR (andR (andR (andR (andL (hn))))))))
  | 8, _ => exact andL (andR (andR (andR (andR (andR (andR (andL (hn))))))))
  | 9, _ => exact andR (andR (andR (andR (andR (andR (andR (andL (hn))))))))
  | 10, _ => exact andL (andL (andL (andL (andL (andL (andR (hn)))))))
  | 11, _ => exact andL (andR (andL (andL (andL (andL (andL (andR (hn))))))))
  | 12, _ => exact andR (andR (andL (andL (andL (andL (andL (andR (hn))))))))
  | 13, _ => exact andL (andR (andL (andL (andL (andL (andR (hn)))))))
  | 14, _ => exact andL (andR (andR (andL (andL (andL (andL (andR (hn))))))))
  | 15, _ => exact andR (andR (andR (andL (andL (andL (andL (andR (hn))))))))
  | 16, _ => exact andL (andL (andR (andL (andL (andL (andR (hn)))))))
  | 17, _ => exact andL (andR (andL (andR (andL (andL (andL (andR (hn))))))))
  | 18, _ => exact andR (andR (andL (andR (andL (andL (andL (andR (hn))))))))
  | 19, _ => exact andL (andL (andR (andR (andL (andL (andL (andR (hn))))))))
  | 20, _ => exact andR (andL (andR (andR (andL (andL (andL (andR (hn))))))))
  | 21, _ => exact andL (andR (andR (andR (andL (andL (andL (andR (hn))))))))
  | 22, _ => exact andR (andR (andR (andR (andL (andL (andL (andR (hn))))))))
  | 23, _ => exact andL (andL (andL (andR (andL (andL (andR (hn)))))))
  | 24, _ => exact andL (andR (andL (andL (andR (andL (andL (andR (hn))))))))
  | 25, _ => exact andR (andR (andL (andL (andR (andL (andL (andR (hn))))))))
  | 26, _ => exact andL (andL (andR (andL (andR (andL (andL (andR (hn))))))))
  | 27, _ => exact andR (andL (andR (andL (andR (andL (andL (andR (hn))))))))
  | 28, _ => exact andL (andR (andR (andL (andR (andL (andL (andR (hn))))))))
  | 29, _ => exact andR (andR (andR (andL (andR (andL (andL (andR (hn))))))))
  | 30, _ => exact andL (andL (andR (andR (andL (andL (andR (hn)))))))
  | 31, _ => exact andL (andR (andL (andR (andR (andL (andL (andR (hn))))))))
  | 32, _ => exact andR (andR (andL (andR (andR (andL (andL (andR (hn))))))))
  | 33, _ => exact andL (andL (andR (andR (andR (andL (andL (andR (hn))))))))
  | 34, _ => exact andR (andL (andR (andR (andR (andL (andL (andR (hn))))))))
  | 35, _ => exact andL (andR (andR (andR (andR (andL (andL (andR (hn))))))))
  | 36, _ => exact andR (andR (andR (andR (andR (andL (andL (andR (hn))))))))
  | 37, _ => exact andL (andL (andL (andL (andR (andL (andR (hn)))))))
  | 38, _ => exact andL (andR (andL (andL (andL (andR (andL (andR (hn))))))))
  | 39, _ => exact andR (andR (andL (andL (andL (andR (andL (andR (hn))))))))
  | 40, _ => exact andL (andR (andL (andL (andR (andL (andR (hn)))))))
  | 41, _ => exact andL (andR (andR (andL (andL (andR (andL (andR (hn))))))))
  | 42, _ => exact andR (andR (andR (andL (andL (andR (andL (andR (hn))))))))
  | 43, _ => exact andL (andL (andR (andL (andR (andL (andR (hn)))))))
  | 44, _ => exact andL (andR (andL (andR (andL (andR (andL (andR (hn))))))))
  | 45, _ => exact andR (andR (andL (andR (andL (andR (andL (andR (hn))))))))
  | 46, _ => exact andL (andL (andR (andR (andL (andR (andL (andR (hn))))))))
  | 47, _ => exact andR (andL (andR (andR (andL (andR (andL (andR (hn))))))))
  | 48, _ => exact andL (andR (andR (andR (andL (andR (andL (andR (hn))))))))
  | 49, _ => exact andR (andR (andR (andR (andL (andR (andL (andR (hn))))))))
  | 50, _ => exact andL (andL (andL (andR (andR (andL (andR (hn)))))))
  | 51, _ => exact andL (andR (andL (andL (andR (andR (andL (andR (hn))))))))
  | 52, _ => exact andR (andR (andL (andL (andR (andR (andL (andR (hn))))))))
  | 53, _ => exact andL (andL (andR (andL (andR (andR (andL (andR (hn))))))))
  | 54, _ => exact andR (andL (andR (andL (andR (andR (andL (andR (hn))))))))
  | 55, _ => exact andL (andR (andR (andL (andR (andR (andL (andR (hn))))))))
  | 56, _ => exact andR (andR (andR (andL (andR (andR (andL (andR (hn))))))))
  | 57, _ => exact andL (andL (andR (andR (andR (andL (andR (hn)))))))
  | 58, _ => exact andL (andR (andL (andR (andR (andR (andL (andR (hn))))))))
  | 59, _ => exact andR (andR (andL (andR (andR (andR (andL (andR (hn))))))))
  | 60, _ => exact andL (andL (andR (andR (andR (andR (andL (andR (hn))))))))
  | 61, _ => exact andR (andL (andR (andR (andR (andR (andL (andR (hn))))))))
  | 62, _ => exact andL (andR (andR (andR (andR (andR (andL (andR (hn))))))))
  | 63, _ => exact andR (andR (andR (andR (andR (andR (andL (andR (hn))))))))
  | 64, _ => exact andL (andL (andL (andL (andL (andR (andR (hn)))))))
  | 65, _ => exact andL (andR (andL (andL (andL (andL (andR (andR (hn))))))))
  | 66, _ => exact andR (andR (andL (andL (andL (andL (andR (andR (hn))))))))
  | j + 67, hj => exact absurd hj (by omega)
theorem st_c5_3 {args : Array Value} {s : State} (hn : narrow_1.before args s = true) : ∀ j : Nat, j < 39 → (Cond.eq (.elem (.field (stm 3) "java/lang/String" "value" "[B") (.int (Int32.ofNat j))) (.int ((strsX.getD 3 []).getD j 0))).before args s = true := by
  intro j hj
  match j, hj with
  | 0, _ => exact andL (andL (andR (andR (andL (andL (andR (andR (hn))))))))
  | 1, _ => exact andR (andL (andR (andR (andL (andL (andR (andR (hn))))))))
  | 2, _ => exact andL (andR (andR (andR (andL (andL (andR (andR (hn))))))))
  | 3, _ => exact andR (andR (andR (andR (andL (andL (andR (andR (hn))))))))
  | 4, _ => exact andL (andL (andL (andR (andL (andR (andR (hn)))))))
  | 5, _ => exact andL (andR (andL (andL (andR (andL (andR (andR (hn))))))))
  | 6, _ => exact andR (andR (andL (andL (andR (andL (andR (andR (hn))))))))
  | 7, _ => exact andL (andL (andR (andL (andR (andL (andR (andR (hn))))))))
  | 8, _ => exact andR (andL (andR (andL (andR (andL (andR (andR (hn))))))))
  | 9, _ => exact andL (andR (andR (andL (andR (andL (andR (andR (hn))))))))
  | 10, _ => exact andR (andR (andR (andL (andR (andL (andR (andR (hn))))))))
  | 11, _ => exact andL (andL (andR (andR (andL (andR (andR (hn)))))))
  | 12, _ => exact andL (andR (andL (andR (andR (andL (andR (andR (hn))))))))
  | 13, _ => exact andR (andR (andL (andR (andR (andL (andR (andR (hn))))))))
  | 14, _ => exact andL (andL (andR (andR (andR (andL (andR (andR (hn))))))))
  | 15, _ => exact andR (andL (andR (andR (andR (andL (andR (andR (hn))))))))
  | 16, _ => exact andL (andR (andR (andR (andR (andL (andR (andR (hn))))))))
  | 17, _ => exact andR (andR (andR (andR (andR (andL (andR (andR (hn))))))))
  | 18, _ => exact andL (andL (andL (andL (andR (andR (andR (hn)))))))
  | 19, _ => exact andL (andR (andL (andL (andL (andR (andR (andR (hn))))))))
  | 20, _ => exact andR (andR (andL (andL (andL (andR (andR (andR (hn))))))))
  | 21, _ => exact andL (andR (andL (andL (andR (andR (andR (hn)))))))
  | 22, _ => exact andL (andR (andR (andL (andL (andR (andR (andR (hn))))))))
  | 23, _ => exact andR (andR (andR (andL (andL (andR (andR (andR (hn))))))))
  | 24, _ => exact andL (andL (andR (andL (andR (andR (andR (hn)))))))
  | 25, _ => exact andL (andR (andL (andR (andL (andR (andR (andR (hn))))))))
  | 26, _ => exact andR (andR (andL (andR (andL (andR (andR (andR (hn))))))))
  | 27, _ => exact andL (andL (andR (andR (andL (andR (andR (andR (hn))))))))
  | 28, _ => exact andR (andL (andR (andR (andL (andR (andR (andR (hn))))))))
  | 29, _ => exact andL (andR (andR (andR (andL (andR (andR (andR (hn))))))))
  | 30, _ => exact andR (andR (andR (andR (andL (andR (andR (andR (hn))))))))
  | 31, _ => exact andL (andL (andL (andR (andR (andR (andR (hn)))))))
  | 32, _ => exact andL (andR (andL (andL (andR (andR (andR (andR (hn))))))))
  | 33, _ => exact andR (andR (andL (andL (andR (andR (andR (andR (hn))))))))
  | 34, _ => exact andL (andL (andR (andL (andR (andR (andR (andR (hn))))))))
  | 35, _ => exact andR (andL (andR (andL (andR (andR (andR (andR (hn))))))))
  | 36, _ => exact andL (andR (andR (andL (andR (andR (andR (andR (hn))))))))
  | 37, _ => exact andR (andR (andR (andL (andR (andR (andR (andR (hn))))))))
  | 38, _ => exact andL (andL (andR (andR (andR (andR (andR (hn)))))))
  | j + 39, hj => exact absurd hj (by omega)
theorem st_c5 {args : Array Value} {s : State} (hn : narrow_1.before args s = true) : ∀ i : Nat, i < 4 → ∀ j : Nat, j < strsL.getD i 0 → (Cond.eq (.elem (.field (stm i) "java/lang/String" "value" "[B") (.int (Int32.ofNat j))) (.int ((strsB.getD i []).getD j 0))).before args s = true := by
  rw [strsX_eq]
  intro i hi
  match i, hi with
  | 0, _ => exact st_c5_0 hn
  | 1, _ => exact st_c5_1 hn
  | 2, _ => exact st_c5_2 hn
  | 3, _ => exact st_c5_3 hn
theorem st_c6 : ∀ i : Nat, i < 4 → ∀ j : Nat, j < 4 → i ≠ j → Cond.not (Cond.eq (stm i) (stm j)) ∈ flatC (Jvm.Cond.and given_1 narrow_1) ∨ Cond.not (Cond.eq (stm j) (stm i)) ∈ flatC (Jvm.Cond.and given_1 narrow_1) := by decide +kernel
def sst (i : Nat) : Term := .static "PrairiePool$Asker" (stat.getD i ("", [])).1 "[I"
theorem st_d1 : ∀ i : Nat, i < 3 → Cond.arrayOf (sst i) .int ∈ flatC (Jvm.Cond.and given_1 narrow_1) := by decide +kernel
theorem st_d2 : ∀ i : Nat, i < 3 → Cond.eq (.length (sst i)) (.int (Int32.ofNat 7)) ∈ flatC (Jvm.Cond.and given_1 narrow_1) := by decide +kernel
theorem st_d3 : ∀ i : Nat, i < 3 → ∀ j : Nat, j < 7 → Cond.eq (.elem (sst i) (.int (Int32.ofNat j))) (.int (Int32.ofInt ((stat.getD i ("", [])).2.getD j 0))) ∈ flatC (Jvm.Cond.and given_1 narrow_1) := by decide +kernel
theorem st_e1 : Cond.eq (.static "java/lang/String" "COMPACT_STRINGS" "Z") (.int 1) ∈ flatC (Jvm.Cond.and given_1 narrow_1) := by decide +kernel
theorem st_e2 : Cond.isRef (.static "jdk/internal/util/Preconditions" "SIOOBE_FORMATTER" "Ljava/util/function/BiFunction;") ∈ flatC (Jvm.Cond.and given_1 narrow_1) := by decide +kernel
theorem st_lst {args : Array Value} {s : State} (hts : ∀ w ∈ lw_tbl, w.before args s = true) : ∀ i : Nat, i < 3 → (Cond.laysStatic "PrairiePool$Asker" (stat.getD i ("", [])).1 "[I").before args s = true := by
  intro i hi
  match i, hi with
  | 0, _ => exact hts _ (List.mem_append_right _ (tm4 (List.mem_of_getElem? (i := 67) rfl)))
  | 1, _ => exact hts _ (List.mem_append_right _ (tm4 (List.mem_of_getElem? (i := 116) rfl)))
  | 2, _ => exact hts _ (List.mem_append_right _ (tm4 (List.mem_of_getElem? (i := 118) rfl)))
theorem st_sr {args : Array Value} {s : State} (hts : ∀ w ∈ lw_tbl, w.before args s = true) : ∀ i : Nat, i < 4 → (Cond.stringRef "PrairiePool$Parser" (strs.getD i (0, "")).1 (strs.getD i (0, "")).2).before args s = true := by
  intro i hi
  match i, hi with
  | 0, _ => exact hts _ (List.mem_append_right _ (tm5 (List.mem_of_getElem? (i := 15) rfl)))
  | 1, _ => exact hts _ (List.mem_append_right _ (tm5 (List.mem_of_getElem? (i := 81) rfl)))
  | 2, _ => exact hts _ (List.mem_append_right _ (tm5 (List.mem_of_getElem? (i := 143) rfl)))
  | 3, _ => exact hts _ (List.mem_append_right _ (tm5 (List.mem_of_getElem? (i := 148) rfl)))
theorem st_G {s : State} {b : Nat} (hts : ∀ w ∈ lw_tbl, w.before #[Value.ref b] s = true) (hgv : (Jvm.Cond.and given_1 narrow_1).before #[Value.ref b] s = true) : ∃ G : GX, G.1 = s.heap.size ∧ KK G s := by
  have hf := flat_of_before _ hgv
  have htb := hts_tb hts
  have hao : va_AO "PrairiePool$Text" s := va_AO.of (hts _ (List.mem_append_right _ (tm1 (List.mem_of_getElem? (i := 211) rfl))))
  obtain ⟨dC, dI, hcls⟩ := st_cls htb
  obtain ⟨cA, harr⟩ := st_arr htb hao
  have hA : ∀ a : Nat, a < s.heap.size → ¬ (fun q : Nat => s.heap.size ≤ q) a := fun a h q => Nat.not_le.mpr h q
  obtain ⟨adK, adV, hS, hev⟩ := vk_Sof (N := 4) (tm := stm) (len := strsL) (byt := strsB) (A := fun q : Nat => s.heap.size ≤ q) st_c0 (fun i hi => hf _ (st_c1 i hi)) (fun i hi => hf _ (st_c2 i hi)) (fun i hi => hf _ (st_c3 i hi)) (fun i hi => hf _ (st_c4 i hi)) (st_c5 (andR hgv)) (fun i j hi hj hne => (st_c6 i hi j hj hne).imp (hf _) (hf _)) hA
  have hst : ∀ i : Nat, ∃ t : Nat, i < 3 → va_Z "PrairiePool$Asker" (stat.getD i ("", [])).1 "[I" (.ref t) (fun q : Nat => s.heap.size ≤ q) s s.heap ∧ va_T .int t 7 (fun j => vi ((stat.getD i ("", [])).2.getD j 0)) (fun q : Nat => s.heap.size ≤ q) s s.heap := by
    intro i
    by_cases hi : i < 3
    · obtain ⟨t, ht, hT⟩ := va_Tof (tm := sst i) (ty := .int) (N := 7) (f := fun j => vi ((stat.getD i ("", [])).2.getD j 0)) (A := fun q : Nat => s.heap.size ≤ q) (by decide) (hf _ (st_d1 i hi)) (va_eqt (hf _ (st_d2 i hi))) (fun j hj => va_eqt (hf _ (st_d3 i hi j hj))) hA
      exact ⟨t, fun _ => ⟨va_Zof (st_lst hts i hi) (htb _ in_As) ht hA, hT⟩⟩
    · exact ⟨0, fun h => absurd h hi⟩
  obtain ⟨adS, hadS⟩ := Classical.axiomOfChoice hst
  refine ⟨(s.heap.size, (dC, dI), cA, adK, adV, adS), rfl, ⟨hcls, harr⟩, st_nests hts, fun i hi => vk_R.of (st_sr hts i hi) (hev i hi), hS, fun i hi => hadS i hi, va_Zof (hts _ (List.mem_append_right _ (tm5 (List.mem_of_getElem? (i := 28) rfl)))) (htb _ in_St) (va_eqt (hf _ st_e1)) hA, va_Zqof (hts _ (List.mem_append_right _ (tm5 (List.mem_of_getElem? (i := 44) rfl)))) (htb _ in_Pc) (hf _ st_e2) hA, hao⟩
/-- the memory at the start: all 0; behind the two constructors -/
def M00 : Mem := fun _ _ => 0
def M0 : Mem := i_Mo (i_PP M00)
theorem m0_refs : ∀ k, k < 189 → ((ck k).1 = 0 → ∀ j, j < (ck k).2.2 → ft (ck k).2.1 j = 2 → M0 k j = (rf k j : Int) + 1) := by decide +kernel
theorem m0_text : ∀ k, k < 189 → ((ck k).1 = 5 → ∀ j, j < (ck k).2.2 → M0 k j = (rf k j : Int) + 1) := by decide +kernel
theorem ck_kinds : ∀ k, k < 189 → (ck k).1 ≤ 5 ∧ ((ck k).1 = 0 → ∀ j, j < (ck k).2.2 → ft (ck k).2.1 j ≤ 2) := by decide +kernel
theorem PicD.to {G : GX} {H : Heap} (h : PicD G 189 M0 H) : Pic G M0 H := by
  intro k hk
  have hk : k < 189 := hk
  have h1 := h.2.1 k hk
  obtain ⟨hk5, hft⟩ := ck_kinds k hk
  have r0 := m0_refs k hk
  have r5 := m0_text k hk
  unfold cellD at h1
  unfold cellOk
  generalize he : ck k = e at h1 hk5 hft r0 r5 ⊢
  obtain ⟨t, ci, nf⟩ := e
  match t, h1 with
  | 0, h1 =>
    refine t_OB.to h1 (fun j hj => ?_)
    show fencD G k j (M0 k j) = fenc G k j (M0 k j)
    unfold fencD fenc
    rw [he]
    have h2 := hft rfl j hj
    have h3 := r0 rfl j hj
    dsimp only at h2 h3 ⊢
    rcases (show ft ci j = 0 ∨ ft ci j = 1 ∨ ft ci j = 2 by omega) with h4 | h4 | h4
    · rw [h4]; rfl
    · rw [h4]; rfl
    · rw [h4]
      show rfD G (M0 k j) = Value.ref (G.1 + rf k j)
      unfold rfD
      rw [h3 h4, if_neg (by omega)]
      congr 2; omega
  | t + 1, h1 =>
    refine h1.trans ?_
    dsimp only
    have hj5 := r5
    dsimp only at hj5 hk5
    rcases (show t = 0 ∨ t = 1 ∨ t = 2 ∨ t = 3 ∨ t = 4 by omega) with rfl | rfl | rfl | rfl | rfl
    · rfl
    · rfl
    · rfl
    · rfl
    · congr 1
      unfold arrV
      congr 1
      congr 1
      funext j
      show rfD G (M0 k j.val) = Value.ref _
      unfold rfD
      rw [hj5 rfl j.val j.isLt, if_neg (by omega)]
      congr 2; omega
theorem law_start {p : Program} {e : Env} {s : State} {m : MethodId} {below : List Frame} {meth : Method} {c : Code} (l : Launch) {b L : Nat} {xs : Nat → Int32} (C0 : lw_At p s m meth c b L xs) {r : Int × Mem} (hr : r.1 = 1) (h : d_law L (fun j => (xs j).toInt) M0 = some r) : W p l e room_1 s m #[Value.ref b] below meth c s.heap [] 0 0 (lw_Z below #[Value.ref b] s) (entryFrame m ([Value.ref b] : List Value).toArray 4) := by
  obtain ⟨hx, hb, hret, hml, hown, hts, hX, hbl, hlocks, hgv⟩ := C0
  obtain ⟨G, hG, hK⟩ := st_G hts hgv
  have C : Cx p s m #[Value.ref b] meth c G b_Lw_law 4 "PrairiePoolLaw" ret := ⟨hx, hb, hml, hown, hts_tb hts, hlocks, hret, hK⟩
  have hZ : Z0 p l e room_1 0 0 s m #[Value.ref b] below meth c G 4 (lw_Z below #[Value.ref b] s) (PicD G 0 M00) 0 (lv_args 0 [Value.ref b]) [] := by
    refine z_sub (lv' := [(0, .ref b)]) [0] rfl ?_
    refine z_newD (n := 0) (n' := 1) (cl' := 1) (sl' := 11) C x_Lw_law_0 cl_Lw_7 is_PP in_PP ck_0 cw_11 df_11 rfl rfl rfl ⟨i_le rfl, i_le rfl⟩ ?_
    refine z_dup C x_Lw_law_3 rfl ?_
    refine z_callI (n' := 111) (cl' := 111) (sl' := 10712) C x_Lw_law_4 ci_Lw_9 (c_PP_init (lev := 500) l G (by omega)) (by decide) rfl rfl rfl (i_le rfl) rfl ?_
    refine z_astore_n (lv' := [(1, .ref (G.1 + 0)), (0, .ref b)]) C rfl x_Lw_law_7 (i_lt rfl) rfl ?_
    refine z_newD (n := 111) (n' := 112) (cl' := 112) (sl' := 10821) C x_Lw_law_8 cl_Lw_10 is_Mo in_Mo ck_111 cw_12 df_12 rfl rfl rfl ⟨i_le rfl, i_le rfl⟩ ?_
    refine z_dup C x_Lw_law_11 rfl ?_
    refine z_callI (n' := 189) (cl' := 189) (sl' := 39158) C x_Lw_law_12 ci_Lw_12 (c_Mo_init (lev := 500) l G (by omega)) (by decide) rfl rfl rfl (i_le rfl) rfl ?_
    refine z_astore_n (lv' := [(2, .ref (G.1 + 111)), (1, .ref (G.1 + 0)), (0, .ref b)]) C rfl x_Lw_law_15 (i_lt rfl) rfl ?_
    refine z_iconst C x_Lw_law_16 ?_
    refine z_istore_n (lv' := [(3, vi 0), (2, .ref (G.1 + 111)), (1, .ref (G.1 + 0)), (0, .ref b)]) C rfl x_Lw_law_17 (i_lt rfl) rfl ?_
    refine z_sub (lv' := [(0, .ref b), (1, .ref (G.1 + 0)), (2, .ref (G.1 + 111)), (3, vi 0)]) [3, 2, 1, 0] rfl ?_
    intro H locs ls hP hS hl
    exact zl_law C hX ⟨by rw [hG]; exact hbl, hG⟩ ⟨hG, hr⟩ FU 0 M0 h H locs ls hP.to hS hl
  rw [lg_entry_eq]
  exact hZ s.heap [] _ ⟨by rw [hG]; rfl, fun k hk => absurd hk (Nat.not_lt_zero k), fun k _ => rfl⟩ va_S.rf (lv_entry [Value.ref b] (i_le rfl))
