/-! the constructors, walked -/
set_option maxRecDepth 100000
theorem ac_int : Cond.arrayClass .int ∈ TB := tb1 49 rfl rfl
theorem ac_long : Cond.arrayClass .long ∈ TB := tb1 50 rfl rfl
theorem ac_boolean : Cond.arrayClass .boolean ∈ TB := tb1 104 rfl rfl
theorem ac_byte : Cond.arrayClass .byte ∈ TB := tb2 79 rfl rfl
theorem ob_in : Cond.instanceMethod objectInit ∈ TB := tb1 30 rfl rfl
theorem ob_co : Cond.code objectInit ⟨#[0xb1]⟩ 1 none ∈ TB := tb1 31 rfl rfl
theorem ol_PP : Cond.methodLink "PrairiePool" 1 objectInit ∈ TB := tb1 29 rfl rfl
theorem ol_Tr : Cond.methodLink "PrairiePool$Trays" 3 objectInit ∈ TB := tb1 37 rfl rfl
theorem ol_Pr : Cond.methodLink "PrairiePool$Prairie" 3 objectInit ∈ TB := tb1 56 rfl rfl
theorem ol_Jo : Cond.methodLink "PrairiePool$Journal" 1 objectInit ∈ TB := tb1 110 rfl rfl
theorem ol_As : Cond.methodLink "PrairiePool$Asker" 3 objectInit ∈ TB := tb1 209 rfl rfl
theorem ol_Tx : Cond.methodLink "PrairiePool$Text" 5 objectInit ∈ TB := tb1 216 rfl rfl
theorem ol_Pa : Cond.methodLink "PrairiePool$Parser" 3 objectInit ∈ TB := tb2 35 rfl rfl
theorem ol_Ya : Cond.methodLink "PrairiePool$Yard" 3 objectInit ∈ TB := tb2 85 rfl rfl
theorem ol_Pl : Cond.methodLink "PrairiePool$Play" 5 objectInit ∈ TB := tb2 138 rfl rfl
theorem ol_Py : Cond.methodLink "PrairiePool$Payments" 3 objectInit ∈ TB := tb2 205 rfl rfl
theorem ol_Ou : Cond.methodLink "PrairiePool$Outsides" 3 objectInit ∈ TB := tb3 24 rfl rfl
theorem ol_Ba : Cond.methodLink "PrairiePool$Ballot" 3 objectInit ∈ TB := tb3 53 rfl rfl
theorem ol_Mo : Cond.methodLink "PrairiePoolModel" 1 objectInit ∈ TB := tb7 47 rfl rfl
theorem cl_Lw_7 : Cond.classLink "PrairiePoolLaw" 7 "PrairiePool" ∈ TB := tb1 24 rfl rfl
theorem cl_PP_7 : Cond.classLink "PrairiePool" 7 "PrairiePool$Trays" ∈ TB := tb1 32 rfl rfl
theorem cl_PP_16 : Cond.classLink "PrairiePool" 16 "PrairiePool$Prairie" ∈ TB := tb1 51 rfl rfl
theorem cl_PP_23 : Cond.classLink "PrairiePool" 23 "PrairiePool$Journal" ∈ TB := tb1 105 rfl rfl
theorem cl_PP_30 : Cond.classLink "PrairiePool" 30 "PrairiePool$Asker" ∈ TB := tb1 204 rfl rfl
theorem cl_As_11 : Cond.classLink "PrairiePool$Asker" 11 "PrairiePool$Text" ∈ TB := tb1 210 rfl rfl
theorem cl_PP_37 : Cond.classLink "PrairiePool" 37 "PrairiePool$Parser" ∈ TB := tb2 30 rfl rfl
theorem cl_Pa_9 : Cond.classLink "PrairiePool$Parser" 9 "PrairiePool$Text" ∈ TB := tb2 36 rfl rfl
theorem cl_PP_44 : Cond.classLink "PrairiePool" 44 "PrairiePool$Yard" ∈ TB := tb2 80 rfl rfl
theorem cl_PP_51 : Cond.classLink "PrairiePool" 51 "PrairiePool$Play" ∈ TB := tb2 133 rfl rfl
theorem cl_PP_60 : Cond.classLink "PrairiePool" 60 "PrairiePool$Payments" ∈ TB := tb2 200 rfl rfl
theorem cl_PP_69 : Cond.classLink "PrairiePool" 69 "PrairiePool$Outsides" ∈ TB := tb3 19 rfl rfl
theorem cl_PP_78 : Cond.classLink "PrairiePool" 78 "PrairiePool$Ballot" ∈ TB := tb3 48 rfl rfl
theorem cl_Lw_10 : Cond.classLink "PrairiePoolLaw" 10 "PrairiePoolModel" ∈ TB := tb7 42 rfl rfl
theorem is_PP : Cond.instantiable "PrairiePool" 11 ∈ TB := tb1 25 rfl rfl
theorem is_Tr : Cond.instantiable "PrairiePool$Trays" 3 ∈ TB := tb1 33 rfl rfl
theorem is_Pr : Cond.instantiable "PrairiePool$Prairie" 11 ∈ TB := tb1 52 rfl rfl
theorem is_Jo : Cond.instantiable "PrairiePool$Journal" 19 ∈ TB := tb1 106 rfl rfl
theorem is_As : Cond.instantiable "PrairiePool$Asker" 9 ∈ TB := tb1 205 rfl rfl
theorem is_Tx : Cond.instantiable "PrairiePool$Text" 6 ∈ TB := tb1 212 rfl rfl
theorem is_Pa : Cond.instantiable "PrairiePool$Parser" 12 ∈ TB := tb2 31 rfl rfl
theorem is_Ya : Cond.instantiable "PrairiePool$Yard" 13 ∈ TB := tb2 81 rfl rfl
theorem is_Pl : Cond.instantiable "PrairiePool$Play" 18 ∈ TB := tb2 134 rfl rfl
theorem is_Py : Cond.instantiable "PrairiePool$Payments" 15 ∈ TB := tb2 201 rfl rfl
theorem is_Ou : Cond.instantiable "PrairiePool$Outsides" 7 ∈ TB := tb3 20 rfl rfl
theorem is_Ba : Cond.instantiable "PrairiePool$Ballot" 9 ∈ TB := tb3 49 rfl rfl
theorem is_Mo : Cond.instantiable "PrairiePoolModel" 109 ∈ TB := tb7 43 rfl rfl
theorem df_0 : ∀ j, j < 9 → dv0 (ft 0 j) = defaultValue (tyQ0 j) := by decide +kernel
theorem df_1 : ∀ j, j < 9 → dv0 (ft 1 j) = defaultValue (tyQ1 j) := by decide +kernel
theorem df_2 : ∀ j, j < 19 → dv0 (ft 2 j) = defaultValue (tyQ2 j) := by decide +kernel
theorem df_3 : ∀ j, j < 7 → dv0 (ft 3 j) = defaultValue (tyQ3 j) := by decide +kernel
theorem df_4 : ∀ j, j < 12 → dv0 (ft 4 j) = defaultValue (tyQ4 j) := by decide +kernel
theorem df_5 : ∀ j, j < 15 → dv0 (ft 5 j) = defaultValue (tyQ5 j) := by decide +kernel
theorem df_6 : ∀ j, j < 18 → dv0 (ft 6 j) = defaultValue (tyQ6 j) := by decide +kernel
theorem df_7 : ∀ j, j < 11 → dv0 (ft 7 j) = defaultValue (tyQ7 j) := by decide +kernel
theorem df_8 : ∀ j, j < 6 → dv0 (ft 8 j) = defaultValue (tyQ8 j) := by decide +kernel
theorem df_9 : ∀ j, j < 3 → dv0 (ft 9 j) = defaultValue (tyQ9 j) := by decide +kernel
theorem df_10 : ∀ j, j < 13 → dv0 (ft 10 j) = defaultValue (tyQ10 j) := by decide +kernel
theorem df_11 : ∀ j, j < 11 → dv0 (ft 11 j) = defaultValue (tyQ11 j) := by decide +kernel
theorem df_12 : ∀ j, j < 109 → dv0 (ft 12 j) = defaultValue (tyQ12 j) := by decide +kernel
theorem ci_Lw_9 : CI "PrairiePoolLaw" 9 y_PP_init b_PP_init 1 0 := ⟨Or.inl (tb1 26 rfl rfl), sc_PP_init, co_PP_init, in_PP, by decide, rfl, by decide +kernel, by decide +kernel, by decide +kernel⟩
theorem ci_PP_32 : CI "PrairiePool" 32 y_As_init b_As_init 2 0 := ⟨Or.inl (tb1 206 rfl rfl), sc_As_init, co_As_init, in_As, by decide, rfl, by decide +kernel, by decide +kernel, by decide +kernel⟩
theorem ci_PP_53 : CI "PrairiePool" 53 y_Pl_init b_Pl_init 4 3 := ⟨Or.inl (tb2 135 rfl rfl), sc_Pl_init, co_Pl_init, in_Pl, by decide, rfl, by decide +kernel, by decide +kernel, by decide +kernel⟩
theorem ci_PP_62 : CI "PrairiePool" 62 y_Py_init b_Py_init 3 2 := ⟨Or.inl (tb2 202 rfl rfl), sc_Py_init, co_Py_init, in_Py, by decide, rfl, by decide +kernel, by decide +kernel, by decide +kernel⟩
theorem ci_PP_71 : CI "PrairiePool" 71 y_Ou_init b_Ou_init 3 2 := ⟨Or.inl (tb3 21 rfl rfl), sc_Ou_init, co_Ou_init, in_Ou, by decide, rfl, by decide +kernel, by decide +kernel, by decide +kernel⟩
theorem ci_PP_80 : CI "PrairiePool" 80 y_Ba_init b_Ba_init 3 2 := ⟨Or.inl (tb3 50 rfl rfl), sc_Ba_init, co_Ba_init, in_Ba, by decide, rfl, by decide +kernel, by decide +kernel, by decide +kernel⟩
theorem ci_Lw_12 : CI "PrairiePoolLaw" 12 y_Mo_init b_Mo_init 2 0 := ⟨Or.inl (tb7 44 rfl rfl), sc_Mo_init, co_Mo_init, in_Mo, by decide, rfl, by decide +kernel, by decide +kernel, by decide +kernel⟩
theorem ci_PP_9 : CI "PrairiePool" 9 y_Tr_init b_Tr_init 1 0 := ⟨Or.inr (by decide +kernel), sc_Tr_init, co_Tr_init, in_Tr, by decide, rfl, by decide +kernel, by decide +kernel, by decide +kernel⟩
theorem ci_PP_18 : CI "PrairiePool" 18 y_Pr_init b_Pr_init 1 0 := ⟨Or.inr (by decide +kernel), sc_Pr_init, co_Pr_init, in_Pr, by decide, rfl, by decide +kernel, by decide +kernel, by decide +kernel⟩
theorem ci_PP_25 : CI "PrairiePool" 25 y_Jo_init b_Jo_init 1 0 := ⟨Or.inr (by decide +kernel), sc_Jo_init, co_Jo_init, in_Jo, by decide, rfl, by decide +kernel, by decide +kernel, by decide +kernel⟩
theorem ci_As_38 : CI "PrairiePool$Asker" 38 y_Tx_init b_Tx_init 1 0 := ⟨Or.inr (by decide +kernel), sc_Tx_init, co_Tx_init, in_Tx, by decide, rfl, by decide +kernel, by decide +kernel, by decide +kernel⟩
theorem ci_PP_39 : CI "PrairiePool" 39 y_Pa_init b_Pa_init 1 0 := ⟨Or.inr (by decide +kernel), sc_Pa_init, co_Pa_init, in_Pa, by decide, rfl, by decide +kernel, by decide +kernel, by decide +kernel⟩
theorem ci_Pa_24 : CI "PrairiePool$Parser" 24 y_Tx_init b_Tx_init 1 0 := ⟨Or.inr (by decide +kernel), sc_Tx_init, co_Tx_init, in_Tx, by decide, rfl, by decide +kernel, by decide +kernel, by decide +kernel⟩
theorem ci_PP_46 : CI "PrairiePool" 46 y_Ya_init b_Ya_init 1 0 := ⟨Or.inr (by decide +kernel), sc_Ya_init, co_Ya_init, in_Ya, by decide, rfl, by decide +kernel, by decide +kernel, by decide +kernel⟩
section
variable {p : Program} {l : Launch} {e : Env} {lev : Nat} {s : State} {m : MethodId} {args : Array Value} {below : List Frame} {meth : Method} {c : Code} {G : GX}
theorem it_39 : IsText 39 := by unfold IsText; decide
theorem it_43 : IsText 43 := by unfold IsText; decide
theorem it_47 : IsText 47 := by unfold IsText; decide
theorem it_51 : IsText 51 := by unfold IsText; decide
theorem x_Tx_init_0 : DC b_Tx_init 0 (.aload_n 0) 1 1 := ⟨by decide +kernel, rfl⟩
theorem x_Tx_init_1 : DC b_Tx_init 1 (.invokespecial 5) 3 4 := ⟨by decide +kernel, rfl⟩
theorem x_Tx_init_4 : DC b_Tx_init 4 (.aload_n 0) 1 5 := ⟨by decide +kernel, rfl⟩
theorem x_Tx_init_5 : DC b_Tx_init 5 (.sipush 500) 3 8 := ⟨by decide +kernel, rfl⟩
theorem x_Tx_init_8 : DC b_Tx_init 8 (.newarray .int) 2 10 := ⟨by decide +kernel, rfl⟩
theorem x_Tx_init_10 : DC b_Tx_init 10 (.putfield 11) 3 13 := ⟨by decide +kernel, rfl⟩
theorem x_Tx_init_13 : DC b_Tx_init 13 (.aload_n 0) 1 14 := ⟨by decide +kernel, rfl⟩
theorem x_Tx_init_14 : DC b_Tx_init 14 (.bipush 10) 2 16 := ⟨by decide +kernel, rfl⟩
theorem x_Tx_init_16 : DC b_Tx_init 16 (.newarray .int) 2 18 := ⟨by decide +kernel, rfl⟩
theorem x_Tx_init_18 : DC b_Tx_init 18 (.putfield 15) 3 21 := ⟨by decide +kernel, rfl⟩
theorem x_Tx_init_21 : DC b_Tx_init 21 (.aload_n 0) 1 22 := ⟨by decide +kernel, rfl⟩
theorem x_Tx_init_22 : DC b_Tx_init 22 (.bipush 7) 2 24 := ⟨by decide +kernel, rfl⟩
theorem x_Tx_init_24 : DC b_Tx_init 24 (.newarray .int) 2 26 := ⟨by decide +kernel, rfl⟩
theorem x_Tx_init_26 : DC b_Tx_init 26 (.putfield 18) 3 29 := ⟨by decide +kernel, rfl⟩
theorem x_Tx_init_29 : DC b_Tx_init 29 (.return_) 1 30 := ⟨by decide +kernel, rfl⟩
def i_Tx (K : Nat) (M : Mem) : Mem := sto (sto (sto (M) K 3 ((((K + 1) : Nat) : Int) + 1)) K 4 ((((K + 2) : Nat) : Int) + 1)) K 5 ((((K + 3) : Nat) : Int) + 1)
theorem c_Tx_init (l : Launch) (G : GX) {lev : Nat} (hlev : 1 ≤ lev) {K : Nat} (hT : IsText K) {M : Mem} : MtD l G y_Tx_init b_Tx_init 1 lev 3 517 [.ref (G.1 + K)] (K + 1) M (K + 4) (i_Tx K M) := by
  refine MtD.of (by decide) rfl (i_le rfl) ?_
  intro p e s m args below meth c C hin2
  have C : Cx p s m args meth c G b_Tx_init 1 "PrairiePool$Text" none := C
  refine z_sub (lv' := [(0, .ref (G.1 + K))]) [0] rfl ?_
  refine z_aload_n C 0 x_Tx_init_0 rfl ?_
  refine z_objD C x_Tx_init_1 ol_Tx ob_in ob_co (i_le rfl) (by unfold rmD; dsimp only; omega) ?_
  refine z_aload_n C 0 x_Tx_init_4 rfl ?_
  refine z_sipush C rfl x_Tx_init_5 ?_
  refine z_newaI (n := (K + 1)) (n' := (K + 2)) (cl' := 1) (sl' := 500) C x_Tx_init_8 ac_int rfl (i_le rfl) hT.c1 rfl rfl rfl ⟨i_le rfl, i_le rfl⟩ ?_
  refine z_putDr (j := 3) (q := (K + 1)) C x_Tx_init_10 (by omega) hT.c0 cw_8 (i_lt rfl) rfl rfl (Or.inr ⟨_, rfl⟩) rfl hin2 rfl fl_Tx_11 ?_
  refine z_aload_n C 0 x_Tx_init_13 rfl ?_
  refine z_bipush C rfl x_Tx_init_14 ?_
  refine z_newaI (n := (K + 2)) (n' := (K + 3)) (cl' := 2) (sl' := 510) C x_Tx_init_16 ac_int rfl (i_le rfl) hT.c2 rfl rfl rfl ⟨i_le rfl, i_le rfl⟩ ?_
  refine z_putDr (j := 4) (q := (K + 2)) C x_Tx_init_18 (by omega) hT.c0 cw_8 (i_lt rfl) rfl rfl (Or.inr ⟨_, rfl⟩) rfl hin2 rfl fl_Tx_15 ?_
  refine z_aload_n C 0 x_Tx_init_21 rfl ?_
  refine z_bipush C rfl x_Tx_init_22 ?_
  refine z_newaI (n := (K + 3)) (n' := (K + 4)) (cl' := 3) (sl' := 517) C x_Tx_init_24 ac_int rfl (i_le rfl) hT.c3 rfl rfl rfl ⟨i_le rfl, i_le rfl⟩ ?_
  refine z_putDr (j := 5) (q := (K + 3)) C x_Tx_init_26 (by omega) hT.c0 cw_8 (i_lt rfl) rfl rfl (Or.inr ⟨_, rfl⟩) rfl hin2 rfl fl_Tx_18 ?_
  exact z_vretD C x_Tx_init_29
theorem x_Tr_init_0 : DC b_Tr_init 0 (.aload_n 0) 1 1 := ⟨by decide +kernel, rfl⟩
theorem x_Tr_init_1 : DC b_Tr_init 1 (.invokespecial 3) 3 4 := ⟨by decide +kernel, rfl⟩
theorem x_Tr_init_4 : DC b_Tr_init 4 (.aload_n 0) 1 5 := ⟨by decide +kernel, rfl⟩
theorem x_Tr_init_5 : DC b_Tr_init 5 (.iconst 4) 1 6 := ⟨by decide +kernel, rfl⟩
theorem x_Tr_init_6 : DC b_Tr_init 6 (.newarray .int) 2 8 := ⟨by decide +kernel, rfl⟩
theorem x_Tr_init_8 : DC b_Tr_init 8 (.putfield 11) 3 11 := ⟨by decide +kernel, rfl⟩
theorem x_Tr_init_11 : DC b_Tr_init 11 (.aload_n 0) 1 12 := ⟨by decide +kernel, rfl⟩
theorem x_Tr_init_12 : DC b_Tr_init 12 (.iconst 4) 1 13 := ⟨by decide +kernel, rfl⟩
theorem x_Tr_init_13 : DC b_Tr_init 13 (.newarray .int) 2 15 := ⟨by decide +kernel, rfl⟩
theorem x_Tr_init_15 : DC b_Tr_init 15 (.dup) 1 16 := ⟨by decide +kernel, rfl⟩
theorem x_Tr_init_16 : DC b_Tr_init 16 (.iconst 0) 1 17 := ⟨by decide +kernel, rfl⟩
theorem x_Tr_init_17 : DC b_Tr_init 17 (.iconst (-1)) 1 18 := ⟨by decide +kernel, rfl⟩
theorem x_Tr_init_18 : DC b_Tr_init 18 (.iastore) 1 19 := ⟨by decide +kernel, rfl⟩
theorem x_Tr_init_19 : DC b_Tr_init 19 (.dup) 1 20 := ⟨by decide +kernel, rfl⟩
theorem x_Tr_init_20 : DC b_Tr_init 20 (.iconst 1) 1 21 := ⟨by decide +kernel, rfl⟩
theorem x_Tr_init_21 : DC b_Tr_init 21 (.iconst (-1)) 1 22 := ⟨by decide +kernel, rfl⟩
theorem x_Tr_init_22 : DC b_Tr_init 22 (.iastore) 1 23 := ⟨by decide +kernel, rfl⟩
theorem x_Tr_init_23 : DC b_Tr_init 23 (.dup) 1 24 := ⟨by decide +kernel, rfl⟩
theorem x_Tr_init_24 : DC b_Tr_init 24 (.iconst 2) 1 25 := ⟨by decide +kernel, rfl⟩
theorem x_Tr_init_25 : DC b_Tr_init 25 (.iconst (-1)) 1 26 := ⟨by decide +kernel, rfl⟩
theorem x_Tr_init_26 : DC b_Tr_init 26 (.iastore) 1 27 := ⟨by decide +kernel, rfl⟩
theorem x_Tr_init_27 : DC b_Tr_init 27 (.dup) 1 28 := ⟨by decide +kernel, rfl⟩
theorem x_Tr_init_28 : DC b_Tr_init 28 (.iconst 3) 1 29 := ⟨by decide +kernel, rfl⟩
theorem x_Tr_init_29 : DC b_Tr_init 29 (.iconst (-1)) 1 30 := ⟨by decide +kernel, rfl⟩
theorem x_Tr_init_30 : DC b_Tr_init 30 (.iastore) 1 31 := ⟨by decide +kernel, rfl⟩
theorem x_Tr_init_31 : DC b_Tr_init 31 (.putfield 15) 3 34 := ⟨by decide +kernel, rfl⟩
theorem x_Tr_init_34 : DC b_Tr_init 34 (.aload_n 0) 1 35 := ⟨by decide +kernel, rfl⟩
theorem x_Tr_init_35 : DC b_Tr_init 35 (.sipush 160) 3 38 := ⟨by decide +kernel, rfl⟩
theorem x_Tr_init_38 : DC b_Tr_init 38 (.newarray .long) 2 40 := ⟨by decide +kernel, rfl⟩
theorem x_Tr_init_40 : DC b_Tr_init 40 (.putfield 18) 3 43 := ⟨by decide +kernel, rfl⟩
theorem x_Tr_init_43 : DC b_Tr_init 43 (.return_) 1 44 := ⟨by decide +kernel, rfl⟩
def i_Tr (M : Mem) : Mem := sto (sto (sto (sto (sto (sto (sto (M) 1 0 (((2 : Nat) : Int) + 1)) 3 0 (-1)) 3 1 (-1)) 3 2 (-1)) 3 3 (-1)) 1 1 (((3 : Nat) : Int) + 1)) 1 2 (((4 : Nat) : Int) + 1)
theorem c_Tr_init (l : Launch) (G : GX) {lev : Nat} (hlev : 1 ≤ lev) {M : Mem} : MtD l G y_Tr_init b_Tr_init 1 lev 3 168 [.ref (G.1 + 1)] 2 M 5 (i_Tr M) := by
  refine MtD.of (by decide) rfl (i_le rfl) ?_
  intro p e s m args below meth c C hin2
  have C : Cx p s m args meth c G b_Tr_init 1 "PrairiePool$Trays" none := C
  refine z_sub (lv' := [(0, .ref (G.1 + 1))]) [0] rfl ?_
  refine z_aload_n C 0 x_Tr_init_0 rfl ?_
  refine z_objD C x_Tr_init_1 ol_Tr ob_in ob_co (i_le rfl) (by unfold rmD; dsimp only; omega) ?_
  refine z_aload_n C 0 x_Tr_init_4 rfl ?_
  refine z_iconst C x_Tr_init_5 ?_
  refine z_newaI (n := 2) (n' := 3) (cl' := 1) (sl' := 4) C x_Tr_init_6 ac_int rfl (i_le rfl) ck_2 rfl rfl rfl ⟨i_le rfl, i_le rfl⟩ ?_
  refine z_putDr (j := 0) (q := 2) C x_Tr_init_8 (i_lt rfl) ck_1 cw_9 (i_lt rfl) rfl rfl (Or.inr ⟨_, rfl⟩) rfl hin2 rfl fl_Tr_11 ?_
  refine z_aload_n C 0 x_Tr_init_11 rfl ?_
  refine z_iconst C x_Tr_init_12 ?_
  refine z_newaI (n := 3) (n' := 4) (cl' := 2) (sl' := 8) C x_Tr_init_13 ac_int rfl (i_le rfl) ck_3 rfl rfl rfl ⟨i_le rfl, i_le rfl⟩ ?_
  refine z_dup C x_Tr_init_15 rfl ?_
  refine z_iconst C x_Tr_init_16 ?_
  refine z_iconst C x_Tr_init_17 ?_
  refine z_iastD C x_Tr_init_18 (i_lt rfl) ck_3 (by decide) ?_
  refine z_dup C x_Tr_init_19 rfl ?_
  refine z_iconst C x_Tr_init_20 ?_
  refine z_iconst C x_Tr_init_21 ?_
  refine z_iastD C x_Tr_init_22 (i_lt rfl) ck_3 (by decide) ?_
  refine z_dup C x_Tr_init_23 rfl ?_
  refine z_iconst C x_Tr_init_24 ?_
  refine z_iconst C x_Tr_init_25 ?_
  refine z_iastD C x_Tr_init_26 (i_lt rfl) ck_3 (by decide) ?_
  refine z_dup C x_Tr_init_27 rfl ?_
  refine z_iconst C x_Tr_init_28 ?_
  refine z_iconst C x_Tr_init_29 ?_
  refine z_iastD C x_Tr_init_30 (i_lt rfl) ck_3 (by decide) ?_
  refine z_putDr (j := 1) (q := 3) C x_Tr_init_31 (i_lt rfl) ck_1 cw_9 (i_lt rfl) rfl rfl (Or.inr ⟨_, rfl⟩) rfl hin2 rfl fl_Tr_15 ?_
  refine z_aload_n C 0 x_Tr_init_34 rfl ?_
  refine z_sipush C rfl x_Tr_init_35 ?_
  refine z_newaJ (n := 4) (n' := 5) (cl' := 3) (sl' := 168) C x_Tr_init_38 ac_long rfl (i_le rfl) ck_4 rfl rfl rfl ⟨i_le rfl, i_le rfl⟩ ?_
  refine z_putDr (j := 2) (q := 4) C x_Tr_init_40 (i_lt rfl) ck_1 cw_9 (i_lt rfl) rfl rfl (Or.inr ⟨_, rfl⟩) rfl hin2 rfl fl_Tr_18 ?_
  exact z_vretD C x_Tr_init_43
theorem x_Pr_init_0 : DC b_Pr_init 0 (.aload_n 0) 1 1 := ⟨by decide +kernel, rfl⟩
theorem x_Pr_init_1 : DC b_Pr_init 1 (.invokespecial 3) 3 4 := ⟨by decide +kernel, rfl⟩
theorem x_Pr_init_4 : DC b_Pr_init 4 (.aload_n 0) 1 5 := ⟨by decide +kernel, rfl⟩
theorem x_Pr_init_5 : DC b_Pr_init 5 (.bipush 20) 2 7 := ⟨by decide +kernel, rfl⟩
theorem x_Pr_init_7 : DC b_Pr_init 7 (.newarray .int) 2 9 := ⟨by decide +kernel, rfl⟩
theorem x_Pr_init_9 : DC b_Pr_init 9 (.putfield 9) 3 12 := ⟨by decide +kernel, rfl⟩
theorem x_Pr_init_12 : DC b_Pr_init 12 (.aload_n 0) 1 13 := ⟨by decide +kernel, rfl⟩
theorem x_Pr_init_13 : DC b_Pr_init 13 (.bipush 20) 2 15 := ⟨by decide +kernel, rfl⟩
theorem x_Pr_init_15 : DC b_Pr_init 15 (.newarray .int) 2 17 := ⟨by decide +kernel, rfl⟩
theorem x_Pr_init_17 : DC b_Pr_init 17 (.putfield 15) 3 20 := ⟨by decide +kernel, rfl⟩
theorem x_Pr_init_20 : DC b_Pr_init 20 (.aload_n 0) 1 21 := ⟨by decide +kernel, rfl⟩
theorem x_Pr_init_21 : DC b_Pr_init 21 (.bipush 20) 2 23 := ⟨by decide +kernel, rfl⟩
theorem x_Pr_init_23 : DC b_Pr_init 23 (.newarray .int) 2 25 := ⟨by decide +kernel, rfl⟩
theorem x_Pr_init_25 : DC b_Pr_init 25 (.putfield 18) 3 28 := ⟨by decide +kernel, rfl⟩
theorem x_Pr_init_28 : DC b_Pr_init 28 (.aload_n 0) 1 29 := ⟨by decide +kernel, rfl⟩
theorem x_Pr_init_29 : DC b_Pr_init 29 (.bipush 20) 2 31 := ⟨by decide +kernel, rfl⟩
theorem x_Pr_init_31 : DC b_Pr_init 31 (.newarray .int) 2 33 := ⟨by decide +kernel, rfl⟩
theorem x_Pr_init_33 : DC b_Pr_init 33 (.putfield 21) 3 36 := ⟨by decide +kernel, rfl⟩
theorem x_Pr_init_36 : DC b_Pr_init 36 (.aload_n 0) 1 37 := ⟨by decide +kernel, rfl⟩
theorem x_Pr_init_37 : DC b_Pr_init 37 (.bipush 20) 2 39 := ⟨by decide +kernel, rfl⟩
theorem x_Pr_init_39 : DC b_Pr_init 39 (.newarray .int) 2 41 := ⟨by decide +kernel, rfl⟩
theorem x_Pr_init_41 : DC b_Pr_init 41 (.putfield 24) 3 44 := ⟨by decide +kernel, rfl⟩
theorem x_Pr_init_44 : DC b_Pr_init 44 (.aload_n 0) 1 45 := ⟨by decide +kernel, rfl⟩
theorem x_Pr_init_45 : DC b_Pr_init 45 (.sipush 200) 3 48 := ⟨by decide +kernel, rfl⟩
theorem x_Pr_init_48 : DC b_Pr_init 48 (.newarray .boolean) 2 50 := ⟨by decide +kernel, rfl⟩
theorem x_Pr_init_50 : DC b_Pr_init 50 (.putfield 27) 3 53 := ⟨by decide +kernel, rfl⟩
theorem x_Pr_init_53 : DC b_Pr_init 53 (.aload_n 0) 1 54 := ⟨by decide +kernel, rfl⟩
theorem x_Pr_init_54 : DC b_Pr_init 54 (.bipush 20) 2 56 := ⟨by decide +kernel, rfl⟩
theorem x_Pr_init_56 : DC b_Pr_init 56 (.newarray .int) 2 58 := ⟨by decide +kernel, rfl⟩
theorem x_Pr_init_58 : DC b_Pr_init 58 (.putfield 31) 3 61 := ⟨by decide +kernel, rfl⟩
theorem x_Pr_init_61 : DC b_Pr_init 61 (.aload_n 0) 1 62 := ⟨by decide +kernel, rfl⟩
theorem x_Pr_init_62 : DC b_Pr_init 62 (.bipush 8) 2 64 := ⟨by decide +kernel, rfl⟩
theorem x_Pr_init_64 : DC b_Pr_init 64 (.newarray .int) 2 66 := ⟨by decide +kernel, rfl⟩
theorem x_Pr_init_66 : DC b_Pr_init 66 (.putfield 34) 3 69 := ⟨by decide +kernel, rfl⟩
theorem x_Pr_init_69 : DC b_Pr_init 69 (.aload_n 0) 1 70 := ⟨by decide +kernel, rfl⟩
theorem x_Pr_init_70 : DC b_Pr_init 70 (.bipush 8) 2 72 := ⟨by decide +kernel, rfl⟩
theorem x_Pr_init_72 : DC b_Pr_init 72 (.newarray .int) 2 74 := ⟨by decide +kernel, rfl⟩
theorem x_Pr_init_74 : DC b_Pr_init 74 (.putfield 37) 3 77 := ⟨by decide +kernel, rfl⟩
theorem x_Pr_init_77 : DC b_Pr_init 77 (.return_) 1 78 := ⟨by decide +kernel, rfl⟩
def i_Pr (M : Mem) : Mem := sto (sto (sto (sto (sto (sto (sto (sto (sto (M) 5 1 (((6 : Nat) : Int) + 1)) 5 2 (((7 : Nat) : Int) + 1)) 5 3 (((8 : Nat) : Int) + 1)) 5 4 (((9 : Nat) : Int) + 1)) 5 5 (((10 : Nat) : Int) + 1)) 5 6 (((11 : Nat) : Int) + 1)) 5 7 (((12 : Nat) : Int) + 1)) 5 9 (((13 : Nat) : Int) + 1)) 5 10 (((14 : Nat) : Int) + 1)
theorem c_Pr_init (l : Launch) (G : GX) {lev : Nat} (hlev : 1 ≤ lev) {M : Mem} : MtD l G y_Pr_init b_Pr_init 1 lev 9 336 [.ref (G.1 + 5)] 6 M 15 (i_Pr M) := by
  refine MtD.of (by decide) rfl (i_le rfl) ?_
  intro p e s m args below meth c C hin2
  have C : Cx p s m args meth c G b_Pr_init 1 "PrairiePool$Prairie" none := C
  refine z_sub (lv' := [(0, .ref (G.1 + 5))]) [0] rfl ?_
  refine z_aload_n C 0 x_Pr_init_0 rfl ?_
  refine z_objD C x_Pr_init_1 ol_Pr ob_in ob_co (i_le rfl) (by unfold rmD; dsimp only; omega) ?_
  refine z_aload_n C 0 x_Pr_init_4 rfl ?_
  refine z_bipush C rfl x_Pr_init_5 ?_
  refine z_newaI (n := 6) (n' := 7) (cl' := 1) (sl' := 20) C x_Pr_init_7 ac_int rfl (i_le rfl) ck_6 rfl rfl rfl ⟨i_le rfl, i_le rfl⟩ ?_
  refine z_putDr (j := 1) (q := 6) C x_Pr_init_9 (i_lt rfl) ck_5 cw_7 (i_lt rfl) rfl rfl (Or.inr ⟨_, rfl⟩) rfl hin2 rfl fl_Pr_9 ?_
  refine z_aload_n C 0 x_Pr_init_12 rfl ?_
  refine z_bipush C rfl x_Pr_init_13 ?_
  refine z_newaI (n := 7) (n' := 8) (cl' := 2) (sl' := 40) C x_Pr_init_15 ac_int rfl (i_le rfl) ck_7 rfl rfl rfl ⟨i_le rfl, i_le rfl⟩ ?_
  refine z_putDr (j := 2) (q := 7) C x_Pr_init_17 (i_lt rfl) ck_5 cw_7 (i_lt rfl) rfl rfl (Or.inr ⟨_, rfl⟩) rfl hin2 rfl fl_Pr_15 ?_
  refine z_aload_n C 0 x_Pr_init_20 rfl ?_
  refine z_bipush C rfl x_Pr_init_21 ?_
  refine z_newaI (n := 8) (n' := 9) (cl' := 3) (sl' := 60) C x_Pr_init_23 ac_int rfl (i_le rfl) ck_8 rfl rfl rfl ⟨i_le rfl, i_le rfl⟩ ?_
  refine z_putDr (j := 3) (q := 8) C x_Pr_init_25 (i_lt rfl) ck_5 cw_7 (i_lt rfl) rfl rfl (Or.inr ⟨_, rfl⟩) rfl hin2 rfl fl_Pr_18 ?_
  refine z_aload_n C 0 x_Pr_init_28 rfl ?_
  refine z_bipush C rfl x_Pr_init_29 ?_
  refine z_newaI (n := 9) (n' := 10) (cl' := 4) (sl' := 80) C x_Pr_init_31 ac_int rfl (i_le rfl) ck_9 rfl rfl rfl ⟨i_le rfl, i_le rfl⟩ ?_
  refine z_putDr (j := 4) (q := 9) C x_Pr_init_33 (i_lt rfl) ck_5 cw_7 (i_lt rfl) rfl rfl (Or.inr ⟨_, rfl⟩) rfl hin2 rfl fl_Pr_21 ?_
  refine z_aload_n C 0 x_Pr_init_36 rfl ?_
  refine z_bipush C rfl x_Pr_init_37 ?_
  refine z_newaI (n := 10) (n' := 11) (cl' := 5) (sl' := 100) C x_Pr_init_39 ac_int rfl (i_le rfl) ck_10 rfl rfl rfl ⟨i_le rfl, i_le rfl⟩ ?_
  refine z_putDr (j := 5) (q := 10) C x_Pr_init_41 (i_lt rfl) ck_5 cw_7 (i_lt rfl) rfl rfl (Or.inr ⟨_, rfl⟩) rfl hin2 rfl fl_Pr_24 ?_
  refine z_aload_n C 0 x_Pr_init_44 rfl ?_
  refine z_sipush C rfl x_Pr_init_45 ?_
  refine z_newaZ (n := 11) (n' := 12) (cl' := 6) (sl' := 300) C x_Pr_init_48 ac_boolean rfl (i_le rfl) ck_11 rfl rfl rfl ⟨i_le rfl, i_le rfl⟩ ?_
  refine z_putDr (j := 6) (q := 11) C x_Pr_init_50 (i_lt rfl) ck_5 cw_7 (i_lt rfl) rfl rfl (Or.inr ⟨_, rfl⟩) rfl hin2 rfl fl_Pr_27 ?_
  refine z_aload_n C 0 x_Pr_init_53 rfl ?_
  refine z_bipush C rfl x_Pr_init_54 ?_
  refine z_newaI (n := 12) (n' := 13) (cl' := 7) (sl' := 320) C x_Pr_init_56 ac_int rfl (i_le rfl) ck_12 rfl rfl rfl ⟨i_le rfl, i_le rfl⟩ ?_
  refine z_putDr (j := 7) (q := 12) C x_Pr_init_58 (i_lt rfl) ck_5 cw_7 (i_lt rfl) rfl rfl (Or.inr ⟨_, rfl⟩) rfl hin2 rfl fl_Pr_31 ?_
  refine z_aload_n C 0 x_Pr_init_61 rfl ?_
  refine z_bipush C rfl x_Pr_init_62 ?_
  refine z_newaI (n := 13) (n' := 14) (cl' := 8) (sl' := 328) C x_Pr_init_64 ac_int rfl (i_le rfl) ck_13 rfl rfl rfl ⟨i_le rfl, i_le rfl⟩ ?_
  refine z_putDr (j := 9) (q := 13) C x_Pr_init_66 (i_lt rfl) ck_5 cw_7 (i_lt rfl) rfl rfl (Or.inr ⟨_, rfl⟩) rfl hin2 rfl fl_Pr_34 ?_
  refine z_aload_n C 0 x_Pr_init_69 rfl ?_
  refine z_bipush C rfl x_Pr_init_70 ?_
  refine z_newaI (n := 14) (n' := 15) (cl' := 9) (sl' := 336) C x_Pr_init_72 ac_int rfl (i_le rfl) ck_14 rfl rfl rfl ⟨i_le rfl, i_le rfl⟩ ?_
  refine z_putDr (j := 10) (q := 14) C x_Pr_init_74 (i_lt rfl) ck_5 cw_7 (i_lt rfl) rfl rfl (Or.inr ⟨_, rfl⟩) rfl hin2 rfl fl_Pr_37 ?_
  exact z_vretD C x_Pr_init_77
theorem x_Jo_init_0 : DC b_Jo_init 0 (.aload_n 0) 1 1 := ⟨by decide +kernel, rfl⟩
theorem x_Jo_init_1 : DC b_Jo_init 1 (.invokespecial 1) 3 4 := ⟨by decide +kernel, rfl⟩
theorem x_Jo_init_4 : DC b_Jo_init 4 (.aload_n 0) 1 5 := ⟨by decide +kernel, rfl⟩
theorem x_Jo_init_5 : DC b_Jo_init 5 (.bipush 120) 2 7 := ⟨by decide +kernel, rfl⟩
theorem x_Jo_init_7 : DC b_Jo_init 7 (.newarray .int) 2 9 := ⟨by decide +kernel, rfl⟩
theorem x_Jo_init_9 : DC b_Jo_init 9 (.putfield 9) 3 12 := ⟨by decide +kernel, rfl⟩
theorem x_Jo_init_12 : DC b_Jo_init 12 (.aload_n 0) 1 13 := ⟨by decide +kernel, rfl⟩
theorem x_Jo_init_13 : DC b_Jo_init 13 (.bipush 120) 2 15 := ⟨by decide +kernel, rfl⟩
theorem x_Jo_init_15 : DC b_Jo_init 15 (.newarray .int) 2 17 := ⟨by decide +kernel, rfl⟩
theorem x_Jo_init_17 : DC b_Jo_init 17 (.putfield 13) 3 20 := ⟨by decide +kernel, rfl⟩
theorem x_Jo_init_20 : DC b_Jo_init 20 (.aload_n 0) 1 21 := ⟨by decide +kernel, rfl⟩
theorem x_Jo_init_21 : DC b_Jo_init 21 (.bipush 120) 2 23 := ⟨by decide +kernel, rfl⟩
theorem x_Jo_init_23 : DC b_Jo_init 23 (.newarray .int) 2 25 := ⟨by decide +kernel, rfl⟩
theorem x_Jo_init_25 : DC b_Jo_init 25 (.putfield 16) 3 28 := ⟨by decide +kernel, rfl⟩
theorem x_Jo_init_28 : DC b_Jo_init 28 (.aload_n 0) 1 29 := ⟨by decide +kernel, rfl⟩
theorem x_Jo_init_29 : DC b_Jo_init 29 (.bipush 120) 2 31 := ⟨by decide +kernel, rfl⟩
theorem x_Jo_init_31 : DC b_Jo_init 31 (.newarray .int) 2 33 := ⟨by decide +kernel, rfl⟩
theorem x_Jo_init_33 : DC b_Jo_init 33 (.putfield 19) 3 36 := ⟨by decide +kernel, rfl⟩
theorem x_Jo_init_36 : DC b_Jo_init 36 (.aload_n 0) 1 37 := ⟨by decide +kernel, rfl⟩
theorem x_Jo_init_37 : DC b_Jo_init 37 (.bipush 120) 2 39 := ⟨by decide +kernel, rfl⟩
theorem x_Jo_init_39 : DC b_Jo_init 39 (.newarray .int) 2 41 := ⟨by decide +kernel, rfl⟩
theorem x_Jo_init_41 : DC b_Jo_init 41 (.putfield 22) 3 44 := ⟨by decide +kernel, rfl⟩
theorem x_Jo_init_44 : DC b_Jo_init 44 (.aload_n 0) 1 45 := ⟨by decide +kernel, rfl⟩
theorem x_Jo_init_45 : DC b_Jo_init 45 (.bipush 120) 2 47 := ⟨by decide +kernel, rfl⟩
theorem x_Jo_init_47 : DC b_Jo_init 47 (.newarray .int) 2 49 := ⟨by decide +kernel, rfl⟩
theorem x_Jo_init_49 : DC b_Jo_init 49 (.putfield 25) 3 52 := ⟨by decide +kernel, rfl⟩
theorem x_Jo_init_52 : DC b_Jo_init 52 (.aload_n 0) 1 53 := ⟨by decide +kernel, rfl⟩
theorem x_Jo_init_53 : DC b_Jo_init 53 (.bipush 120) 2 55 := ⟨by decide +kernel, rfl⟩
theorem x_Jo_init_55 : DC b_Jo_init 55 (.newarray .int) 2 57 := ⟨by decide +kernel, rfl⟩
theorem x_Jo_init_57 : DC b_Jo_init 57 (.putfield 28) 3 60 := ⟨by decide +kernel, rfl⟩
theorem x_Jo_init_60 : DC b_Jo_init 60 (.aload_n 0) 1 61 := ⟨by decide +kernel, rfl⟩
theorem x_Jo_init_61 : DC b_Jo_init 61 (.bipush 120) 2 63 := ⟨by decide +kernel, rfl⟩
theorem x_Jo_init_63 : DC b_Jo_init 63 (.newarray .int) 2 65 := ⟨by decide +kernel, rfl⟩
theorem x_Jo_init_65 : DC b_Jo_init 65 (.putfield 31) 3 68 := ⟨by decide +kernel, rfl⟩
theorem x_Jo_init_68 : DC b_Jo_init 68 (.aload_n 0) 1 69 := ⟨by decide +kernel, rfl⟩
theorem x_Jo_init_69 : DC b_Jo_init 69 (.bipush 120) 2 71 := ⟨by decide +kernel, rfl⟩
theorem x_Jo_init_71 : DC b_Jo_init 71 (.newarray .int) 2 73 := ⟨by decide +kernel, rfl⟩
theorem x_Jo_init_73 : DC b_Jo_init 73 (.putfield 34) 3 76 := ⟨by decide +kernel, rfl⟩
theorem x_Jo_init_76 : DC b_Jo_init 76 (.aload_n 0) 1 77 := ⟨by decide +kernel, rfl⟩
theorem x_Jo_init_77 : DC b_Jo_init 77 (.bipush 120) 2 79 := ⟨by decide +kernel, rfl⟩
theorem x_Jo_init_79 : DC b_Jo_init 79 (.newarray .int) 2 81 := ⟨by decide +kernel, rfl⟩
theorem x_Jo_init_81 : DC b_Jo_init 81 (.putfield 37) 3 84 := ⟨by decide +kernel, rfl⟩
theorem x_Jo_init_84 : DC b_Jo_init 84 (.aload_n 0) 1 85 := ⟨by decide +kernel, rfl⟩
theorem x_Jo_init_85 : DC b_Jo_init 85 (.bipush 120) 2 87 := ⟨by decide +kernel, rfl⟩
theorem x_Jo_init_87 : DC b_Jo_init 87 (.newarray .int) 2 89 := ⟨by decide +kernel, rfl⟩
theorem x_Jo_init_89 : DC b_Jo_init 89 (.putfield 40) 3 92 := ⟨by decide +kernel, rfl⟩
theorem x_Jo_init_92 : DC b_Jo_init 92 (.aload_n 0) 1 93 := ⟨by decide +kernel, rfl⟩
theorem x_Jo_init_93 : DC b_Jo_init 93 (.bipush 100) 2 95 := ⟨by decide +kernel, rfl⟩
theorem x_Jo_init_95 : DC b_Jo_init 95 (.newarray .int) 2 97 := ⟨by decide +kernel, rfl⟩
theorem x_Jo_init_97 : DC b_Jo_init 97 (.putfield 43) 3 100 := ⟨by decide +kernel, rfl⟩
theorem x_Jo_init_100 : DC b_Jo_init 100 (.aload_n 0) 1 101 := ⟨by decide +kernel, rfl⟩
theorem x_Jo_init_101 : DC b_Jo_init 101 (.bipush 100) 2 103 := ⟨by decide +kernel, rfl⟩
theorem x_Jo_init_103 : DC b_Jo_init 103 (.newarray .int) 2 105 := ⟨by decide +kernel, rfl⟩
theorem x_Jo_init_105 : DC b_Jo_init 105 (.putfield 46) 3 108 := ⟨by decide +kernel, rfl⟩
theorem x_Jo_init_108 : DC b_Jo_init 108 (.aload_n 0) 1 109 := ⟨by decide +kernel, rfl⟩
theorem x_Jo_init_109 : DC b_Jo_init 109 (.bipush 100) 2 111 := ⟨by decide +kernel, rfl⟩
theorem x_Jo_init_111 : DC b_Jo_init 111 (.newarray .int) 2 113 := ⟨by decide +kernel, rfl⟩
theorem x_Jo_init_113 : DC b_Jo_init 113 (.putfield 49) 3 116 := ⟨by decide +kernel, rfl⟩
theorem x_Jo_init_116 : DC b_Jo_init 116 (.aload_n 0) 1 117 := ⟨by decide +kernel, rfl⟩
theorem x_Jo_init_117 : DC b_Jo_init 117 (.bipush 100) 2 119 := ⟨by decide +kernel, rfl⟩
theorem x_Jo_init_119 : DC b_Jo_init 119 (.newarray .int) 2 121 := ⟨by decide +kernel, rfl⟩
theorem x_Jo_init_121 : DC b_Jo_init 121 (.putfield 52) 3 124 := ⟨by decide +kernel, rfl⟩
theorem x_Jo_init_124 : DC b_Jo_init 124 (.aload_n 0) 1 125 := ⟨by decide +kernel, rfl⟩
theorem x_Jo_init_125 : DC b_Jo_init 125 (.bipush 100) 2 127 := ⟨by decide +kernel, rfl⟩
theorem x_Jo_init_127 : DC b_Jo_init 127 (.newarray .int) 2 129 := ⟨by decide +kernel, rfl⟩
theorem x_Jo_init_129 : DC b_Jo_init 129 (.putfield 55) 3 132 := ⟨by decide +kernel, rfl⟩
theorem x_Jo_init_132 : DC b_Jo_init 132 (.return_) 1 133 := ⟨by decide +kernel, rfl⟩
def i_Jo (M : Mem) : Mem := sto (sto (sto (sto (sto (sto (sto (sto (sto (sto (sto (sto (sto (sto (sto (sto (M) 15 2 (((16 : Nat) : Int) + 1)) 15 3 (((17 : Nat) : Int) + 1)) 15 4 (((18 : Nat) : Int) + 1)) 15 5 (((19 : Nat) : Int) + 1)) 15 6 (((20 : Nat) : Int) + 1)) 15 7 (((21 : Nat) : Int) + 1)) 15 8 (((22 : Nat) : Int) + 1)) 15 9 (((23 : Nat) : Int) + 1)) 15 10 (((24 : Nat) : Int) + 1)) 15 11 (((25 : Nat) : Int) + 1)) 15 12 (((26 : Nat) : Int) + 1)) 15 14 (((27 : Nat) : Int) + 1)) 15 15 (((28 : Nat) : Int) + 1)) 15 16 (((29 : Nat) : Int) + 1)) 15 17 (((30 : Nat) : Int) + 1)) 15 18 (((31 : Nat) : Int) + 1)
theorem c_Jo_init (l : Launch) (G : GX) {lev : Nat} (hlev : 1 ≤ lev) {M : Mem} : MtD l G y_Jo_init b_Jo_init 1 lev 16 1820 [.ref (G.1 + 15)] 16 M 32 (i_Jo M) := by
  refine MtD.of (by decide) rfl (i_le rfl) ?_
  intro p e s m args below meth c C hin2
  have C : Cx p s m args meth c G b_Jo_init 1 "PrairiePool$Journal" none := C
  refine z_sub (lv' := [(0, .ref (G.1 + 15))]) [0] rfl ?_
  refine z_aload_n C 0 x_Jo_init_0 rfl ?_
  refine z_objD C x_Jo_init_1 ol_Jo ob_in ob_co (i_le rfl) (by unfold rmD; dsimp only; omega) ?_
  refine z_aload_n C 0 x_Jo_init_4 rfl ?_
  refine z_bipush C rfl x_Jo_init_5 ?_
  refine z_newaI (n := 16) (n' := 17) (cl' := 1) (sl' := 120) C x_Jo_init_7 ac_int rfl (i_le rfl) ck_16 rfl rfl rfl ⟨i_le rfl, i_le rfl⟩ ?_
  refine z_putDr (j := 2) (q := 16) C x_Jo_init_9 (i_lt rfl) ck_15 cw_2 (i_lt rfl) rfl rfl (Or.inr ⟨_, rfl⟩) rfl hin2 rfl fl_Jo_9 ?_
  refine z_aload_n C 0 x_Jo_init_12 rfl ?_
  refine z_bipush C rfl x_Jo_init_13 ?_
  refine z_newaI (n := 17) (n' := 18) (cl' := 2) (sl' := 240) C x_Jo_init_15 ac_int rfl (i_le rfl) ck_17 rfl rfl rfl ⟨i_le rfl, i_le rfl⟩ ?_
  refine z_putDr (j := 3) (q := 17) C x_Jo_init_17 (i_lt rfl) ck_15 cw_2 (i_lt rfl) rfl rfl (Or.inr ⟨_, rfl⟩) rfl hin2 rfl fl_Jo_13 ?_
  refine z_aload_n C 0 x_Jo_init_20 rfl ?_
  refine z_bipush C rfl x_Jo_init_21 ?_
  refine z_newaI (n := 18) (n' := 19) (cl' := 3) (sl' := 360) C x_Jo_init_23 ac_int rfl (i_le rfl) ck_18 rfl rfl rfl ⟨i_le rfl, i_le rfl⟩ ?_
  refine z_putDr (j := 4) (q := 18) C x_Jo_init_25 (i_lt rfl) ck_15 cw_2 (i_lt rfl) rfl rfl (Or.inr ⟨_, rfl⟩) rfl hin2 rfl fl_Jo_16 ?_
  refine z_aload_n C 0 x_Jo_init_28 rfl ?_
  refine z_bipush C rfl x_Jo_init_29 ?_
  refine z_newaI (n := 19) (n' := 20) (cl' := 4) (sl' := 480) C x_Jo_init_31 ac_int rfl (i_le rfl) ck_19 rfl rfl rfl ⟨i_le rfl, i_le rfl⟩ ?_
  refine z_putDr (j := 5) (q := 19) C x_Jo_init_33 (i_lt rfl) ck_15 cw_2 (i_lt rfl) rfl rfl (Or.inr ⟨_, rfl⟩) rfl hin2 rfl fl_Jo_19 ?_
  refine z_aload_n C 0 x_Jo_init_36 rfl ?_
  refine z_bipush C rfl x_Jo_init_37 ?_
  refine z_newaI (n := 20) (n' := 21) (cl' := 5) (sl' := 600) C x_Jo_init_39 ac_int rfl (i_le rfl) ck_20 rfl rfl rfl ⟨i_le rfl, i_le rfl⟩ ?_
  refine z_putDr (j := 6) (q := 20) C x_Jo_init_41 (i_lt rfl) ck_15 cw_2 (i_lt rfl) rfl rfl (Or.inr ⟨_, rfl⟩) rfl hin2 rfl fl_Jo_22 ?_
  refine z_aload_n C 0 x_Jo_init_44 rfl ?_
  refine z_bipush C rfl x_Jo_init_45 ?_
  refine z_newaI (n := 21) (n' := 22) (cl' := 6) (sl' := 720) C x_Jo_init_47 ac_int rfl (i_le rfl) ck_21 rfl rfl rfl ⟨i_le rfl, i_le rfl⟩ ?_
  refine z_putDr (j := 7) (q := 21) C x_Jo_init_49 (i_lt rfl) ck_15 cw_2 (i_lt rfl) rfl rfl (Or.inr ⟨_, rfl⟩) rfl hin2 rfl fl_Jo_25 ?_
  refine z_aload_n C 0 x_Jo_init_52 rfl ?_
  refine z_bipush C rfl x_Jo_init_53 ?_
  refine z_newaI (n := 22) (n' := 23) (cl' := 7) (sl' := 840) C x_Jo_init_55 ac_int rfl (i_le rfl) ck_22 rfl rfl rfl ⟨i_le rfl, i_le rfl⟩ ?_
  refine z_putDr (j := 8) (q := 22) C x_Jo_init_57 (i_lt rfl) ck_15 cw_2 (i_lt rfl) rfl rfl (Or.inr ⟨_, rfl⟩) rfl hin2 rfl fl_Jo_28 ?_
  refine z_aload_n C 0 x_Jo_init_60 rfl ?_
  refine z_bipush C rfl x_Jo_init_61 ?_
  refine z_newaI (n := 23) (n' := 24) (cl' := 8) (sl' := 960) C x_Jo_init_63 ac_int rfl (i_le rfl) ck_23 rfl rfl rfl ⟨i_le rfl, i_le rfl⟩ ?_
  refine z_putDr (j := 9) (q := 23) C x_Jo_init_65 (i_lt rfl) ck_15 cw_2 (i_lt rfl) rfl rfl (Or.inr ⟨_, rfl⟩) rfl hin2 rfl fl_Jo_31 ?_
  refine z_aload_n C 0 x_Jo_init_68 rfl ?_
  refine z_bipush C rfl x_Jo_init_69 ?_
  refine z_newaI (n := 24) (n' := 25) (cl' := 9) (sl' := 1080) C x_Jo_init_71 ac_int rfl (i_le rfl) ck_24 rfl rfl rfl ⟨i_le rfl, i_le rfl⟩ ?_
  refine z_putDr (j := 10) (q := 24) C x_Jo_init_73 (i_lt rfl) ck_15 cw_2 (i_lt rfl) rfl rfl (Or.inr ⟨_, rfl⟩) rfl hin2 rfl fl_Jo_34 ?_
  refine z_aload_n C 0 x_Jo_init_76 rfl ?_
  refine z_bipush C rfl x_Jo_init_77 ?_
  refine z_newaI (n := 25) (n' := 26) (cl' := 10) (sl' := 1200) C x_Jo_init_79 ac_int rfl (i_le rfl) ck_25 rfl rfl rfl ⟨i_le rfl, i_le rfl⟩ ?_
  refine z_putDr (j := 11) (q := 25) C x_Jo_init_81 (i_lt rfl) ck_15 cw_2 (i_lt rfl) rfl rfl (Or.inr ⟨_, rfl⟩) rfl hin2 rfl fl_Jo_37 ?_
  refine z_aload_n C 0 x_Jo_init_84 rfl ?_
  refine z_bipush C rfl x_Jo_init_85 ?_
  refine z_newaI (n := 26) (n' := 27) (cl' := 11) (sl' := 1320) C x_Jo_init_87 ac_int rfl (i_le rfl) ck_26 rfl rfl rfl ⟨i_le rfl, i_le rfl⟩ ?_
  refine z_putDr (j := 12) (q := 26) C x_Jo_init_89 (i_lt rfl) ck_15 cw_2 (i_lt rfl) rfl rfl (Or.inr ⟨_, rfl⟩) rfl hin2 rfl fl_Jo_40 ?_
  refine z_aload_n C 0 x_Jo_init_92 rfl ?_
  refine z_bipush C rfl x_Jo_init_93 ?_
  refine z_newaI (n := 27) (n' := 28) (cl' := 12) (sl' := 1420) C x_Jo_init_95 ac_int rfl (i_le rfl) ck_27 rfl rfl rfl ⟨i_le rfl, i_le rfl⟩ ?_
  refine z_putDr (j := 14) (q := 27) C x_Jo_init_97 (i_lt rfl) ck_15 cw_2 (i_lt rfl) rfl rfl (Or.inr ⟨_, rfl⟩) rfl hin2 rfl fl_Jo_43 ?_
  refine z_aload_n C 0 x_Jo_init_100 rfl ?_
  refine z_bipush C rfl x_Jo_init_101 ?_
  refine z_newaI (n := 28) (n' := 29) (cl' := 13) (sl' := 1520) C x_Jo_init_103 ac_int rfl (i_le rfl) ck_28 rfl rfl rfl ⟨i_le rfl, i_le rfl⟩ ?_
  refine z_putDr (j := 15) (q := 28) C x_Jo_init_105 (i_lt rfl) ck_15 cw_2 (i_lt rfl) rfl rfl (Or.inr ⟨_, rfl⟩) rfl hin2 rfl fl_Jo_46 ?_
  refine z_aload_n C 0 x_Jo_init_108 rfl ?_
  refine z_bipush C rfl x_Jo_init_109 ?_
  refine z_newaI (n := 29) (n' := 30) (cl' := 14) (sl' := 1620) C x_Jo_init_111 ac_int rfl (i_le rfl) ck_29 rfl rfl rfl ⟨i_le rfl, i_le rfl⟩ ?_
  refine z_putDr (j := 16) (q := 29) C x_Jo_init_113 (i_lt rfl) ck_15 cw_2 (i_lt rfl) rfl rfl (Or.inr ⟨_, rfl⟩) rfl hin2 rfl fl_Jo_49 ?_
  refine z_aload_n C 0 x_Jo_init_116 rfl ?_
  refine z_bipush C rfl x_Jo_init_117 ?_
  refine z_newaI (n := 30) (n' := 31) (cl' := 15) (sl' := 1720) C x_Jo_init_119 ac_int rfl (i_le rfl) ck_30 rfl rfl rfl ⟨i_le rfl, i_le rfl⟩ ?_
  refine z_putDr (j := 17) (q := 30) C x_Jo_init_121 (i_lt rfl) ck_15 cw_2 (i_lt rfl) rfl rfl (Or.inr ⟨_, rfl⟩) rfl hin2 rfl fl_Jo_52 ?_
  refine z_aload_n C 0 x_Jo_init_124 rfl ?_
  refine z_bipush C rfl x_Jo_init_125 ?_
  refine z_newaI (n := 31) (n' := 32) (cl' := 16) (sl' := 1820) C x_Jo_init_127 ac_int rfl (i_le rfl) ck_31 rfl rfl rfl ⟨i_le rfl, i_le rfl⟩ ?_
  refine z_putDr (j := 18) (q := 31) C x_Jo_init_129 (i_lt rfl) ck_15 cw_2 (i_lt rfl) rfl rfl (Or.inr ⟨_, rfl⟩) rfl hin2 rfl fl_Jo_55 ?_
  exact z_vretD C x_Jo_init_132
theorem x_As_init_0 : DC b_As_init 0 (.aload_n 0) 1 1 := ⟨by decide +kernel, rfl⟩
theorem x_As_init_1 : DC b_As_init 1 (.invokespecial 3) 3 4 := ⟨by decide +kernel, rfl⟩
theorem x_As_init_4 : DC b_As_init 4 (.aload_n 0) 1 5 := ⟨by decide +kernel, rfl⟩
theorem x_As_init_5 : DC b_As_init 5 (.iconst 4) 1 6 := ⟨by decide +kernel, rfl⟩
theorem x_As_init_6 : DC b_As_init 6 (.anewarray 11) 3 9 := ⟨by decide +kernel, rfl⟩
theorem x_As_init_9 : DC b_As_init 9 (.putfield 13) 3 12 := ⟨by decide +kernel, rfl⟩
theorem x_As_init_12 : DC b_As_init 12 (.aload_n 0) 1 13 := ⟨by decide +kernel, rfl⟩
theorem x_As_init_13 : DC b_As_init 13 (.iconst (-1)) 1 14 := ⟨by decide +kernel, rfl⟩
theorem x_As_init_14 : DC b_As_init 14 (.putfield 17) 3 17 := ⟨by decide +kernel, rfl⟩
theorem x_As_init_17 : DC b_As_init 17 (.aload_n 0) 1 18 := ⟨by decide +kernel, rfl⟩
theorem x_As_init_18 : DC b_As_init 18 (.bipush 11) 2 20 := ⟨by decide +kernel, rfl⟩
theorem x_As_init_20 : DC b_As_init 20 (.newarray .long) 2 22 := ⟨by decide +kernel, rfl⟩
theorem x_As_init_22 : DC b_As_init 22 (.putfield 21) 3 25 := ⟨by decide +kernel, rfl⟩
theorem x_As_init_25 : DC b_As_init 25 (.aload_n 0) 1 26 := ⟨by decide +kernel, rfl⟩
theorem x_As_init_26 : DC b_As_init 26 (.bipush 10) 2 28 := ⟨by decide +kernel, rfl⟩
theorem x_As_init_28 : DC b_As_init 28 (.newarray .long) 2 30 := ⟨by decide +kernel, rfl⟩
theorem x_As_init_30 : DC b_As_init 30 (.putfield 25) 3 33 := ⟨by decide +kernel, rfl⟩
theorem x_As_init_33 : DC b_As_init 33 (.aload_n 0) 1 34 := ⟨by decide +kernel, rfl⟩
theorem x_As_init_34 : DC b_As_init 34 (.bipush 10) 2 36 := ⟨by decide +kernel, rfl⟩
theorem x_As_init_36 : DC b_As_init 36 (.newarray .boolean) 2 38 := ⟨by decide +kernel, rfl⟩
theorem x_As_init_38 : DC b_As_init 38 (.putfield 28) 3 41 := ⟨by decide +kernel, rfl⟩
theorem x_As_init_41 : DC b_As_init 41 (.aload_n 0) 1 42 := ⟨by decide +kernel, rfl⟩
theorem x_As_init_42 : DC b_As_init 42 (.bipush 64) 2 44 := ⟨by decide +kernel, rfl⟩
theorem x_As_init_44 : DC b_As_init 44 (.newarray .long) 2 46 := ⟨by decide +kernel, rfl⟩
theorem x_As_init_46 : DC b_As_init 46 (.putfield 32) 3 49 := ⟨by decide +kernel, rfl⟩
theorem x_As_init_49 : DC b_As_init 49 (.aload_n 0) 1 50 := ⟨by decide +kernel, rfl⟩
theorem x_As_init_50 : DC b_As_init 50 (.bipush 64) 2 52 := ⟨by decide +kernel, rfl⟩
theorem x_As_init_52 : DC b_As_init 52 (.newarray .boolean) 2 54 := ⟨by decide +kernel, rfl⟩
theorem x_As_init_54 : DC b_As_init 54 (.putfield 35) 3 57 := ⟨by decide +kernel, rfl⟩
theorem x_As_init_57 : DC b_As_init 57 (.iconst 0) 1 58 := ⟨by decide +kernel, rfl⟩
theorem x_As_init_58 : DC b_As_init 58 (.istore_n 1) 1 59 := ⟨by decide +kernel, rfl⟩
theorem x_As_init_59 : DC b_As_init 59 (.iload_n 1) 1 60 := ⟨by decide +kernel, rfl⟩
theorem x_As_init_60 : DC b_As_init 60 (.iconst 4) 1 61 := ⟨by decide +kernel, rfl⟩
theorem x_As_init_61 : DC b_As_init 61 (.if_icmp .ge 22) 3 64 := ⟨by decide +kernel, rfl⟩
theorem x_As_init_64 : DC b_As_init 64 (.aload_n 0) 1 65 := ⟨by decide +kernel, rfl⟩
theorem x_As_init_65 : DC b_As_init 65 (.getfield 13) 3 68 := ⟨by decide +kernel, rfl⟩
theorem x_As_init_68 : DC b_As_init 68 (.iload_n 1) 1 69 := ⟨by decide +kernel, rfl⟩
theorem x_As_init_69 : DC b_As_init 69 (.new 11) 3 72 := ⟨by decide +kernel, rfl⟩
theorem x_As_init_72 : DC b_As_init 72 (.dup) 1 73 := ⟨by decide +kernel, rfl⟩
theorem x_As_init_73 : DC b_As_init 73 (.invokespecial 38) 3 76 := ⟨by decide +kernel, rfl⟩
theorem x_As_init_76 : DC b_As_init 76 (.aastore) 1 77 := ⟨by decide +kernel, rfl⟩
theorem x_As_init_77 : DC b_As_init 77 (.iinc 1 1) 3 80 := ⟨by decide +kernel, rfl⟩
theorem x_As_init_80 : DC b_As_init 80 (.goto (-21)) 3 83 := ⟨by decide +kernel, rfl⟩
theorem x_As_init_83 : DC b_As_init 83 (.return_) 1 84 := ⟨by decide +kernel, rfl⟩
def i_As (M : Mem) : Mem := sto (i_Tx 51 (sto (i_Tx 47 (sto (i_Tx 43 (sto (i_Tx 39 (sto (sto (sto (sto (sto (sto (sto (M) 32 1 (((33 : Nat) : Int) + 1)) 32 2 (-1)) 32 3 (((34 : Nat) : Int) + 1)) 32 4 (((35 : Nat) : Int) + 1)) 32 5 (((36 : Nat) : Int) + 1)) 32 6 (((37 : Nat) : Int) + 1)) 32 7 (((38 : Nat) : Int) + 1))) 33 0 (((39 : Nat) : Int) + 1))) 33 1 (((43 : Nat) : Int) + 1))) 33 2 (((47 : Nat) : Int) + 1))) 33 3 (((51 : Nat) : Int) + 1)
theorem c_As_init (l : Launch) (G : GX) {lev : Nat} (hlev : 2 ≤ lev) {M : Mem} : MtD l G y_As_init b_As_init 2 lev 22 2255 [.ref (G.1 + 32)] 33 M 55 (i_As M) := by
  refine MtD.of (by decide) rfl (i_le rfl) ?_
  intro p e s m args below meth c C hin2
  have C : Cx p s m args meth c G b_As_init 2 "PrairiePool$Asker" none := C
  refine z_sub (lv' := [(0, .ref (G.1 + 32))]) [0] rfl ?_
  refine z_aload_n C 0 x_As_init_0 rfl ?_
  refine z_objD C x_As_init_1 ol_As ob_in ob_co (i_le rfl) (by unfold rmD; dsimp only; omega) ?_
  refine z_aload_n C 0 x_As_init_4 rfl ?_
  refine z_iconst C x_As_init_5 ?_
  refine z_newqD (n := 33) (n' := 34) (cl' := 1) (sl' := 4) C x_As_init_6 cl_As_11 ck_33 rfl rfl rfl ⟨i_le rfl, i_le rfl⟩ ?_
  refine z_putDr (j := 1) (q := 33) C x_As_init_9 (i_lt rfl) ck_32 cw_0 (i_lt rfl) rfl rfl (Or.inr ⟨_, rfl⟩) rfl hin2 rfl fl_As_13 ?_
  refine z_aload_n C 0 x_As_init_12 rfl ?_
  refine z_iconst C x_As_init_13 ?_
  refine z_putDi (j := 2) C x_As_init_14 (i_lt rfl) ck_32 cw_0 (i_lt rfl) rfl rfl rfl rfl fl_As_17 ?_
  refine z_aload_n C 0 x_As_init_17 rfl ?_
  refine z_bipush C rfl x_As_init_18 ?_
  refine z_newaJ (n := 34) (n' := 35) (cl' := 2) (sl' := 15) C x_As_init_20 ac_long rfl (i_le rfl) ck_34 rfl rfl rfl ⟨i_le rfl, i_le rfl⟩ ?_
  refine z_putDr (j := 3) (q := 34) C x_As_init_22 (i_lt rfl) ck_32 cw_0 (i_lt rfl) rfl rfl (Or.inr ⟨_, rfl⟩) rfl hin2 rfl fl_As_21 ?_
  refine z_aload_n C 0 x_As_init_25 rfl ?_
  refine z_bipush C rfl x_As_init_26 ?_
  refine z_newaJ (n := 35) (n' := 36) (cl' := 3) (sl' := 25) C x_As_init_28 ac_long rfl (i_le rfl) ck_35 rfl rfl rfl ⟨i_le rfl, i_le rfl⟩ ?_
  refine z_putDr (j := 4) (q := 35) C x_As_init_30 (i_lt rfl) ck_32 cw_0 (i_lt rfl) rfl rfl (Or.inr ⟨_, rfl⟩) rfl hin2 rfl fl_As_25 ?_
  refine z_aload_n C 0 x_As_init_33 rfl ?_
  refine z_bipush C rfl x_As_init_34 ?_
  refine z_newaZ (n := 36) (n' := 37) (cl' := 4) (sl' := 35) C x_As_init_36 ac_boolean rfl (i_le rfl) ck_36 rfl rfl rfl ⟨i_le rfl, i_le rfl⟩ ?_
  refine z_putDr (j := 5) (q := 36) C x_As_init_38 (i_lt rfl) ck_32 cw_0 (i_lt rfl) rfl rfl (Or.inr ⟨_, rfl⟩) rfl hin2 rfl fl_As_28 ?_
  refine z_aload_n C 0 x_As_init_41 rfl ?_
  refine z_bipush C rfl x_As_init_42 ?_
  refine z_newaJ (n := 37) (n' := 38) (cl' := 5) (sl' := 99) C x_As_init_44 ac_long rfl (i_le rfl) ck_37 rfl rfl rfl ⟨i_le rfl, i_le rfl⟩ ?_
  refine z_putDr (j := 6) (q := 37) C x_As_init_46 (i_lt rfl) ck_32 cw_0 (i_lt rfl) rfl rfl (Or.inr ⟨_, rfl⟩) rfl hin2 rfl fl_As_32 ?_
  refine z_aload_n C 0 x_As_init_49 rfl ?_
  refine z_bipush C rfl x_As_init_50 ?_
  refine z_newaZ (n := 38) (n' := 39) (cl' := 6) (sl' := 163) C x_As_init_52 ac_boolean rfl (i_le rfl) ck_38 rfl rfl rfl ⟨i_le rfl, i_le rfl⟩ ?_
  refine z_putDr (j := 7) (q := 38) C x_As_init_54 (i_lt rfl) ck_32 cw_0 (i_lt rfl) rfl rfl (Or.inr ⟨_, rfl⟩) rfl hin2 rfl fl_As_35 ?_
  refine z_iconst C x_As_init_57 ?_
  refine z_istore_n (lv' := [(1, vi 0), (0, .ref (G.1 + 32))]) C rfl x_As_init_58 (i_lt rfl) rfl ?_
  refine z_iload_n C 0 x_As_init_59 rfl ?_
  refine z_iconst C x_As_init_60 ?_
  refine z_icmp_ge_f (tgt := 83) C x_As_init_61 rfl (by decide) ?_
  refine z_aload_n C 1 x_As_init_64 rfl ?_
  refine z_getDr (j := 1) (q := 33) C x_As_init_65 (i_lt rfl) ck_32 cw_0 (i_lt rfl) rfl rfl fl_As_13 rfl ?_
  refine z_iload_n C 0 x_As_init_68 rfl ?_
  refine z_newD (n := 39) (n' := 40) (cl' := 7) (sl' := 169) C x_As_init_69 cl_As_11 is_Tx in_Tx ck_39 cw_8 df_8 rfl rfl rfl ⟨i_le rfl, i_le rfl⟩ ?_
  refine z_dup C x_As_init_72 rfl ?_
  refine z_callI (n' := 43) (cl' := 10) (sl' := 686) C x_As_init_73 ci_As_38 (c_Tx_init (lev := lev - 1) l G (by omega) it_39) (by unfold rmD; dsimp only; omega) rfl rfl rfl (i_le rfl) rfl ?_
  refine z_aastD C x_As_init_76 (i_lt rfl) (i_lt rfl) ck_39 (by decide) ?_
  refine z_iinc (y := 1) (lv' := [(1, vi 1), (0, .ref (G.1 + 32))]) C 0 rfl x_As_init_77 rfl (i_lt rfl) rfl ?_
  refine z_goto (tgt := 59) C x_As_init_80 rfl ?_
  refine z_iload_n C 0 x_As_init_59 rfl ?_
  refine z_iconst C x_As_init_60 ?_
  refine z_icmp_ge_f (tgt := 83) C x_As_init_61 rfl (by decide) ?_
  refine z_aload_n C 1 x_As_init_64 rfl ?_
  refine z_getDr (j := 1) (q := 33) C x_As_init_65 (i_lt rfl) ck_32 cw_0 (i_lt rfl) rfl rfl fl_As_13 rfl ?_
  refine z_iload_n C 0 x_As_init_68 rfl ?_
  refine z_newD (n := 43) (n' := 44) (cl' := 11) (sl' := 692) C x_As_init_69 cl_As_11 is_Tx in_Tx ck_43 cw_8 df_8 rfl rfl rfl ⟨i_le rfl, i_le rfl⟩ ?_
  refine z_dup C x_As_init_72 rfl ?_
  refine z_callI (n' := 47) (cl' := 14) (sl' := 1209) C x_As_init_73 ci_As_38 (c_Tx_init (lev := lev - 1) l G (by omega) it_43) (by unfold rmD; dsimp only; omega) rfl rfl rfl (i_le rfl) rfl ?_
  refine z_aastD C x_As_init_76 (i_lt rfl) (i_lt rfl) ck_43 (by decide) ?_
  refine z_iinc (y := 2) (lv' := [(1, vi 2), (0, .ref (G.1 + 32))]) C 0 rfl x_As_init_77 rfl (i_lt rfl) rfl ?_
  refine z_goto (tgt := 59) C x_As_init_80 rfl ?_
  refine z_iload_n C 0 x_As_init_59 rfl ?_
  refine z_iconst C x_As_init_60 ?_
  refine z_icmp_ge_f (tgt := 83) C x_As_init_61 rfl (by decide) ?_
  refine z_aload_n C 1 x_As_init_64 rfl ?_
  refine z_getDr (j := 1) (q := 33) C x_As_init_65 (i_lt rfl) ck_32 cw_0 (i_lt rfl) rfl rfl fl_As_13 rfl ?_
  refine z_iload_n C 0 x_As_init_68 rfl ?_
  refine z_newD (n := 47) (n' := 48) (cl' := 15) (sl' := 1215) C x_As_init_69 cl_As_11 is_Tx in_Tx ck_47 cw_8 df_8 rfl rfl rfl ⟨i_le rfl, i_le rfl⟩ ?_
  refine z_dup C x_As_init_72 rfl ?_
  refine z_callI (n' := 51) (cl' := 18) (sl' := 1732) C x_As_init_73 ci_As_38 (c_Tx_init (lev := lev - 1) l G (by omega) it_47) (by unfold rmD; dsimp only; omega) rfl rfl rfl (i_le rfl) rfl ?_
  refine z_aastD C x_As_init_76 (i_lt rfl) (i_lt rfl) ck_47 (by decide) ?_
  refine z_iinc (y := 3) (lv' := [(1, vi 3), (0, .ref (G.1 + 32))]) C 0 rfl x_As_init_77 rfl (i_lt rfl) rfl ?_
  refine z_goto (tgt := 59) C x_As_init_80 rfl ?_
  refine z_iload_n C 0 x_As_init_59 rfl ?_
  refine z_iconst C x_As_init_60 ?_
  refine z_icmp_ge_f (tgt := 83) C x_As_init_61 rfl (by decide) ?_
  refine z_aload_n C 1 x_As_init_64 rfl ?_
  refine z_getDr (j := 1) (q := 33) C x_As_init_65 (i_lt rfl) ck_32 cw_0 (i_lt rfl) rfl rfl fl_As_13 rfl ?_
  refine z_iload_n C 0 x_As_init_68 rfl ?_
  refine z_newD (n := 51) (n' := 52) (cl' := 19) (sl' := 1738) C x_As_init_69 cl_As_11 is_Tx in_Tx ck_51 cw_8 df_8 rfl rfl rfl ⟨i_le rfl, i_le rfl⟩ ?_
  refine z_dup C x_As_init_72 rfl ?_
  refine z_callI (n' := 55) (cl' := 22) (sl' := 2255) C x_As_init_73 ci_As_38 (c_Tx_init (lev := lev - 1) l G (by omega) it_51) (by unfold rmD; dsimp only; omega) rfl rfl rfl (i_le rfl) rfl ?_
  refine z_aastD C x_As_init_76 (i_lt rfl) (i_lt rfl) ck_51 (by decide) ?_
  refine z_iinc (y := 4) (lv' := [(1, vi 4), (0, .ref (G.1 + 32))]) C 0 rfl x_As_init_77 rfl (i_lt rfl) rfl ?_
  refine z_goto (tgt := 59) C x_As_init_80 rfl ?_
  refine z_iload_n C 0 x_As_init_59 rfl ?_
  refine z_iconst C x_As_init_60 ?_
  refine z_icmp_ge_t (tgt := 83) C x_As_init_61 rfl (by decide) ?_
  exact z_vretD C x_As_init_83
theorem x_Pa_init_0 : DC b_Pa_init 0 (.aload_n 0) 1 1 := ⟨by decide +kernel, rfl⟩
theorem x_Pa_init_1 : DC b_Pa_init 1 (.invokespecial 3) 3 4 := ⟨by decide +kernel, rfl⟩
theorem x_Pa_init_4 : DC b_Pa_init 4 (.aload_n 0) 1 5 := ⟨by decide +kernel, rfl⟩
theorem x_Pa_init_5 : DC b_Pa_init 5 (.sipush 500) 3 8 := ⟨by decide +kernel, rfl⟩
theorem x_Pa_init_8 : DC b_Pa_init 8 (.newarray .byte) 2 10 := ⟨by decide +kernel, rfl⟩
theorem x_Pa_init_10 : DC b_Pa_init 10 (.putfield 11) 3 13 := ⟨by decide +kernel, rfl⟩
theorem x_Pa_init_13 : DC b_Pa_init 13 (.aload_n 0) 1 14 := ⟨by decide +kernel, rfl⟩
theorem x_Pa_init_14 : DC b_Pa_init 14 (.iconst (-1)) 1 15 := ⟨by decide +kernel, rfl⟩
theorem x_Pa_init_15 : DC b_Pa_init 15 (.putfield 17) 3 18 := ⟨by decide +kernel, rfl⟩
theorem x_Pa_init_18 : DC b_Pa_init 18 (.aload_n 0) 1 19 := ⟨by decide +kernel, rfl⟩
theorem x_Pa_init_19 : DC b_Pa_init 19 (.iconst (-1)) 1 20 := ⟨by decide +kernel, rfl⟩
theorem x_Pa_init_20 : DC b_Pa_init 20 (.putfield 21) 3 23 := ⟨by decide +kernel, rfl⟩
theorem x_Pa_init_23 : DC b_Pa_init 23 (.aload_n 0) 1 24 := ⟨by decide +kernel, rfl⟩
theorem x_Pa_init_24 : DC b_Pa_init 24 (.new 9) 3 27 := ⟨by decide +kernel, rfl⟩
theorem x_Pa_init_27 : DC b_Pa_init 27 (.dup) 1 28 := ⟨by decide +kernel, rfl⟩
theorem x_Pa_init_28 : DC b_Pa_init 28 (.invokespecial 24) 3 31 := ⟨by decide +kernel, rfl⟩
theorem x_Pa_init_31 : DC b_Pa_init 31 (.putfield 25) 3 34 := ⟨by decide +kernel, rfl⟩
theorem x_Pa_init_34 : DC b_Pa_init 34 (.aload_n 0) 1 35 := ⟨by decide +kernel, rfl⟩
theorem x_Pa_init_35 : DC b_Pa_init 35 (.bipush 10) 2 37 := ⟨by decide +kernel, rfl⟩
theorem x_Pa_init_37 : DC b_Pa_init 37 (.newarray .long) 2 39 := ⟨by decide +kernel, rfl⟩
theorem x_Pa_init_39 : DC b_Pa_init 39 (.putfield 29) 3 42 := ⟨by decide +kernel, rfl⟩
theorem x_Pa_init_42 : DC b_Pa_init 42 (.return_) 1 43 := ⟨by decide +kernel, rfl⟩
def i_Pa (M : Mem) : Mem := sto (sto (i_Tx 57 (sto (sto (sto (M) 55 0 (((56 : Nat) : Int) + 1)) 55 2 (-1)) 55 3 (-1))) 55 4 (((57 : Nat) : Int) + 1)) 55 5 (((61 : Nat) : Int) + 1)
theorem c_Pa_init (l : Launch) (G : GX) {lev : Nat} (hlev : 2 ≤ lev) {M : Mem} : MtD l G y_Pa_init b_Pa_init 1 lev 6 1033 [.ref (G.1 + 55)] 56 M 62 (i_Pa M) := by
  refine MtD.of (by decide) rfl (i_le rfl) ?_
  intro p e s m args below meth c C hin2
  have C : Cx p s m args meth c G b_Pa_init 1 "PrairiePool$Parser" none := C
  refine z_sub (lv' := [(0, .ref (G.1 + 55))]) [0] rfl ?_
  refine z_aload_n C 0 x_Pa_init_0 rfl ?_
  refine z_objD C x_Pa_init_1 ol_Pa ob_in ob_co (i_le rfl) (by unfold rmD; dsimp only; omega) ?_
  refine z_aload_n C 0 x_Pa_init_4 rfl ?_
  refine z_sipush C rfl x_Pa_init_5 ?_
  refine z_newaB (n := 56) (n' := 57) (cl' := 1) (sl' := 500) C x_Pa_init_8 ac_byte rfl (i_le rfl) ck_56 rfl rfl rfl ⟨i_le rfl, i_le rfl⟩ ?_
  refine z_putDr (j := 0) (q := 56) C x_Pa_init_10 (i_lt rfl) ck_55 cw_4 (i_lt rfl) rfl rfl (Or.inr ⟨_, rfl⟩) rfl hin2 rfl fl_Pa_11 ?_
  refine z_aload_n C 0 x_Pa_init_13 rfl ?_
  refine z_iconst C x_Pa_init_14 ?_
  refine z_putDi (j := 2) C x_Pa_init_15 (i_lt rfl) ck_55 cw_4 (i_lt rfl) rfl rfl rfl rfl fl_Pa_17 ?_
  refine z_aload_n C 0 x_Pa_init_18 rfl ?_
  refine z_iconst C x_Pa_init_19 ?_
  refine z_putDi (j := 3) C x_Pa_init_20 (i_lt rfl) ck_55 cw_4 (i_lt rfl) rfl rfl rfl rfl fl_Pa_21 ?_
  refine z_aload_n C 0 x_Pa_init_23 rfl ?_
  refine z_newD (n := 57) (n' := 58) (cl' := 2) (sl' := 506) C x_Pa_init_24 cl_Pa_9 is_Tx in_Tx ck_57 cw_8 df_8 rfl rfl rfl ⟨i_le rfl, i_le rfl⟩ ?_
  refine z_dup C x_Pa_init_27 rfl ?_
  refine z_callI (n' := 61) (cl' := 5) (sl' := 1023) C x_Pa_init_28 ci_Pa_24 (c_Tx_init (lev := lev - 1) l G (by omega) it_57) (by unfold rmD; dsimp only; omega) rfl rfl rfl (i_le rfl) rfl ?_
  refine z_putDr (j := 4) (q := 57) C x_Pa_init_31 (i_lt rfl) ck_55 cw_4 (i_lt rfl) rfl rfl (Or.inl ⟨_, rfl⟩) rfl hin2 rfl fl_Pa_25 ?_
  refine z_aload_n C 0 x_Pa_init_34 rfl ?_
  refine z_bipush C rfl x_Pa_init_35 ?_
  refine z_newaJ (n := 61) (n' := 62) (cl' := 6) (sl' := 1033) C x_Pa_init_37 ac_long rfl (i_le rfl) ck_61 rfl rfl rfl ⟨i_le rfl, i_le rfl⟩ ?_
  refine z_putDr (j := 5) (q := 61) C x_Pa_init_39 (i_lt rfl) ck_55 cw_4 (i_lt rfl) rfl rfl (Or.inr ⟨_, rfl⟩) rfl hin2 rfl fl_Pa_29 ?_
  exact z_vretD C x_Pa_init_42
theorem x_Ya_init_0 : DC b_Ya_init 0 (.aload_n 0) 1 1 := ⟨by decide +kernel, rfl⟩
theorem x_Ya_init_1 : DC b_Ya_init 1 (.invokespecial 3) 3 4 := ⟨by decide +kernel, rfl⟩
theorem x_Ya_init_4 : DC b_Ya_init 4 (.aload_n 0) 1 5 := ⟨by decide +kernel, rfl⟩
theorem x_Ya_init_5 : DC b_Ya_init 5 (.bipush 8) 2 7 := ⟨by decide +kernel, rfl⟩
theorem x_Ya_init_7 : DC b_Ya_init 7 (.newarray .int) 2 9 := ⟨by decide +kernel, rfl⟩
theorem x_Ya_init_9 : DC b_Ya_init 9 (.putfield 11) 3 12 := ⟨by decide +kernel, rfl⟩
theorem x_Ya_init_12 : DC b_Ya_init 12 (.aload_n 0) 1 13 := ⟨by decide +kernel, rfl⟩
theorem x_Ya_init_13 : DC b_Ya_init 13 (.bipush 8) 2 15 := ⟨by decide +kernel, rfl⟩
theorem x_Ya_init_15 : DC b_Ya_init 15 (.newarray .int) 2 17 := ⟨by decide +kernel, rfl⟩
theorem x_Ya_init_17 : DC b_Ya_init 17 (.putfield 15) 3 20 := ⟨by decide +kernel, rfl⟩
theorem x_Ya_init_20 : DC b_Ya_init 20 (.aload_n 0) 1 21 := ⟨by decide +kernel, rfl⟩
theorem x_Ya_init_21 : DC b_Ya_init 21 (.bipush 20) 2 23 := ⟨by decide +kernel, rfl⟩
theorem x_Ya_init_23 : DC b_Ya_init 23 (.newarray .int) 2 25 := ⟨by decide +kernel, rfl⟩
theorem x_Ya_init_25 : DC b_Ya_init 25 (.putfield 18) 3 28 := ⟨by decide +kernel, rfl⟩
theorem x_Ya_init_28 : DC b_Ya_init 28 (.aload_n 0) 1 29 := ⟨by decide +kernel, rfl⟩
theorem x_Ya_init_29 : DC b_Ya_init 29 (.sipush 256) 3 32 := ⟨by decide +kernel, rfl⟩
theorem x_Ya_init_32 : DC b_Ya_init 32 (.newarray .int) 2 34 := ⟨by decide +kernel, rfl⟩
theorem x_Ya_init_34 : DC b_Ya_init 34 (.putfield 21) 3 37 := ⟨by decide +kernel, rfl⟩
theorem x_Ya_init_37 : DC b_Ya_init 37 (.aload_n 0) 1 38 := ⟨by decide +kernel, rfl⟩
theorem x_Ya_init_38 : DC b_Ya_init 38 (.iconst 5) 1 39 := ⟨by decide +kernel, rfl⟩
theorem x_Ya_init_39 : DC b_Ya_init 39 (.newarray .int) 2 41 := ⟨by decide +kernel, rfl⟩
theorem x_Ya_init_41 : DC b_Ya_init 41 (.putfield 24) 3 44 := ⟨by decide +kernel, rfl⟩
theorem x_Ya_init_44 : DC b_Ya_init 44 (.aload_n 0) 1 45 := ⟨by decide +kernel, rfl⟩
theorem x_Ya_init_45 : DC b_Ya_init 45 (.iconst 4) 1 46 := ⟨by decide +kernel, rfl⟩
theorem x_Ya_init_46 : DC b_Ya_init 46 (.newarray .int) 2 48 := ⟨by decide +kernel, rfl⟩
theorem x_Ya_init_48 : DC b_Ya_init 48 (.putfield 27) 3 51 := ⟨by decide +kernel, rfl⟩
theorem x_Ya_init_51 : DC b_Ya_init 51 (.aload_n 0) 1 52 := ⟨by decide +kernel, rfl⟩
theorem x_Ya_init_52 : DC b_Ya_init 52 (.bipush 20) 2 54 := ⟨by decide +kernel, rfl⟩
theorem x_Ya_init_54 : DC b_Ya_init 54 (.newarray .int) 2 56 := ⟨by decide +kernel, rfl⟩
theorem x_Ya_init_56 : DC b_Ya_init 56 (.putfield 30) 3 59 := ⟨by decide +kernel, rfl⟩
theorem x_Ya_init_59 : DC b_Ya_init 59 (.aload_n 0) 1 60 := ⟨by decide +kernel, rfl⟩
theorem x_Ya_init_60 : DC b_Ya_init 60 (.bipush 20) 2 62 := ⟨by decide +kernel, rfl⟩
theorem x_Ya_init_62 : DC b_Ya_init 62 (.newarray .int) 2 64 := ⟨by decide +kernel, rfl⟩
theorem x_Ya_init_64 : DC b_Ya_init 64 (.putfield 33) 3 67 := ⟨by decide +kernel, rfl⟩
theorem x_Ya_init_67 : DC b_Ya_init 67 (.aload_n 0) 1 68 := ⟨by decide +kernel, rfl⟩
theorem x_Ya_init_68 : DC b_Ya_init 68 (.iconst 5) 1 69 := ⟨by decide +kernel, rfl⟩
theorem x_Ya_init_69 : DC b_Ya_init 69 (.newarray .int) 2 71 := ⟨by decide +kernel, rfl⟩
theorem x_Ya_init_71 : DC b_Ya_init 71 (.putfield 36) 3 74 := ⟨by decide +kernel, rfl⟩
theorem x_Ya_init_74 : DC b_Ya_init 74 (.aload_n 0) 1 75 := ⟨by decide +kernel, rfl⟩
theorem x_Ya_init_75 : DC b_Ya_init 75 (.iconst 5) 1 76 := ⟨by decide +kernel, rfl⟩
theorem x_Ya_init_76 : DC b_Ya_init 76 (.newarray .int) 2 78 := ⟨by decide +kernel, rfl⟩
theorem x_Ya_init_78 : DC b_Ya_init 78 (.putfield 39) 3 81 := ⟨by decide +kernel, rfl⟩
theorem x_Ya_init_81 : DC b_Ya_init 81 (.aload_n 0) 1 82 := ⟨by decide +kernel, rfl⟩
theorem x_Ya_init_82 : DC b_Ya_init 82 (.iconst 4) 1 83 := ⟨by decide +kernel, rfl⟩
theorem x_Ya_init_83 : DC b_Ya_init 83 (.newarray .int) 2 85 := ⟨by decide +kernel, rfl⟩
theorem x_Ya_init_85 : DC b_Ya_init 85 (.putfield 42) 3 88 := ⟨by decide +kernel, rfl⟩
theorem x_Ya_init_88 : DC b_Ya_init 88 (.aload_n 0) 1 89 := ⟨by decide +kernel, rfl⟩
theorem x_Ya_init_89 : DC b_Ya_init 89 (.iconst 4) 1 90 := ⟨by decide +kernel, rfl⟩
theorem x_Ya_init_90 : DC b_Ya_init 90 (.newarray .int) 2 92 := ⟨by decide +kernel, rfl⟩
theorem x_Ya_init_92 : DC b_Ya_init 92 (.putfield 45) 3 95 := ⟨by decide +kernel, rfl⟩
theorem x_Ya_init_95 : DC b_Ya_init 95 (.return_) 1 96 := ⟨by decide +kernel, rfl⟩
def i_Ya (M : Mem) : Mem := sto (sto (sto (sto (sto (sto (sto (sto (sto (sto (sto (sto (M) 62 0 (((63 : Nat) : Int) + 1)) 62 1 (((64 : Nat) : Int) + 1)) 62 3 (((65 : Nat) : Int) + 1)) 62 4 (((66 : Nat) : Int) + 1)) 62 5 (((67 : Nat) : Int) + 1)) 62 6 (((68 : Nat) : Int) + 1)) 62 7 (((69 : Nat) : Int) + 1)) 62 8 (((70 : Nat) : Int) + 1)) 62 9 (((71 : Nat) : Int) + 1)) 62 10 (((72 : Nat) : Int) + 1)) 62 11 (((73 : Nat) : Int) + 1)) 62 12 (((74 : Nat) : Int) + 1)
theorem c_Ya_init (l : Launch) (G : GX) {lev : Nat} (hlev : 1 ≤ lev) {M : Mem} : MtD l G y_Ya_init b_Ya_init 1 lev 12 359 [.ref (G.1 + 62)] 63 M 75 (i_Ya M) := by
  refine MtD.of (by decide) rfl (i_le rfl) ?_
  intro p e s m args below meth c C hin2
  have C : Cx p s m args meth c G b_Ya_init 1 "PrairiePool$Yard" none := C
  refine z_sub (lv' := [(0, .ref (G.1 + 62))]) [0] rfl ?_
  refine z_aload_n C 0 x_Ya_init_0 rfl ?_
  refine z_objD C x_Ya_init_1 ol_Ya ob_in ob_co (i_le rfl) (by unfold rmD; dsimp only; omega) ?_
  refine z_aload_n C 0 x_Ya_init_4 rfl ?_
  refine z_bipush C rfl x_Ya_init_5 ?_
  refine z_newaI (n := 63) (n' := 64) (cl' := 1) (sl' := 8) C x_Ya_init_7 ac_int rfl (i_le rfl) ck_63 rfl rfl rfl ⟨i_le rfl, i_le rfl⟩ ?_
  refine z_putDr (j := 0) (q := 63) C x_Ya_init_9 (i_lt rfl) ck_62 cw_10 (i_lt rfl) rfl rfl (Or.inr ⟨_, rfl⟩) rfl hin2 rfl fl_Ya_11 ?_
  refine z_aload_n C 0 x_Ya_init_12 rfl ?_
  refine z_bipush C rfl x_Ya_init_13 ?_
  refine z_newaI (n := 64) (n' := 65) (cl' := 2) (sl' := 16) C x_Ya_init_15 ac_int rfl (i_le rfl) ck_64 rfl rfl rfl ⟨i_le rfl, i_le rfl⟩ ?_
  refine z_putDr (j := 1) (q := 64) C x_Ya_init_17 (i_lt rfl) ck_62 cw_10 (i_lt rfl) rfl rfl (Or.inr ⟨_, rfl⟩) rfl hin2 rfl fl_Ya_15 ?_
  refine z_aload_n C 0 x_Ya_init_20 rfl ?_
  refine z_bipush C rfl x_Ya_init_21 ?_
  refine z_newaI (n := 65) (n' := 66) (cl' := 3) (sl' := 36) C x_Ya_init_23 ac_int rfl (i_le rfl) ck_65 rfl rfl rfl ⟨i_le rfl, i_le rfl⟩ ?_
  refine z_putDr (j := 3) (q := 65) C x_Ya_init_25 (i_lt rfl) ck_62 cw_10 (i_lt rfl) rfl rfl (Or.inr ⟨_, rfl⟩) rfl hin2 rfl fl_Ya_18 ?_
  refine z_aload_n C 0 x_Ya_init_28 rfl ?_
  refine z_sipush C rfl x_Ya_init_29 ?_
  refine z_newaI (n := 66) (n' := 67) (cl' := 4) (sl' := 292) C x_Ya_init_32 ac_int rfl (i_le rfl) ck_66 rfl rfl rfl ⟨i_le rfl, i_le rfl⟩ ?_
  refine z_putDr (j := 4) (q := 66) C x_Ya_init_34 (i_lt rfl) ck_62 cw_10 (i_lt rfl) rfl rfl (Or.inr ⟨_, rfl⟩) rfl hin2 rfl fl_Ya_21 ?_
  refine z_aload_n C 0 x_Ya_init_37 rfl ?_
  refine z_iconst C x_Ya_init_38 ?_
  refine z_newaI (n := 67) (n' := 68) (cl' := 5) (sl' := 297) C x_Ya_init_39 ac_int rfl (i_le rfl) ck_67 rfl rfl rfl ⟨i_le rfl, i_le rfl⟩ ?_
  refine z_putDr (j := 5) (q := 67) C x_Ya_init_41 (i_lt rfl) ck_62 cw_10 (i_lt rfl) rfl rfl (Or.inr ⟨_, rfl⟩) rfl hin2 rfl fl_Ya_24 ?_
  refine z_aload_n C 0 x_Ya_init_44 rfl ?_
  refine z_iconst C x_Ya_init_45 ?_
  refine z_newaI (n := 68) (n' := 69) (cl' := 6) (sl' := 301) C x_Ya_init_46 ac_int rfl (i_le rfl) ck_68 rfl rfl rfl ⟨i_le rfl, i_le rfl⟩ ?_
  refine z_putDr (j := 6) (q := 68) C x_Ya_init_48 (i_lt rfl) ck_62 cw_10 (i_lt rfl) rfl rfl (Or.inr ⟨_, rfl⟩) rfl hin2 rfl fl_Ya_27 ?_
  refine z_aload_n C 0 x_Ya_init_51 rfl ?_
  refine z_bipush C rfl x_Ya_init_52 ?_
  refine z_newaI (n := 69) (n' := 70) (cl' := 7) (sl' := 321) C x_Ya_init_54 ac_int rfl (i_le rfl) ck_69 rfl rfl rfl ⟨i_le rfl, i_le rfl⟩ ?_
  refine z_putDr (j := 7) (q := 69) C x_Ya_init_56 (i_lt rfl) ck_62 cw_10 (i_lt rfl) rfl rfl (Or.inr ⟨_, rfl⟩) rfl hin2 rfl fl_Ya_30 ?_
  refine z_aload_n C 0 x_Ya_init_59 rfl ?_
  refine z_bipush C rfl x_Ya_init_60 ?_
  refine z_newaI (n := 70) (n' := 71) (cl' := 8) (sl' := 341) C x_Ya_init_62 ac_int rfl (i_le rfl) ck_70 rfl rfl rfl ⟨i_le rfl, i_le rfl⟩ ?_
  refine z_putDr (j := 8) (q := 70) C x_Ya_init_64 (i_lt rfl) ck_62 cw_10 (i_lt rfl) rfl rfl (Or.inr ⟨_, rfl⟩) rfl hin2 rfl fl_Ya_33 ?_
  refine z_aload_n C 0 x_Ya_init_67 rfl ?_
  refine z_iconst C x_Ya_init_68 ?_
  refine z_newaI (n := 71) (n' := 72) (cl' := 9) (sl' := 346) C x_Ya_init_69 ac_int rfl (i_le rfl) ck_71 rfl rfl rfl ⟨i_le rfl, i_le rfl⟩ ?_
  refine z_putDr (j := 9) (q := 71) C x_Ya_init_71 (i_lt rfl) ck_62 cw_10 (i_lt rfl) rfl rfl (Or.inr ⟨_, rfl⟩) rfl hin2 rfl fl_Ya_36 ?_
  refine z_aload_n C 0 x_Ya_init_74 rfl ?_
  refine z_iconst C x_Ya_init_75 ?_
  refine z_newaI (n := 72) (n' := 73) (cl' := 10) (sl' := 351) C x_Ya_init_76 ac_int rfl (i_le rfl) ck_72 rfl rfl rfl ⟨i_le rfl, i_le rfl⟩ ?_
  refine z_putDr (j := 10) (q := 72) C x_Ya_init_78 (i_lt rfl) ck_62 cw_10 (i_lt rfl) rfl rfl (Or.inr ⟨_, rfl⟩) rfl hin2 rfl fl_Ya_39 ?_
  refine z_aload_n C 0 x_Ya_init_81 rfl ?_
  refine z_iconst C x_Ya_init_82 ?_
  refine z_newaI (n := 73) (n' := 74) (cl' := 11) (sl' := 355) C x_Ya_init_83 ac_int rfl (i_le rfl) ck_73 rfl rfl rfl ⟨i_le rfl, i_le rfl⟩ ?_
  refine z_putDr (j := 11) (q := 73) C x_Ya_init_85 (i_lt rfl) ck_62 cw_10 (i_lt rfl) rfl rfl (Or.inr ⟨_, rfl⟩) rfl hin2 rfl fl_Ya_42 ?_
  refine z_aload_n C 0 x_Ya_init_88 rfl ?_
  refine z_iconst C x_Ya_init_89 ?_
  refine z_newaI (n := 74) (n' := 75) (cl' := 12) (sl' := 359) C x_Ya_init_90 ac_int rfl (i_le rfl) ck_74 rfl rfl rfl ⟨i_le rfl, i_le rfl⟩ ?_
  refine z_putDr (j := 12) (q := 74) C x_Ya_init_92 (i_lt rfl) ck_62 cw_10 (i_lt rfl) rfl rfl (Or.inr ⟨_, rfl⟩) rfl hin2 rfl fl_Ya_45 ?_
  exact z_vretD C x_Ya_init_95
theorem x_Pl_init_0 : DC b_Pl_init 0 (.aload_n 0) 1 1 := ⟨by decide +kernel, rfl⟩
theorem x_Pl_init_1 : DC b_Pl_init 1 (.invokespecial 5) 3 4 := ⟨by decide +kernel, rfl⟩
theorem x_Pl_init_4 : DC b_Pl_init 4 (.aload_n 0) 1 5 := ⟨by decide +kernel, rfl⟩
theorem x_Pl_init_5 : DC b_Pl_init 5 (.bipush 120) 2 7 := ⟨by decide +kernel, rfl⟩
theorem x_Pl_init_7 : DC b_Pl_init 7 (.newarray .int) 2 9 := ⟨by decide +kernel, rfl⟩
theorem x_Pl_init_9 : DC b_Pl_init 9 (.putfield 13) 3 12 := ⟨by decide +kernel, rfl⟩
theorem x_Pl_init_12 : DC b_Pl_init 12 (.aload_n 0) 1 13 := ⟨by decide +kernel, rfl⟩
theorem x_Pl_init_13 : DC b_Pl_init 13 (.bipush 120) 2 15 := ⟨by decide +kernel, rfl⟩
theorem x_Pl_init_15 : DC b_Pl_init 15 (.newarray .int) 2 17 := ⟨by decide +kernel, rfl⟩
theorem x_Pl_init_17 : DC b_Pl_init 17 (.putfield 17) 3 20 := ⟨by decide +kernel, rfl⟩
theorem x_Pl_init_20 : DC b_Pl_init 20 (.aload_n 0) 1 21 := ⟨by decide +kernel, rfl⟩
theorem x_Pl_init_21 : DC b_Pl_init 21 (.bipush 120) 2 23 := ⟨by decide +kernel, rfl⟩
theorem x_Pl_init_23 : DC b_Pl_init 23 (.newarray .int) 2 25 := ⟨by decide +kernel, rfl⟩
theorem x_Pl_init_25 : DC b_Pl_init 25 (.putfield 20) 3 28 := ⟨by decide +kernel, rfl⟩
theorem x_Pl_init_28 : DC b_Pl_init 28 (.aload_n 0) 1 29 := ⟨by decide +kernel, rfl⟩
theorem x_Pl_init_29 : DC b_Pl_init 29 (.bipush 8) 2 31 := ⟨by decide +kernel, rfl⟩
theorem x_Pl_init_31 : DC b_Pl_init 31 (.newarray .int) 2 33 := ⟨by decide +kernel, rfl⟩
theorem x_Pl_init_33 : DC b_Pl_init 33 (.putfield 23) 3 36 := ⟨by decide +kernel, rfl⟩
theorem x_Pl_init_36 : DC b_Pl_init 36 (.aload_n 0) 1 37 := ⟨by decide +kernel, rfl⟩
theorem x_Pl_init_37 : DC b_Pl_init 37 (.bipush 8) 2 39 := ⟨by decide +kernel, rfl⟩
theorem x_Pl_init_39 : DC b_Pl_init 39 (.newarray .int) 2 41 := ⟨by decide +kernel, rfl⟩
theorem x_Pl_init_41 : DC b_Pl_init 41 (.putfield 26) 3 44 := ⟨by decide +kernel, rfl⟩
theorem x_Pl_init_44 : DC b_Pl_init 44 (.aload_n 0) 1 45 := ⟨by decide +kernel, rfl⟩
theorem x_Pl_init_45 : DC b_Pl_init 45 (.sipush 600) 3 48 := ⟨by decide +kernel, rfl⟩
theorem x_Pl_init_48 : DC b_Pl_init 48 (.newarray .int) 2 50 := ⟨by decide +kernel, rfl⟩
theorem x_Pl_init_50 : DC b_Pl_init 50 (.putfield 29) 3 53 := ⟨by decide +kernel, rfl⟩
theorem x_Pl_init_53 : DC b_Pl_init 53 (.aload_n 0) 1 54 := ⟨by decide +kernel, rfl⟩
theorem x_Pl_init_54 : DC b_Pl_init 54 (.sipush 2400) 3 57 := ⟨by decide +kernel, rfl⟩
theorem x_Pl_init_57 : DC b_Pl_init 57 (.newarray .long) 2 59 := ⟨by decide +kernel, rfl⟩
theorem x_Pl_init_59 : DC b_Pl_init 59 (.putfield 32) 3 62 := ⟨by decide +kernel, rfl⟩
theorem x_Pl_init_62 : DC b_Pl_init 62 (.aload_n 0) 1 63 := ⟨by decide +kernel, rfl⟩
theorem x_Pl_init_63 : DC b_Pl_init 63 (.bipush 8) 2 65 := ⟨by decide +kernel, rfl⟩
theorem x_Pl_init_65 : DC b_Pl_init 65 (.newarray .int) 2 67 := ⟨by decide +kernel, rfl⟩
theorem x_Pl_init_67 : DC b_Pl_init 67 (.putfield 36) 3 70 := ⟨by decide +kernel, rfl⟩
theorem x_Pl_init_70 : DC b_Pl_init 70 (.aload_n 0) 1 71 := ⟨by decide +kernel, rfl⟩
theorem x_Pl_init_71 : DC b_Pl_init 71 (.bipush 80) 2 73 := ⟨by decide +kernel, rfl⟩
theorem x_Pl_init_73 : DC b_Pl_init 73 (.newarray .int) 2 75 := ⟨by decide +kernel, rfl⟩
theorem x_Pl_init_75 : DC b_Pl_init 75 (.putfield 39) 3 78 := ⟨by decide +kernel, rfl⟩
theorem x_Pl_init_78 : DC b_Pl_init 78 (.aload_n 0) 1 79 := ⟨by decide +kernel, rfl⟩
theorem x_Pl_init_79 : DC b_Pl_init 79 (.bipush 20) 2 81 := ⟨by decide +kernel, rfl⟩
theorem x_Pl_init_81 : DC b_Pl_init 81 (.newarray .long) 2 83 := ⟨by decide +kernel, rfl⟩
theorem x_Pl_init_83 : DC b_Pl_init 83 (.putfield 42) 3 86 := ⟨by decide +kernel, rfl⟩
theorem x_Pl_init_86 : DC b_Pl_init 86 (.aload_n 0) 1 87 := ⟨by decide +kernel, rfl⟩
theorem x_Pl_init_87 : DC b_Pl_init 87 (.bipush 20) 2 89 := ⟨by decide +kernel, rfl⟩
theorem x_Pl_init_89 : DC b_Pl_init 89 (.newarray .long) 2 91 := ⟨by decide +kernel, rfl⟩
theorem x_Pl_init_91 : DC b_Pl_init 91 (.putfield 45) 3 94 := ⟨by decide +kernel, rfl⟩
theorem x_Pl_init_94 : DC b_Pl_init 94 (.aload_n 0) 1 95 := ⟨by decide +kernel, rfl⟩
theorem x_Pl_init_95 : DC b_Pl_init 95 (.bipush 20) 2 97 := ⟨by decide +kernel, rfl⟩
theorem x_Pl_init_97 : DC b_Pl_init 97 (.newarray .long) 2 99 := ⟨by decide +kernel, rfl⟩
theorem x_Pl_init_99 : DC b_Pl_init 99 (.putfield 48) 3 102 := ⟨by decide +kernel, rfl⟩
theorem x_Pl_init_102 : DC b_Pl_init 102 (.aload_n 0) 1 103 := ⟨by decide +kernel, rfl⟩
theorem x_Pl_init_103 : DC b_Pl_init 103 (.aload_n 1) 1 104 := ⟨by decide +kernel, rfl⟩
theorem x_Pl_init_104 : DC b_Pl_init 104 (.putfield 51) 3 107 := ⟨by decide +kernel, rfl⟩
theorem x_Pl_init_107 : DC b_Pl_init 107 (.aload_n 0) 1 108 := ⟨by decide +kernel, rfl⟩
theorem x_Pl_init_108 : DC b_Pl_init 108 (.aload_n 2) 1 109 := ⟨by decide +kernel, rfl⟩
theorem x_Pl_init_109 : DC b_Pl_init 109 (.putfield 55) 3 112 := ⟨by decide +kernel, rfl⟩
theorem x_Pl_init_112 : DC b_Pl_init 112 (.aload_n 0) 1 113 := ⟨by decide +kernel, rfl⟩
theorem x_Pl_init_113 : DC b_Pl_init 113 (.aload_n 3) 1 114 := ⟨by decide +kernel, rfl⟩
theorem x_Pl_init_114 : DC b_Pl_init 114 (.putfield 59) 3 117 := ⟨by decide +kernel, rfl⟩
theorem x_Pl_init_117 : DC b_Pl_init 117 (.return_) 1 118 := ⟨by decide +kernel, rfl⟩
def i_Pl (M : Mem) : Mem := sto (sto (sto (sto (sto (sto (sto (sto (sto (sto (sto (sto (sto (sto (sto (M) 75 4 (((76 : Nat) : Int) + 1)) 75 5 (((77 : Nat) : Int) + 1)) 75 6 (((78 : Nat) : Int) + 1)) 75 7 (((79 : Nat) : Int) + 1)) 75 8 (((80 : Nat) : Int) + 1)) 75 9 (((81 : Nat) : Int) + 1)) 75 11 (((82 : Nat) : Int) + 1)) 75 12 (((83 : Nat) : Int) + 1)) 75 13 (((84 : Nat) : Int) + 1)) 75 15 (((85 : Nat) : Int) + 1)) 75 16 (((86 : Nat) : Int) + 1)) 75 17 (((87 : Nat) : Int) + 1)) 75 0 (((5 : Nat) : Int) + 1)) 75 1 (((15 : Nat) : Int) + 1)) 75 2 (((32 : Nat) : Int) + 1)
theorem c_Pl_init (l : Launch) (G : GX) {lev : Nat} (hlev : 1 ≤ lev) {M : Mem} : MtD l G y_Pl_init b_Pl_init 4 lev 12 3524 [.ref (G.1 + 75), .ref (G.1 + 5), .ref (G.1 + 15), .ref (G.1 + 32)] 76 M 88 (i_Pl M) := by
  refine MtD.of (by decide) rfl (i_le rfl) ?_
  intro p e s m args below meth c C hin2
  have C : Cx p s m args meth c G b_Pl_init 4 "PrairiePool$Play" none := C
  refine z_sub (lv' := [(0, .ref (G.1 + 75)), (1, .ref (G.1 + 5)), (2, .ref (G.1 + 15)), (3, .ref (G.1 + 32))]) [0, 1, 2, 3] rfl ?_
  refine z_aload_n C 0 x_Pl_init_0 rfl ?_
  refine z_objD C x_Pl_init_1 ol_Pl ob_in ob_co (i_le rfl) (by unfold rmD; dsimp only; omega) ?_
  refine z_aload_n C 0 x_Pl_init_4 rfl ?_
  refine z_bipush C rfl x_Pl_init_5 ?_
  refine z_newaI (n := 76) (n' := 77) (cl' := 1) (sl' := 120) C x_Pl_init_7 ac_int rfl (i_le rfl) ck_76 rfl rfl rfl ⟨i_le rfl, i_le rfl⟩ ?_
  refine z_putDr (j := 4) (q := 76) C x_Pl_init_9 (i_lt rfl) ck_75 cw_6 (i_lt rfl) rfl rfl (Or.inr ⟨_, rfl⟩) rfl hin2 rfl fl_Pl_13 ?_
  refine z_aload_n C 0 x_Pl_init_12 rfl ?_
  refine z_bipush C rfl x_Pl_init_13 ?_
  refine z_newaI (n := 77) (n' := 78) (cl' := 2) (sl' := 240) C x_Pl_init_15 ac_int rfl (i_le rfl) ck_77 rfl rfl rfl ⟨i_le rfl, i_le rfl⟩ ?_
  refine z_putDr (j := 5) (q := 77) C x_Pl_init_17 (i_lt rfl) ck_75 cw_6 (i_lt rfl) rfl rfl (Or.inr ⟨_, rfl⟩) rfl hin2 rfl fl_Pl_17 ?_
  refine z_aload_n C 0 x_Pl_init_20 rfl ?_
  refine z_bipush C rfl x_Pl_init_21 ?_
  refine z_newaI (n := 78) (n' := 79) (cl' := 3) (sl' := 360) C x_Pl_init_23 ac_int rfl (i_le rfl) ck_78 rfl rfl rfl ⟨i_le rfl, i_le rfl⟩ ?_
  refine z_putDr (j := 6) (q := 78) C x_Pl_init_25 (i_lt rfl) ck_75 cw_6 (i_lt rfl) rfl rfl (Or.inr ⟨_, rfl⟩) rfl hin2 rfl fl_Pl_20 ?_
  refine z_aload_n C 0 x_Pl_init_28 rfl ?_
  refine z_bipush C rfl x_Pl_init_29 ?_
  refine z_newaI (n := 79) (n' := 80) (cl' := 4) (sl' := 368) C x_Pl_init_31 ac_int rfl (i_le rfl) ck_79 rfl rfl rfl ⟨i_le rfl, i_le rfl⟩ ?_
  refine z_putDr (j := 7) (q := 79) C x_Pl_init_33 (i_lt rfl) ck_75 cw_6 (i_lt rfl) rfl rfl (Or.inr ⟨_, rfl⟩) rfl hin2 rfl fl_Pl_23 ?_
  refine z_aload_n C 0 x_Pl_init_36 rfl ?_
  refine z_bipush C rfl x_Pl_init_37 ?_
  refine z_newaI (n := 80) (n' := 81) (cl' := 5) (sl' := 376) C x_Pl_init_39 ac_int rfl (i_le rfl) ck_80 rfl rfl rfl ⟨i_le rfl, i_le rfl⟩ ?_
  refine z_putDr (j := 8) (q := 80) C x_Pl_init_41 (i_lt rfl) ck_75 cw_6 (i_lt rfl) rfl rfl (Or.inr ⟨_, rfl⟩) rfl hin2 rfl fl_Pl_26 ?_
  refine z_aload_n C 0 x_Pl_init_44 rfl ?_
  refine z_sipush C rfl x_Pl_init_45 ?_
  refine z_newaI (n := 81) (n' := 82) (cl' := 6) (sl' := 976) C x_Pl_init_48 ac_int rfl (i_le rfl) ck_81 rfl rfl rfl ⟨i_le rfl, i_le rfl⟩ ?_
  refine z_putDr (j := 9) (q := 81) C x_Pl_init_50 (i_lt rfl) ck_75 cw_6 (i_lt rfl) rfl rfl (Or.inr ⟨_, rfl⟩) rfl hin2 rfl fl_Pl_29 ?_
  refine z_aload_n C 0 x_Pl_init_53 rfl ?_
  refine z_sipush C rfl x_Pl_init_54 ?_
  refine z_newaJ (n := 82) (n' := 83) (cl' := 7) (sl' := 3376) C x_Pl_init_57 ac_long rfl (i_le rfl) ck_82 rfl rfl rfl ⟨i_le rfl, i_le rfl⟩ ?_
  refine z_putDr (j := 11) (q := 82) C x_Pl_init_59 (i_lt rfl) ck_75 cw_6 (i_lt rfl) rfl rfl (Or.inr ⟨_, rfl⟩) rfl hin2 rfl fl_Pl_32 ?_
  refine z_aload_n C 0 x_Pl_init_62 rfl ?_
  refine z_bipush C rfl x_Pl_init_63 ?_
  refine z_newaI (n := 83) (n' := 84) (cl' := 8) (sl' := 3384) C x_Pl_init_65 ac_int rfl (i_le rfl) ck_83 rfl rfl rfl ⟨i_le rfl, i_le rfl⟩ ?_
  refine z_putDr (j := 12) (q := 83) C x_Pl_init_67 (i_lt rfl) ck_75 cw_6 (i_lt rfl) rfl rfl (Or.inr ⟨_, rfl⟩) rfl hin2 rfl fl_Pl_36 ?_
  refine z_aload_n C 0 x_Pl_init_70 rfl ?_
  refine z_bipush C rfl x_Pl_init_71 ?_
  refine z_newaI (n := 84) (n' := 85) (cl' := 9) (sl' := 3464) C x_Pl_init_73 ac_int rfl (i_le rfl) ck_84 rfl rfl rfl ⟨i_le rfl, i_le rfl⟩ ?_
  refine z_putDr (j := 13) (q := 84) C x_Pl_init_75 (i_lt rfl) ck_75 cw_6 (i_lt rfl) rfl rfl (Or.inr ⟨_, rfl⟩) rfl hin2 rfl fl_Pl_39 ?_
  refine z_aload_n C 0 x_Pl_init_78 rfl ?_
  refine z_bipush C rfl x_Pl_init_79 ?_
  refine z_newaJ (n := 85) (n' := 86) (cl' := 10) (sl' := 3484) C x_Pl_init_81 ac_long rfl (i_le rfl) ck_85 rfl rfl rfl ⟨i_le rfl, i_le rfl⟩ ?_
  refine z_putDr (j := 15) (q := 85) C x_Pl_init_83 (i_lt rfl) ck_75 cw_6 (i_lt rfl) rfl rfl (Or.inr ⟨_, rfl⟩) rfl hin2 rfl fl_Pl_42 ?_
  refine z_aload_n C 0 x_Pl_init_86 rfl ?_
  refine z_bipush C rfl x_Pl_init_87 ?_
  refine z_newaJ (n := 86) (n' := 87) (cl' := 11) (sl' := 3504) C x_Pl_init_89 ac_long rfl (i_le rfl) ck_86 rfl rfl rfl ⟨i_le rfl, i_le rfl⟩ ?_
  refine z_putDr (j := 16) (q := 86) C x_Pl_init_91 (i_lt rfl) ck_75 cw_6 (i_lt rfl) rfl rfl (Or.inr ⟨_, rfl⟩) rfl hin2 rfl fl_Pl_45 ?_
  refine z_aload_n C 0 x_Pl_init_94 rfl ?_
  refine z_bipush C rfl x_Pl_init_95 ?_
  refine z_newaJ (n := 87) (n' := 88) (cl' := 12) (sl' := 3524) C x_Pl_init_97 ac_long rfl (i_le rfl) ck_87 rfl rfl rfl ⟨i_le rfl, i_le rfl⟩ ?_
  refine z_putDr (j := 17) (q := 87) C x_Pl_init_99 (i_lt rfl) ck_75 cw_6 (i_lt rfl) rfl rfl (Or.inr ⟨_, rfl⟩) rfl hin2 rfl fl_Pl_48 ?_
  refine z_aload_n C 0 x_Pl_init_102 rfl ?_
  refine z_aload_n C 1 x_Pl_init_103 rfl ?_
  refine z_putDr (j := 0) (q := 5) C x_Pl_init_104 (i_lt rfl) ck_75 cw_6 (i_lt rfl) rfl rfl (Or.inl ⟨_, rfl⟩) rfl hin2 rfl fl_Pl_51 ?_
  refine z_aload_n C 0 x_Pl_init_107 rfl ?_
  refine z_aload_n C 2 x_Pl_init_108 rfl ?_
  refine z_putDr (j := 1) (q := 15) C x_Pl_init_109 (i_lt rfl) ck_75 cw_6 (i_lt rfl) rfl rfl (Or.inl ⟨_, rfl⟩) rfl hin2 rfl fl_Pl_55 ?_
  refine z_aload_n C 0 x_Pl_init_112 rfl ?_
  refine z_aload_n C 3 x_Pl_init_113 rfl ?_
  refine z_putDr (j := 2) (q := 32) C x_Pl_init_114 (i_lt rfl) ck_75 cw_6 (i_lt rfl) rfl rfl (Or.inl ⟨_, rfl⟩) rfl hin2 rfl fl_Pl_59 ?_
  exact z_vretD C x_Pl_init_117
theorem x_Py_init_0 : DC b_Py_init 0 (.aload_n 0) 1 1 := ⟨by decide +kernel, rfl⟩
theorem x_Py_init_1 : DC b_Py_init 1 (.invokespecial 3) 3 4 := ⟨by decide +kernel, rfl⟩
theorem x_Py_init_4 : DC b_Py_init 4 (.aload_n 0) 1 5 := ⟨by decide +kernel, rfl⟩
theorem x_Py_init_5 : DC b_Py_init 5 (.sipush 520) 3 8 := ⟨by decide +kernel, rfl⟩
theorem x_Py_init_8 : DC b_Py_init 8 (.newarray .int) 2 10 := ⟨by decide +kernel, rfl⟩
theorem x_Py_init_10 : DC b_Py_init 10 (.putfield 9) 3 13 := ⟨by decide +kernel, rfl⟩
theorem x_Py_init_13 : DC b_Py_init 13 (.aload_n 0) 1 14 := ⟨by decide +kernel, rfl⟩
theorem x_Py_init_14 : DC b_Py_init 14 (.bipush 10) 2 16 := ⟨by decide +kernel, rfl⟩
theorem x_Py_init_16 : DC b_Py_init 16 (.putfield 15) 3 19 := ⟨by decide +kernel, rfl⟩
theorem x_Py_init_19 : DC b_Py_init 19 (.aload_n 0) 1 20 := ⟨by decide +kernel, rfl⟩
theorem x_Py_init_20 : DC b_Py_init 20 (.iconst 2) 1 21 := ⟨by decide +kernel, rfl⟩
theorem x_Py_init_21 : DC b_Py_init 21 (.putfield 19) 3 24 := ⟨by decide +kernel, rfl⟩
theorem x_Py_init_24 : DC b_Py_init 24 (.aload_n 0) 1 25 := ⟨by decide +kernel, rfl⟩
theorem x_Py_init_25 : DC b_Py_init 25 (.bipush 20) 2 27 := ⟨by decide +kernel, rfl⟩
theorem x_Py_init_27 : DC b_Py_init 27 (.newarray .long) 2 29 := ⟨by decide +kernel, rfl⟩
theorem x_Py_init_29 : DC b_Py_init 29 (.putfield 22) 3 32 := ⟨by decide +kernel, rfl⟩
theorem x_Py_init_32 : DC b_Py_init 32 (.aload_n 0) 1 33 := ⟨by decide +kernel, rfl⟩
theorem x_Py_init_33 : DC b_Py_init 33 (.bipush 20) 2 35 := ⟨by decide +kernel, rfl⟩
theorem x_Py_init_35 : DC b_Py_init 35 (.newarray .long) 2 37 := ⟨by decide +kernel, rfl⟩
theorem x_Py_init_37 : DC b_Py_init 37 (.putfield 26) 3 40 := ⟨by decide +kernel, rfl⟩
theorem x_Py_init_40 : DC b_Py_init 40 (.aload_n 0) 1 41 := ⟨by decide +kernel, rfl⟩
theorem x_Py_init_41 : DC b_Py_init 41 (.bipush 6) 2 43 := ⟨by decide +kernel, rfl⟩
theorem x_Py_init_43 : DC b_Py_init 43 (.newarray .long) 2 45 := ⟨by decide +kernel, rfl⟩
theorem x_Py_init_45 : DC b_Py_init 45 (.putfield 29) 3 48 := ⟨by decide +kernel, rfl⟩
theorem x_Py_init_48 : DC b_Py_init 48 (.aload_n 0) 1 49 := ⟨by decide +kernel, rfl⟩
theorem x_Py_init_49 : DC b_Py_init 49 (.bipush 6) 2 51 := ⟨by decide +kernel, rfl⟩
theorem x_Py_init_51 : DC b_Py_init 51 (.newarray .long) 2 53 := ⟨by decide +kernel, rfl⟩
theorem x_Py_init_53 : DC b_Py_init 53 (.putfield 32) 3 56 := ⟨by decide +kernel, rfl⟩
theorem x_Py_init_56 : DC b_Py_init 56 (.aload_n 0) 1 57 := ⟨by decide +kernel, rfl⟩
theorem x_Py_init_57 : DC b_Py_init 57 (.bipush 120) 2 59 := ⟨by decide +kernel, rfl⟩
theorem x_Py_init_59 : DC b_Py_init 59 (.newarray .long) 2 61 := ⟨by decide +kernel, rfl⟩
theorem x_Py_init_61 : DC b_Py_init 61 (.putfield 35) 3 64 := ⟨by decide +kernel, rfl⟩
theorem x_Py_init_64 : DC b_Py_init 64 (.aload_n 0) 1 65 := ⟨by decide +kernel, rfl⟩
theorem x_Py_init_65 : DC b_Py_init 65 (.bipush 20) 2 67 := ⟨by decide +kernel, rfl⟩
theorem x_Py_init_67 : DC b_Py_init 67 (.newarray .long) 2 69 := ⟨by decide +kernel, rfl⟩
theorem x_Py_init_69 : DC b_Py_init 69 (.putfield 38) 3 72 := ⟨by decide +kernel, rfl⟩
theorem x_Py_init_72 : DC b_Py_init 72 (.aload_n 0) 1 73 := ⟨by decide +kernel, rfl⟩
theorem x_Py_init_73 : DC b_Py_init 73 (.bipush 20) 2 75 := ⟨by decide +kernel, rfl⟩
theorem x_Py_init_75 : DC b_Py_init 75 (.newarray .long) 2 77 := ⟨by decide +kernel, rfl⟩
theorem x_Py_init_77 : DC b_Py_init 77 (.putfield 41) 3 80 := ⟨by decide +kernel, rfl⟩
theorem x_Py_init_80 : DC b_Py_init 80 (.aload_n 0) 1 81 := ⟨by decide +kernel, rfl⟩
theorem x_Py_init_81 : DC b_Py_init 81 (.bipush 20) 2 83 := ⟨by decide +kernel, rfl⟩
theorem x_Py_init_83 : DC b_Py_init 83 (.newarray .long) 2 85 := ⟨by decide +kernel, rfl⟩
theorem x_Py_init_85 : DC b_Py_init 85 (.putfield 44) 3 88 := ⟨by decide +kernel, rfl⟩
theorem x_Py_init_88 : DC b_Py_init 88 (.aload_n 0) 1 89 := ⟨by decide +kernel, rfl⟩
theorem x_Py_init_89 : DC b_Py_init 89 (.aload_n 1) 1 90 := ⟨by decide +kernel, rfl⟩
theorem x_Py_init_90 : DC b_Py_init 90 (.putfield 47) 3 93 := ⟨by decide +kernel, rfl⟩
theorem x_Py_init_93 : DC b_Py_init 93 (.aload_n 0) 1 94 := ⟨by decide +kernel, rfl⟩
theorem x_Py_init_94 : DC b_Py_init 94 (.aload_n 2) 1 95 := ⟨by decide +kernel, rfl⟩
theorem x_Py_init_95 : DC b_Py_init 95 (.putfield 51) 3 98 := ⟨by decide +kernel, rfl⟩
theorem x_Py_init_98 : DC b_Py_init 98 (.return_) 1 99 := ⟨by decide +kernel, rfl⟩
def i_Py (M : Mem) : Mem := sto (sto (sto (sto (sto (sto (sto (sto (sto (sto (sto (sto (sto (M) 88 0 (((89 : Nat) : Int) + 1)) 88 1 10) 88 2 2) 88 3 (((90 : Nat) : Int) + 1)) 88 6 (((91 : Nat) : Int) + 1)) 88 9 (((92 : Nat) : Int) + 1)) 88 10 (((93 : Nat) : Int) + 1)) 88 11 (((94 : Nat) : Int) + 1)) 88 12 (((95 : Nat) : Int) + 1)) 88 13 (((96 : Nat) : Int) + 1)) 88 14 (((97 : Nat) : Int) + 1)) 88 7 (((75 : Nat) : Int) + 1)) 88 8 (((32 : Nat) : Int) + 1)
theorem c_Py_init (l : Launch) (G : GX) {lev : Nat} (hlev : 1 ≤ lev) {M : Mem} : MtD l G y_Py_init b_Py_init 3 lev 9 752 [.ref (G.1 + 88), .ref (G.1 + 75), .ref (G.1 + 32)] 89 M 98 (i_Py M) := by
  refine MtD.of (by decide) rfl (i_le rfl) ?_
  intro p e s m args below meth c C hin2
  have C : Cx p s m args meth c G b_Py_init 3 "PrairiePool$Payments" none := C
  refine z_sub (lv' := [(0, .ref (G.1 + 88)), (1, .ref (G.1 + 75)), (2, .ref (G.1 + 32))]) [0, 1, 2] rfl ?_
  refine z_aload_n C 0 x_Py_init_0 rfl ?_
  refine z_objD C x_Py_init_1 ol_Py ob_in ob_co (i_le rfl) (by unfold rmD; dsimp only; omega) ?_
  refine z_aload_n C 0 x_Py_init_4 rfl ?_
  refine z_sipush C rfl x_Py_init_5 ?_
  refine z_newaI (n := 89) (n' := 90) (cl' := 1) (sl' := 520) C x_Py_init_8 ac_int rfl (i_le rfl) ck_89 rfl rfl rfl ⟨i_le rfl, i_le rfl⟩ ?_
  refine z_putDr (j := 0) (q := 89) C x_Py_init_10 (i_lt rfl) ck_88 cw_5 (i_lt rfl) rfl rfl (Or.inr ⟨_, rfl⟩) rfl hin2 rfl fl_Py_9 ?_
  refine z_aload_n C 0 x_Py_init_13 rfl ?_
  refine z_bipush C rfl x_Py_init_14 ?_
  refine z_putDi (j := 1) C x_Py_init_16 (i_lt rfl) ck_88 cw_5 (i_lt rfl) rfl rfl rfl rfl fl_Py_15 ?_
  refine z_aload_n C 0 x_Py_init_19 rfl ?_
  refine z_iconst C x_Py_init_20 ?_
  refine z_putDi (j := 2) C x_Py_init_21 (i_lt rfl) ck_88 cw_5 (i_lt rfl) rfl rfl rfl rfl fl_Py_19 ?_
  refine z_aload_n C 0 x_Py_init_24 rfl ?_
  refine z_bipush C rfl x_Py_init_25 ?_
  refine z_newaJ (n := 90) (n' := 91) (cl' := 2) (sl' := 540) C x_Py_init_27 ac_long rfl (i_le rfl) ck_90 rfl rfl rfl ⟨i_le rfl, i_le rfl⟩ ?_
  refine z_putDr (j := 3) (q := 90) C x_Py_init_29 (i_lt rfl) ck_88 cw_5 (i_lt rfl) rfl rfl (Or.inr ⟨_, rfl⟩) rfl hin2 rfl fl_Py_22 ?_
  refine z_aload_n C 0 x_Py_init_32 rfl ?_
  refine z_bipush C rfl x_Py_init_33 ?_
  refine z_newaJ (n := 91) (n' := 92) (cl' := 3) (sl' := 560) C x_Py_init_35 ac_long rfl (i_le rfl) ck_91 rfl rfl rfl ⟨i_le rfl, i_le rfl⟩ ?_
  refine z_putDr (j := 6) (q := 91) C x_Py_init_37 (i_lt rfl) ck_88 cw_5 (i_lt rfl) rfl rfl (Or.inr ⟨_, rfl⟩) rfl hin2 rfl fl_Py_26 ?_
  refine z_aload_n C 0 x_Py_init_40 rfl ?_
  refine z_bipush C rfl x_Py_init_41 ?_
  refine z_newaJ (n := 92) (n' := 93) (cl' := 4) (sl' := 566) C x_Py_init_43 ac_long rfl (i_le rfl) ck_92 rfl rfl rfl ⟨i_le rfl, i_le rfl⟩ ?_
  refine z_putDr (j := 9) (q := 92) C x_Py_init_45 (i_lt rfl) ck_88 cw_5 (i_lt rfl) rfl rfl (Or.inr ⟨_, rfl⟩) rfl hin2 rfl fl_Py_29 ?_
  refine z_aload_n C 0 x_Py_init_48 rfl ?_
  refine z_bipush C rfl x_Py_init_49 ?_
  refine z_newaJ (n := 93) (n' := 94) (cl' := 5) (sl' := 572) C x_Py_init_51 ac_long rfl (i_le rfl) ck_93 rfl rfl rfl ⟨i_le rfl, i_le rfl⟩ ?_
  refine z_putDr (j := 10) (q := 93) C x_Py_init_53 (i_lt rfl) ck_88 cw_5 (i_lt rfl) rfl rfl (Or.inr ⟨_, rfl⟩) rfl hin2 rfl fl_Py_32 ?_
  refine z_aload_n C 0 x_Py_init_56 rfl ?_
  refine z_bipush C rfl x_Py_init_57 ?_
  refine z_newaJ (n := 94) (n' := 95) (cl' := 6) (sl' := 692) C x_Py_init_59 ac_long rfl (i_le rfl) ck_94 rfl rfl rfl ⟨i_le rfl, i_le rfl⟩ ?_
  refine z_putDr (j := 11) (q := 94) C x_Py_init_61 (i_lt rfl) ck_88 cw_5 (i_lt rfl) rfl rfl (Or.inr ⟨_, rfl⟩) rfl hin2 rfl fl_Py_35 ?_
  refine z_aload_n C 0 x_Py_init_64 rfl ?_
  refine z_bipush C rfl x_Py_init_65 ?_
  refine z_newaJ (n := 95) (n' := 96) (cl' := 7) (sl' := 712) C x_Py_init_67 ac_long rfl (i_le rfl) ck_95 rfl rfl rfl ⟨i_le rfl, i_le rfl⟩ ?_
  refine z_putDr (j := 12) (q := 95) C x_Py_init_69 (i_lt rfl) ck_88 cw_5 (i_lt rfl) rfl rfl (Or.inr ⟨_, rfl⟩) rfl hin2 rfl fl_Py_38 ?_
  refine z_aload_n C 0 x_Py_init_72 rfl ?_
  refine z_bipush C rfl x_Py_init_73 ?_
  refine z_newaJ (n := 96) (n' := 97) (cl' := 8) (sl' := 732) C x_Py_init_75 ac_long rfl (i_le rfl) ck_96 rfl rfl rfl ⟨i_le rfl, i_le rfl⟩ ?_
  refine z_putDr (j := 13) (q := 96) C x_Py_init_77 (i_lt rfl) ck_88 cw_5 (i_lt rfl) rfl rfl (Or.inr ⟨_, rfl⟩) rfl hin2 rfl fl_Py_41 ?_
  refine z_aload_n C 0 x_Py_init_80 rfl ?_
  refine z_bipush C rfl x_Py_init_81 ?_
  refine z_newaJ (n := 97) (n' := 98) (cl' := 9) (sl' := 752) C x_Py_init_83 ac_long rfl (i_le rfl) ck_97 rfl rfl rfl ⟨i_le rfl, i_le rfl⟩ ?_
  refine z_putDr (j := 14) (q := 97) C x_Py_init_85 (i_lt rfl) ck_88 cw_5 (i_lt rfl) rfl rfl (Or.inr ⟨_, rfl⟩) rfl hin2 rfl fl_Py_44 ?_
  refine z_aload_n C 0 x_Py_init_88 rfl ?_
  refine z_aload_n C 1 x_Py_init_89 rfl ?_
  refine z_putDr (j := 7) (q := 75) C x_Py_init_90 (i_lt rfl) ck_88 cw_5 (i_lt rfl) rfl rfl (Or.inl ⟨_, rfl⟩) rfl hin2 rfl fl_Py_47 ?_
  refine z_aload_n C 0 x_Py_init_93 rfl ?_
  refine z_aload_n C 2 x_Py_init_94 rfl ?_
  refine z_putDr (j := 8) (q := 32) C x_Py_init_95 (i_lt rfl) ck_88 cw_5 (i_lt rfl) rfl rfl (Or.inl ⟨_, rfl⟩) rfl hin2 rfl fl_Py_51 ?_
  exact z_vretD C x_Py_init_98
theorem x_Ou_init_0 : DC b_Ou_init 0 (.aload_n 0) 1 1 := ⟨by decide +kernel, rfl⟩
theorem x_Ou_init_1 : DC b_Ou_init 1 (.invokespecial 3) 3 4 := ⟨by decide +kernel, rfl⟩
theorem x_Ou_init_4 : DC b_Ou_init 4 (.aload_n 0) 1 5 := ⟨by decide +kernel, rfl⟩
theorem x_Ou_init_5 : DC b_Ou_init 5 (.bipush 60) 2 7 := ⟨by decide +kernel, rfl⟩
theorem x_Ou_init_7 : DC b_Ou_init 7 (.newarray .int) 2 9 := ⟨by decide +kernel, rfl⟩
theorem x_Ou_init_9 : DC b_Ou_init 9 (.putfield 11) 3 12 := ⟨by decide +kernel, rfl⟩
theorem x_Ou_init_12 : DC b_Ou_init 12 (.aload_n 0) 1 13 := ⟨by decide +kernel, rfl⟩
theorem x_Ou_init_13 : DC b_Ou_init 13 (.bipush 60) 2 15 := ⟨by decide +kernel, rfl⟩
theorem x_Ou_init_15 : DC b_Ou_init 15 (.newarray .int) 2 17 := ⟨by decide +kernel, rfl⟩
theorem x_Ou_init_17 : DC b_Ou_init 17 (.putfield 15) 3 20 := ⟨by decide +kernel, rfl⟩
theorem x_Ou_init_20 : DC b_Ou_init 20 (.aload_n 0) 1 21 := ⟨by decide +kernel, rfl⟩
theorem x_Ou_init_21 : DC b_Ou_init 21 (.bipush 60) 2 23 := ⟨by decide +kernel, rfl⟩
theorem x_Ou_init_23 : DC b_Ou_init 23 (.newarray .int) 2 25 := ⟨by decide +kernel, rfl⟩
theorem x_Ou_init_25 : DC b_Ou_init 25 (.putfield 18) 3 28 := ⟨by decide +kernel, rfl⟩
theorem x_Ou_init_28 : DC b_Ou_init 28 (.aload_n 0) 1 29 := ⟨by decide +kernel, rfl⟩
theorem x_Ou_init_29 : DC b_Ou_init 29 (.bipush 60) 2 31 := ⟨by decide +kernel, rfl⟩
theorem x_Ou_init_31 : DC b_Ou_init 31 (.newarray .int) 2 33 := ⟨by decide +kernel, rfl⟩
theorem x_Ou_init_33 : DC b_Ou_init 33 (.putfield 21) 3 36 := ⟨by decide +kernel, rfl⟩
theorem x_Ou_init_36 : DC b_Ou_init 36 (.aload_n 0) 1 37 := ⟨by decide +kernel, rfl⟩
theorem x_Ou_init_37 : DC b_Ou_init 37 (.aload_n 1) 1 38 := ⟨by decide +kernel, rfl⟩
theorem x_Ou_init_38 : DC b_Ou_init 38 (.putfield 24) 3 41 := ⟨by decide +kernel, rfl⟩
theorem x_Ou_init_41 : DC b_Ou_init 41 (.aload_n 0) 1 42 := ⟨by decide +kernel, rfl⟩
theorem x_Ou_init_42 : DC b_Ou_init 42 (.aload_n 2) 1 43 := ⟨by decide +kernel, rfl⟩
theorem x_Ou_init_43 : DC b_Ou_init 43 (.putfield 28) 3 46 := ⟨by decide +kernel, rfl⟩
theorem x_Ou_init_46 : DC b_Ou_init 46 (.return_) 1 47 := ⟨by decide +kernel, rfl⟩
def i_Ou (M : Mem) : Mem := sto (sto (sto (sto (sto (sto (M) 98 3 (((99 : Nat) : Int) + 1)) 98 4 (((100 : Nat) : Int) + 1)) 98 5 (((101 : Nat) : Int) + 1)) 98 6 (((102 : Nat) : Int) + 1)) 98 1 (((5 : Nat) : Int) + 1)) 98 2 (((32 : Nat) : Int) + 1)
theorem c_Ou_init (l : Launch) (G : GX) {lev : Nat} (hlev : 1 ≤ lev) {M : Mem} : MtD l G y_Ou_init b_Ou_init 3 lev 4 240 [.ref (G.1 + 98), .ref (G.1 + 5), .ref (G.1 + 32)] 99 M 103 (i_Ou M) := by
  refine MtD.of (by decide) rfl (i_le rfl) ?_
  intro p e s m args below meth c C hin2
  have C : Cx p s m args meth c G b_Ou_init 3 "PrairiePool$Outsides" none := C
  refine z_sub (lv' := [(0, .ref (G.1 + 98)), (1, .ref (G.1 + 5)), (2, .ref (G.1 + 32))]) [0, 1, 2] rfl ?_
  refine z_aload_n C 0 x_Ou_init_0 rfl ?_
  refine z_objD C x_Ou_init_1 ol_Ou ob_in ob_co (i_le rfl) (by unfold rmD; dsimp only; omega) ?_
  refine z_aload_n C 0 x_Ou_init_4 rfl ?_
  refine z_bipush C rfl x_Ou_init_5 ?_
  refine z_newaI (n := 99) (n' := 100) (cl' := 1) (sl' := 60) C x_Ou_init_7 ac_int rfl (i_le rfl) ck_99 rfl rfl rfl ⟨i_le rfl, i_le rfl⟩ ?_
  refine z_putDr (j := 3) (q := 99) C x_Ou_init_9 (i_lt rfl) ck_98 cw_3 (i_lt rfl) rfl rfl (Or.inr ⟨_, rfl⟩) rfl hin2 rfl fl_Ou_11 ?_
  refine z_aload_n C 0 x_Ou_init_12 rfl ?_
  refine z_bipush C rfl x_Ou_init_13 ?_
  refine z_newaI (n := 100) (n' := 101) (cl' := 2) (sl' := 120) C x_Ou_init_15 ac_int rfl (i_le rfl) ck_100 rfl rfl rfl ⟨i_le rfl, i_le rfl⟩ ?_
  refine z_putDr (j := 4) (q := 100) C x_Ou_init_17 (i_lt rfl) ck_98 cw_3 (i_lt rfl) rfl rfl (Or.inr ⟨_, rfl⟩) rfl hin2 rfl fl_Ou_15 ?_
  refine z_aload_n C 0 x_Ou_init_20 rfl ?_
  refine z_bipush C rfl x_Ou_init_21 ?_
  refine z_newaI (n := 101) (n' := 102) (cl' := 3) (sl' := 180) C x_Ou_init_23 ac_int rfl (i_le rfl) ck_101 rfl rfl rfl ⟨i_le rfl, i_le rfl⟩ ?_
  refine z_putDr (j := 5) (q := 101) C x_Ou_init_25 (i_lt rfl) ck_98 cw_3 (i_lt rfl) rfl rfl (Or.inr ⟨_, rfl⟩) rfl hin2 rfl fl_Ou_18 ?_
  refine z_aload_n C 0 x_Ou_init_28 rfl ?_
  refine z_bipush C rfl x_Ou_init_29 ?_
  refine z_newaI (n := 102) (n' := 103) (cl' := 4) (sl' := 240) C x_Ou_init_31 ac_int rfl (i_le rfl) ck_102 rfl rfl rfl ⟨i_le rfl, i_le rfl⟩ ?_
  refine z_putDr (j := 6) (q := 102) C x_Ou_init_33 (i_lt rfl) ck_98 cw_3 (i_lt rfl) rfl rfl (Or.inr ⟨_, rfl⟩) rfl hin2 rfl fl_Ou_21 ?_
  refine z_aload_n C 0 x_Ou_init_36 rfl ?_
  refine z_aload_n C 1 x_Ou_init_37 rfl ?_
  refine z_putDr (j := 1) (q := 5) C x_Ou_init_38 (i_lt rfl) ck_98 cw_3 (i_lt rfl) rfl rfl (Or.inl ⟨_, rfl⟩) rfl hin2 rfl fl_Ou_24 ?_
  refine z_aload_n C 0 x_Ou_init_41 rfl ?_
  refine z_aload_n C 2 x_Ou_init_42 rfl ?_
  refine z_putDr (j := 2) (q := 32) C x_Ou_init_43 (i_lt rfl) ck_98 cw_3 (i_lt rfl) rfl rfl (Or.inl ⟨_, rfl⟩) rfl hin2 rfl fl_Ou_28 ?_
  exact z_vretD C x_Ou_init_46
theorem x_Ba_init_0 : DC b_Ba_init 0 (.aload_n 0) 1 1 := ⟨by decide +kernel, rfl⟩
theorem x_Ba_init_1 : DC b_Ba_init 1 (.invokespecial 3) 3 4 := ⟨by decide +kernel, rfl⟩
theorem x_Ba_init_4 : DC b_Ba_init 4 (.aload_n 0) 1 5 := ⟨by decide +kernel, rfl⟩
theorem x_Ba_init_5 : DC b_Ba_init 5 (.bipush 6) 2 7 := ⟨by decide +kernel, rfl⟩
theorem x_Ba_init_7 : DC b_Ba_init 7 (.newarray .int) 2 9 := ⟨by decide +kernel, rfl⟩
theorem x_Ba_init_9 : DC b_Ba_init 9 (.putfield 9) 3 12 := ⟨by decide +kernel, rfl⟩
theorem x_Ba_init_12 : DC b_Ba_init 12 (.aload_n 0) 1 13 := ⟨by decide +kernel, rfl⟩
theorem x_Ba_init_13 : DC b_Ba_init 13 (.bipush 20) 2 15 := ⟨by decide +kernel, rfl⟩
theorem x_Ba_init_15 : DC b_Ba_init 15 (.newarray .int) 2 17 := ⟨by decide +kernel, rfl⟩
theorem x_Ba_init_17 : DC b_Ba_init 17 (.putfield 15) 3 20 := ⟨by decide +kernel, rfl⟩
theorem x_Ba_init_20 : DC b_Ba_init 20 (.aload_n 0) 1 21 := ⟨by decide +kernel, rfl⟩
theorem x_Ba_init_21 : DC b_Ba_init 21 (.bipush 20) 2 23 := ⟨by decide +kernel, rfl⟩
theorem x_Ba_init_23 : DC b_Ba_init 23 (.newarray .int) 2 25 := ⟨by decide +kernel, rfl⟩
theorem x_Ba_init_25 : DC b_Ba_init 25 (.putfield 18) 3 28 := ⟨by decide +kernel, rfl⟩
theorem x_Ba_init_28 : DC b_Ba_init 28 (.aload_n 0) 1 29 := ⟨by decide +kernel, rfl⟩
theorem x_Ba_init_29 : DC b_Ba_init 29 (.bipush 20) 2 31 := ⟨by decide +kernel, rfl⟩
theorem x_Ba_init_31 : DC b_Ba_init 31 (.newarray .boolean) 2 33 := ⟨by decide +kernel, rfl⟩
theorem x_Ba_init_33 : DC b_Ba_init 33 (.putfield 21) 3 36 := ⟨by decide +kernel, rfl⟩
theorem x_Ba_init_36 : DC b_Ba_init 36 (.aload_n 0) 1 37 := ⟨by decide +kernel, rfl⟩
theorem x_Ba_init_37 : DC b_Ba_init 37 (.bipush 6) 2 39 := ⟨by decide +kernel, rfl⟩
theorem x_Ba_init_39 : DC b_Ba_init 39 (.newarray .int) 2 41 := ⟨by decide +kernel, rfl⟩
theorem x_Ba_init_41 : DC b_Ba_init 41 (.putfield 25) 3 44 := ⟨by decide +kernel, rfl⟩
theorem x_Ba_init_44 : DC b_Ba_init 44 (.aload_n 0) 1 45 := ⟨by decide +kernel, rfl⟩
theorem x_Ba_init_45 : DC b_Ba_init 45 (.bipush 13) 2 47 := ⟨by decide +kernel, rfl⟩
theorem x_Ba_init_47 : DC b_Ba_init 47 (.newarray .int) 2 49 := ⟨by decide +kernel, rfl⟩
theorem x_Ba_init_49 : DC b_Ba_init 49 (.putfield 28) 3 52 := ⟨by decide +kernel, rfl⟩
theorem x_Ba_init_52 : DC b_Ba_init 52 (.aload_n 0) 1 53 := ⟨by decide +kernel, rfl⟩
theorem x_Ba_init_53 : DC b_Ba_init 53 (.bipush 13) 2 55 := ⟨by decide +kernel, rfl⟩
theorem x_Ba_init_55 : DC b_Ba_init 55 (.newarray .int) 2 57 := ⟨by decide +kernel, rfl⟩
theorem x_Ba_init_57 : DC b_Ba_init 57 (.putfield 31) 3 60 := ⟨by decide +kernel, rfl⟩
theorem x_Ba_init_60 : DC b_Ba_init 60 (.aload_n 0) 1 61 := ⟨by decide +kernel, rfl⟩
theorem x_Ba_init_61 : DC b_Ba_init 61 (.aload_n 1) 1 62 := ⟨by decide +kernel, rfl⟩
theorem x_Ba_init_62 : DC b_Ba_init 62 (.putfield 34) 3 65 := ⟨by decide +kernel, rfl⟩
theorem x_Ba_init_65 : DC b_Ba_init 65 (.aload_n 0) 1 66 := ⟨by decide +kernel, rfl⟩
theorem x_Ba_init_66 : DC b_Ba_init 66 (.aload_n 2) 1 67 := ⟨by decide +kernel, rfl⟩
theorem x_Ba_init_67 : DC b_Ba_init 67 (.putfield 38) 3 70 := ⟨by decide +kernel, rfl⟩
theorem x_Ba_init_70 : DC b_Ba_init 70 (.return_) 1 71 := ⟨by decide +kernel, rfl⟩
def i_Ba (M : Mem) : Mem := sto (sto (sto (sto (sto (sto (sto (sto (sto (M) 103 0 (((104 : Nat) : Int) + 1)) 103 3 (((105 : Nat) : Int) + 1)) 103 4 (((106 : Nat) : Int) + 1)) 103 5 (((107 : Nat) : Int) + 1)) 103 6 (((108 : Nat) : Int) + 1)) 103 7 (((109 : Nat) : Int) + 1)) 103 8 (((110 : Nat) : Int) + 1)) 103 1 (((5 : Nat) : Int) + 1)) 103 2 (((32 : Nat) : Int) + 1)
theorem c_Ba_init (l : Launch) (G : GX) {lev : Nat} (hlev : 1 ≤ lev) {M : Mem} : MtD l G y_Ba_init b_Ba_init 3 lev 7 98 [.ref (G.1 + 103), .ref (G.1 + 5), .ref (G.1 + 32)] 104 M 111 (i_Ba M) := by
  refine MtD.of (by decide) rfl (i_le rfl) ?_
  intro p e s m args below meth c C hin2
  have C : Cx p s m args meth c G b_Ba_init 3 "PrairiePool$Ballot" none := C
  refine z_sub (lv' := [(0, .ref (G.1 + 103)), (1, .ref (G.1 + 5)), (2, .ref (G.1 + 32))]) [0, 1, 2] rfl ?_
  refine z_aload_n C 0 x_Ba_init_0 rfl ?_
  refine z_objD C x_Ba_init_1 ol_Ba ob_in ob_co (i_le rfl) (by unfold rmD; dsimp only; omega) ?_
  refine z_aload_n C 0 x_Ba_init_4 rfl ?_
  refine z_bipush C rfl x_Ba_init_5 ?_
  refine z_newaI (n := 104) (n' := 105) (cl' := 1) (sl' := 6) C x_Ba_init_7 ac_int rfl (i_le rfl) ck_104 rfl rfl rfl ⟨i_le rfl, i_le rfl⟩ ?_
  refine z_putDr (j := 0) (q := 104) C x_Ba_init_9 (i_lt rfl) ck_103 cw_1 (i_lt rfl) rfl rfl (Or.inr ⟨_, rfl⟩) rfl hin2 rfl fl_Ba_9 ?_
  refine z_aload_n C 0 x_Ba_init_12 rfl ?_
  refine z_bipush C rfl x_Ba_init_13 ?_
  refine z_newaI (n := 105) (n' := 106) (cl' := 2) (sl' := 26) C x_Ba_init_15 ac_int rfl (i_le rfl) ck_105 rfl rfl rfl ⟨i_le rfl, i_le rfl⟩ ?_
  refine z_putDr (j := 3) (q := 105) C x_Ba_init_17 (i_lt rfl) ck_103 cw_1 (i_lt rfl) rfl rfl (Or.inr ⟨_, rfl⟩) rfl hin2 rfl fl_Ba_15 ?_
  refine z_aload_n C 0 x_Ba_init_20 rfl ?_
  refine z_bipush C rfl x_Ba_init_21 ?_
  refine z_newaI (n := 106) (n' := 107) (cl' := 3) (sl' := 46) C x_Ba_init_23 ac_int rfl (i_le rfl) ck_106 rfl rfl rfl ⟨i_le rfl, i_le rfl⟩ ?_
  refine z_putDr (j := 4) (q := 106) C x_Ba_init_25 (i_lt rfl) ck_103 cw_1 (i_lt rfl) rfl rfl (Or.inr ⟨_, rfl⟩) rfl hin2 rfl fl_Ba_18 ?_
  refine z_aload_n C 0 x_Ba_init_28 rfl ?_
  refine z_bipush C rfl x_Ba_init_29 ?_
  refine z_newaZ (n := 107) (n' := 108) (cl' := 4) (sl' := 66) C x_Ba_init_31 ac_boolean rfl (i_le rfl) ck_107 rfl rfl rfl ⟨i_le rfl, i_le rfl⟩ ?_
  refine z_putDr (j := 5) (q := 107) C x_Ba_init_33 (i_lt rfl) ck_103 cw_1 (i_lt rfl) rfl rfl (Or.inr ⟨_, rfl⟩) rfl hin2 rfl fl_Ba_21 ?_
  refine z_aload_n C 0 x_Ba_init_36 rfl ?_
  refine z_bipush C rfl x_Ba_init_37 ?_
  refine z_newaI (n := 108) (n' := 109) (cl' := 5) (sl' := 72) C x_Ba_init_39 ac_int rfl (i_le rfl) ck_108 rfl rfl rfl ⟨i_le rfl, i_le rfl⟩ ?_
  refine z_putDr (j := 6) (q := 108) C x_Ba_init_41 (i_lt rfl) ck_103 cw_1 (i_lt rfl) rfl rfl (Or.inr ⟨_, rfl⟩) rfl hin2 rfl fl_Ba_25 ?_
  refine z_aload_n C 0 x_Ba_init_44 rfl ?_
  refine z_bipush C rfl x_Ba_init_45 ?_
  refine z_newaI (n := 109) (n' := 110) (cl' := 6) (sl' := 85) C x_Ba_init_47 ac_int rfl (i_le rfl) ck_109 rfl rfl rfl ⟨i_le rfl, i_le rfl⟩ ?_
  refine z_putDr (j := 7) (q := 109) C x_Ba_init_49 (i_lt rfl) ck_103 cw_1 (i_lt rfl) rfl rfl (Or.inr ⟨_, rfl⟩) rfl hin2 rfl fl_Ba_28 ?_
  refine z_aload_n C 0 x_Ba_init_52 rfl ?_
  refine z_bipush C rfl x_Ba_init_53 ?_
  refine z_newaI (n := 110) (n' := 111) (cl' := 7) (sl' := 98) C x_Ba_init_55 ac_int rfl (i_le rfl) ck_110 rfl rfl rfl ⟨i_le rfl, i_le rfl⟩ ?_
  refine z_putDr (j := 8) (q := 110) C x_Ba_init_57 (i_lt rfl) ck_103 cw_1 (i_lt rfl) rfl rfl (Or.inr ⟨_, rfl⟩) rfl hin2 rfl fl_Ba_31 ?_
  refine z_aload_n C 0 x_Ba_init_60 rfl ?_
  refine z_aload_n C 1 x_Ba_init_61 rfl ?_
  refine z_putDr (j := 1) (q := 5) C x_Ba_init_62 (i_lt rfl) ck_103 cw_1 (i_lt rfl) rfl rfl (Or.inl ⟨_, rfl⟩) rfl hin2 rfl fl_Ba_34 ?_
  refine z_aload_n C 0 x_Ba_init_65 rfl ?_
  refine z_aload_n C 2 x_Ba_init_66 rfl ?_
  refine z_putDr (j := 2) (q := 32) C x_Ba_init_67 (i_lt rfl) ck_103 cw_1 (i_lt rfl) rfl rfl (Or.inl ⟨_, rfl⟩) rfl hin2 rfl fl_Ba_38 ?_
  exact z_vretD C x_Ba_init_70
theorem x_PP_init_0 : DC b_PP_init 0 (.aload_n 0) 1 1 := ⟨by decide +kernel, rfl⟩
theorem x_PP_init_1 : DC b_PP_init 1 (.invokespecial 1) 3 4 := ⟨by decide +kernel, rfl⟩
theorem x_PP_init_4 : DC b_PP_init 4 (.aload_n 0) 1 5 := ⟨by decide +kernel, rfl⟩
theorem x_PP_init_5 : DC b_PP_init 5 (.new 7) 3 8 := ⟨by decide +kernel, rfl⟩
theorem x_PP_init_8 : DC b_PP_init 8 (.dup) 1 9 := ⟨by decide +kernel, rfl⟩
theorem x_PP_init_9 : DC b_PP_init 9 (.invokespecial 9) 3 12 := ⟨by decide +kernel, rfl⟩
theorem x_PP_init_12 : DC b_PP_init 12 (.putfield 10) 3 15 := ⟨by decide +kernel, rfl⟩
theorem x_PP_init_15 : DC b_PP_init 15 (.aload_n 0) 1 16 := ⟨by decide +kernel, rfl⟩
theorem x_PP_init_16 : DC b_PP_init 16 (.new 16) 3 19 := ⟨by decide +kernel, rfl⟩
theorem x_PP_init_19 : DC b_PP_init 19 (.dup) 1 20 := ⟨by decide +kernel, rfl⟩
theorem x_PP_init_20 : DC b_PP_init 20 (.invokespecial 18) 3 23 := ⟨by decide +kernel, rfl⟩
theorem x_PP_init_23 : DC b_PP_init 23 (.putfield 19) 3 26 := ⟨by decide +kernel, rfl⟩
theorem x_PP_init_26 : DC b_PP_init 26 (.aload_n 0) 1 27 := ⟨by decide +kernel, rfl⟩
theorem x_PP_init_27 : DC b_PP_init 27 (.new 23) 3 30 := ⟨by decide +kernel, rfl⟩
theorem x_PP_init_30 : DC b_PP_init 30 (.dup) 1 31 := ⟨by decide +kernel, rfl⟩
theorem x_PP_init_31 : DC b_PP_init 31 (.invokespecial 25) 3 34 := ⟨by decide +kernel, rfl⟩
theorem x_PP_init_34 : DC b_PP_init 34 (.putfield 26) 3 37 := ⟨by decide +kernel, rfl⟩
theorem x_PP_init_37 : DC b_PP_init 37 (.aload_n 0) 1 38 := ⟨by decide +kernel, rfl⟩
theorem x_PP_init_38 : DC b_PP_init 38 (.new 30) 3 41 := ⟨by decide +kernel, rfl⟩
theorem x_PP_init_41 : DC b_PP_init 41 (.dup) 1 42 := ⟨by decide +kernel, rfl⟩
theorem x_PP_init_42 : DC b_PP_init 42 (.invokespecial 32) 3 45 := ⟨by decide +kernel, rfl⟩
theorem x_PP_init_45 : DC b_PP_init 45 (.putfield 33) 3 48 := ⟨by decide +kernel, rfl⟩
theorem x_PP_init_48 : DC b_PP_init 48 (.aload_n 0) 1 49 := ⟨by decide +kernel, rfl⟩
theorem x_PP_init_49 : DC b_PP_init 49 (.new 37) 3 52 := ⟨by decide +kernel, rfl⟩
theorem x_PP_init_52 : DC b_PP_init 52 (.dup) 1 53 := ⟨by decide +kernel, rfl⟩
theorem x_PP_init_53 : DC b_PP_init 53 (.invokespecial 39) 3 56 := ⟨by decide +kernel, rfl⟩
theorem x_PP_init_56 : DC b_PP_init 56 (.putfield 40) 3 59 := ⟨by decide +kernel, rfl⟩
theorem x_PP_init_59 : DC b_PP_init 59 (.aload_n 0) 1 60 := ⟨by decide +kernel, rfl⟩
theorem x_PP_init_60 : DC b_PP_init 60 (.new 44) 3 63 := ⟨by decide +kernel, rfl⟩
theorem x_PP_init_63 : DC b_PP_init 63 (.dup) 1 64 := ⟨by decide +kernel, rfl⟩
theorem x_PP_init_64 : DC b_PP_init 64 (.invokespecial 46) 3 67 := ⟨by decide +kernel, rfl⟩
theorem x_PP_init_67 : DC b_PP_init 67 (.putfield 47) 3 70 := ⟨by decide +kernel, rfl⟩
theorem x_PP_init_70 : DC b_PP_init 70 (.aload_n 0) 1 71 := ⟨by decide +kernel, rfl⟩
theorem x_PP_init_71 : DC b_PP_init 71 (.new 51) 3 74 := ⟨by decide +kernel, rfl⟩
theorem x_PP_init_74 : DC b_PP_init 74 (.dup) 1 75 := ⟨by decide +kernel, rfl⟩
theorem x_PP_init_75 : DC b_PP_init 75 (.aload_n 0) 1 76 := ⟨by decide +kernel, rfl⟩
theorem x_PP_init_76 : DC b_PP_init 76 (.getfield 19) 3 79 := ⟨by decide +kernel, rfl⟩
theorem x_PP_init_79 : DC b_PP_init 79 (.aload_n 0) 1 80 := ⟨by decide +kernel, rfl⟩
theorem x_PP_init_80 : DC b_PP_init 80 (.getfield 26) 3 83 := ⟨by decide +kernel, rfl⟩
theorem x_PP_init_83 : DC b_PP_init 83 (.aload_n 0) 1 84 := ⟨by decide +kernel, rfl⟩
theorem x_PP_init_84 : DC b_PP_init 84 (.getfield 33) 3 87 := ⟨by decide +kernel, rfl⟩
theorem x_PP_init_87 : DC b_PP_init 87 (.invokespecial 53) 3 90 := ⟨by decide +kernel, rfl⟩
theorem x_PP_init_90 : DC b_PP_init 90 (.putfield 56) 3 93 := ⟨by decide +kernel, rfl⟩
theorem x_PP_init_93 : DC b_PP_init 93 (.aload_n 0) 1 94 := ⟨by decide +kernel, rfl⟩
theorem x_PP_init_94 : DC b_PP_init 94 (.new 60) 3 97 := ⟨by decide +kernel, rfl⟩
theorem x_PP_init_97 : DC b_PP_init 97 (.dup) 1 98 := ⟨by decide +kernel, rfl⟩
theorem x_PP_init_98 : DC b_PP_init 98 (.aload_n 0) 1 99 := ⟨by decide +kernel, rfl⟩
theorem x_PP_init_99 : DC b_PP_init 99 (.getfield 56) 3 102 := ⟨by decide +kernel, rfl⟩
theorem x_PP_init_102 : DC b_PP_init 102 (.aload_n 0) 1 103 := ⟨by decide +kernel, rfl⟩
theorem x_PP_init_103 : DC b_PP_init 103 (.getfield 33) 3 106 := ⟨by decide +kernel, rfl⟩
theorem x_PP_init_106 : DC b_PP_init 106 (.invokespecial 62) 3 109 := ⟨by decide +kernel, rfl⟩
theorem x_PP_init_109 : DC b_PP_init 109 (.putfield 65) 3 112 := ⟨by decide +kernel, rfl⟩
theorem x_PP_init_112 : DC b_PP_init 112 (.aload_n 0) 1 113 := ⟨by decide +kernel, rfl⟩
theorem x_PP_init_113 : DC b_PP_init 113 (.new 69) 3 116 := ⟨by decide +kernel, rfl⟩
theorem x_PP_init_116 : DC b_PP_init 116 (.dup) 1 117 := ⟨by decide +kernel, rfl⟩
theorem x_PP_init_117 : DC b_PP_init 117 (.aload_n 0) 1 118 := ⟨by decide +kernel, rfl⟩
theorem x_PP_init_118 : DC b_PP_init 118 (.getfield 19) 3 121 := ⟨by decide +kernel, rfl⟩
theorem x_PP_init_121 : DC b_PP_init 121 (.aload_n 0) 1 122 := ⟨by decide +kernel, rfl⟩
theorem x_PP_init_122 : DC b_PP_init 122 (.getfield 33) 3 125 := ⟨by decide +kernel, rfl⟩
theorem x_PP_init_125 : DC b_PP_init 125 (.invokespecial 71) 3 128 := ⟨by decide +kernel, rfl⟩
theorem x_PP_init_128 : DC b_PP_init 128 (.putfield 74) 3 131 := ⟨by decide +kernel, rfl⟩
theorem x_PP_init_131 : DC b_PP_init 131 (.aload_n 0) 1 132 := ⟨by decide +kernel, rfl⟩
theorem x_PP_init_132 : DC b_PP_init 132 (.new 78) 3 135 := ⟨by decide +kernel, rfl⟩
theorem x_PP_init_135 : DC b_PP_init 135 (.dup) 1 136 := ⟨by decide +kernel, rfl⟩
theorem x_PP_init_136 : DC b_PP_init 136 (.aload_n 0) 1 137 := ⟨by decide +kernel, rfl⟩
theorem x_PP_init_137 : DC b_PP_init 137 (.getfield 19) 3 140 := ⟨by decide +kernel, rfl⟩
theorem x_PP_init_140 : DC b_PP_init 140 (.aload_n 0) 1 141 := ⟨by decide +kernel, rfl⟩
theorem x_PP_init_141 : DC b_PP_init 141 (.getfield 33) 3 144 := ⟨by decide +kernel, rfl⟩
theorem x_PP_init_144 : DC b_PP_init 144 (.invokespecial 80) 3 147 := ⟨by decide +kernel, rfl⟩
theorem x_PP_init_147 : DC b_PP_init 147 (.putfield 81) 3 150 := ⟨by decide +kernel, rfl⟩
theorem x_PP_init_150 : DC b_PP_init 150 (.return_) 1 151 := ⟨by decide +kernel, rfl⟩
def i_PP (M : Mem) : Mem := sto (i_Ba (sto (i_Ou (sto (i_Py (sto (i_Pl (sto (i_Ya (sto (i_Pa (sto (i_As (sto (i_Jo (sto (i_Pr (sto (i_Tr (M)) 0 1 (((1 : Nat) : Int) + 1))) 0 2 (((5 : Nat) : Int) + 1))) 0 3 (((15 : Nat) : Int) + 1))) 0 4 (((32 : Nat) : Int) + 1))) 0 5 (((55 : Nat) : Int) + 1))) 0 6 (((62 : Nat) : Int) + 1))) 0 7 (((75 : Nat) : Int) + 1))) 0 8 (((88 : Nat) : Int) + 1))) 0 9 (((98 : Nat) : Int) + 1))) 0 10 (((103 : Nat) : Int) + 1)
theorem c_PP_init (l : Launch) (G : GX) {lev : Nat} (hlev : 3 ≤ lev) {M : Mem} : MtD l G y_PP_init b_PP_init 1 lev 110 10701 [.ref (G.1 + 0)] 1 M 111 (i_PP M) := by
  refine MtD.of (by decide) rfl (i_le rfl) ?_
  intro p e s m args below meth c C hin2
  have C : Cx p s m args meth c G b_PP_init 1 "PrairiePool" none := C
  refine z_sub (lv' := [(0, .ref (G.1 + 0))]) [0] rfl ?_
  refine z_aload_n C 0 x_PP_init_0 rfl ?_
  refine z_objD C x_PP_init_1 ol_PP ob_in ob_co (i_le rfl) (by unfold rmD; dsimp only; omega) ?_
  refine z_aload_n C 0 x_PP_init_4 rfl ?_
  refine z_newD (n := 1) (n' := 2) (cl' := 1) (sl' := 3) C x_PP_init_5 cl_PP_7 is_Tr in_Tr ck_1 cw_9 df_9 rfl rfl rfl ⟨i_le rfl, i_le rfl⟩ ?_
  refine z_dup C x_PP_init_8 rfl ?_
  refine z_callI (n' := 5) (cl' := 4) (sl' := 171) C x_PP_init_9 ci_PP_9 (c_Tr_init (lev := lev - 1) l G (by omega)) (by unfold rmD; dsimp only; omega) rfl rfl rfl (i_le rfl) rfl ?_
  refine z_putDr (j := 1) (q := 1) C x_PP_init_12 (i_lt rfl) ck_0 cw_11 (i_lt rfl) rfl rfl (Or.inl ⟨_, rfl⟩) rfl hin2 rfl fl_PP_10 ?_
  refine z_aload_n C 0 x_PP_init_15 rfl ?_
  refine z_newD (n := 5) (n' := 6) (cl' := 5) (sl' := 182) C x_PP_init_16 cl_PP_16 is_Pr in_Pr ck_5 cw_7 df_7 rfl rfl rfl ⟨i_le rfl, i_le rfl⟩ ?_
  refine z_dup C x_PP_init_19 rfl ?_
  refine z_callI (n' := 15) (cl' := 14) (sl' := 518) C x_PP_init_20 ci_PP_18 (c_Pr_init (lev := lev - 1) l G (by omega)) (by unfold rmD; dsimp only; omega) rfl rfl rfl (i_le rfl) rfl ?_
  refine z_putDr (j := 2) (q := 5) C x_PP_init_23 (i_lt rfl) ck_0 cw_11 (i_lt rfl) rfl rfl (Or.inl ⟨_, rfl⟩) rfl hin2 rfl fl_PP_19 ?_
  refine z_aload_n C 0 x_PP_init_26 rfl ?_
  refine z_newD (n := 15) (n' := 16) (cl' := 15) (sl' := 537) C x_PP_init_27 cl_PP_23 is_Jo in_Jo ck_15 cw_2 df_2 rfl rfl rfl ⟨i_le rfl, i_le rfl⟩ ?_
  refine z_dup C x_PP_init_30 rfl ?_
  refine z_callI (n' := 32) (cl' := 31) (sl' := 2357) C x_PP_init_31 ci_PP_25 (c_Jo_init (lev := lev - 1) l G (by omega)) (by unfold rmD; dsimp only; omega) rfl rfl rfl (i_le rfl) rfl ?_
  refine z_putDr (j := 3) (q := 15) C x_PP_init_34 (i_lt rfl) ck_0 cw_11 (i_lt rfl) rfl rfl (Or.inl ⟨_, rfl⟩) rfl hin2 rfl fl_PP_26 ?_
  refine z_aload_n C 0 x_PP_init_37 rfl ?_
  refine z_newD (n := 32) (n' := 33) (cl' := 32) (sl' := 2366) C x_PP_init_38 cl_PP_30 is_As in_As ck_32 cw_0 df_0 rfl rfl rfl ⟨i_le rfl, i_le rfl⟩ ?_
  refine z_dup C x_PP_init_41 rfl ?_
  refine z_callI (n' := 55) (cl' := 54) (sl' := 4621) C x_PP_init_42 ci_PP_32 (c_As_init (lev := lev - 1) l G (by omega)) (by unfold rmD; dsimp only; omega) rfl rfl rfl (i_le rfl) rfl ?_
  refine z_putDr (j := 4) (q := 32) C x_PP_init_45 (i_lt rfl) ck_0 cw_11 (i_lt rfl) rfl rfl (Or.inl ⟨_, rfl⟩) rfl hin2 rfl fl_PP_33 ?_
  refine z_aload_n C 0 x_PP_init_48 rfl ?_
  refine z_newD (n := 55) (n' := 56) (cl' := 55) (sl' := 4633) C x_PP_init_49 cl_PP_37 is_Pa in_Pa ck_55 cw_4 df_4 rfl rfl rfl ⟨i_le rfl, i_le rfl⟩ ?_
  refine z_dup C x_PP_init_52 rfl ?_
  refine z_callI (n' := 62) (cl' := 61) (sl' := 5666) C x_PP_init_53 ci_PP_39 (c_Pa_init (lev := lev - 1) l G (by omega)) (by unfold rmD; dsimp only; omega) rfl rfl rfl (i_le rfl) rfl ?_
  refine z_putDr (j := 5) (q := 55) C x_PP_init_56 (i_lt rfl) ck_0 cw_11 (i_lt rfl) rfl rfl (Or.inl ⟨_, rfl⟩) rfl hin2 rfl fl_PP_40 ?_
  refine z_aload_n C 0 x_PP_init_59 rfl ?_
  refine z_newD (n := 62) (n' := 63) (cl' := 62) (sl' := 5679) C x_PP_init_60 cl_PP_44 is_Ya in_Ya ck_62 cw_10 df_10 rfl rfl rfl ⟨i_le rfl, i_le rfl⟩ ?_
  refine z_dup C x_PP_init_63 rfl ?_
  refine z_callI (n' := 75) (cl' := 74) (sl' := 6038) C x_PP_init_64 ci_PP_46 (c_Ya_init (lev := lev - 1) l G (by omega)) (by unfold rmD; dsimp only; omega) rfl rfl rfl (i_le rfl) rfl ?_
  refine z_putDr (j := 6) (q := 62) C x_PP_init_67 (i_lt rfl) ck_0 cw_11 (i_lt rfl) rfl rfl (Or.inl ⟨_, rfl⟩) rfl hin2 rfl fl_PP_47 ?_
  refine z_aload_n C 0 x_PP_init_70 rfl ?_
  refine z_newD (n := 75) (n' := 76) (cl' := 75) (sl' := 6056) C x_PP_init_71 cl_PP_51 is_Pl in_Pl ck_75 cw_6 df_6 rfl rfl rfl ⟨i_le rfl, i_le rfl⟩ ?_
  refine z_dup C x_PP_init_74 rfl ?_
  refine z_aload_n C 0 x_PP_init_75 rfl ?_
  refine z_getDr (j := 2) (q := 5) C x_PP_init_76 (i_lt rfl) ck_0 cw_11 (i_lt rfl) rfl rfl fl_PP_19 rfl ?_
  refine z_aload_n C 0 x_PP_init_79 rfl ?_
  refine z_getDr (j := 3) (q := 15) C x_PP_init_80 (i_lt rfl) ck_0 cw_11 (i_lt rfl) rfl rfl fl_PP_26 rfl ?_
  refine z_aload_n C 0 x_PP_init_83 rfl ?_
  refine z_getDr (j := 4) (q := 32) C x_PP_init_84 (i_lt rfl) ck_0 cw_11 (i_lt rfl) rfl rfl fl_PP_33 rfl ?_
  refine z_callI (n' := 88) (cl' := 87) (sl' := 9580) C x_PP_init_87 ci_PP_53 (c_Pl_init (lev := lev - 1) l G (by omega)) (by unfold rmD; dsimp only; omega) rfl rfl rfl (i_le rfl) rfl ?_
  refine z_putDr (j := 7) (q := 75) C x_PP_init_90 (i_lt rfl) ck_0 cw_11 (i_lt rfl) rfl rfl (Or.inl ⟨_, rfl⟩) rfl hin2 rfl fl_PP_56 ?_
  refine z_aload_n C 0 x_PP_init_93 rfl ?_
  refine z_newD (n := 88) (n' := 89) (cl' := 88) (sl' := 9595) C x_PP_init_94 cl_PP_60 is_Py in_Py ck_88 cw_5 df_5 rfl rfl rfl ⟨i_le rfl, i_le rfl⟩ ?_
  refine z_dup C x_PP_init_97 rfl ?_
  refine z_aload_n C 0 x_PP_init_98 rfl ?_
  refine z_getDr (j := 7) (q := 75) C x_PP_init_99 (i_lt rfl) ck_0 cw_11 (i_lt rfl) rfl rfl fl_PP_56 rfl ?_
  refine z_aload_n C 0 x_PP_init_102 rfl ?_
  refine z_getDr (j := 4) (q := 32) C x_PP_init_103 (i_lt rfl) ck_0 cw_11 (i_lt rfl) rfl rfl fl_PP_33 rfl ?_
  refine z_callI (n' := 98) (cl' := 97) (sl' := 10347) C x_PP_init_106 ci_PP_62 (c_Py_init (lev := lev - 1) l G (by omega)) (by unfold rmD; dsimp only; omega) rfl rfl rfl (i_le rfl) rfl ?_
  refine z_putDr (j := 8) (q := 88) C x_PP_init_109 (i_lt rfl) ck_0 cw_11 (i_lt rfl) rfl rfl (Or.inl ⟨_, rfl⟩) rfl hin2 rfl fl_PP_65 ?_
  refine z_aload_n C 0 x_PP_init_112 rfl ?_
  refine z_newD (n := 98) (n' := 99) (cl' := 98) (sl' := 10354) C x_PP_init_113 cl_PP_69 is_Ou in_Ou ck_98 cw_3 df_3 rfl rfl rfl ⟨i_le rfl, i_le rfl⟩ ?_
  refine z_dup C x_PP_init_116 rfl ?_
  refine z_aload_n C 0 x_PP_init_117 rfl ?_
  refine z_getDr (j := 2) (q := 5) C x_PP_init_118 (i_lt rfl) ck_0 cw_11 (i_lt rfl) rfl rfl fl_PP_19 rfl ?_
  refine z_aload_n C 0 x_PP_init_121 rfl ?_
  refine z_getDr (j := 4) (q := 32) C x_PP_init_122 (i_lt rfl) ck_0 cw_11 (i_lt rfl) rfl rfl fl_PP_33 rfl ?_
  refine z_callI (n' := 103) (cl' := 102) (sl' := 10594) C x_PP_init_125 ci_PP_71 (c_Ou_init (lev := lev - 1) l G (by omega)) (by unfold rmD; dsimp only; omega) rfl rfl rfl (i_le rfl) rfl ?_
  refine z_putDr (j := 9) (q := 98) C x_PP_init_128 (i_lt rfl) ck_0 cw_11 (i_lt rfl) rfl rfl (Or.inl ⟨_, rfl⟩) rfl hin2 rfl fl_PP_74 ?_
  refine z_aload_n C 0 x_PP_init_131 rfl ?_
  refine z_newD (n := 103) (n' := 104) (cl' := 103) (sl' := 10603) C x_PP_init_132 cl_PP_78 is_Ba in_Ba ck_103 cw_1 df_1 rfl rfl rfl ⟨i_le rfl, i_le rfl⟩ ?_
  refine z_dup C x_PP_init_135 rfl ?_
  refine z_aload_n C 0 x_PP_init_136 rfl ?_
  refine z_getDr (j := 2) (q := 5) C x_PP_init_137 (i_lt rfl) ck_0 cw_11 (i_lt rfl) rfl rfl fl_PP_19 rfl ?_
  refine z_aload_n C 0 x_PP_init_140 rfl ?_
  refine z_getDr (j := 4) (q := 32) C x_PP_init_141 (i_lt rfl) ck_0 cw_11 (i_lt rfl) rfl rfl fl_PP_33 rfl ?_
  refine z_callI (n' := 111) (cl' := 110) (sl' := 10701) C x_PP_init_144 ci_PP_80 (c_Ba_init (lev := lev - 1) l G (by omega)) (by unfold rmD; dsimp only; omega) rfl rfl rfl (i_le rfl) rfl ?_
  refine z_putDr (j := 10) (q := 103) C x_PP_init_147 (i_lt rfl) ck_0 cw_11 (i_lt rfl) rfl rfl (Or.inl ⟨_, rfl⟩) rfl hin2 rfl fl_PP_81 ?_
  exact z_vretD C x_PP_init_150
theorem x_Mo_init_0 : DC b_Mo_init 0 (.aload_n 0) 1 1 := ⟨by decide +kernel, rfl⟩
theorem x_Mo_init_1 : DC b_Mo_init 1 (.invokespecial 1) 3 4 := ⟨by decide +kernel, rfl⟩
theorem x_Mo_init_4 : DC b_Mo_init 4 (.aload_n 0) 1 5 := ⟨by decide +kernel, rfl⟩
theorem x_Mo_init_5 : DC b_Mo_init 5 (.iconst 4) 1 6 := ⟨by decide +kernel, rfl⟩
theorem x_Mo_init_6 : DC b_Mo_init 6 (.newarray .int) 2 8 := ⟨by decide +kernel, rfl⟩
theorem x_Mo_init_8 : DC b_Mo_init 8 (.putfield 7) 3 11 := ⟨by decide +kernel, rfl⟩
theorem x_Mo_init_11 : DC b_Mo_init 11 (.aload_n 0) 1 12 := ⟨by decide +kernel, rfl⟩
theorem x_Mo_init_12 : DC b_Mo_init 12 (.iconst 4) 1 13 := ⟨by decide +kernel, rfl⟩
theorem x_Mo_init_13 : DC b_Mo_init 13 (.newarray .int) 2 15 := ⟨by decide +kernel, rfl⟩
theorem x_Mo_init_15 : DC b_Mo_init 15 (.putfield 13) 3 18 := ⟨by decide +kernel, rfl⟩
theorem x_Mo_init_18 : DC b_Mo_init 18 (.aload_n 0) 1 19 := ⟨by decide +kernel, rfl⟩
theorem x_Mo_init_19 : DC b_Mo_init 19 (.sipush 160) 3 22 := ⟨by decide +kernel, rfl⟩
theorem x_Mo_init_22 : DC b_Mo_init 22 (.newarray .long) 2 24 := ⟨by decide +kernel, rfl⟩
theorem x_Mo_init_24 : DC b_Mo_init 24 (.putfield 16) 3 27 := ⟨by decide +kernel, rfl⟩
theorem x_Mo_init_27 : DC b_Mo_init 27 (.aload_n 0) 1 28 := ⟨by decide +kernel, rfl⟩
theorem x_Mo_init_28 : DC b_Mo_init 28 (.bipush 20) 2 30 := ⟨by decide +kernel, rfl⟩
theorem x_Mo_init_30 : DC b_Mo_init 30 (.newarray .int) 2 32 := ⟨by decide +kernel, rfl⟩
theorem x_Mo_init_32 : DC b_Mo_init 32 (.putfield 20) 3 35 := ⟨by decide +kernel, rfl⟩
theorem x_Mo_init_35 : DC b_Mo_init 35 (.aload_n 0) 1 36 := ⟨by decide +kernel, rfl⟩
theorem x_Mo_init_36 : DC b_Mo_init 36 (.bipush 20) 2 38 := ⟨by decide +kernel, rfl⟩
theorem x_Mo_init_38 : DC b_Mo_init 38 (.newarray .int) 2 40 := ⟨by decide +kernel, rfl⟩
theorem x_Mo_init_40 : DC b_Mo_init 40 (.putfield 23) 3 43 := ⟨by decide +kernel, rfl⟩
theorem x_Mo_init_43 : DC b_Mo_init 43 (.aload_n 0) 1 44 := ⟨by decide +kernel, rfl⟩
theorem x_Mo_init_44 : DC b_Mo_init 44 (.bipush 20) 2 46 := ⟨by decide +kernel, rfl⟩
theorem x_Mo_init_46 : DC b_Mo_init 46 (.newarray .int) 2 48 := ⟨by decide +kernel, rfl⟩
theorem x_Mo_init_48 : DC b_Mo_init 48 (.putfield 26) 3 51 := ⟨by decide +kernel, rfl⟩
theorem x_Mo_init_51 : DC b_Mo_init 51 (.aload_n 0) 1 52 := ⟨by decide +kernel, rfl⟩
theorem x_Mo_init_52 : DC b_Mo_init 52 (.bipush 8) 2 54 := ⟨by decide +kernel, rfl⟩
theorem x_Mo_init_54 : DC b_Mo_init 54 (.newarray .int) 2 56 := ⟨by decide +kernel, rfl⟩
theorem x_Mo_init_56 : DC b_Mo_init 56 (.putfield 29) 3 59 := ⟨by decide +kernel, rfl⟩
theorem x_Mo_init_59 : DC b_Mo_init 59 (.aload_n 0) 1 60 := ⟨by decide +kernel, rfl⟩
theorem x_Mo_init_60 : DC b_Mo_init 60 (.bipush 8) 2 62 := ⟨by decide +kernel, rfl⟩
theorem x_Mo_init_62 : DC b_Mo_init 62 (.newarray .int) 2 64 := ⟨by decide +kernel, rfl⟩
theorem x_Mo_init_64 : DC b_Mo_init 64 (.putfield 32) 3 67 := ⟨by decide +kernel, rfl⟩
theorem x_Mo_init_67 : DC b_Mo_init 67 (.aload_n 0) 1 68 := ⟨by decide +kernel, rfl⟩
theorem x_Mo_init_68 : DC b_Mo_init 68 (.bipush 120) 2 70 := ⟨by decide +kernel, rfl⟩
theorem x_Mo_init_70 : DC b_Mo_init 70 (.newarray .int) 2 72 := ⟨by decide +kernel, rfl⟩
theorem x_Mo_init_72 : DC b_Mo_init 72 (.putfield 35) 3 75 := ⟨by decide +kernel, rfl⟩
theorem x_Mo_init_75 : DC b_Mo_init 75 (.aload_n 0) 1 76 := ⟨by decide +kernel, rfl⟩
theorem x_Mo_init_76 : DC b_Mo_init 76 (.bipush 120) 2 78 := ⟨by decide +kernel, rfl⟩
theorem x_Mo_init_78 : DC b_Mo_init 78 (.newarray .int) 2 80 := ⟨by decide +kernel, rfl⟩
theorem x_Mo_init_80 : DC b_Mo_init 80 (.putfield 38) 3 83 := ⟨by decide +kernel, rfl⟩
theorem x_Mo_init_83 : DC b_Mo_init 83 (.aload_n 0) 1 84 := ⟨by decide +kernel, rfl⟩
theorem x_Mo_init_84 : DC b_Mo_init 84 (.bipush 120) 2 86 := ⟨by decide +kernel, rfl⟩
theorem x_Mo_init_86 : DC b_Mo_init 86 (.newarray .int) 2 88 := ⟨by decide +kernel, rfl⟩
theorem x_Mo_init_88 : DC b_Mo_init 88 (.putfield 41) 3 91 := ⟨by decide +kernel, rfl⟩
theorem x_Mo_init_91 : DC b_Mo_init 91 (.aload_n 0) 1 92 := ⟨by decide +kernel, rfl⟩
theorem x_Mo_init_92 : DC b_Mo_init 92 (.bipush 120) 2 94 := ⟨by decide +kernel, rfl⟩
theorem x_Mo_init_94 : DC b_Mo_init 94 (.newarray .int) 2 96 := ⟨by decide +kernel, rfl⟩
theorem x_Mo_init_96 : DC b_Mo_init 96 (.putfield 44) 3 99 := ⟨by decide +kernel, rfl⟩
theorem x_Mo_init_99 : DC b_Mo_init 99 (.aload_n 0) 1 100 := ⟨by decide +kernel, rfl⟩
theorem x_Mo_init_100 : DC b_Mo_init 100 (.bipush 120) 2 102 := ⟨by decide +kernel, rfl⟩
theorem x_Mo_init_102 : DC b_Mo_init 102 (.newarray .int) 2 104 := ⟨by decide +kernel, rfl⟩
theorem x_Mo_init_104 : DC b_Mo_init 104 (.putfield 47) 3 107 := ⟨by decide +kernel, rfl⟩
theorem x_Mo_init_107 : DC b_Mo_init 107 (.aload_n 0) 1 108 := ⟨by decide +kernel, rfl⟩
theorem x_Mo_init_108 : DC b_Mo_init 108 (.bipush 120) 2 110 := ⟨by decide +kernel, rfl⟩
theorem x_Mo_init_110 : DC b_Mo_init 110 (.newarray .int) 2 112 := ⟨by decide +kernel, rfl⟩
theorem x_Mo_init_112 : DC b_Mo_init 112 (.putfield 50) 3 115 := ⟨by decide +kernel, rfl⟩
theorem x_Mo_init_115 : DC b_Mo_init 115 (.aload_n 0) 1 116 := ⟨by decide +kernel, rfl⟩
theorem x_Mo_init_116 : DC b_Mo_init 116 (.bipush 120) 2 118 := ⟨by decide +kernel, rfl⟩
theorem x_Mo_init_118 : DC b_Mo_init 118 (.newarray .int) 2 120 := ⟨by decide +kernel, rfl⟩
theorem x_Mo_init_120 : DC b_Mo_init 120 (.putfield 53) 3 123 := ⟨by decide +kernel, rfl⟩
theorem x_Mo_init_123 : DC b_Mo_init 123 (.aload_n 0) 1 124 := ⟨by decide +kernel, rfl⟩
theorem x_Mo_init_124 : DC b_Mo_init 124 (.bipush 120) 2 126 := ⟨by decide +kernel, rfl⟩
theorem x_Mo_init_126 : DC b_Mo_init 126 (.newarray .int) 2 128 := ⟨by decide +kernel, rfl⟩
theorem x_Mo_init_128 : DC b_Mo_init 128 (.putfield 56) 3 131 := ⟨by decide +kernel, rfl⟩
theorem x_Mo_init_131 : DC b_Mo_init 131 (.aload_n 0) 1 132 := ⟨by decide +kernel, rfl⟩
theorem x_Mo_init_132 : DC b_Mo_init 132 (.bipush 120) 2 134 := ⟨by decide +kernel, rfl⟩
theorem x_Mo_init_134 : DC b_Mo_init 134 (.newarray .int) 2 136 := ⟨by decide +kernel, rfl⟩
theorem x_Mo_init_136 : DC b_Mo_init 136 (.putfield 59) 3 139 := ⟨by decide +kernel, rfl⟩
theorem x_Mo_init_139 : DC b_Mo_init 139 (.aload_n 0) 1 140 := ⟨by decide +kernel, rfl⟩
theorem x_Mo_init_140 : DC b_Mo_init 140 (.bipush 120) 2 142 := ⟨by decide +kernel, rfl⟩
theorem x_Mo_init_142 : DC b_Mo_init 142 (.newarray .int) 2 144 := ⟨by decide +kernel, rfl⟩
theorem x_Mo_init_144 : DC b_Mo_init 144 (.putfield 62) 3 147 := ⟨by decide +kernel, rfl⟩
theorem x_Mo_init_147 : DC b_Mo_init 147 (.aload_n 0) 1 148 := ⟨by decide +kernel, rfl⟩
theorem x_Mo_init_148 : DC b_Mo_init 148 (.bipush 100) 2 150 := ⟨by decide +kernel, rfl⟩
theorem x_Mo_init_150 : DC b_Mo_init 150 (.newarray .int) 2 152 := ⟨by decide +kernel, rfl⟩
theorem x_Mo_init_152 : DC b_Mo_init 152 (.putfield 65) 3 155 := ⟨by decide +kernel, rfl⟩
theorem x_Mo_init_155 : DC b_Mo_init 155 (.aload_n 0) 1 156 := ⟨by decide +kernel, rfl⟩
theorem x_Mo_init_156 : DC b_Mo_init 156 (.bipush 100) 2 158 := ⟨by decide +kernel, rfl⟩
theorem x_Mo_init_158 : DC b_Mo_init 158 (.newarray .int) 2 160 := ⟨by decide +kernel, rfl⟩
theorem x_Mo_init_160 : DC b_Mo_init 160 (.putfield 68) 3 163 := ⟨by decide +kernel, rfl⟩
theorem x_Mo_init_163 : DC b_Mo_init 163 (.aload_n 0) 1 164 := ⟨by decide +kernel, rfl⟩
theorem x_Mo_init_164 : DC b_Mo_init 164 (.bipush 100) 2 166 := ⟨by decide +kernel, rfl⟩
theorem x_Mo_init_166 : DC b_Mo_init 166 (.newarray .int) 2 168 := ⟨by decide +kernel, rfl⟩
theorem x_Mo_init_168 : DC b_Mo_init 168 (.putfield 71) 3 171 := ⟨by decide +kernel, rfl⟩
theorem x_Mo_init_171 : DC b_Mo_init 171 (.aload_n 0) 1 172 := ⟨by decide +kernel, rfl⟩
theorem x_Mo_init_172 : DC b_Mo_init 172 (.bipush 100) 2 174 := ⟨by decide +kernel, rfl⟩
theorem x_Mo_init_174 : DC b_Mo_init 174 (.newarray .int) 2 176 := ⟨by decide +kernel, rfl⟩
theorem x_Mo_init_176 : DC b_Mo_init 176 (.putfield 74) 3 179 := ⟨by decide +kernel, rfl⟩
theorem x_Mo_init_179 : DC b_Mo_init 179 (.aload_n 0) 1 180 := ⟨by decide +kernel, rfl⟩
theorem x_Mo_init_180 : DC b_Mo_init 180 (.sipush 9600) 3 183 := ⟨by decide +kernel, rfl⟩
theorem x_Mo_init_183 : DC b_Mo_init 183 (.newarray .int) 2 185 := ⟨by decide +kernel, rfl⟩
theorem x_Mo_init_185 : DC b_Mo_init 185 (.putfield 77) 3 188 := ⟨by decide +kernel, rfl⟩
theorem x_Mo_init_188 : DC b_Mo_init 188 (.aload_n 0) 1 189 := ⟨by decide +kernel, rfl⟩
theorem x_Mo_init_189 : DC b_Mo_init 189 (.sipush 2400) 3 192 := ⟨by decide +kernel, rfl⟩
theorem x_Mo_init_192 : DC b_Mo_init 192 (.newarray .int) 2 194 := ⟨by decide +kernel, rfl⟩
theorem x_Mo_init_194 : DC b_Mo_init 194 (.putfield 80) 3 197 := ⟨by decide +kernel, rfl⟩
theorem x_Mo_init_197 : DC b_Mo_init 197 (.aload_n 0) 1 198 := ⟨by decide +kernel, rfl⟩
theorem x_Mo_init_198 : DC b_Mo_init 198 (.bipush 120) 2 200 := ⟨by decide +kernel, rfl⟩
theorem x_Mo_init_200 : DC b_Mo_init 200 (.newarray .int) 2 202 := ⟨by decide +kernel, rfl⟩
theorem x_Mo_init_202 : DC b_Mo_init 202 (.putfield 83) 3 205 := ⟨by decide +kernel, rfl⟩
theorem x_Mo_init_205 : DC b_Mo_init 205 (.aload_n 0) 1 206 := ⟨by decide +kernel, rfl⟩
theorem x_Mo_init_206 : DC b_Mo_init 206 (.bipush 120) 2 208 := ⟨by decide +kernel, rfl⟩
theorem x_Mo_init_208 : DC b_Mo_init 208 (.newarray .int) 2 210 := ⟨by decide +kernel, rfl⟩
theorem x_Mo_init_210 : DC b_Mo_init 210 (.putfield 86) 3 213 := ⟨by decide +kernel, rfl⟩
theorem x_Mo_init_213 : DC b_Mo_init 213 (.aload_n 0) 1 214 := ⟨by decide +kernel, rfl⟩
theorem x_Mo_init_214 : DC b_Mo_init 214 (.bipush 120) 2 216 := ⟨by decide +kernel, rfl⟩
theorem x_Mo_init_216 : DC b_Mo_init 216 (.newarray .int) 2 218 := ⟨by decide +kernel, rfl⟩
theorem x_Mo_init_218 : DC b_Mo_init 218 (.putfield 89) 3 221 := ⟨by decide +kernel, rfl⟩
theorem x_Mo_init_221 : DC b_Mo_init 221 (.aload_n 0) 1 222 := ⟨by decide +kernel, rfl⟩
theorem x_Mo_init_222 : DC b_Mo_init 222 (.bipush 20) 2 224 := ⟨by decide +kernel, rfl⟩
theorem x_Mo_init_224 : DC b_Mo_init 224 (.newarray .int) 2 226 := ⟨by decide +kernel, rfl⟩
theorem x_Mo_init_226 : DC b_Mo_init 226 (.putfield 92) 3 229 := ⟨by decide +kernel, rfl⟩
theorem x_Mo_init_229 : DC b_Mo_init 229 (.aload_n 0) 1 230 := ⟨by decide +kernel, rfl⟩
theorem x_Mo_init_230 : DC b_Mo_init 230 (.bipush 20) 2 232 := ⟨by decide +kernel, rfl⟩
theorem x_Mo_init_232 : DC b_Mo_init 232 (.newarray .int) 2 234 := ⟨by decide +kernel, rfl⟩
theorem x_Mo_init_234 : DC b_Mo_init 234 (.putfield 95) 3 237 := ⟨by decide +kernel, rfl⟩
theorem x_Mo_init_237 : DC b_Mo_init 237 (.aload_n 0) 1 238 := ⟨by decide +kernel, rfl⟩
theorem x_Mo_init_238 : DC b_Mo_init 238 (.bipush 20) 2 240 := ⟨by decide +kernel, rfl⟩
theorem x_Mo_init_240 : DC b_Mo_init 240 (.newarray .int) 2 242 := ⟨by decide +kernel, rfl⟩
theorem x_Mo_init_242 : DC b_Mo_init 242 (.putfield 98) 3 245 := ⟨by decide +kernel, rfl⟩
theorem x_Mo_init_245 : DC b_Mo_init 245 (.aload_n 0) 1 246 := ⟨by decide +kernel, rfl⟩
theorem x_Mo_init_246 : DC b_Mo_init 246 (.bipush 20) 2 248 := ⟨by decide +kernel, rfl⟩
theorem x_Mo_init_248 : DC b_Mo_init 248 (.newarray .int) 2 250 := ⟨by decide +kernel, rfl⟩
theorem x_Mo_init_250 : DC b_Mo_init 250 (.putfield 101) 3 253 := ⟨by decide +kernel, rfl⟩
theorem x_Mo_init_253 : DC b_Mo_init 253 (.aload_n 0) 1 254 := ⟨by decide +kernel, rfl⟩
theorem x_Mo_init_254 : DC b_Mo_init 254 (.bipush 20) 2 256 := ⟨by decide +kernel, rfl⟩
theorem x_Mo_init_256 : DC b_Mo_init 256 (.newarray .long) 2 258 := ⟨by decide +kernel, rfl⟩
theorem x_Mo_init_258 : DC b_Mo_init 258 (.putfield 104) 3 261 := ⟨by decide +kernel, rfl⟩
theorem x_Mo_init_261 : DC b_Mo_init 261 (.aload_n 0) 1 262 := ⟨by decide +kernel, rfl⟩
theorem x_Mo_init_262 : DC b_Mo_init 262 (.bipush 20) 2 264 := ⟨by decide +kernel, rfl⟩
theorem x_Mo_init_264 : DC b_Mo_init 264 (.newarray .long) 2 266 := ⟨by decide +kernel, rfl⟩
theorem x_Mo_init_266 : DC b_Mo_init 266 (.putfield 107) 3 269 := ⟨by decide +kernel, rfl⟩
theorem x_Mo_init_269 : DC b_Mo_init 269 (.aload_n 0) 1 270 := ⟨by decide +kernel, rfl⟩
theorem x_Mo_init_270 : DC b_Mo_init 270 (.bipush 20) 2 272 := ⟨by decide +kernel, rfl⟩
theorem x_Mo_init_272 : DC b_Mo_init 272 (.newarray .long) 2 274 := ⟨by decide +kernel, rfl⟩
theorem x_Mo_init_274 : DC b_Mo_init 274 (.putfield 110) 3 277 := ⟨by decide +kernel, rfl⟩
theorem x_Mo_init_277 : DC b_Mo_init 277 (.aload_n 0) 1 278 := ⟨by decide +kernel, rfl⟩
theorem x_Mo_init_278 : DC b_Mo_init 278 (.sipush 500) 3 281 := ⟨by decide +kernel, rfl⟩
theorem x_Mo_init_281 : DC b_Mo_init 281 (.newarray .byte) 2 283 := ⟨by decide +kernel, rfl⟩
theorem x_Mo_init_283 : DC b_Mo_init 283 (.putfield 113) 3 286 := ⟨by decide +kernel, rfl⟩
theorem x_Mo_init_286 : DC b_Mo_init 286 (.aload_n 0) 1 287 := ⟨by decide +kernel, rfl⟩
theorem x_Mo_init_287 : DC b_Mo_init 287 (.iconst (-1)) 1 288 := ⟨by decide +kernel, rfl⟩
theorem x_Mo_init_288 : DC b_Mo_init 288 (.putfield 117) 3 291 := ⟨by decide +kernel, rfl⟩
theorem x_Mo_init_291 : DC b_Mo_init 291 (.aload_n 0) 1 292 := ⟨by decide +kernel, rfl⟩
theorem x_Mo_init_292 : DC b_Mo_init 292 (.iconst (-1)) 1 293 := ⟨by decide +kernel, rfl⟩
theorem x_Mo_init_293 : DC b_Mo_init 293 (.putfield 121) 3 296 := ⟨by decide +kernel, rfl⟩
theorem x_Mo_init_296 : DC b_Mo_init 296 (.aload_n 0) 1 297 := ⟨by decide +kernel, rfl⟩
theorem x_Mo_init_297 : DC b_Mo_init 297 (.iconst 4) 1 298 := ⟨by decide +kernel, rfl⟩
theorem x_Mo_init_298 : DC b_Mo_init 298 (.newarray .int) 2 300 := ⟨by decide +kernel, rfl⟩
theorem x_Mo_init_300 : DC b_Mo_init 300 (.putfield 124) 3 303 := ⟨by decide +kernel, rfl⟩
theorem x_Mo_init_303 : DC b_Mo_init 303 (.aload_n 0) 1 304 := ⟨by decide +kernel, rfl⟩
theorem x_Mo_init_304 : DC b_Mo_init 304 (.iconst 4) 1 305 := ⟨by decide +kernel, rfl⟩
theorem x_Mo_init_305 : DC b_Mo_init 305 (.newarray .int) 2 307 := ⟨by decide +kernel, rfl⟩
theorem x_Mo_init_307 : DC b_Mo_init 307 (.putfield 127) 3 310 := ⟨by decide +kernel, rfl⟩
theorem x_Mo_init_310 : DC b_Mo_init 310 (.aload_n 0) 1 311 := ⟨by decide +kernel, rfl⟩
theorem x_Mo_init_311 : DC b_Mo_init 311 (.bipush 44) 2 313 := ⟨by decide +kernel, rfl⟩
theorem x_Mo_init_313 : DC b_Mo_init 313 (.newarray .int) 2 315 := ⟨by decide +kernel, rfl⟩
theorem x_Mo_init_315 : DC b_Mo_init 315 (.putfield 130) 3 318 := ⟨by decide +kernel, rfl⟩
theorem x_Mo_init_318 : DC b_Mo_init 318 (.aload_n 0) 1 319 := ⟨by decide +kernel, rfl⟩
theorem x_Mo_init_319 : DC b_Mo_init 319 (.sipush 4400) 3 322 := ⟨by decide +kernel, rfl⟩
theorem x_Mo_init_322 : DC b_Mo_init 322 (.newarray .int) 2 324 := ⟨by decide +kernel, rfl⟩
theorem x_Mo_init_324 : DC b_Mo_init 324 (.putfield 133) 3 327 := ⟨by decide +kernel, rfl⟩
theorem x_Mo_init_327 : DC b_Mo_init 327 (.aload_n 0) 1 328 := ⟨by decide +kernel, rfl⟩
theorem x_Mo_init_328 : DC b_Mo_init 328 (.bipush 11) 2 330 := ⟨by decide +kernel, rfl⟩
theorem x_Mo_init_330 : DC b_Mo_init 330 (.newarray .int) 2 332 := ⟨by decide +kernel, rfl⟩
theorem x_Mo_init_332 : DC b_Mo_init 332 (.putfield 136) 3 335 := ⟨by decide +kernel, rfl⟩
theorem x_Mo_init_335 : DC b_Mo_init 335 (.aload_n 0) 1 336 := ⟨by decide +kernel, rfl⟩
theorem x_Mo_init_336 : DC b_Mo_init 336 (.sipush 1100) 3 339 := ⟨by decide +kernel, rfl⟩
theorem x_Mo_init_339 : DC b_Mo_init 339 (.newarray .int) 2 341 := ⟨by decide +kernel, rfl⟩
theorem x_Mo_init_341 : DC b_Mo_init 341 (.putfield 139) 3 344 := ⟨by decide +kernel, rfl⟩
theorem x_Mo_init_344 : DC b_Mo_init 344 (.aload_n 0) 1 345 := ⟨by decide +kernel, rfl⟩
theorem x_Mo_init_345 : DC b_Mo_init 345 (.bipush 40) 2 347 := ⟨by decide +kernel, rfl⟩
theorem x_Mo_init_347 : DC b_Mo_init 347 (.newarray .long) 2 349 := ⟨by decide +kernel, rfl⟩
theorem x_Mo_init_349 : DC b_Mo_init 349 (.putfield 142) 3 352 := ⟨by decide +kernel, rfl⟩
theorem x_Mo_init_352 : DC b_Mo_init 352 (.aload_n 0) 1 353 := ⟨by decide +kernel, rfl⟩
theorem x_Mo_init_353 : DC b_Mo_init 353 (.bipush 10) 2 355 := ⟨by decide +kernel, rfl⟩
theorem x_Mo_init_355 : DC b_Mo_init 355 (.newarray .long) 2 357 := ⟨by decide +kernel, rfl⟩
theorem x_Mo_init_357 : DC b_Mo_init 357 (.putfield 145) 3 360 := ⟨by decide +kernel, rfl⟩
theorem x_Mo_init_360 : DC b_Mo_init 360 (.aload_n 0) 1 361 := ⟨by decide +kernel, rfl⟩
theorem x_Mo_init_361 : DC b_Mo_init 361 (.sipush 600) 3 364 := ⟨by decide +kernel, rfl⟩
theorem x_Mo_init_364 : DC b_Mo_init 364 (.newarray .long) 2 366 := ⟨by decide +kernel, rfl⟩
theorem x_Mo_init_366 : DC b_Mo_init 366 (.putfield 148) 3 369 := ⟨by decide +kernel, rfl⟩
theorem x_Mo_init_369 : DC b_Mo_init 369 (.aload_n 0) 1 370 := ⟨by decide +kernel, rfl⟩
theorem x_Mo_init_370 : DC b_Mo_init 370 (.bipush 11) 2 372 := ⟨by decide +kernel, rfl⟩
theorem x_Mo_init_372 : DC b_Mo_init 372 (.newarray .long) 2 374 := ⟨by decide +kernel, rfl⟩
theorem x_Mo_init_374 : DC b_Mo_init 374 (.putfield 151) 3 377 := ⟨by decide +kernel, rfl⟩
theorem x_Mo_init_377 : DC b_Mo_init 377 (.aload_n 0) 1 378 := ⟨by decide +kernel, rfl⟩
theorem x_Mo_init_378 : DC b_Mo_init 378 (.bipush 10) 2 380 := ⟨by decide +kernel, rfl⟩
theorem x_Mo_init_380 : DC b_Mo_init 380 (.newarray .long) 2 382 := ⟨by decide +kernel, rfl⟩
theorem x_Mo_init_382 : DC b_Mo_init 382 (.putfield 154) 3 385 := ⟨by decide +kernel, rfl⟩
theorem x_Mo_init_385 : DC b_Mo_init 385 (.aload_n 0) 1 386 := ⟨by decide +kernel, rfl⟩
theorem x_Mo_init_386 : DC b_Mo_init 386 (.sipush 600) 3 389 := ⟨by decide +kernel, rfl⟩
theorem x_Mo_init_389 : DC b_Mo_init 389 (.newarray .boolean) 2 391 := ⟨by decide +kernel, rfl⟩
theorem x_Mo_init_391 : DC b_Mo_init 391 (.putfield 157) 3 394 := ⟨by decide +kernel, rfl⟩
theorem x_Mo_init_394 : DC b_Mo_init 394 (.aload_n 0) 1 395 := ⟨by decide +kernel, rfl⟩
theorem x_Mo_init_395 : DC b_Mo_init 395 (.bipush 10) 2 397 := ⟨by decide +kernel, rfl⟩
theorem x_Mo_init_397 : DC b_Mo_init 397 (.newarray .boolean) 2 399 := ⟨by decide +kernel, rfl⟩
theorem x_Mo_init_399 : DC b_Mo_init 399 (.putfield 161) 3 402 := ⟨by decide +kernel, rfl⟩
theorem x_Mo_init_402 : DC b_Mo_init 402 (.aload_n 0) 1 403 := ⟨by decide +kernel, rfl⟩
theorem x_Mo_init_403 : DC b_Mo_init 403 (.bipush 20) 2 405 := ⟨by decide +kernel, rfl⟩
theorem x_Mo_init_405 : DC b_Mo_init 405 (.newarray .long) 2 407 := ⟨by decide +kernel, rfl⟩
theorem x_Mo_init_407 : DC b_Mo_init 407 (.putfield 164) 3 410 := ⟨by decide +kernel, rfl⟩
theorem x_Mo_init_410 : DC b_Mo_init 410 (.aload_n 0) 1 411 := ⟨by decide +kernel, rfl⟩
theorem x_Mo_init_411 : DC b_Mo_init 411 (.bipush 20) 2 413 := ⟨by decide +kernel, rfl⟩
theorem x_Mo_init_413 : DC b_Mo_init 413 (.newarray .long) 2 415 := ⟨by decide +kernel, rfl⟩
theorem x_Mo_init_415 : DC b_Mo_init 415 (.putfield 167) 3 418 := ⟨by decide +kernel, rfl⟩
theorem x_Mo_init_418 : DC b_Mo_init 418 (.aload_n 0) 1 419 := ⟨by decide +kernel, rfl⟩
theorem x_Mo_init_419 : DC b_Mo_init 419 (.bipush 20) 2 421 := ⟨by decide +kernel, rfl⟩
theorem x_Mo_init_421 : DC b_Mo_init 421 (.newarray .long) 2 423 := ⟨by decide +kernel, rfl⟩
theorem x_Mo_init_423 : DC b_Mo_init 423 (.putfield 170) 3 426 := ⟨by decide +kernel, rfl⟩
theorem x_Mo_init_426 : DC b_Mo_init 426 (.aload_n 0) 1 427 := ⟨by decide +kernel, rfl⟩
theorem x_Mo_init_427 : DC b_Mo_init 427 (.bipush 20) 2 429 := ⟨by decide +kernel, rfl⟩
theorem x_Mo_init_429 : DC b_Mo_init 429 (.newarray .long) 2 431 := ⟨by decide +kernel, rfl⟩
theorem x_Mo_init_431 : DC b_Mo_init 431 (.putfield 173) 3 434 := ⟨by decide +kernel, rfl⟩
theorem x_Mo_init_434 : DC b_Mo_init 434 (.aload_n 0) 1 435 := ⟨by decide +kernel, rfl⟩
theorem x_Mo_init_435 : DC b_Mo_init 435 (.bipush 20) 2 437 := ⟨by decide +kernel, rfl⟩
theorem x_Mo_init_437 : DC b_Mo_init 437 (.newarray .int) 2 439 := ⟨by decide +kernel, rfl⟩
theorem x_Mo_init_439 : DC b_Mo_init 439 (.putfield 176) 3 442 := ⟨by decide +kernel, rfl⟩
theorem x_Mo_init_442 : DC b_Mo_init 442 (.aload_n 0) 1 443 := ⟨by decide +kernel, rfl⟩
theorem x_Mo_init_443 : DC b_Mo_init 443 (.bipush 20) 2 445 := ⟨by decide +kernel, rfl⟩
theorem x_Mo_init_445 : DC b_Mo_init 445 (.newarray .int) 2 447 := ⟨by decide +kernel, rfl⟩
theorem x_Mo_init_447 : DC b_Mo_init 447 (.putfield 179) 3 450 := ⟨by decide +kernel, rfl⟩
theorem x_Mo_init_450 : DC b_Mo_init 450 (.aload_n 0) 1 451 := ⟨by decide +kernel, rfl⟩
theorem x_Mo_init_451 : DC b_Mo_init 451 (.bipush 20) 2 453 := ⟨by decide +kernel, rfl⟩
theorem x_Mo_init_453 : DC b_Mo_init 453 (.newarray .int) 2 455 := ⟨by decide +kernel, rfl⟩
theorem x_Mo_init_455 : DC b_Mo_init 455 (.putfield 182) 3 458 := ⟨by decide +kernel, rfl⟩
theorem x_Mo_init_458 : DC b_Mo_init 458 (.aload_n 0) 1 459 := ⟨by decide +kernel, rfl⟩
theorem x_Mo_init_459 : DC b_Mo_init 459 (.bipush 60) 2 461 := ⟨by decide +kernel, rfl⟩
theorem x_Mo_init_461 : DC b_Mo_init 461 (.newarray .int) 2 463 := ⟨by decide +kernel, rfl⟩
theorem x_Mo_init_463 : DC b_Mo_init 463 (.putfield 185) 3 466 := ⟨by decide +kernel, rfl⟩
theorem x_Mo_init_466 : DC b_Mo_init 466 (.aload_n 0) 1 467 := ⟨by decide +kernel, rfl⟩
theorem x_Mo_init_467 : DC b_Mo_init 467 (.bipush 60) 2 469 := ⟨by decide +kernel, rfl⟩
theorem x_Mo_init_469 : DC b_Mo_init 469 (.newarray .int) 2 471 := ⟨by decide +kernel, rfl⟩
theorem x_Mo_init_471 : DC b_Mo_init 471 (.putfield 188) 3 474 := ⟨by decide +kernel, rfl⟩
theorem x_Mo_init_474 : DC b_Mo_init 474 (.aload_n 0) 1 475 := ⟨by decide +kernel, rfl⟩
theorem x_Mo_init_475 : DC b_Mo_init 475 (.bipush 60) 2 477 := ⟨by decide +kernel, rfl⟩
theorem x_Mo_init_477 : DC b_Mo_init 477 (.newarray .int) 2 479 := ⟨by decide +kernel, rfl⟩
theorem x_Mo_init_479 : DC b_Mo_init 479 (.putfield 191) 3 482 := ⟨by decide +kernel, rfl⟩
theorem x_Mo_init_482 : DC b_Mo_init 482 (.aload_n 0) 1 483 := ⟨by decide +kernel, rfl⟩
theorem x_Mo_init_483 : DC b_Mo_init 483 (.bipush 60) 2 485 := ⟨by decide +kernel, rfl⟩
theorem x_Mo_init_485 : DC b_Mo_init 485 (.newarray .int) 2 487 := ⟨by decide +kernel, rfl⟩
theorem x_Mo_init_487 : DC b_Mo_init 487 (.putfield 194) 3 490 := ⟨by decide +kernel, rfl⟩
theorem x_Mo_init_490 : DC b_Mo_init 490 (.aload_n 0) 1 491 := ⟨by decide +kernel, rfl⟩
theorem x_Mo_init_491 : DC b_Mo_init 491 (.sipush 520) 3 494 := ⟨by decide +kernel, rfl⟩
theorem x_Mo_init_494 : DC b_Mo_init 494 (.newarray .int) 2 496 := ⟨by decide +kernel, rfl⟩
theorem x_Mo_init_496 : DC b_Mo_init 496 (.putfield 197) 3 499 := ⟨by decide +kernel, rfl⟩
theorem x_Mo_init_499 : DC b_Mo_init 499 (.aload_n 0) 1 500 := ⟨by decide +kernel, rfl⟩
theorem x_Mo_init_500 : DC b_Mo_init 500 (.sipush 200) 3 503 := ⟨by decide +kernel, rfl⟩
theorem x_Mo_init_503 : DC b_Mo_init 503 (.newarray .boolean) 2 505 := ⟨by decide +kernel, rfl⟩
theorem x_Mo_init_505 : DC b_Mo_init 505 (.putfield 200) 3 508 := ⟨by decide +kernel, rfl⟩
theorem x_Mo_init_508 : DC b_Mo_init 508 (.aload_n 0) 1 509 := ⟨by decide +kernel, rfl⟩
theorem x_Mo_init_509 : DC b_Mo_init 509 (.bipush 10) 2 511 := ⟨by decide +kernel, rfl⟩
theorem x_Mo_init_511 : DC b_Mo_init 511 (.putfield 203) 3 514 := ⟨by decide +kernel, rfl⟩
theorem x_Mo_init_514 : DC b_Mo_init 514 (.aload_n 0) 1 515 := ⟨by decide +kernel, rfl⟩
theorem x_Mo_init_515 : DC b_Mo_init 515 (.iconst 2) 1 516 := ⟨by decide +kernel, rfl⟩
theorem x_Mo_init_516 : DC b_Mo_init 516 (.putfield 206) 3 519 := ⟨by decide +kernel, rfl⟩
theorem x_Mo_init_519 : DC b_Mo_init 519 (.aload_n 0) 1 520 := ⟨by decide +kernel, rfl⟩
theorem x_Mo_init_520 : DC b_Mo_init 520 (.bipush 20) 2 522 := ⟨by decide +kernel, rfl⟩
theorem x_Mo_init_522 : DC b_Mo_init 522 (.newarray .int) 2 524 := ⟨by decide +kernel, rfl⟩
theorem x_Mo_init_524 : DC b_Mo_init 524 (.putfield 209) 3 527 := ⟨by decide +kernel, rfl⟩
theorem x_Mo_init_527 : DC b_Mo_init 527 (.aload_n 0) 1 528 := ⟨by decide +kernel, rfl⟩
theorem x_Mo_init_528 : DC b_Mo_init 528 (.bipush 6) 2 530 := ⟨by decide +kernel, rfl⟩
theorem x_Mo_init_530 : DC b_Mo_init 530 (.newarray .int) 2 532 := ⟨by decide +kernel, rfl⟩
theorem x_Mo_init_532 : DC b_Mo_init 532 (.putfield 212) 3 535 := ⟨by decide +kernel, rfl⟩
theorem x_Mo_init_535 : DC b_Mo_init 535 (.aload_n 0) 1 536 := ⟨by decide +kernel, rfl⟩
theorem x_Mo_init_536 : DC b_Mo_init 536 (.bipush 6) 2 538 := ⟨by decide +kernel, rfl⟩
theorem x_Mo_init_538 : DC b_Mo_init 538 (.newarray .long) 2 540 := ⟨by decide +kernel, rfl⟩
theorem x_Mo_init_540 : DC b_Mo_init 540 (.putfield 215) 3 543 := ⟨by decide +kernel, rfl⟩
theorem x_Mo_init_543 : DC b_Mo_init 543 (.aload_n 0) 1 544 := ⟨by decide +kernel, rfl⟩
theorem x_Mo_init_544 : DC b_Mo_init 544 (.bipush 6) 2 546 := ⟨by decide +kernel, rfl⟩
theorem x_Mo_init_546 : DC b_Mo_init 546 (.newarray .long) 2 548 := ⟨by decide +kernel, rfl⟩
theorem x_Mo_init_548 : DC b_Mo_init 548 (.putfield 218) 3 551 := ⟨by decide +kernel, rfl⟩
theorem x_Mo_init_551 : DC b_Mo_init 551 (.aload_n 0) 1 552 := ⟨by decide +kernel, rfl⟩
theorem x_Mo_init_552 : DC b_Mo_init 552 (.bipush 20) 2 554 := ⟨by decide +kernel, rfl⟩
theorem x_Mo_init_554 : DC b_Mo_init 554 (.newarray .long) 2 556 := ⟨by decide +kernel, rfl⟩
theorem x_Mo_init_556 : DC b_Mo_init 556 (.putfield 221) 3 559 := ⟨by decide +kernel, rfl⟩
theorem x_Mo_init_559 : DC b_Mo_init 559 (.aload_n 0) 1 560 := ⟨by decide +kernel, rfl⟩
theorem x_Mo_init_560 : DC b_Mo_init 560 (.bipush 8) 2 562 := ⟨by decide +kernel, rfl⟩
theorem x_Mo_init_562 : DC b_Mo_init 562 (.newarray .int) 2 564 := ⟨by decide +kernel, rfl⟩
theorem x_Mo_init_564 : DC b_Mo_init 564 (.putfield 224) 3 567 := ⟨by decide +kernel, rfl⟩
theorem x_Mo_init_567 : DC b_Mo_init 567 (.aload_n 0) 1 568 := ⟨by decide +kernel, rfl⟩
theorem x_Mo_init_568 : DC b_Mo_init 568 (.bipush 8) 2 570 := ⟨by decide +kernel, rfl⟩
theorem x_Mo_init_570 : DC b_Mo_init 570 (.newarray .int) 2 572 := ⟨by decide +kernel, rfl⟩
theorem x_Mo_init_572 : DC b_Mo_init 572 (.putfield 227) 3 575 := ⟨by decide +kernel, rfl⟩
theorem x_Mo_init_575 : DC b_Mo_init 575 (.aload_n 0) 1 576 := ⟨by decide +kernel, rfl⟩
theorem x_Mo_init_576 : DC b_Mo_init 576 (.bipush 20) 2 578 := ⟨by decide +kernel, rfl⟩
theorem x_Mo_init_578 : DC b_Mo_init 578 (.newarray .int) 2 580 := ⟨by decide +kernel, rfl⟩
theorem x_Mo_init_580 : DC b_Mo_init 580 (.putfield 230) 3 583 := ⟨by decide +kernel, rfl⟩
theorem x_Mo_init_583 : DC b_Mo_init 583 (.aload_n 0) 1 584 := ⟨by decide +kernel, rfl⟩
theorem x_Mo_init_584 : DC b_Mo_init 584 (.sipush 5376) 3 587 := ⟨by decide +kernel, rfl⟩
theorem x_Mo_init_587 : DC b_Mo_init 587 (.newarray .int) 2 589 := ⟨by decide +kernel, rfl⟩
theorem x_Mo_init_589 : DC b_Mo_init 589 (.putfield 233) 3 592 := ⟨by decide +kernel, rfl⟩
theorem x_Mo_init_592 : DC b_Mo_init 592 (.aload_n 0) 1 593 := ⟨by decide +kernel, rfl⟩
theorem x_Mo_init_593 : DC b_Mo_init 593 (.iconst 5) 1 594 := ⟨by decide +kernel, rfl⟩
theorem x_Mo_init_594 : DC b_Mo_init 594 (.newarray .int) 2 596 := ⟨by decide +kernel, rfl⟩
theorem x_Mo_init_596 : DC b_Mo_init 596 (.putfield 236) 3 599 := ⟨by decide +kernel, rfl⟩
theorem x_Mo_init_599 : DC b_Mo_init 599 (.aload_n 0) 1 600 := ⟨by decide +kernel, rfl⟩
theorem x_Mo_init_600 : DC b_Mo_init 600 (.iconst 4) 1 601 := ⟨by decide +kernel, rfl⟩
theorem x_Mo_init_601 : DC b_Mo_init 601 (.newarray .int) 2 603 := ⟨by decide +kernel, rfl⟩
theorem x_Mo_init_603 : DC b_Mo_init 603 (.putfield 239) 3 606 := ⟨by decide +kernel, rfl⟩
theorem x_Mo_init_606 : DC b_Mo_init 606 (.aload_n 0) 1 607 := ⟨by decide +kernel, rfl⟩
theorem x_Mo_init_607 : DC b_Mo_init 607 (.bipush 20) 2 609 := ⟨by decide +kernel, rfl⟩
theorem x_Mo_init_609 : DC b_Mo_init 609 (.newarray .int) 2 611 := ⟨by decide +kernel, rfl⟩
theorem x_Mo_init_611 : DC b_Mo_init 611 (.putfield 242) 3 614 := ⟨by decide +kernel, rfl⟩
theorem x_Mo_init_614 : DC b_Mo_init 614 (.aload_n 0) 1 615 := ⟨by decide +kernel, rfl⟩
theorem x_Mo_init_615 : DC b_Mo_init 615 (.bipush 20) 2 617 := ⟨by decide +kernel, rfl⟩
theorem x_Mo_init_617 : DC b_Mo_init 617 (.newarray .int) 2 619 := ⟨by decide +kernel, rfl⟩
theorem x_Mo_init_619 : DC b_Mo_init 619 (.putfield 245) 3 622 := ⟨by decide +kernel, rfl⟩
theorem x_Mo_init_622 : DC b_Mo_init 622 (.aload_n 0) 1 623 := ⟨by decide +kernel, rfl⟩
theorem x_Mo_init_623 : DC b_Mo_init 623 (.bipush 11) 2 625 := ⟨by decide +kernel, rfl⟩
theorem x_Mo_init_625 : DC b_Mo_init 625 (.newarray .int) 2 627 := ⟨by decide +kernel, rfl⟩
theorem x_Mo_init_627 : DC b_Mo_init 627 (.putfield 248) 3 630 := ⟨by decide +kernel, rfl⟩
theorem x_Mo_init_630 : DC b_Mo_init 630 (.aload_n 0) 1 631 := ⟨by decide +kernel, rfl⟩
theorem x_Mo_init_631 : DC b_Mo_init 631 (.bipush 11) 2 633 := ⟨by decide +kernel, rfl⟩
theorem x_Mo_init_633 : DC b_Mo_init 633 (.newarray .int) 2 635 := ⟨by decide +kernel, rfl⟩
theorem x_Mo_init_635 : DC b_Mo_init 635 (.putfield 251) 3 638 := ⟨by decide +kernel, rfl⟩
theorem x_Mo_init_638 : DC b_Mo_init 638 (.aload_n 0) 1 639 := ⟨by decide +kernel, rfl⟩
theorem x_Mo_init_639 : DC b_Mo_init 639 (.bipush 8) 2 641 := ⟨by decide +kernel, rfl⟩
theorem x_Mo_init_641 : DC b_Mo_init 641 (.newarray .int) 2 643 := ⟨by decide +kernel, rfl⟩
theorem x_Mo_init_643 : DC b_Mo_init 643 (.putfield 254) 3 646 := ⟨by decide +kernel, rfl⟩
theorem x_Mo_init_646 : DC b_Mo_init 646 (.iconst 0) 1 647 := ⟨by decide +kernel, rfl⟩
theorem x_Mo_init_647 : DC b_Mo_init 647 (.istore_n 1) 1 648 := ⟨by decide +kernel, rfl⟩
theorem x_Mo_init_648 : DC b_Mo_init 648 (.iload_n 1) 1 649 := ⟨by decide +kernel, rfl⟩
theorem x_Mo_init_649 : DC b_Mo_init 649 (.iconst 4) 1 650 := ⟨by decide +kernel, rfl⟩
theorem x_Mo_init_650 : DC b_Mo_init 650 (.if_icmp .ge 16) 3 653 := ⟨by decide +kernel, rfl⟩
theorem x_Mo_init_653 : DC b_Mo_init 653 (.aload_n 0) 1 654 := ⟨by decide +kernel, rfl⟩
theorem x_Mo_init_654 : DC b_Mo_init 654 (.getfield 13) 3 657 := ⟨by decide +kernel, rfl⟩
theorem x_Mo_init_657 : DC b_Mo_init 657 (.iload_n 1) 1 658 := ⟨by decide +kernel, rfl⟩
theorem x_Mo_init_658 : DC b_Mo_init 658 (.iconst (-1)) 1 659 := ⟨by decide +kernel, rfl⟩
theorem x_Mo_init_659 : DC b_Mo_init 659 (.iastore) 1 660 := ⟨by decide +kernel, rfl⟩
theorem x_Mo_init_660 : DC b_Mo_init 660 (.iinc 1 1) 3 663 := ⟨by decide +kernel, rfl⟩
theorem x_Mo_init_663 : DC b_Mo_init 663 (.goto (-15)) 3 666 := ⟨by decide +kernel, rfl⟩
theorem x_Mo_init_666 : DC b_Mo_init 666 (.iconst 0) 1 667 := ⟨by decide +kernel, rfl⟩
theorem x_Mo_init_667 : DC b_Mo_init 667 (.istore_n 1) 1 668 := ⟨by decide +kernel, rfl⟩
theorem x_Mo_init_668 : DC b_Mo_init 668 (.iload_n 1) 1 669 := ⟨by decide +kernel, rfl⟩
theorem x_Mo_init_669 : DC b_Mo_init 669 (.bipush 20) 2 671 := ⟨by decide +kernel, rfl⟩
theorem x_Mo_init_671 : DC b_Mo_init 671 (.if_icmp .ge 30) 3 674 := ⟨by decide +kernel, rfl⟩
theorem x_Mo_init_674 : DC b_Mo_init 674 (.aload_n 0) 1 675 := ⟨by decide +kernel, rfl⟩
theorem x_Mo_init_675 : DC b_Mo_init 675 (.getfield 176) 3 678 := ⟨by decide +kernel, rfl⟩
theorem x_Mo_init_678 : DC b_Mo_init 678 (.iload_n 1) 1 679 := ⟨by decide +kernel, rfl⟩
theorem x_Mo_init_679 : DC b_Mo_init 679 (.iconst (-1)) 1 680 := ⟨by decide +kernel, rfl⟩
theorem x_Mo_init_680 : DC b_Mo_init 680 (.iastore) 1 681 := ⟨by decide +kernel, rfl⟩
theorem x_Mo_init_681 : DC b_Mo_init 681 (.aload_n 0) 1 682 := ⟨by decide +kernel, rfl⟩
theorem x_Mo_init_682 : DC b_Mo_init 682 (.getfield 179) 3 685 := ⟨by decide +kernel, rfl⟩
theorem x_Mo_init_685 : DC b_Mo_init 685 (.iload_n 1) 1 686 := ⟨by decide +kernel, rfl⟩
theorem x_Mo_init_686 : DC b_Mo_init 686 (.iconst (-1)) 1 687 := ⟨by decide +kernel, rfl⟩
theorem x_Mo_init_687 : DC b_Mo_init 687 (.iastore) 1 688 := ⟨by decide +kernel, rfl⟩
theorem x_Mo_init_688 : DC b_Mo_init 688 (.aload_n 0) 1 689 := ⟨by decide +kernel, rfl⟩
theorem x_Mo_init_689 : DC b_Mo_init 689 (.getfield 182) 3 692 := ⟨by decide +kernel, rfl⟩
theorem x_Mo_init_692 : DC b_Mo_init 692 (.iload_n 1) 1 693 := ⟨by decide +kernel, rfl⟩
theorem x_Mo_init_693 : DC b_Mo_init 693 (.iconst (-1)) 1 694 := ⟨by decide +kernel, rfl⟩
theorem x_Mo_init_694 : DC b_Mo_init 694 (.iastore) 1 695 := ⟨by decide +kernel, rfl⟩
theorem x_Mo_init_695 : DC b_Mo_init 695 (.iinc 1 1) 3 698 := ⟨by decide +kernel, rfl⟩
theorem x_Mo_init_698 : DC b_Mo_init 698 (.goto (-30)) 3 701 := ⟨by decide +kernel, rfl⟩
theorem x_Mo_init_701 : DC b_Mo_init 701 (.return_) 1 702 := ⟨by decide +kernel, rfl⟩
def i_Mo (M : Mem) : Mem := sto (sto (sto (sto (sto (sto (sto (sto (sto (sto (sto (sto (sto (sto (sto (sto (sto (sto (sto (sto (sto (sto (sto (sto (sto (sto (sto (sto (sto (sto (sto (sto (sto (sto (sto (sto (sto (sto (sto (sto (sto (sto (sto (sto (sto (sto (sto (sto (sto (sto (sto (sto (sto (sto (sto (sto (sto (sto (sto (sto (sto (sto (sto (sto (sto (sto (sto (sto (sto (sto (sto (sto (sto (sto (sto (sto (sto (sto (sto (sto (sto (sto (sto (sto (sto (sto (sto (sto (sto (sto (sto (sto (sto (sto (sto (sto (sto (sto (sto (sto (sto (sto (sto (sto (sto (sto (sto (sto (sto (sto (sto (sto (sto (sto (sto (sto (sto (sto (sto (sto (sto (sto (sto (sto (sto (sto (sto (sto (sto (sto (sto (sto (sto (sto (sto (sto (sto (sto (sto (sto (sto (sto (sto (sto (sto (M) 111 2 (((112 : Nat) : Int) + 1)) 111 3 (((113 : Nat) : Int) + 1)) 111 4 (((114 : Nat) : Int) + 1)) 111 11 (((115 : Nat) : Int) + 1)) 111 12 (((116 : Nat) : Int) + 1)) 111 13 (((117 : Nat) : Int) + 1)) 111 14 (((118 : Nat) : Int) + 1)) 111 15 (((119 : Nat) : Int) + 1)) 111 16 (((120 : Nat) : Int) + 1)) 111 17 (((121 : Nat) : Int) + 1)) 111 18 (((122 : Nat) : Int) + 1)) 111 19 (((123 : Nat) : Int) + 1)) 111 20 (((124 : Nat) : Int) + 1)) 111 21 (((125 : Nat) : Int) + 1)) 111 22 (((126 : Nat) : Int) + 1)) 111 23 (((127 : Nat) : Int) + 1)) 111 24 (((128 : Nat) : Int) + 1)) 111 25 (((129 : Nat) : Int) + 1)) 111 26 (((130 : Nat) : Int) + 1)) 111 27 (((131 : Nat) : Int) + 1)) 111 28 (((132 : Nat) : Int) + 1)) 111 29 (((133 : Nat) : Int) + 1)) 111 30 (((134 : Nat) : Int) + 1)) 111 31 (((135 : Nat) : Int) + 1)) 111 32 (((136 : Nat) : Int) + 1)) 111 33 (((137 : Nat) : Int) + 1)) 111 34 (((138 : Nat) : Int) + 1)) 111 35 (((139 : Nat) : Int) + 1)) 111 36 (((140 : Nat) : Int) + 1)) 111 37 (((141 : Nat) : Int) + 1)) 111 38 (((142 : Nat) : Int) + 1)) 111 40 (((143 : Nat) : Int) + 1)) 111 41 (((144 : Nat) : Int) + 1)) 111 42 (((145 : Nat) : Int) + 1)) 111 43 (((146 : Nat) : Int) + 1)) 111 46 (-1)) 111 47 (-1)) 111 59 (((147 : Nat) : Int) + 1)) 111 60 (((148 : Nat) : Int) + 1)) 111 61 (((149 : Nat) : Int) + 1)) 111 62 (((150 : Nat) : Int) + 1)) 111 63 (((151 : Nat) : Int) + 1)) 111 64 (((152 : Nat) : Int) + 1)) 111 65 (((153 : Nat) : Int) + 1)) 111 66 (((154 : Nat) : Int) + 1)) 111 67 (((155 : Nat) : Int) + 1)) 111 68 (((156 : Nat) : Int) + 1)) 111 69 (((157 : Nat) : Int) + 1)) 111 70 (((158 : Nat) : Int) + 1)) 111 71 (((159 : Nat) : Int) + 1)) 111 73 (((160 : Nat) : Int) + 1)) 111 74 (((161 : Nat) : Int) + 1)) 111 75 (((162 : Nat) : Int) + 1)) 111 76 (((163 : Nat) : Int) + 1)) 111 79 (((164 : Nat) : Int) + 1)) 111 80 (((165 : Nat) : Int) + 1)) 111 81 (((166 : Nat) : Int) + 1)) 111 82 (((167 : Nat) : Int) + 1)) 111 83 (((168 : Nat) : Int) + 1)) 111 84 (((169 : Nat) : Int) + 1)) 111 85 (((170 : Nat) : Int) + 1)) 111 86 (((171 : Nat) : Int) + 1)) 111 87 (((172 : Nat) : Int) + 1)) 111 89 10) 111 90 2) 111 91 (((173 : Nat) : Int) + 1)) 111 92 (((174 : Nat) : Int) + 1)) 111 93 (((175 : Nat) : Int) + 1)) 111 94 (((176 : Nat) : Int) + 1)) 111 95 (((177 : Nat) : Int) + 1)) 111 96 (((178 : Nat) : Int) + 1)) 111 97 (((179 : Nat) : Int) + 1)) 111 98 (((180 : Nat) : Int) + 1)) 111 99 (((181 : Nat) : Int) + 1)) 111 100 (((182 : Nat) : Int) + 1)) 111 101 (((183 : Nat) : Int) + 1)) 111 102 (((184 : Nat) : Int) + 1)) 111 103 (((185 : Nat) : Int) + 1)) 111 104 (((186 : Nat) : Int) + 1)) 111 105 (((187 : Nat) : Int) + 1)) 111 106 (((188 : Nat) : Int) + 1)) 113 0 (-1)) 113 1 (-1)) 113 2 (-1)) 113 3 (-1)) 164 0 (-1)) 165 0 (-1)) 166 0 (-1)) 164 1 (-1)) 165 1 (-1)) 166 1 (-1)) 164 2 (-1)) 165 2 (-1)) 166 2 (-1)) 164 3 (-1)) 165 3 (-1)) 166 3 (-1)) 164 4 (-1)) 165 4 (-1)) 166 4 (-1)) 164 5 (-1)) 165 5 (-1)) 166 5 (-1)) 164 6 (-1)) 165 6 (-1)) 166 6 (-1)) 164 7 (-1)) 165 7 (-1)) 166 7 (-1)) 164 8 (-1)) 165 8 (-1)) 166 8 (-1)) 164 9 (-1)) 165 9 (-1)) 166 9 (-1)) 164 10 (-1)) 165 10 (-1)) 166 10 (-1)) 164 11 (-1)) 165 11 (-1)) 166 11 (-1)) 164 12 (-1)) 165 12 (-1)) 166 12 (-1)) 164 13 (-1)) 165 13 (-1)) 166 13 (-1)) 164 14 (-1)) 165 14 (-1)) 166 14 (-1)) 164 15 (-1)) 165 15 (-1)) 166 15 (-1)) 164 16 (-1)) 165 16 (-1)) 166 16 (-1)) 164 17 (-1)) 165 17 (-1)) 166 17 (-1)) 164 18 (-1)) 165 18 (-1)) 166 18 (-1)) 164 19 (-1)) 165 19 (-1)) 166 19 (-1)
theorem c_Mo_init (l : Launch) (G : GX) {lev : Nat} (hlev : 1 ≤ lev) {M : Mem} : MtD l G y_Mo_init b_Mo_init 2 lev 77 28337 [.ref (G.1 + 111)] 112 M 189 (i_Mo M) := by
  refine MtD.of (by decide) rfl (i_le rfl) ?_
  intro p e s m args below meth c C hin2
  have C : Cx p s m args meth c G b_Mo_init 2 "PrairiePoolModel" none := C
  refine z_sub (lv' := [(0, .ref (G.1 + 111))]) [0] rfl ?_
  refine z_aload_n C 0 x_Mo_init_0 rfl ?_
  refine z_objD C x_Mo_init_1 ol_Mo ob_in ob_co (i_le rfl) (by unfold rmD; dsimp only; omega) ?_
  refine z_aload_n C 0 x_Mo_init_4 rfl ?_
  refine z_iconst C x_Mo_init_5 ?_
  refine z_newaI (n := 112) (n' := 113) (cl' := 1) (sl' := 4) C x_Mo_init_6 ac_int rfl (i_le rfl) ck_112 rfl rfl rfl ⟨i_le rfl, i_le rfl⟩ ?_
  refine z_putDr (j := 2) (q := 112) C x_Mo_init_8 (i_lt rfl) ck_111 cw_12 (i_lt rfl) rfl rfl (Or.inr ⟨_, rfl⟩) rfl hin2 rfl fl_Mo_7 ?_
  refine z_aload_n C 0 x_Mo_init_11 rfl ?_
  refine z_iconst C x_Mo_init_12 ?_
  refine z_newaI (n := 113) (n' := 114) (cl' := 2) (sl' := 8) C x_Mo_init_13 ac_int rfl (i_le rfl) ck_113 rfl rfl rfl ⟨i_le rfl, i_le rfl⟩ ?_
  refine z_putDr (j := 3) (q := 113) C x_Mo_init_15 (i_lt rfl) ck_111 cw_12 (i_lt rfl) rfl rfl (Or.inr ⟨_, rfl⟩) rfl hin2 rfl fl_Mo_13 ?_
  refine z_aload_n C 0 x_Mo_init_18 rfl ?_
  refine z_sipush C rfl x_Mo_init_19 ?_
  refine z_newaJ (n := 114) (n' := 115) (cl' := 3) (sl' := 168) C x_Mo_init_22 ac_long rfl (i_le rfl) ck_114 rfl rfl rfl ⟨i_le rfl, i_le rfl⟩ ?_
  refine z_putDr (j := 4) (q := 114) C x_Mo_init_24 (i_lt rfl) ck_111 cw_12 (i_lt rfl) rfl rfl (Or.inr ⟨_, rfl⟩) rfl hin2 rfl fl_Mo_16 ?_
  refine z_aload_n C 0 x_Mo_init_27 rfl ?_
  refine z_bipush C rfl x_Mo_init_28 ?_
  refine z_newaI (n := 115) (n' := 116) (cl' := 4) (sl' := 188) C x_Mo_init_30 ac_int rfl (i_le rfl) ck_115 rfl rfl rfl ⟨i_le rfl, i_le rfl⟩ ?_
  refine z_putDr (j := 11) (q := 115) C x_Mo_init_32 (i_lt rfl) ck_111 cw_12 (i_lt rfl) rfl rfl (Or.inr ⟨_, rfl⟩) rfl hin2 rfl fl_Mo_20 ?_
  refine z_aload_n C 0 x_Mo_init_35 rfl ?_
  refine z_bipush C rfl x_Mo_init_36 ?_
  refine z_newaI (n := 116) (n' := 117) (cl' := 5) (sl' := 208) C x_Mo_init_38 ac_int rfl (i_le rfl) ck_116 rfl rfl rfl ⟨i_le rfl, i_le rfl⟩ ?_
  refine z_putDr (j := 12) (q := 116) C x_Mo_init_40 (i_lt rfl) ck_111 cw_12 (i_lt rfl) rfl rfl (Or.inr ⟨_, rfl⟩) rfl hin2 rfl fl_Mo_23 ?_
  refine z_aload_n C 0 x_Mo_init_43 rfl ?_
  refine z_bipush C rfl x_Mo_init_44 ?_
  refine z_newaI (n := 117) (n' := 118) (cl' := 6) (sl' := 228) C x_Mo_init_46 ac_int rfl (i_le rfl) ck_117 rfl rfl rfl ⟨i_le rfl, i_le rfl⟩ ?_
  refine z_putDr (j := 13) (q := 117) C x_Mo_init_48 (i_lt rfl) ck_111 cw_12 (i_lt rfl) rfl rfl (Or.inr ⟨_, rfl⟩) rfl hin2 rfl fl_Mo_26 ?_
  refine z_aload_n C 0 x_Mo_init_51 rfl ?_
  refine z_bipush C rfl x_Mo_init_52 ?_
  refine z_newaI (n := 118) (n' := 119) (cl' := 7) (sl' := 236) C x_Mo_init_54 ac_int rfl (i_le rfl) ck_118 rfl rfl rfl ⟨i_le rfl, i_le rfl⟩ ?_
  refine z_putDr (j := 14) (q := 118) C x_Mo_init_56 (i_lt rfl) ck_111 cw_12 (i_lt rfl) rfl rfl (Or.inr ⟨_, rfl⟩) rfl hin2 rfl fl_Mo_29 ?_
  refine z_aload_n C 0 x_Mo_init_59 rfl ?_
  refine z_bipush C rfl x_Mo_init_60 ?_
  refine z_newaI (n := 119) (n' := 120) (cl' := 8) (sl' := 244) C x_Mo_init_62 ac_int rfl (i_le rfl) ck_119 rfl rfl rfl ⟨i_le rfl, i_le rfl⟩ ?_
  refine z_putDr (j := 15) (q := 119) C x_Mo_init_64 (i_lt rfl) ck_111 cw_12 (i_lt rfl) rfl rfl (Or.inr ⟨_, rfl⟩) rfl hin2 rfl fl_Mo_32 ?_
  refine z_aload_n C 0 x_Mo_init_67 rfl ?_
  refine z_bipush C rfl x_Mo_init_68 ?_
  refine z_newaI (n := 120) (n' := 121) (cl' := 9) (sl' := 364) C x_Mo_init_70 ac_int rfl (i_le rfl) ck_120 rfl rfl rfl ⟨i_le rfl, i_le rfl⟩ ?_
  refine z_putDr (j := 16) (q := 120) C x_Mo_init_72 (i_lt rfl) ck_111 cw_12 (i_lt rfl) rfl rfl (Or.inr ⟨_, rfl⟩) rfl hin2 rfl fl_Mo_35 ?_
  refine z_aload_n C 0 x_Mo_init_75 rfl ?_
  refine z_bipush C rfl x_Mo_init_76 ?_
  refine z_newaI (n := 121) (n' := 122) (cl' := 10) (sl' := 484) C x_Mo_init_78 ac_int rfl (i_le rfl) ck_121 rfl rfl rfl ⟨i_le rfl, i_le rfl⟩ ?_
  refine z_putDr (j := 17) (q := 121) C x_Mo_init_80 (i_lt rfl) ck_111 cw_12 (i_lt rfl) rfl rfl (Or.inr ⟨_, rfl⟩) rfl hin2 rfl fl_Mo_38 ?_
  refine z_aload_n C 0 x_Mo_init_83 rfl ?_
  refine z_bipush C rfl x_Mo_init_84 ?_
  refine z_newaI (n := 122) (n' := 123) (cl' := 11) (sl' := 604) C x_Mo_init_86 ac_int rfl (i_le rfl) ck_122 rfl rfl rfl ⟨i_le rfl, i_le rfl⟩ ?_
  refine z_putDr (j := 18) (q := 122) C x_Mo_init_88 (i_lt rfl) ck_111 cw_12 (i_lt rfl) rfl rfl (Or.inr ⟨_, rfl⟩) rfl hin2 rfl fl_Mo_41 ?_
  refine z_aload_n C 0 x_Mo_init_91 rfl ?_
  refine z_bipush C rfl x_Mo_init_92 ?_
  refine z_newaI (n := 123) (n' := 124) (cl' := 12) (sl' := 724) C x_Mo_init_94 ac_int rfl (i_le rfl) ck_123 rfl rfl rfl ⟨i_le rfl, i_le rfl⟩ ?_
  refine z_putDr (j := 19) (q := 123) C x_Mo_init_96 (i_lt rfl) ck_111 cw_12 (i_lt rfl) rfl rfl (Or.inr ⟨_, rfl⟩) rfl hin2 rfl fl_Mo_44 ?_
  refine z_aload_n C 0 x_Mo_init_99 rfl ?_
  refine z_bipush C rfl x_Mo_init_100 ?_
  refine z_newaI (n := 124) (n' := 125) (cl' := 13) (sl' := 844) C x_Mo_init_102 ac_int rfl (i_le rfl) ck_124 rfl rfl rfl ⟨i_le rfl, i_le rfl⟩ ?_
  refine z_putDr (j := 20) (q := 124) C x_Mo_init_104 (i_lt rfl) ck_111 cw_12 (i_lt rfl) rfl rfl (Or.inr ⟨_, rfl⟩) rfl hin2 rfl fl_Mo_47 ?_
  refine z_aload_n C 0 x_Mo_init_107 rfl ?_
  refine z_bipush C rfl x_Mo_init_108 ?_
  refine z_newaI (n := 125) (n' := 126) (cl' := 14) (sl' := 964) C x_Mo_init_110 ac_int rfl (i_le rfl) ck_125 rfl rfl rfl ⟨i_le rfl, i_le rfl⟩ ?_
  refine z_putDr (j := 21) (q := 125) C x_Mo_init_112 (i_lt rfl) ck_111 cw_12 (i_lt rfl) rfl rfl (Or.inr ⟨_, rfl⟩) rfl hin2 rfl fl_Mo_50 ?_
  refine z_aload_n C 0 x_Mo_init_115 rfl ?_
  refine z_bipush C rfl x_Mo_init_116 ?_
  refine z_newaI (n := 126) (n' := 127) (cl' := 15) (sl' := 1084) C x_Mo_init_118 ac_int rfl (i_le rfl) ck_126 rfl rfl rfl ⟨i_le rfl, i_le rfl⟩ ?_
  refine z_putDr (j := 22) (q := 126) C x_Mo_init_120 (i_lt rfl) ck_111 cw_12 (i_lt rfl) rfl rfl (Or.inr ⟨_, rfl⟩) rfl hin2 rfl fl_Mo_53 ?_
  refine z_aload_n C 0 x_Mo_init_123 rfl ?_
  refine z_bipush C rfl x_Mo_init_124 ?_
  refine z_newaI (n := 127) (n' := 128) (cl' := 16) (sl' := 1204) C x_Mo_init_126 ac_int rfl (i_le rfl) ck_127 rfl rfl rfl ⟨i_le rfl, i_le rfl⟩ ?_
  refine z_putDr (j := 23) (q := 127) C x_Mo_init_128 (i_lt rfl) ck_111 cw_12 (i_lt rfl) rfl rfl (Or.inr ⟨_, rfl⟩) rfl hin2 rfl fl_Mo_56 ?_
  refine z_aload_n C 0 x_Mo_init_131 rfl ?_
  refine z_bipush C rfl x_Mo_init_132 ?_
  refine z_newaI (n := 128) (n' := 129) (cl' := 17) (sl' := 1324) C x_Mo_init_134 ac_int rfl (i_le rfl) ck_128 rfl rfl rfl ⟨i_le rfl, i_le rfl⟩ ?_
  refine z_putDr (j := 24) (q := 128) C x_Mo_init_136 (i_lt rfl) ck_111 cw_12 (i_lt rfl) rfl rfl (Or.inr ⟨_, rfl⟩) rfl hin2 rfl fl_Mo_59 ?_
  refine z_aload_n C 0 x_Mo_init_139 rfl ?_
  refine z_bipush C rfl x_Mo_init_140 ?_
  refine z_newaI (n := 129) (n' := 130) (cl' := 18) (sl' := 1444) C x_Mo_init_142 ac_int rfl (i_le rfl) ck_129 rfl rfl rfl ⟨i_le rfl, i_le rfl⟩ ?_
  refine z_putDr (j := 25) (q := 129) C x_Mo_init_144 (i_lt rfl) ck_111 cw_12 (i_lt rfl) rfl rfl (Or.inr ⟨_, rfl⟩) rfl hin2 rfl fl_Mo_62 ?_
  refine z_aload_n C 0 x_Mo_init_147 rfl ?_
  refine z_bipush C rfl x_Mo_init_148 ?_
  refine z_newaI (n := 130) (n' := 131) (cl' := 19) (sl' := 1544) C x_Mo_init_150 ac_int rfl (i_le rfl) ck_130 rfl rfl rfl ⟨i_le rfl, i_le rfl⟩ ?_
  refine z_putDr (j := 26) (q := 130) C x_Mo_init_152 (i_lt rfl) ck_111 cw_12 (i_lt rfl) rfl rfl (Or.inr ⟨_, rfl⟩) rfl hin2 rfl fl_Mo_65 ?_
  refine z_aload_n C 0 x_Mo_init_155 rfl ?_
  refine z_bipush C rfl x_Mo_init_156 ?_
  refine z_newaI (n := 131) (n' := 132) (cl' := 20) (sl' := 1644) C x_Mo_init_158 ac_int rfl (i_le rfl) ck_131 rfl rfl rfl ⟨i_le rfl, i_le rfl⟩ ?_
  refine z_putDr (j := 27) (q := 131) C x_Mo_init_160 (i_lt rfl) ck_111 cw_12 (i_lt rfl) rfl rfl (Or.inr ⟨_, rfl⟩) rfl hin2 rfl fl_Mo_68 ?_
  refine z_aload_n C 0 x_Mo_init_163 rfl ?_
  refine z_bipush C rfl x_Mo_init_164 ?_
  refine z_newaI (n := 132) (n' := 133) (cl' := 21) (sl' := 1744) C x_Mo_init_166 ac_int rfl (i_le rfl) ck_132 rfl rfl rfl ⟨i_le rfl, i_le rfl⟩ ?_
  refine z_putDr (j := 28) (q := 132) C x_Mo_init_168 (i_lt rfl) ck_111 cw_12 (i_lt rfl) rfl rfl (Or.inr ⟨_, rfl⟩) rfl hin2 rfl fl_Mo_71 ?_
  refine z_aload_n C 0 x_Mo_init_171 rfl ?_
  refine z_bipush C rfl x_Mo_init_172 ?_
  refine z_newaI (n := 133) (n' := 134) (cl' := 22) (sl' := 1844) C x_Mo_init_174 ac_int rfl (i_le rfl) ck_133 rfl rfl rfl ⟨i_le rfl, i_le rfl⟩ ?_
  refine z_putDr (j := 29) (q := 133) C x_Mo_init_176 (i_lt rfl) ck_111 cw_12 (i_lt rfl) rfl rfl (Or.inr ⟨_, rfl⟩) rfl hin2 rfl fl_Mo_74 ?_
  refine z_aload_n C 0 x_Mo_init_179 rfl ?_
  refine z_sipush C rfl x_Mo_init_180 ?_
  refine z_newaI (n := 134) (n' := 135) (cl' := 23) (sl' := 11444) C x_Mo_init_183 ac_int rfl (i_le rfl) ck_134 rfl rfl rfl ⟨i_le rfl, i_le rfl⟩ ?_
  refine z_putDr (j := 30) (q := 134) C x_Mo_init_185 (i_lt rfl) ck_111 cw_12 (i_lt rfl) rfl rfl (Or.inr ⟨_, rfl⟩) rfl hin2 rfl fl_Mo_77 ?_
  refine z_aload_n C 0 x_Mo_init_188 rfl ?_
  refine z_sipush C rfl x_Mo_init_189 ?_
  refine z_newaI (n := 135) (n' := 136) (cl' := 24) (sl' := 13844) C x_Mo_init_192 ac_int rfl (i_le rfl) ck_135 rfl rfl rfl ⟨i_le rfl, i_le rfl⟩ ?_
  refine z_putDr (j := 31) (q := 135) C x_Mo_init_194 (i_lt rfl) ck_111 cw_12 (i_lt rfl) rfl rfl (Or.inr ⟨_, rfl⟩) rfl hin2 rfl fl_Mo_80 ?_
  refine z_aload_n C 0 x_Mo_init_197 rfl ?_
  refine z_bipush C rfl x_Mo_init_198 ?_
  refine z_newaI (n := 136) (n' := 137) (cl' := 25) (sl' := 13964) C x_Mo_init_200 ac_int rfl (i_le rfl) ck_136 rfl rfl rfl ⟨i_le rfl, i_le rfl⟩ ?_
  refine z_putDr (j := 32) (q := 136) C x_Mo_init_202 (i_lt rfl) ck_111 cw_12 (i_lt rfl) rfl rfl (Or.inr ⟨_, rfl⟩) rfl hin2 rfl fl_Mo_83 ?_
  refine z_aload_n C 0 x_Mo_init_205 rfl ?_
  refine z_bipush C rfl x_Mo_init_206 ?_
  refine z_newaI (n := 137) (n' := 138) (cl' := 26) (sl' := 14084) C x_Mo_init_208 ac_int rfl (i_le rfl) ck_137 rfl rfl rfl ⟨i_le rfl, i_le rfl⟩ ?_
  refine z_putDr (j := 33) (q := 137) C x_Mo_init_210 (i_lt rfl) ck_111 cw_12 (i_lt rfl) rfl rfl (Or.inr ⟨_, rfl⟩) rfl hin2 rfl fl_Mo_86 ?_
  refine z_aload_n C 0 x_Mo_init_213 rfl ?_
  refine z_bipush C rfl x_Mo_init_214 ?_
  refine z_newaI (n := 138) (n' := 139) (cl' := 27) (sl' := 14204) C x_Mo_init_216 ac_int rfl (i_le rfl) ck_138 rfl rfl rfl ⟨i_le rfl, i_le rfl⟩ ?_
  refine z_putDr (j := 34) (q := 138) C x_Mo_init_218 (i_lt rfl) ck_111 cw_12 (i_lt rfl) rfl rfl (Or.inr ⟨_, rfl⟩) rfl hin2 rfl fl_Mo_89 ?_
  refine z_aload_n C 0 x_Mo_init_221 rfl ?_
  refine z_bipush C rfl x_Mo_init_222 ?_
  refine z_newaI (n := 139) (n' := 140) (cl' := 28) (sl' := 14224) C x_Mo_init_224 ac_int rfl (i_le rfl) ck_139 rfl rfl rfl ⟨i_le rfl, i_le rfl⟩ ?_
  refine z_putDr (j := 35) (q := 139) C x_Mo_init_226 (i_lt rfl) ck_111 cw_12 (i_lt rfl) rfl rfl (Or.inr ⟨_, rfl⟩) rfl hin2 rfl fl_Mo_92 ?_
  refine z_aload_n C 0 x_Mo_init_229 rfl ?_
  refine z_bipush C rfl x_Mo_init_230 ?_
  refine z_newaI (n := 140) (n' := 141) (cl' := 29) (sl' := 14244) C x_Mo_init_232 ac_int rfl (i_le rfl) ck_140 rfl rfl rfl ⟨i_le rfl, i_le rfl⟩ ?_
  refine z_putDr (j := 36) (q := 140) C x_Mo_init_234 (i_lt rfl) ck_111 cw_12 (i_lt rfl) rfl rfl (Or.inr ⟨_, rfl⟩) rfl hin2 rfl fl_Mo_95 ?_
  refine z_aload_n C 0 x_Mo_init_237 rfl ?_
  refine z_bipush C rfl x_Mo_init_238 ?_
  refine z_newaI (n := 141) (n' := 142) (cl' := 30) (sl' := 14264) C x_Mo_init_240 ac_int rfl (i_le rfl) ck_141 rfl rfl rfl ⟨i_le rfl, i_le rfl⟩ ?_
  refine z_putDr (j := 37) (q := 141) C x_Mo_init_242 (i_lt rfl) ck_111 cw_12 (i_lt rfl) rfl rfl (Or.inr ⟨_, rfl⟩) rfl hin2 rfl fl_Mo_98 ?_
  refine z_aload_n C 0 x_Mo_init_245 rfl ?_
  refine z_bipush C rfl x_Mo_init_246 ?_
  refine z_newaI (n := 142) (n' := 143) (cl' := 31) (sl' := 14284) C x_Mo_init_248 ac_int rfl (i_le rfl) ck_142 rfl rfl rfl ⟨i_le rfl, i_le rfl⟩ ?_
  refine z_putDr (j := 38) (q := 142) C x_Mo_init_250 (i_lt rfl) ck_111 cw_12 (i_lt rfl) rfl rfl (Or.inr ⟨_, rfl⟩) rfl hin2 rfl fl_Mo_101 ?_
  refine z_aload_n C 0 x_Mo_init_253 rfl ?_
  refine z_bipush C rfl x_Mo_init_254 ?_
  refine z_newaJ (n := 143) (n' := 144) (cl' := 32) (sl' := 14304) C x_Mo_init_256 ac_long rfl (i_le rfl) ck_143 rfl rfl rfl ⟨i_le rfl, i_le rfl⟩ ?_
  refine z_putDr (j := 40) (q := 143) C x_Mo_init_258 (i_lt rfl) ck_111 cw_12 (i_lt rfl) rfl rfl (Or.inr ⟨_, rfl⟩) rfl hin2 rfl fl_Mo_104 ?_
  refine z_aload_n C 0 x_Mo_init_261 rfl ?_
  refine z_bipush C rfl x_Mo_init_262 ?_
  refine z_newaJ (n := 144) (n' := 145) (cl' := 33) (sl' := 14324) C x_Mo_init_264 ac_long rfl (i_le rfl) ck_144 rfl rfl rfl ⟨i_le rfl, i_le rfl⟩ ?_
  refine z_putDr (j := 41) (q := 144) C x_Mo_init_266 (i_lt rfl) ck_111 cw_12 (i_lt rfl) rfl rfl (Or.inr ⟨_, rfl⟩) rfl hin2 rfl fl_Mo_107 ?_
  refine z_aload_n C 0 x_Mo_init_269 rfl ?_
  refine z_bipush C rfl x_Mo_init_270 ?_
  refine z_newaJ (n := 145) (n' := 146) (cl' := 34) (sl' := 14344) C x_Mo_init_272 ac_long rfl (i_le rfl) ck_145 rfl rfl rfl ⟨i_le rfl, i_le rfl⟩ ?_
  refine z_putDr (j := 42) (q := 145) C x_Mo_init_274 (i_lt rfl) ck_111 cw_12 (i_lt rfl) rfl rfl (Or.inr ⟨_, rfl⟩) rfl hin2 rfl fl_Mo_110 ?_
  refine z_aload_n C 0 x_Mo_init_277 rfl ?_
  refine z_sipush C rfl x_Mo_init_278 ?_
  refine z_newaB (n := 146) (n' := 147) (cl' := 35) (sl' := 14844) C x_Mo_init_281 ac_byte rfl (i_le rfl) ck_146 rfl rfl rfl ⟨i_le rfl, i_le rfl⟩ ?_
  refine z_putDr (j := 43) (q := 146) C x_Mo_init_283 (i_lt rfl) ck_111 cw_12 (i_lt rfl) rfl rfl (Or.inr ⟨_, rfl⟩) rfl hin2 rfl fl_Mo_113 ?_
  refine z_aload_n C 0 x_Mo_init_286 rfl ?_
  refine z_iconst C x_Mo_init_287 ?_
  refine z_putDi (j := 46) C x_Mo_init_288 (i_lt rfl) ck_111 cw_12 (i_lt rfl) rfl rfl rfl rfl fl_Mo_117 ?_
  refine z_aload_n C 0 x_Mo_init_291 rfl ?_
  refine z_iconst C x_Mo_init_292 ?_
  refine z_putDi (j := 47) C x_Mo_init_293 (i_lt rfl) ck_111 cw_12 (i_lt rfl) rfl rfl rfl rfl fl_Mo_121 ?_
  refine z_aload_n C 0 x_Mo_init_296 rfl ?_
  refine z_iconst C x_Mo_init_297 ?_
  refine z_newaI (n := 147) (n' := 148) (cl' := 36) (sl' := 14848) C x_Mo_init_298 ac_int rfl (i_le rfl) ck_147 rfl rfl rfl ⟨i_le rfl, i_le rfl⟩ ?_
  refine z_putDr (j := 59) (q := 147) C x_Mo_init_300 (i_lt rfl) ck_111 cw_12 (i_lt rfl) rfl rfl (Or.inr ⟨_, rfl⟩) rfl hin2 rfl fl_Mo_124 ?_
  refine z_aload_n C 0 x_Mo_init_303 rfl ?_
  refine z_iconst C x_Mo_init_304 ?_
  refine z_newaI (n := 148) (n' := 149) (cl' := 37) (sl' := 14852) C x_Mo_init_305 ac_int rfl (i_le rfl) ck_148 rfl rfl rfl ⟨i_le rfl, i_le rfl⟩ ?_
  refine z_putDr (j := 60) (q := 148) C x_Mo_init_307 (i_lt rfl) ck_111 cw_12 (i_lt rfl) rfl rfl (Or.inr ⟨_, rfl⟩) rfl hin2 rfl fl_Mo_127 ?_
  refine z_aload_n C 0 x_Mo_init_310 rfl ?_
  refine z_bipush C rfl x_Mo_init_311 ?_
  refine z_newaI (n := 149) (n' := 150) (cl' := 38) (sl' := 14896) C x_Mo_init_313 ac_int rfl (i_le rfl) ck_149 rfl rfl rfl ⟨i_le rfl, i_le rfl⟩ ?_
  refine z_putDr (j := 61) (q := 149) C x_Mo_init_315 (i_lt rfl) ck_111 cw_12 (i_lt rfl) rfl rfl (Or.inr ⟨_, rfl⟩) rfl hin2 rfl fl_Mo_130 ?_
  refine z_aload_n C 0 x_Mo_init_318 rfl ?_
  refine z_sipush C rfl x_Mo_init_319 ?_
  refine z_newaI (n := 150) (n' := 151) (cl' := 39) (sl' := 19296) C x_Mo_init_322 ac_int rfl (i_le rfl) ck_150 rfl rfl rfl ⟨i_le rfl, i_le rfl⟩ ?_
  refine z_putDr (j := 62) (q := 150) C x_Mo_init_324 (i_lt rfl) ck_111 cw_12 (i_lt rfl) rfl rfl (Or.inr ⟨_, rfl⟩) rfl hin2 rfl fl_Mo_133 ?_
  refine z_aload_n C 0 x_Mo_init_327 rfl ?_
  refine z_bipush C rfl x_Mo_init_328 ?_
  refine z_newaI (n := 151) (n' := 152) (cl' := 40) (sl' := 19307) C x_Mo_init_330 ac_int rfl (i_le rfl) ck_151 rfl rfl rfl ⟨i_le rfl, i_le rfl⟩ ?_
  refine z_putDr (j := 63) (q := 151) C x_Mo_init_332 (i_lt rfl) ck_111 cw_12 (i_lt rfl) rfl rfl (Or.inr ⟨_, rfl⟩) rfl hin2 rfl fl_Mo_136 ?_
  refine z_aload_n C 0 x_Mo_init_335 rfl ?_
  refine z_sipush C rfl x_Mo_init_336 ?_
  refine z_newaI (n := 152) (n' := 153) (cl' := 41) (sl' := 20407) C x_Mo_init_339 ac_int rfl (i_le rfl) ck_152 rfl rfl rfl ⟨i_le rfl, i_le rfl⟩ ?_
  refine z_putDr (j := 64) (q := 152) C x_Mo_init_341 (i_lt rfl) ck_111 cw_12 (i_lt rfl) rfl rfl (Or.inr ⟨_, rfl⟩) rfl hin2 rfl fl_Mo_139 ?_
  refine z_aload_n C 0 x_Mo_init_344 rfl ?_
  refine z_bipush C rfl x_Mo_init_345 ?_
  refine z_newaJ (n := 153) (n' := 154) (cl' := 42) (sl' := 20447) C x_Mo_init_347 ac_long rfl (i_le rfl) ck_153 rfl rfl rfl ⟨i_le rfl, i_le rfl⟩ ?_
  refine z_putDr (j := 65) (q := 153) C x_Mo_init_349 (i_lt rfl) ck_111 cw_12 (i_lt rfl) rfl rfl (Or.inr ⟨_, rfl⟩) rfl hin2 rfl fl_Mo_142 ?_
  refine z_aload_n C 0 x_Mo_init_352 rfl ?_
  refine z_bipush C rfl x_Mo_init_353 ?_
  refine z_newaJ (n := 154) (n' := 155) (cl' := 43) (sl' := 20457) C x_Mo_init_355 ac_long rfl (i_le rfl) ck_154 rfl rfl rfl ⟨i_le rfl, i_le rfl⟩ ?_
  refine z_putDr (j := 66) (q := 154) C x_Mo_init_357 (i_lt rfl) ck_111 cw_12 (i_lt rfl) rfl rfl (Or.inr ⟨_, rfl⟩) rfl hin2 rfl fl_Mo_145 ?_
  refine z_aload_n C 0 x_Mo_init_360 rfl ?_
  refine z_sipush C rfl x_Mo_init_361 ?_
  refine z_newaJ (n := 155) (n' := 156) (cl' := 44) (sl' := 21057) C x_Mo_init_364 ac_long rfl (i_le rfl) ck_155 rfl rfl rfl ⟨i_le rfl, i_le rfl⟩ ?_
  refine z_putDr (j := 67) (q := 155) C x_Mo_init_366 (i_lt rfl) ck_111 cw_12 (i_lt rfl) rfl rfl (Or.inr ⟨_, rfl⟩) rfl hin2 rfl fl_Mo_148 ?_
  refine z_aload_n C 0 x_Mo_init_369 rfl ?_
  refine z_bipush C rfl x_Mo_init_370 ?_
  refine z_newaJ (n := 156) (n' := 157) (cl' := 45) (sl' := 21068) C x_Mo_init_372 ac_long rfl (i_le rfl) ck_156 rfl rfl rfl ⟨i_le rfl, i_le rfl⟩ ?_
  refine z_putDr (j := 68) (q := 156) C x_Mo_init_374 (i_lt rfl) ck_111 cw_12 (i_lt rfl) rfl rfl (Or.inr ⟨_, rfl⟩) rfl hin2 rfl fl_Mo_151 ?_
  refine z_aload_n C 0 x_Mo_init_377 rfl ?_
  refine z_bipush C rfl x_Mo_init_378 ?_
  refine z_newaJ (n := 157) (n' := 158) (cl' := 46) (sl' := 21078) C x_Mo_init_380 ac_long rfl (i_le rfl) ck_157 rfl rfl rfl ⟨i_le rfl, i_le rfl⟩ ?_
  refine z_putDr (j := 69) (q := 157) C x_Mo_init_382 (i_lt rfl) ck_111 cw_12 (i_lt rfl) rfl rfl (Or.inr ⟨_, rfl⟩) rfl hin2 rfl fl_Mo_154 ?_
  refine z_aload_n C 0 x_Mo_init_385 rfl ?_
  refine z_sipush C rfl x_Mo_init_386 ?_
  refine z_newaZ (n := 158) (n' := 159) (cl' := 47) (sl' := 21678) C x_Mo_init_389 ac_boolean rfl (i_le rfl) ck_158 rfl rfl rfl ⟨i_le rfl, i_le rfl⟩ ?_
  refine z_putDr (j := 70) (q := 158) C x_Mo_init_391 (i_lt rfl) ck_111 cw_12 (i_lt rfl) rfl rfl (Or.inr ⟨_, rfl⟩) rfl hin2 rfl fl_Mo_157 ?_
  refine z_aload_n C 0 x_Mo_init_394 rfl ?_
  refine z_bipush C rfl x_Mo_init_395 ?_
  refine z_newaZ (n := 159) (n' := 160) (cl' := 48) (sl' := 21688) C x_Mo_init_397 ac_boolean rfl (i_le rfl) ck_159 rfl rfl rfl ⟨i_le rfl, i_le rfl⟩ ?_
  refine z_putDr (j := 71) (q := 159) C x_Mo_init_399 (i_lt rfl) ck_111 cw_12 (i_lt rfl) rfl rfl (Or.inr ⟨_, rfl⟩) rfl hin2 rfl fl_Mo_161 ?_
  refine z_aload_n C 0 x_Mo_init_402 rfl ?_
  refine z_bipush C rfl x_Mo_init_403 ?_
  refine z_newaJ (n := 160) (n' := 161) (cl' := 49) (sl' := 21708) C x_Mo_init_405 ac_long rfl (i_le rfl) ck_160 rfl rfl rfl ⟨i_le rfl, i_le rfl⟩ ?_
  refine z_putDr (j := 73) (q := 160) C x_Mo_init_407 (i_lt rfl) ck_111 cw_12 (i_lt rfl) rfl rfl (Or.inr ⟨_, rfl⟩) rfl hin2 rfl fl_Mo_164 ?_
  refine z_aload_n C 0 x_Mo_init_410 rfl ?_
  refine z_bipush C rfl x_Mo_init_411 ?_
  refine z_newaJ (n := 161) (n' := 162) (cl' := 50) (sl' := 21728) C x_Mo_init_413 ac_long rfl (i_le rfl) ck_161 rfl rfl rfl ⟨i_le rfl, i_le rfl⟩ ?_
  refine z_putDr (j := 74) (q := 161) C x_Mo_init_415 (i_lt rfl) ck_111 cw_12 (i_lt rfl) rfl rfl (Or.inr ⟨_, rfl⟩) rfl hin2 rfl fl_Mo_167 ?_
  refine z_aload_n C 0 x_Mo_init_418 rfl ?_
  refine z_bipush C rfl x_Mo_init_419 ?_
  refine z_newaJ (n := 162) (n' := 163) (cl' := 51) (sl' := 21748) C x_Mo_init_421 ac_long rfl (i_le rfl) ck_162 rfl rfl rfl ⟨i_le rfl, i_le rfl⟩ ?_
  refine z_putDr (j := 75) (q := 162) C x_Mo_init_423 (i_lt rfl) ck_111 cw_12 (i_lt rfl) rfl rfl (Or.inr ⟨_, rfl⟩) rfl hin2 rfl fl_Mo_170 ?_
  refine z_aload_n C 0 x_Mo_init_426 rfl ?_
  refine z_bipush C rfl x_Mo_init_427 ?_
  refine z_newaJ (n := 163) (n' := 164) (cl' := 52) (sl' := 21768) C x_Mo_init_429 ac_long rfl (i_le rfl) ck_163 rfl rfl rfl ⟨i_le rfl, i_le rfl⟩ ?_
  refine z_putDr (j := 76) (q := 163) C x_Mo_init_431 (i_lt rfl) ck_111 cw_12 (i_lt rfl) rfl rfl (Or.inr ⟨_, rfl⟩) rfl hin2 rfl fl_Mo_173 ?_
  refine z_aload_n C 0 x_Mo_init_434 rfl ?_
  refine z_bipush C rfl x_Mo_init_435 ?_
  refine z_newaI (n := 164) (n' := 165) (cl' := 53) (sl' := 21788) C x_Mo_init_437 ac_int rfl (i_le rfl) ck_164 rfl rfl rfl ⟨i_le rfl, i_le rfl⟩ ?_
  refine z_putDr (j := 79) (q := 164) C x_Mo_init_439 (i_lt rfl) ck_111 cw_12 (i_lt rfl) rfl rfl (Or.inr ⟨_, rfl⟩) rfl hin2 rfl fl_Mo_176 ?_
  refine z_aload_n C 0 x_Mo_init_442 rfl ?_
  refine z_bipush C rfl x_Mo_init_443 ?_
  refine z_newaI (n := 165) (n' := 166) (cl' := 54) (sl' := 21808) C x_Mo_init_445 ac_int rfl (i_le rfl) ck_165 rfl rfl rfl ⟨i_le rfl, i_le rfl⟩ ?_
  refine z_putDr (j := 80) (q := 165) C x_Mo_init_447 (i_lt rfl) ck_111 cw_12 (i_lt rfl) rfl rfl (Or.inr ⟨_, rfl⟩) rfl hin2 rfl fl_Mo_179 ?_
  refine z_aload_n C 0 x_Mo_init_450 rfl ?_
  refine z_bipush C rfl x_Mo_init_451 ?_
  refine z_newaI (n := 166) (n' := 167) (cl' := 55) (sl' := 21828) C x_Mo_init_453 ac_int rfl (i_le rfl) ck_166 rfl rfl rfl ⟨i_le rfl, i_le rfl⟩ ?_
  refine z_putDr (j := 81) (q := 166) C x_Mo_init_455 (i_lt rfl) ck_111 cw_12 (i_lt rfl) rfl rfl (Or.inr ⟨_, rfl⟩) rfl hin2 rfl fl_Mo_182 ?_
  refine z_aload_n C 0 x_Mo_init_458 rfl ?_
  refine z_bipush C rfl x_Mo_init_459 ?_
  refine z_newaI (n := 167) (n' := 168) (cl' := 56) (sl' := 21888) C x_Mo_init_461 ac_int rfl (i_le rfl) ck_167 rfl rfl rfl ⟨i_le rfl, i_le rfl⟩ ?_
  refine z_putDr (j := 82) (q := 167) C x_Mo_init_463 (i_lt rfl) ck_111 cw_12 (i_lt rfl) rfl rfl (Or.inr ⟨_, rfl⟩) rfl hin2 rfl fl_Mo_185 ?_
  refine z_aload_n C 0 x_Mo_init_466 rfl ?_
  refine z_bipush C rfl x_Mo_init_467 ?_
  refine z_newaI (n := 168) (n' := 169) (cl' := 57) (sl' := 21948) C x_Mo_init_469 ac_int rfl (i_le rfl) ck_168 rfl rfl rfl ⟨i_le rfl, i_le rfl⟩ ?_
  refine z_putDr (j := 83) (q := 168) C x_Mo_init_471 (i_lt rfl) ck_111 cw_12 (i_lt rfl) rfl rfl (Or.inr ⟨_, rfl⟩) rfl hin2 rfl fl_Mo_188 ?_
  refine z_aload_n C 0 x_Mo_init_474 rfl ?_
  refine z_bipush C rfl x_Mo_init_475 ?_
  refine z_newaI (n := 169) (n' := 170) (cl' := 58) (sl' := 22008) C x_Mo_init_477 ac_int rfl (i_le rfl) ck_169 rfl rfl rfl ⟨i_le rfl, i_le rfl⟩ ?_
  refine z_putDr (j := 84) (q := 169) C x_Mo_init_479 (i_lt rfl) ck_111 cw_12 (i_lt rfl) rfl rfl (Or.inr ⟨_, rfl⟩) rfl hin2 rfl fl_Mo_191 ?_
  refine z_aload_n C 0 x_Mo_init_482 rfl ?_
  refine z_bipush C rfl x_Mo_init_483 ?_
  refine z_newaI (n := 170) (n' := 171) (cl' := 59) (sl' := 22068) C x_Mo_init_485 ac_int rfl (i_le rfl) ck_170 rfl rfl rfl ⟨i_le rfl, i_le rfl⟩ ?_
  refine z_putDr (j := 85) (q := 170) C x_Mo_init_487 (i_lt rfl) ck_111 cw_12 (i_lt rfl) rfl rfl (Or.inr ⟨_, rfl⟩) rfl hin2 rfl fl_Mo_194 ?_
  refine z_aload_n C 0 x_Mo_init_490 rfl ?_
  refine z_sipush C rfl x_Mo_init_491 ?_
  refine z_newaI (n := 171) (n' := 172) (cl' := 60) (sl' := 22588) C x_Mo_init_494 ac_int rfl (i_le rfl) ck_171 rfl rfl rfl ⟨i_le rfl, i_le rfl⟩ ?_
  refine z_putDr (j := 86) (q := 171) C x_Mo_init_496 (i_lt rfl) ck_111 cw_12 (i_lt rfl) rfl rfl (Or.inr ⟨_, rfl⟩) rfl hin2 rfl fl_Mo_197 ?_
  refine z_aload_n C 0 x_Mo_init_499 rfl ?_
  refine z_sipush C rfl x_Mo_init_500 ?_
  refine z_newaZ (n := 172) (n' := 173) (cl' := 61) (sl' := 22788) C x_Mo_init_503 ac_boolean rfl (i_le rfl) ck_172 rfl rfl rfl ⟨i_le rfl, i_le rfl⟩ ?_
  refine z_putDr (j := 87) (q := 172) C x_Mo_init_505 (i_lt rfl) ck_111 cw_12 (i_lt rfl) rfl rfl (Or.inr ⟨_, rfl⟩) rfl hin2 rfl fl_Mo_200 ?_
  refine z_aload_n C 0 x_Mo_init_508 rfl ?_
  refine z_bipush C rfl x_Mo_init_509 ?_
  refine z_putDi (j := 89) C x_Mo_init_511 (i_lt rfl) ck_111 cw_12 (i_lt rfl) rfl rfl rfl rfl fl_Mo_203 ?_
  refine z_aload_n C 0 x_Mo_init_514 rfl ?_
  refine z_iconst C x_Mo_init_515 ?_
  refine z_putDi (j := 90) C x_Mo_init_516 (i_lt rfl) ck_111 cw_12 (i_lt rfl) rfl rfl rfl rfl fl_Mo_206 ?_
  refine z_aload_n C 0 x_Mo_init_519 rfl ?_
  refine z_bipush C rfl x_Mo_init_520 ?_
  refine z_newaI (n := 173) (n' := 174) (cl' := 62) (sl' := 22808) C x_Mo_init_522 ac_int rfl (i_le rfl) ck_173 rfl rfl rfl ⟨i_le rfl, i_le rfl⟩ ?_
  refine z_putDr (j := 91) (q := 173) C x_Mo_init_524 (i_lt rfl) ck_111 cw_12 (i_lt rfl) rfl rfl (Or.inr ⟨_, rfl⟩) rfl hin2 rfl fl_Mo_209 ?_
  refine z_aload_n C 0 x_Mo_init_527 rfl ?_
  refine z_bipush C rfl x_Mo_init_528 ?_
  refine z_newaI (n := 174) (n' := 175) (cl' := 63) (sl' := 22814) C x_Mo_init_530 ac_int rfl (i_le rfl) ck_174 rfl rfl rfl ⟨i_le rfl, i_le rfl⟩ ?_
  refine z_putDr (j := 92) (q := 174) C x_Mo_init_532 (i_lt rfl) ck_111 cw_12 (i_lt rfl) rfl rfl (Or.inr ⟨_, rfl⟩) rfl hin2 rfl fl_Mo_212 ?_
  refine z_aload_n C 0 x_Mo_init_535 rfl ?_
  refine z_bipush C rfl x_Mo_init_536 ?_
  refine z_newaJ (n := 175) (n' := 176) (cl' := 64) (sl' := 22820) C x_Mo_init_538 ac_long rfl (i_le rfl) ck_175 rfl rfl rfl ⟨i_le rfl, i_le rfl⟩ ?_
  refine z_putDr (j := 93) (q := 175) C x_Mo_init_540 (i_lt rfl) ck_111 cw_12 (i_lt rfl) rfl rfl (Or.inr ⟨_, rfl⟩) rfl hin2 rfl fl_Mo_215 ?_
  refine z_aload_n C 0 x_Mo_init_543 rfl ?_
  refine z_bipush C rfl x_Mo_init_544 ?_
  refine z_newaJ (n := 176) (n' := 177) (cl' := 65) (sl' := 22826) C x_Mo_init_546 ac_long rfl (i_le rfl) ck_176 rfl rfl rfl ⟨i_le rfl, i_le rfl⟩ ?_
  refine z_putDr (j := 94) (q := 176) C x_Mo_init_548 (i_lt rfl) ck_111 cw_12 (i_lt rfl) rfl rfl (Or.inr ⟨_, rfl⟩) rfl hin2 rfl fl_Mo_218 ?_
  refine z_aload_n C 0 x_Mo_init_551 rfl ?_
  refine z_bipush C rfl x_Mo_init_552 ?_
  refine z_newaJ (n := 177) (n' := 178) (cl' := 66) (sl' := 22846) C x_Mo_init_554 ac_long rfl (i_le rfl) ck_177 rfl rfl rfl ⟨i_le rfl, i_le rfl⟩ ?_
  refine z_putDr (j := 95) (q := 177) C x_Mo_init_556 (i_lt rfl) ck_111 cw_12 (i_lt rfl) rfl rfl (Or.inr ⟨_, rfl⟩) rfl hin2 rfl fl_Mo_221 ?_
  refine z_aload_n C 0 x_Mo_init_559 rfl ?_
  refine z_bipush C rfl x_Mo_init_560 ?_
  refine z_newaI (n := 178) (n' := 179) (cl' := 67) (sl' := 22854) C x_Mo_init_562 ac_int rfl (i_le rfl) ck_178 rfl rfl rfl ⟨i_le rfl, i_le rfl⟩ ?_
  refine z_putDr (j := 96) (q := 178) C x_Mo_init_564 (i_lt rfl) ck_111 cw_12 (i_lt rfl) rfl rfl (Or.inr ⟨_, rfl⟩) rfl hin2 rfl fl_Mo_224 ?_
  refine z_aload_n C 0 x_Mo_init_567 rfl ?_
  refine z_bipush C rfl x_Mo_init_568 ?_
  refine z_newaI (n := 179) (n' := 180) (cl' := 68) (sl' := 22862) C x_Mo_init_570 ac_int rfl (i_le rfl) ck_179 rfl rfl rfl ⟨i_le rfl, i_le rfl⟩ ?_
  refine z_putDr (j := 97) (q := 179) C x_Mo_init_572 (i_lt rfl) ck_111 cw_12 (i_lt rfl) rfl rfl (Or.inr ⟨_, rfl⟩) rfl hin2 rfl fl_Mo_227 ?_
  refine z_aload_n C 0 x_Mo_init_575 rfl ?_
  refine z_bipush C rfl x_Mo_init_576 ?_
  refine z_newaI (n := 180) (n' := 181) (cl' := 69) (sl' := 22882) C x_Mo_init_578 ac_int rfl (i_le rfl) ck_180 rfl rfl rfl ⟨i_le rfl, i_le rfl⟩ ?_
  refine z_putDr (j := 98) (q := 180) C x_Mo_init_580 (i_lt rfl) ck_111 cw_12 (i_lt rfl) rfl rfl (Or.inr ⟨_, rfl⟩) rfl hin2 rfl fl_Mo_230 ?_
  refine z_aload_n C 0 x_Mo_init_583 rfl ?_
  refine z_sipush C rfl x_Mo_init_584 ?_
  refine z_newaI (n := 181) (n' := 182) (cl' := 70) (sl' := 28258) C x_Mo_init_587 ac_int rfl (i_le rfl) ck_181 rfl rfl rfl ⟨i_le rfl, i_le rfl⟩ ?_
  refine z_putDr (j := 99) (q := 181) C x_Mo_init_589 (i_lt rfl) ck_111 cw_12 (i_lt rfl) rfl rfl (Or.inr ⟨_, rfl⟩) rfl hin2 rfl fl_Mo_233 ?_
  refine z_aload_n C 0 x_Mo_init_592 rfl ?_
  refine z_iconst C x_Mo_init_593 ?_
  refine z_newaI (n := 182) (n' := 183) (cl' := 71) (sl' := 28263) C x_Mo_init_594 ac_int rfl (i_le rfl) ck_182 rfl rfl rfl ⟨i_le rfl, i_le rfl⟩ ?_
  refine z_putDr (j := 100) (q := 182) C x_Mo_init_596 (i_lt rfl) ck_111 cw_12 (i_lt rfl) rfl rfl (Or.inr ⟨_, rfl⟩) rfl hin2 rfl fl_Mo_236 ?_
  refine z_aload_n C 0 x_Mo_init_599 rfl ?_
  refine z_iconst C x_Mo_init_600 ?_
  refine z_newaI (n := 183) (n' := 184) (cl' := 72) (sl' := 28267) C x_Mo_init_601 ac_int rfl (i_le rfl) ck_183 rfl rfl rfl ⟨i_le rfl, i_le rfl⟩ ?_
  refine z_putDr (j := 101) (q := 183) C x_Mo_init_603 (i_lt rfl) ck_111 cw_12 (i_lt rfl) rfl rfl (Or.inr ⟨_, rfl⟩) rfl hin2 rfl fl_Mo_239 ?_
  refine z_aload_n C 0 x_Mo_init_606 rfl ?_
  refine z_bipush C rfl x_Mo_init_607 ?_
  refine z_newaI (n := 184) (n' := 185) (cl' := 73) (sl' := 28287) C x_Mo_init_609 ac_int rfl (i_le rfl) ck_184 rfl rfl rfl ⟨i_le rfl, i_le rfl⟩ ?_
  refine z_putDr (j := 102) (q := 184) C x_Mo_init_611 (i_lt rfl) ck_111 cw_12 (i_lt rfl) rfl rfl (Or.inr ⟨_, rfl⟩) rfl hin2 rfl fl_Mo_242 ?_
  refine z_aload_n C 0 x_Mo_init_614 rfl ?_
  refine z_bipush C rfl x_Mo_init_615 ?_
  refine z_newaI (n := 185) (n' := 186) (cl' := 74) (sl' := 28307) C x_Mo_init_617 ac_int rfl (i_le rfl) ck_185 rfl rfl rfl ⟨i_le rfl, i_le rfl⟩ ?_
  refine z_putDr (j := 103) (q := 185) C x_Mo_init_619 (i_lt rfl) ck_111 cw_12 (i_lt rfl) rfl rfl (Or.inr ⟨_, rfl⟩) rfl hin2 rfl fl_Mo_245 ?_
  refine z_aload_n C 0 x_Mo_init_622 rfl ?_
  refine z_bipush C rfl x_Mo_init_623 ?_
  refine z_newaI (n := 186) (n' := 187) (cl' := 75) (sl' := 28318) C x_Mo_init_625 ac_int rfl (i_le rfl) ck_186 rfl rfl rfl ⟨i_le rfl, i_le rfl⟩ ?_
  refine z_putDr (j := 104) (q := 186) C x_Mo_init_627 (i_lt rfl) ck_111 cw_12 (i_lt rfl) rfl rfl (Or.inr ⟨_, rfl⟩) rfl hin2 rfl fl_Mo_248 ?_
  refine z_aload_n C 0 x_Mo_init_630 rfl ?_
  refine z_bipush C rfl x_Mo_init_631 ?_
  refine z_newaI (n := 187) (n' := 188) (cl' := 76) (sl' := 28329) C x_Mo_init_633 ac_int rfl (i_le rfl) ck_187 rfl rfl rfl ⟨i_le rfl, i_le rfl⟩ ?_
  refine z_putDr (j := 105) (q := 187) C x_Mo_init_635 (i_lt rfl) ck_111 cw_12 (i_lt rfl) rfl rfl (Or.inr ⟨_, rfl⟩) rfl hin2 rfl fl_Mo_251 ?_
  refine z_aload_n C 0 x_Mo_init_638 rfl ?_
  refine z_bipush C rfl x_Mo_init_639 ?_
  refine z_newaI (n := 188) (n' := 189) (cl' := 77) (sl' := 28337) C x_Mo_init_641 ac_int rfl (i_le rfl) ck_188 rfl rfl rfl ⟨i_le rfl, i_le rfl⟩ ?_
  refine z_putDr (j := 106) (q := 188) C x_Mo_init_643 (i_lt rfl) ck_111 cw_12 (i_lt rfl) rfl rfl (Or.inr ⟨_, rfl⟩) rfl hin2 rfl fl_Mo_254 ?_
  refine z_iconst C x_Mo_init_646 ?_
  refine z_istore_n (lv' := [(1, vi 0), (0, .ref (G.1 + 111))]) C rfl x_Mo_init_647 (i_lt rfl) rfl ?_
  refine z_iload_n C 0 x_Mo_init_648 rfl ?_
  refine z_iconst C x_Mo_init_649 ?_
  refine z_icmp_ge_f (tgt := 666) C x_Mo_init_650 rfl (by decide) ?_
  refine z_aload_n C 1 x_Mo_init_653 rfl ?_
  refine z_getDr (j := 3) (q := 113) C x_Mo_init_654 (i_lt rfl) ck_111 cw_12 (i_lt rfl) rfl rfl fl_Mo_13 rfl ?_
  refine z_iload_n C 0 x_Mo_init_657 rfl ?_
  refine z_iconst C x_Mo_init_658 ?_
  refine z_iastD C x_Mo_init_659 (i_lt rfl) ck_113 (by decide) ?_
  refine z_iinc (y := 1) (lv' := [(1, vi 1), (0, .ref (G.1 + 111))]) C 0 rfl x_Mo_init_660 rfl (i_lt rfl) rfl ?_
  refine z_goto (tgt := 648) C x_Mo_init_663 rfl ?_
  refine z_iload_n C 0 x_Mo_init_648 rfl ?_
  refine z_iconst C x_Mo_init_649 ?_
  refine z_icmp_ge_f (tgt := 666) C x_Mo_init_650 rfl (by decide) ?_
  refine z_aload_n C 1 x_Mo_init_653 rfl ?_
  refine z_getDr (j := 3) (q := 113) C x_Mo_init_654 (i_lt rfl) ck_111 cw_12 (i_lt rfl) rfl rfl fl_Mo_13 rfl ?_
  refine z_iload_n C 0 x_Mo_init_657 rfl ?_
  refine z_iconst C x_Mo_init_658 ?_
  refine z_iastD C x_Mo_init_659 (i_lt rfl) ck_113 (by decide) ?_
  refine z_iinc (y := 2) (lv' := [(1, vi 2), (0, .ref (G.1 + 111))]) C 0 rfl x_Mo_init_660 rfl (i_lt rfl) rfl ?_
  refine z_goto (tgt := 648) C x_Mo_init_663 rfl ?_
  refine z_iload_n C 0 x_Mo_init_648 rfl ?_
  refine z_iconst C x_Mo_init_649 ?_
  refine z_icmp_ge_f (tgt := 666) C x_Mo_init_650 rfl (by decide) ?_
  refine z_aload_n C 1 x_Mo_init_653 rfl ?_
  refine z_getDr (j := 3) (q := 113) C x_Mo_init_654 (i_lt rfl) ck_111 cw_12 (i_lt rfl) rfl rfl fl_Mo_13 rfl ?_
  refine z_iload_n C 0 x_Mo_init_657 rfl ?_
  refine z_iconst C x_Mo_init_658 ?_
  refine z_iastD C x_Mo_init_659 (i_lt rfl) ck_113 (by decide) ?_
  refine z_iinc (y := 3) (lv' := [(1, vi 3), (0, .ref (G.1 + 111))]) C 0 rfl x_Mo_init_660 rfl (i_lt rfl) rfl ?_
  refine z_goto (tgt := 648) C x_Mo_init_663 rfl ?_
  refine z_iload_n C 0 x_Mo_init_648 rfl ?_
  refine z_iconst C x_Mo_init_649 ?_
  refine z_icmp_ge_f (tgt := 666) C x_Mo_init_650 rfl (by decide) ?_
  refine z_aload_n C 1 x_Mo_init_653 rfl ?_
  refine z_getDr (j := 3) (q := 113) C x_Mo_init_654 (i_lt rfl) ck_111 cw_12 (i_lt rfl) rfl rfl fl_Mo_13 rfl ?_
  refine z_iload_n C 0 x_Mo_init_657 rfl ?_
  refine z_iconst C x_Mo_init_658 ?_
  refine z_iastD C x_Mo_init_659 (i_lt rfl) ck_113 (by decide) ?_
  refine z_iinc (y := 4) (lv' := [(1, vi 4), (0, .ref (G.1 + 111))]) C 0 rfl x_Mo_init_660 rfl (i_lt rfl) rfl ?_
  refine z_goto (tgt := 648) C x_Mo_init_663 rfl ?_
  refine z_iload_n C 0 x_Mo_init_648 rfl ?_
  refine z_iconst C x_Mo_init_649 ?_
  refine z_icmp_ge_t (tgt := 666) C x_Mo_init_650 rfl (by decide) ?_
  refine z_iconst C x_Mo_init_666 ?_
  refine z_istore_n (lv' := [(1, vi 0), (0, .ref (G.1 + 111))]) C rfl x_Mo_init_667 (i_lt rfl) rfl ?_
  refine z_iload_n C 0 x_Mo_init_668 rfl ?_
  refine z_bipush C rfl x_Mo_init_669 ?_
  refine z_icmp_ge_f (tgt := 701) C x_Mo_init_671 rfl (by decide) ?_
  refine z_aload_n C 1 x_Mo_init_674 rfl ?_
  refine z_getDr (j := 79) (q := 164) C x_Mo_init_675 (i_lt rfl) ck_111 cw_12 (i_lt rfl) rfl rfl fl_Mo_176 rfl ?_
  refine z_iload_n C 0 x_Mo_init_678 rfl ?_
  refine z_iconst C x_Mo_init_679 ?_
  refine z_iastD C x_Mo_init_680 (i_lt rfl) ck_164 (by decide) ?_
  refine z_aload_n C 1 x_Mo_init_681 rfl ?_
  refine z_getDr (j := 80) (q := 165) C x_Mo_init_682 (i_lt rfl) ck_111 cw_12 (i_lt rfl) rfl rfl fl_Mo_179 rfl ?_
  refine z_iload_n C 0 x_Mo_init_685 rfl ?_
  refine z_iconst C x_Mo_init_686 ?_
  refine z_iastD C x_Mo_init_687 (i_lt rfl) ck_165 (by decide) ?_
  refine z_aload_n C 1 x_Mo_init_688 rfl ?_
  refine z_getDr (j := 81) (q := 166) C x_Mo_init_689 (i_lt rfl) ck_111 cw_12 (i_lt rfl) rfl rfl fl_Mo_182 rfl ?_
  refine z_iload_n C 0 x_Mo_init_692 rfl ?_
  refine z_iconst C x_Mo_init_693 ?_
  refine z_iastD C x_Mo_init_694 (i_lt rfl) ck_166 (by decide) ?_
  refine z_iinc (y := 1) (lv' := [(1, vi 1), (0, .ref (G.1 + 111))]) C 0 rfl x_Mo_init_695 rfl (i_lt rfl) rfl ?_
  refine z_goto (tgt := 668) C x_Mo_init_698 rfl ?_
  refine z_iload_n C 0 x_Mo_init_668 rfl ?_
  refine z_bipush C rfl x_Mo_init_669 ?_
  refine z_icmp_ge_f (tgt := 701) C x_Mo_init_671 rfl (by decide) ?_
  refine z_aload_n C 1 x_Mo_init_674 rfl ?_
  refine z_getDr (j := 79) (q := 164) C x_Mo_init_675 (i_lt rfl) ck_111 cw_12 (i_lt rfl) rfl rfl fl_Mo_176 rfl ?_
  refine z_iload_n C 0 x_Mo_init_678 rfl ?_
  refine z_iconst C x_Mo_init_679 ?_
  refine z_iastD C x_Mo_init_680 (i_lt rfl) ck_164 (by decide) ?_
  refine z_aload_n C 1 x_Mo_init_681 rfl ?_
  refine z_getDr (j := 80) (q := 165) C x_Mo_init_682 (i_lt rfl) ck_111 cw_12 (i_lt rfl) rfl rfl fl_Mo_179 rfl ?_
  refine z_iload_n C 0 x_Mo_init_685 rfl ?_
  refine z_iconst C x_Mo_init_686 ?_
  refine z_iastD C x_Mo_init_687 (i_lt rfl) ck_165 (by decide) ?_
  refine z_aload_n C 1 x_Mo_init_688 rfl ?_
  refine z_getDr (j := 81) (q := 166) C x_Mo_init_689 (i_lt rfl) ck_111 cw_12 (i_lt rfl) rfl rfl fl_Mo_182 rfl ?_
  refine z_iload_n C 0 x_Mo_init_692 rfl ?_
  refine z_iconst C x_Mo_init_693 ?_
  refine z_iastD C x_Mo_init_694 (i_lt rfl) ck_166 (by decide) ?_
  refine z_iinc (y := 2) (lv' := [(1, vi 2), (0, .ref (G.1 + 111))]) C 0 rfl x_Mo_init_695 rfl (i_lt rfl) rfl ?_
  refine z_goto (tgt := 668) C x_Mo_init_698 rfl ?_
  refine z_iload_n C 0 x_Mo_init_668 rfl ?_
  refine z_bipush C rfl x_Mo_init_669 ?_
  refine z_icmp_ge_f (tgt := 701) C x_Mo_init_671 rfl (by decide) ?_
  refine z_aload_n C 1 x_Mo_init_674 rfl ?_
  refine z_getDr (j := 79) (q := 164) C x_Mo_init_675 (i_lt rfl) ck_111 cw_12 (i_lt rfl) rfl rfl fl_Mo_176 rfl ?_
  refine z_iload_n C 0 x_Mo_init_678 rfl ?_
  refine z_iconst C x_Mo_init_679 ?_
  refine z_iastD C x_Mo_init_680 (i_lt rfl) ck_164 (by decide) ?_
  refine z_aload_n C 1 x_Mo_init_681 rfl ?_
  refine z_getDr (j := 80) (q := 165) C x_Mo_init_682 (i_lt rfl) ck_111 cw_12 (i_lt rfl) rfl rfl fl_Mo_179 rfl ?_
  refine z_iload_n C 0 x_Mo_init_685 rfl ?_
  refine z_iconst C x_Mo_init_686 ?_
  refine z_iastD C x_Mo_init_687 (i_lt rfl) ck_165 (by decide) ?_
  refine z_aload_n C 1 x_Mo_init_688 rfl ?_
  refine z_getDr (j := 81) (q := 166) C x_Mo_init_689 (i_lt rfl) ck_111 cw_12 (i_lt rfl) rfl rfl fl_Mo_182 rfl ?_
  refine z_iload_n C 0 x_Mo_init_692 rfl ?_
  refine z_iconst C x_Mo_init_693 ?_
  refine z_iastD C x_Mo_init_694 (i_lt rfl) ck_166 (by decide) ?_
  refine z_iinc (y := 3) (lv' := [(1, vi 3), (0, .ref (G.1 + 111))]) C 0 rfl x_Mo_init_695 rfl (i_lt rfl) rfl ?_
  refine z_goto (tgt := 668) C x_Mo_init_698 rfl ?_
  refine z_iload_n C 0 x_Mo_init_668 rfl ?_
  refine z_bipush C rfl x_Mo_init_669 ?_
  refine z_icmp_ge_f (tgt := 701) C x_Mo_init_671 rfl (by decide) ?_
  refine z_aload_n C 1 x_Mo_init_674 rfl ?_
  refine z_getDr (j := 79) (q := 164) C x_Mo_init_675 (i_lt rfl) ck_111 cw_12 (i_lt rfl) rfl rfl fl_Mo_176 rfl ?_
  refine z_iload_n C 0 x_Mo_init_678 rfl ?_
  refine z_iconst C x_Mo_init_679 ?_
  refine z_iastD C x_Mo_init_680 (i_lt rfl) ck_164 (by decide) ?_
  refine z_aload_n C 1 x_Mo_init_681 rfl ?_
  refine z_getDr (j := 80) (q := 165) C x_Mo_init_682 (i_lt rfl) ck_111 cw_12 (i_lt rfl) rfl rfl fl_Mo_179 rfl ?_
  refine z_iload_n C 0 x_Mo_init_685 rfl ?_
  refine z_iconst C x_Mo_init_686 ?_
  refine z_iastD C x_Mo_init_687 (i_lt rfl) ck_165 (by decide) ?_
  refine z_aload_n C 1 x_Mo_init_688 rfl ?_
  refine z_getDr (j := 81) (q := 166) C x_Mo_init_689 (i_lt rfl) ck_111 cw_12 (i_lt rfl) rfl rfl fl_Mo_182 rfl ?_
  refine z_iload_n C 0 x_Mo_init_692 rfl ?_
  refine z_iconst C x_Mo_init_693 ?_
  refine z_iastD C x_Mo_init_694 (i_lt rfl) ck_166 (by decide) ?_
  refine z_iinc (y := 4) (lv' := [(1, vi 4), (0, .ref (G.1 + 111))]) C 0 rfl x_Mo_init_695 rfl (i_lt rfl) rfl ?_
  refine z_goto (tgt := 668) C x_Mo_init_698 rfl ?_
  refine z_iload_n C 0 x_Mo_init_668 rfl ?_
  refine z_bipush C rfl x_Mo_init_669 ?_
  refine z_icmp_ge_f (tgt := 701) C x_Mo_init_671 rfl (by decide) ?_
  refine z_aload_n C 1 x_Mo_init_674 rfl ?_
  refine z_getDr (j := 79) (q := 164) C x_Mo_init_675 (i_lt rfl) ck_111 cw_12 (i_lt rfl) rfl rfl fl_Mo_176 rfl ?_
  refine z_iload_n C 0 x_Mo_init_678 rfl ?_
  refine z_iconst C x_Mo_init_679 ?_
  refine z_iastD C x_Mo_init_680 (i_lt rfl) ck_164 (by decide) ?_
  refine z_aload_n C 1 x_Mo_init_681 rfl ?_
  refine z_getDr (j := 80) (q := 165) C x_Mo_init_682 (i_lt rfl) ck_111 cw_12 (i_lt rfl) rfl rfl fl_Mo_179 rfl ?_
  refine z_iload_n C 0 x_Mo_init_685 rfl ?_
  refine z_iconst C x_Mo_init_686 ?_
  refine z_iastD C x_Mo_init_687 (i_lt rfl) ck_165 (by decide) ?_
  refine z_aload_n C 1 x_Mo_init_688 rfl ?_
  refine z_getDr (j := 81) (q := 166) C x_Mo_init_689 (i_lt rfl) ck_111 cw_12 (i_lt rfl) rfl rfl fl_Mo_182 rfl ?_
  refine z_iload_n C 0 x_Mo_init_692 rfl ?_
  refine z_iconst C x_Mo_init_693 ?_
  refine z_iastD C x_Mo_init_694 (i_lt rfl) ck_166 (by decide) ?_
  refine z_iinc (y := 5) (lv' := [(1, vi 5), (0, .ref (G.1 + 111))]) C 0 rfl x_Mo_init_695 rfl (i_lt rfl) rfl ?_
  refine z_goto (tgt := 668) C x_Mo_init_698 rfl ?_
  refine z_iload_n C 0 x_Mo_init_668 rfl ?_
  refine z_bipush C rfl x_Mo_init_669 ?_
  refine z_icmp_ge_f (tgt := 701) C x_Mo_init_671 rfl (by decide) ?_
  refine z_aload_n C 1 x_Mo_init_674 rfl ?_
  refine z_getDr (j := 79) (q := 164) C x_Mo_init_675 (i_lt rfl) ck_111 cw_12 (i_lt rfl) rfl rfl fl_Mo_176 rfl ?_
  refine z_iload_n C 0 x_Mo_init_678 rfl ?_
  refine z_iconst C x_Mo_init_679 ?_
  refine z_iastD C x_Mo_init_680 (i_lt rfl) ck_164 (by decide) ?_
  refine z_aload_n C 1 x_Mo_init_681 rfl ?_
  refine z_getDr (j := 80) (q := 165) C x_Mo_init_682 (i_lt rfl) ck_111 cw_12 (i_lt rfl) rfl rfl fl_Mo_179 rfl ?_
  refine z_iload_n C 0 x_Mo_init_685 rfl ?_
  refine z_iconst C x_Mo_init_686 ?_
  refine z_iastD C x_Mo_init_687 (i_lt rfl) ck_165 (by decide) ?_
  refine z_aload_n C 1 x_Mo_init_688 rfl ?_
  refine z_getDr (j := 81) (q := 166) C x_Mo_init_689 (i_lt rfl) ck_111 cw_12 (i_lt rfl) rfl rfl fl_Mo_182 rfl ?_
  refine z_iload_n C 0 x_Mo_init_692 rfl ?_
  refine z_iconst C x_Mo_init_693 ?_
  refine z_iastD C x_Mo_init_694 (i_lt rfl) ck_166 (by decide) ?_
  refine z_iinc (y := 6) (lv' := [(1, vi 6), (0, .ref (G.1 + 111))]) C 0 rfl x_Mo_init_695 rfl (i_lt rfl) rfl ?_
  refine z_goto (tgt := 668) C x_Mo_init_698 rfl ?_
  refine z_iload_n C 0 x_Mo_init_668 rfl ?_
  refine z_bipush C rfl x_Mo_init_669 ?_
  refine z_icmp_ge_f (tgt := 701) C x_Mo_init_671 rfl (by decide) ?_
  refine z_aload_n C 1 x_Mo_init_674 rfl ?_
  refine z_getDr (j := 79) (q := 164) C x_Mo_init_675 (i_lt rfl) ck_111 cw_12 (i_lt rfl) rfl rfl fl_Mo_176 rfl ?_
  refine z_iload_n C 0 x_Mo_init_678 rfl ?_
  refine z_iconst C x_Mo_init_679 ?_
  refine z_iastD C x_Mo_init_680 (i_lt rfl) ck_164 (by decide) ?_
  refine z_aload_n C 1 x_Mo_init_681 rfl ?_
  refine z_getDr (j := 80) (q := 165) C x_Mo_init_682 (i_lt rfl) ck_111 cw_12 (i_lt rfl) rfl rfl fl_Mo_179 rfl ?_
  refine z_iload_n C 0 x_Mo_init_685 rfl ?_
  refine z_iconst C x_Mo_init_686 ?_
  refine z_iastD C x_Mo_init_687 (i_lt rfl) ck_165 (by decide) ?_
  refine z_aload_n C 1 x_Mo_init_688 rfl ?_
  refine z_getDr (j := 81) (q := 166) C x_Mo_init_689 (i_lt rfl) ck_111 cw_12 (i_lt rfl) rfl rfl fl_Mo_182 rfl ?_
  refine z_iload_n C 0 x_Mo_init_692 rfl ?_
  refine z_iconst C x_Mo_init_693 ?_
  refine z_iastD C x_Mo_init_694 (i_lt rfl) ck_166 (by decide) ?_
  refine z_iinc (y := 7) (lv' := [(1, vi 7), (0, .ref (G.1 + 111))]) C 0 rfl x_Mo_init_695 rfl (i_lt rfl) rfl ?_
  refine z_goto (tgt := 668) C x_Mo_init_698 rfl ?_
  refine z_iload_n C 0 x_Mo_init_668 rfl ?_
  refine z_bipush C rfl x_Mo_init_669 ?_
  refine z_icmp_ge_f (tgt := 701) C x_Mo_init_671 rfl (by decide) ?_
  refine z_aload_n C 1 x_Mo_init_674 rfl ?_
  refine z_getDr (j := 79) (q := 164) C x_Mo_init_675 (i_lt rfl) ck_111 cw_12 (i_lt rfl) rfl rfl fl_Mo_176 rfl ?_
  refine z_iload_n C 0 x_Mo_init_678 rfl ?_
  refine z_iconst C x_Mo_init_679 ?_
  refine z_iastD C x_Mo_init_680 (i_lt rfl) ck_164 (by decide) ?_
  refine z_aload_n C 1 x_Mo_init_681 rfl ?_
  refine z_getDr (j := 80) (q := 165) C x_Mo_init_682 (i_lt rfl) ck_111 cw_12 (i_lt rfl) rfl rfl fl_Mo_179 rfl ?_
  refine z_iload_n C 0 x_Mo_init_685 rfl ?_
  refine z_iconst C x_Mo_init_686 ?_
  refine z_iastD C x_Mo_init_687 (i_lt rfl) ck_165 (by decide) ?_
  refine z_aload_n C 1 x_Mo_init_688 rfl ?_
  refine z_getDr (j := 81) (q := 166) C x_Mo_init_689 (i_lt rfl) ck_111 cw_12 (i_lt rfl) rfl rfl fl_Mo_182 rfl ?_
  refine z_iload_n C 0 x_Mo_init_692 rfl ?_
  refine z_iconst C x_Mo_init_693 ?_
  refine z_iastD C x_Mo_init_694 (i_lt rfl) ck_166 (by decide) ?_
  refine z_iinc (y := 8) (lv' := [(1, vi 8), (0, .ref (G.1 + 111))]) C 0 rfl x_Mo_init_695 rfl (i_lt rfl) rfl ?_
  refine z_goto (tgt := 668) C x_Mo_init_698 rfl ?_
  refine z_iload_n C 0 x_Mo_init_668 rfl ?_
  refine z_bipush C rfl x_Mo_init_669 ?_
  refine z_icmp_ge_f (tgt := 701) C x_Mo_init_671 rfl (by decide) ?_
  refine z_aload_n C 1 x_Mo_init_674 rfl ?_
  refine z_getDr (j := 79) (q := 164) C x_Mo_init_675 (i_lt rfl) ck_111 cw_12 (i_lt rfl) rfl rfl fl_Mo_176 rfl ?_
  refine z_iload_n C 0 x_Mo_init_678 rfl ?_
  refine z_iconst C x_Mo_init_679 ?_
  refine z_iastD C x_Mo_init_680 (i_lt rfl) ck_164 (by decide) ?_
  refine z_aload_n C 1 x_Mo_init_681 rfl ?_
  refine z_getDr (j := 80) (q := 165) C x_Mo_init_682 (i_lt rfl) ck_111 cw_12 (i_lt rfl) rfl rfl fl_Mo_179 rfl ?_
  refine z_iload_n C 0 x_Mo_init_685 rfl ?_
  refine z_iconst C x_Mo_init_686 ?_
  refine z_iastD C x_Mo_init_687 (i_lt rfl) ck_165 (by decide) ?_
  refine z_aload_n C 1 x_Mo_init_688 rfl ?_
  refine z_getDr (j := 81) (q := 166) C x_Mo_init_689 (i_lt rfl) ck_111 cw_12 (i_lt rfl) rfl rfl fl_Mo_182 rfl ?_
  refine z_iload_n C 0 x_Mo_init_692 rfl ?_
  refine z_iconst C x_Mo_init_693 ?_
  refine z_iastD C x_Mo_init_694 (i_lt rfl) ck_166 (by decide) ?_
  refine z_iinc (y := 9) (lv' := [(1, vi 9), (0, .ref (G.1 + 111))]) C 0 rfl x_Mo_init_695 rfl (i_lt rfl) rfl ?_
  refine z_goto (tgt := 668) C x_Mo_init_698 rfl ?_
  refine z_iload_n C 0 x_Mo_init_668 rfl ?_
  refine z_bipush C rfl x_Mo_init_669 ?_
  refine z_icmp_ge_f (tgt := 701) C x_Mo_init_671 rfl (by decide) ?_
  refine z_aload_n C 1 x_Mo_init_674 rfl ?_
  refine z_getDr (j := 79) (q := 164) C x_Mo_init_675 (i_lt rfl) ck_111 cw_12 (i_lt rfl) rfl rfl fl_Mo_176 rfl ?_
  refine z_iload_n C 0 x_Mo_init_678 rfl ?_
  refine z_iconst C x_Mo_init_679 ?_
  refine z_iastD C x_Mo_init_680 (i_lt rfl) ck_164 (by decide) ?_
  refine z_aload_n C 1 x_Mo_init_681 rfl ?_
  refine z_getDr (j := 80) (q := 165) C x_Mo_init_682 (i_lt rfl) ck_111 cw_12 (i_lt rfl) rfl rfl fl_Mo_179 rfl ?_
  refine z_iload_n C 0 x_Mo_init_685 rfl ?_
  refine z_iconst C x_Mo_init_686 ?_
  refine z_iastD C x_Mo_init_687 (i_lt rfl) ck_165 (by decide) ?_
  refine z_aload_n C 1 x_Mo_init_688 rfl ?_
  refine z_getDr (j := 81) (q := 166) C x_Mo_init_689 (i_lt rfl) ck_111 cw_12 (i_lt rfl) rfl rfl fl_Mo_182 rfl ?_
  refine z_iload_n C 0 x_Mo_init_692 rfl ?_
  refine z_iconst C x_Mo_init_693 ?_
  refine z_iastD C x_Mo_init_694 (i_lt rfl) ck_166 (by decide) ?_
  refine z_iinc (y := 10) (lv' := [(1, vi 10), (0, .ref (G.1 + 111))]) C 0 rfl x_Mo_init_695 rfl (i_lt rfl) rfl ?_
  refine z_goto (tgt := 668) C x_Mo_init_698 rfl ?_
  refine z_iload_n C 0 x_Mo_init_668 rfl ?_
  refine z_bipush C rfl x_Mo_init_669 ?_
  refine z_icmp_ge_f (tgt := 701) C x_Mo_init_671 rfl (by decide) ?_
  refine z_aload_n C 1 x_Mo_init_674 rfl ?_
  refine z_getDr (j := 79) (q := 164) C x_Mo_init_675 (i_lt rfl) ck_111 cw_12 (i_lt rfl) rfl rfl fl_Mo_176 rfl ?_
  refine z_iload_n C 0 x_Mo_init_678 rfl ?_
  refine z_iconst C x_Mo_init_679 ?_
  refine z_iastD C x_Mo_init_680 (i_lt rfl) ck_164 (by decide) ?_
  refine z_aload_n C 1 x_Mo_init_681 rfl ?_
  refine z_getDr (j := 80) (q := 165) C x_Mo_init_682 (i_lt rfl) ck_111 cw_12 (i_lt rfl) rfl rfl fl_Mo_179 rfl ?_
  refine z_iload_n C 0 x_Mo_init_685 rfl ?_
  refine z_iconst C x_Mo_init_686 ?_
  refine z_iastD C x_Mo_init_687 (i_lt rfl) ck_165 (by decide) ?_
  refine z_aload_n C 1 x_Mo_init_688 rfl ?_
  refine z_getDr (j := 81) (q := 166) C x_Mo_init_689 (i_lt rfl) ck_111 cw_12 (i_lt rfl) rfl rfl fl_Mo_182 rfl ?_
  refine z_iload_n C 0 x_Mo_init_692 rfl ?_
  refine z_iconst C x_Mo_init_693 ?_
  refine z_iastD C x_Mo_init_694 (i_lt rfl) ck_166 (by decide) ?_
  refine z_iinc (y := 11) (lv' := [(1, vi 11), (0, .ref (G.1 + 111))]) C 0 rfl x_Mo_init_695 rfl (i_lt rfl) rfl ?_
  refine z_goto (tgt := 668) C x_Mo_init_698 rfl ?_
  refine z_iload_n C 0 x_Mo_init_668 rfl ?_
  refine z_bipush C rfl x_Mo_init_669 ?_
  refine z_icmp_ge_f (tgt := 701) C x_Mo_init_671 rfl (by decide) ?_
  refine z_aload_n C 1 x_Mo_init_674 rfl ?_
  refine z_getDr (j := 79) (q := 164) C x_Mo_init_675 (i_lt rfl) ck_111 cw_12 (i_lt rfl) rfl rfl fl_Mo_176 rfl ?_
  refine z_iload_n C 0 x_Mo_init_678 rfl ?_
  refine z_iconst C x_Mo_init_679 ?_
  refine z_iastD C x_Mo_init_680 (i_lt rfl) ck_164 (by decide) ?_
  refine z_aload_n C 1 x_Mo_init_681 rfl ?_
  refine z_getDr (j := 80) (q := 165) C x_Mo_init_682 (i_lt rfl) ck_111 cw_12 (i_lt rfl) rfl rfl fl_Mo_179 rfl ?_
  refine z_iload_n C 0 x_Mo_init_685 rfl ?_
  refine z_iconst C x_Mo_init_686 ?_
  refine z_iastD C x_Mo_init_687 (i_lt rfl) ck_165 (by decide) ?_
  refine z_aload_n C 1 x_Mo_init_688 rfl ?_
  refine z_getDr (j := 81) (q := 166) C x_Mo_init_689 (i_lt rfl) ck_111 cw_12 (i_lt rfl) rfl rfl fl_Mo_182 rfl ?_
  refine z_iload_n C 0 x_Mo_init_692 rfl ?_
  refine z_iconst C x_Mo_init_693 ?_
  refine z_iastD C x_Mo_init_694 (i_lt rfl) ck_166 (by decide) ?_
  refine z_iinc (y := 12) (lv' := [(1, vi 12), (0, .ref (G.1 + 111))]) C 0 rfl x_Mo_init_695 rfl (i_lt rfl) rfl ?_
  refine z_goto (tgt := 668) C x_Mo_init_698 rfl ?_
  refine z_iload_n C 0 x_Mo_init_668 rfl ?_
  refine z_bipush C rfl x_Mo_init_669 ?_
  refine z_icmp_ge_f (tgt := 701) C x_Mo_init_671 rfl (by decide) ?_
  refine z_aload_n C 1 x_Mo_init_674 rfl ?_
  refine z_getDr (j := 79) (q := 164) C x_Mo_init_675 (i_lt rfl) ck_111 cw_12 (i_lt rfl) rfl rfl fl_Mo_176 rfl ?_
  refine z_iload_n C 0 x_Mo_init_678 rfl ?_
  refine z_iconst C x_Mo_init_679 ?_
  refine z_iastD C x_Mo_init_680 (i_lt rfl) ck_164 (by decide) ?_
  refine z_aload_n C 1 x_Mo_init_681 rfl ?_
  refine z_getDr (j := 80) (q := 165) C x_Mo_init_682 (i_lt rfl) ck_111 cw_12 (i_lt rfl) rfl rfl fl_Mo_179 rfl ?_
  refine z_iload_n C 0 x_Mo_init_685 rfl ?_
  refine z_iconst C x_Mo_init_686 ?_
  refine z_iastD C x_Mo_init_687 (i_lt rfl) ck_165 (by decide) ?_
  refine z_aload_n C 1 x_Mo_init_688 rfl ?_
  refine z_getDr (j := 81) (q := 166) C x_Mo_init_689 (i_lt rfl) ck_111 cw_12 (i_lt rfl) rfl rfl fl_Mo_182 rfl ?_
  refine z_iload_n C 0 x_Mo_init_692 rfl ?_
  refine z_iconst C x_Mo_init_693 ?_
  refine z_iastD C x_Mo_init_694 (i_lt rfl) ck_166 (by decide) ?_
  refine z_iinc (y := 13) (lv' := [(1, vi 13), (0, .ref (G.1 + 111))]) C 0 rfl x_Mo_init_695 rfl (i_lt rfl) rfl ?_
  refine z_goto (tgt := 668) C x_Mo_init_698 rfl ?_
  refine z_iload_n C 0 x_Mo_init_668 rfl ?_
  refine z_bipush C rfl x_Mo_init_669 ?_
  refine z_icmp_ge_f (tgt := 701) C x_Mo_init_671 rfl (by decide) ?_
  refine z_aload_n C 1 x_Mo_init_674 rfl ?_
  refine z_getDr (j := 79) (q := 164) C x_Mo_init_675 (i_lt rfl) ck_111 cw_12 (i_lt rfl) rfl rfl fl_Mo_176 rfl ?_
  refine z_iload_n C 0 x_Mo_init_678 rfl ?_
  refine z_iconst C x_Mo_init_679 ?_
  refine z_iastD C x_Mo_init_680 (i_lt rfl) ck_164 (by decide) ?_
  refine z_aload_n C 1 x_Mo_init_681 rfl ?_
  refine z_getDr (j := 80) (q := 165) C x_Mo_init_682 (i_lt rfl) ck_111 cw_12 (i_lt rfl) rfl rfl fl_Mo_179 rfl ?_
  refine z_iload_n C 0 x_Mo_init_685 rfl ?_
  refine z_iconst C x_Mo_init_686 ?_
  refine z_iastD C x_Mo_init_687 (i_lt rfl) ck_165 (by decide) ?_
  refine z_aload_n C 1 x_Mo_init_688 rfl ?_
  refine z_getDr (j := 81) (q := 166) C x_Mo_init_689 (i_lt rfl) ck_111 cw_12 (i_lt rfl) rfl rfl fl_Mo_182 rfl ?_
  refine z_iload_n C 0 x_Mo_init_692 rfl ?_
  refine z_iconst C x_Mo_init_693 ?_
  refine z_iastD C x_Mo_init_694 (i_lt rfl) ck_166 (by decide) ?_
  refine z_iinc (y := 14) (lv' := [(1, vi 14), (0, .ref (G.1 + 111))]) C 0 rfl x_Mo_init_695 rfl (i_lt rfl) rfl ?_
  refine z_goto (tgt := 668) C x_Mo_init_698 rfl ?_
  refine z_iload_n C 0 x_Mo_init_668 rfl ?_
  refine z_bipush C rfl x_Mo_init_669 ?_
  refine z_icmp_ge_f (tgt := 701) C x_Mo_init_671 rfl (by decide) ?_
  refine z_aload_n C 1 x_Mo_init_674 rfl ?_
  refine z_getDr (j := 79) (q := 164) C x_Mo_init_675 (i_lt rfl) ck_111 cw_12 (i_lt rfl) rfl rfl fl_Mo_176 rfl ?_
  refine z_iload_n C 0 x_Mo_init_678 rfl ?_
  refine z_iconst C x_Mo_init_679 ?_
  refine z_iastD C x_Mo_init_680 (i_lt rfl) ck_164 (by decide) ?_
  refine z_aload_n C 1 x_Mo_init_681 rfl ?_
  refine z_getDr (j := 80) (q := 165) C x_Mo_init_682 (i_lt rfl) ck_111 cw_12 (i_lt rfl) rfl rfl fl_Mo_179 rfl ?_
  refine z_iload_n C 0 x_Mo_init_685 rfl ?_
  refine z_iconst C x_Mo_init_686 ?_
  refine z_iastD C x_Mo_init_687 (i_lt rfl) ck_165 (by decide) ?_
  refine z_aload_n C 1 x_Mo_init_688 rfl ?_
  refine z_getDr (j := 81) (q := 166) C x_Mo_init_689 (i_lt rfl) ck_111 cw_12 (i_lt rfl) rfl rfl fl_Mo_182 rfl ?_
  refine z_iload_n C 0 x_Mo_init_692 rfl ?_
  refine z_iconst C x_Mo_init_693 ?_
  refine z_iastD C x_Mo_init_694 (i_lt rfl) ck_166 (by decide) ?_
  refine z_iinc (y := 15) (lv' := [(1, vi 15), (0, .ref (G.1 + 111))]) C 0 rfl x_Mo_init_695 rfl (i_lt rfl) rfl ?_
  refine z_goto (tgt := 668) C x_Mo_init_698 rfl ?_
  refine z_iload_n C 0 x_Mo_init_668 rfl ?_
  refine z_bipush C rfl x_Mo_init_669 ?_
  refine z_icmp_ge_f (tgt := 701) C x_Mo_init_671 rfl (by decide) ?_
  refine z_aload_n C 1 x_Mo_init_674 rfl ?_
  refine z_getDr (j := 79) (q := 164) C x_Mo_init_675 (i_lt rfl) ck_111 cw_12 (i_lt rfl) rfl rfl fl_Mo_176 rfl ?_
  refine z_iload_n C 0 x_Mo_init_678 rfl ?_
  refine z_iconst C x_Mo_init_679 ?_
  refine z_iastD C x_Mo_init_680 (i_lt rfl) ck_164 (by decide) ?_
  refine z_aload_n C 1 x_Mo_init_681 rfl ?_
  refine z_getDr (j := 80) (q := 165) C x_Mo_init_682 (i_lt rfl) ck_111 cw_12 (i_lt rfl) rfl rfl fl_Mo_179 rfl ?_
  refine z_iload_n C 0 x_Mo_init_685 rfl ?_
  refine z_iconst C x_Mo_init_686 ?_
  refine z_iastD C x_Mo_init_687 (i_lt rfl) ck_165 (by decide) ?_
  refine z_aload_n C 1 x_Mo_init_688 rfl ?_
  refine z_getDr (j := 81) (q := 166) C x_Mo_init_689 (i_lt rfl) ck_111 cw_12 (i_lt rfl) rfl rfl fl_Mo_182 rfl ?_
  refine z_iload_n C 0 x_Mo_init_692 rfl ?_
  refine z_iconst C x_Mo_init_693 ?_
  refine z_iastD C x_Mo_init_694 (i_lt rfl) ck_166 (by decide) ?_
  refine z_iinc (y := 16) (lv' := [(1, vi 16), (0, .ref (G.1 + 111))]) C 0 rfl x_Mo_init_695 rfl (i_lt rfl) rfl ?_
  refine z_goto (tgt := 668) C x_Mo_init_698 rfl ?_
  refine z_iload_n C 0 x_Mo_init_668 rfl ?_
  refine z_bipush C rfl x_Mo_init_669 ?_
  refine z_icmp_ge_f (tgt := 701) C x_Mo_init_671 rfl (by decide) ?_
  refine z_aload_n C 1 x_Mo_init_674 rfl ?_
  refine z_getDr (j := 79) (q := 164) C x_Mo_init_675 (i_lt rfl) ck_111 cw_12 (i_lt rfl) rfl rfl fl_Mo_176 rfl ?_
  refine z_iload_n C 0 x_Mo_init_678 rfl ?_
  refine z_iconst C x_Mo_init_679 ?_
  refine z_iastD C x_Mo_init_680 (i_lt rfl) ck_164 (by decide) ?_
  refine z_aload_n C 1 x_Mo_init_681 rfl ?_
  refine z_getDr (j := 80) (q := 165) C x_Mo_init_682 (i_lt rfl) ck_111 cw_12 (i_lt rfl) rfl rfl fl_Mo_179 rfl ?_
  refine z_iload_n C 0 x_Mo_init_685 rfl ?_
  refine z_iconst C x_Mo_init_686 ?_
  refine z_iastD C x_Mo_init_687 (i_lt rfl) ck_165 (by decide) ?_
  refine z_aload_n C 1 x_Mo_init_688 rfl ?_
  refine z_getDr (j := 81) (q := 166) C x_Mo_init_689 (i_lt rfl) ck_111 cw_12 (i_lt rfl) rfl rfl fl_Mo_182 rfl ?_
  refine z_iload_n C 0 x_Mo_init_692 rfl ?_
  refine z_iconst C x_Mo_init_693 ?_
  refine z_iastD C x_Mo_init_694 (i_lt rfl) ck_166 (by decide) ?_
  refine z_iinc (y := 17) (lv' := [(1, vi 17), (0, .ref (G.1 + 111))]) C 0 rfl x_Mo_init_695 rfl (i_lt rfl) rfl ?_
  refine z_goto (tgt := 668) C x_Mo_init_698 rfl ?_
  refine z_iload_n C 0 x_Mo_init_668 rfl ?_
  refine z_bipush C rfl x_Mo_init_669 ?_
  refine z_icmp_ge_f (tgt := 701) C x_Mo_init_671 rfl (by decide) ?_
  refine z_aload_n C 1 x_Mo_init_674 rfl ?_
  refine z_getDr (j := 79) (q := 164) C x_Mo_init_675 (i_lt rfl) ck_111 cw_12 (i_lt rfl) rfl rfl fl_Mo_176 rfl ?_
  refine z_iload_n C 0 x_Mo_init_678 rfl ?_
  refine z_iconst C x_Mo_init_679 ?_
  refine z_iastD C x_Mo_init_680 (i_lt rfl) ck_164 (by decide) ?_
  refine z_aload_n C 1 x_Mo_init_681 rfl ?_
  refine z_getDr (j := 80) (q := 165) C x_Mo_init_682 (i_lt rfl) ck_111 cw_12 (i_lt rfl) rfl rfl fl_Mo_179 rfl ?_
  refine z_iload_n C 0 x_Mo_init_685 rfl ?_
  refine z_iconst C x_Mo_init_686 ?_
  refine z_iastD C x_Mo_init_687 (i_lt rfl) ck_165 (by decide) ?_
  refine z_aload_n C 1 x_Mo_init_688 rfl ?_
  refine z_getDr (j := 81) (q := 166) C x_Mo_init_689 (i_lt rfl) ck_111 cw_12 (i_lt rfl) rfl rfl fl_Mo_182 rfl ?_
  refine z_iload_n C 0 x_Mo_init_692 rfl ?_
  refine z_iconst C x_Mo_init_693 ?_
  refine z_iastD C x_Mo_init_694 (i_lt rfl) ck_166 (by decide) ?_
  refine z_iinc (y := 18) (lv' := [(1, vi 18), (0, .ref (G.1 + 111))]) C 0 rfl x_Mo_init_695 rfl (i_lt rfl) rfl ?_
  refine z_goto (tgt := 668) C x_Mo_init_698 rfl ?_
  refine z_iload_n C 0 x_Mo_init_668 rfl ?_
  refine z_bipush C rfl x_Mo_init_669 ?_
  refine z_icmp_ge_f (tgt := 701) C x_Mo_init_671 rfl (by decide) ?_
  refine z_aload_n C 1 x_Mo_init_674 rfl ?_
  refine z_getDr (j := 79) (q := 164) C x_Mo_init_675 (i_lt rfl) ck_111 cw_12 (i_lt rfl) rfl rfl fl_Mo_176 rfl ?_
  refine z_iload_n C 0 x_Mo_init_678 rfl ?_
  refine z_iconst C x_Mo_init_679 ?_
  refine z_iastD C x_Mo_init_680 (i_lt rfl) ck_164 (by decide) ?_
  refine z_aload_n C 1 x_Mo_init_681 rfl ?_
  refine z_getDr (j := 80) (q := 165) C x_Mo_init_682 (i_lt rfl) ck_111 cw_12 (i_lt rfl) rfl rfl fl_Mo_179 rfl ?_
  refine z_iload_n C 0 x_Mo_init_685 rfl ?_
  refine z_iconst C x_Mo_init_686 ?_
  refine z_iastD C x_Mo_init_687 (i_lt rfl) ck_165 (by decide) ?_
  refine z_aload_n C 1 x_Mo_init_688 rfl ?_
  refine z_getDr (j := 81) (q := 166) C x_Mo_init_689 (i_lt rfl) ck_111 cw_12 (i_lt rfl) rfl rfl fl_Mo_182 rfl ?_
  refine z_iload_n C 0 x_Mo_init_692 rfl ?_
  refine z_iconst C x_Mo_init_693 ?_
  refine z_iastD C x_Mo_init_694 (i_lt rfl) ck_166 (by decide) ?_
  refine z_iinc (y := 19) (lv' := [(1, vi 19), (0, .ref (G.1 + 111))]) C 0 rfl x_Mo_init_695 rfl (i_lt rfl) rfl ?_
  refine z_goto (tgt := 668) C x_Mo_init_698 rfl ?_
  refine z_iload_n C 0 x_Mo_init_668 rfl ?_
  refine z_bipush C rfl x_Mo_init_669 ?_
  refine z_icmp_ge_f (tgt := 701) C x_Mo_init_671 rfl (by decide) ?_
  refine z_aload_n C 1 x_Mo_init_674 rfl ?_
  refine z_getDr (j := 79) (q := 164) C x_Mo_init_675 (i_lt rfl) ck_111 cw_12 (i_lt rfl) rfl rfl fl_Mo_176 rfl ?_
  refine z_iload_n C 0 x_Mo_init_678 rfl ?_
  refine z_iconst C x_Mo_init_679 ?_
  refine z_iastD C x_Mo_init_680 (i_lt rfl) ck_164 (by decide) ?_
  refine z_aload_n C 1 x_Mo_init_681 rfl ?_
  refine z_getDr (j := 80) (q := 165) C x_Mo_init_682 (i_lt rfl) ck_111 cw_12 (i_lt rfl) rfl rfl fl_Mo_179 rfl ?_
  refine z_iload_n C 0 x_Mo_init_685 rfl ?_
  refine z_iconst C x_Mo_init_686 ?_
  refine z_iastD C x_Mo_init_687 (i_lt rfl) ck_165 (by decide) ?_
  refine z_aload_n C 1 x_Mo_init_688 rfl ?_
  refine z_getDr (j := 81) (q := 166) C x_Mo_init_689 (i_lt rfl) ck_111 cw_12 (i_lt rfl) rfl rfl fl_Mo_182 rfl ?_
  refine z_iload_n C 0 x_Mo_init_692 rfl ?_
  refine z_iconst C x_Mo_init_693 ?_
  refine z_iastD C x_Mo_init_694 (i_lt rfl) ck_166 (by decide) ?_
  refine z_iinc (y := 20) (lv' := [(1, vi 20), (0, .ref (G.1 + 111))]) C 0 rfl x_Mo_init_695 rfl (i_lt rfl) rfl ?_
  refine z_goto (tgt := 668) C x_Mo_init_698 rfl ?_
  refine z_iload_n C 0 x_Mo_init_668 rfl ?_
  refine z_bipush C rfl x_Mo_init_669 ?_
  refine z_icmp_ge_t (tgt := 701) C x_Mo_init_671 rfl (by decide) ?_
  exact z_vretD C x_Mo_init_701
end
