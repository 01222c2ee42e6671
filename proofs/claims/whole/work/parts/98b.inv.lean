/-! each call keeps the invariant, and both answer alike -/
theorem in_status {M : Mem}  (h : Inv M) : Simi d_PP_status d_Mo_status M Inv := by
  obtain ⟨hs, hT, hN, hP, hO, hM, hE, hX, hW, F, hA, hG⟩ := h
  obtain ⟨v, M1, w, M2, e1, e2, e3, e4, e5⟩ := sim_status hs
  have hF := (w_PP_status e1).cat (w_Mo_status e2)
  dsimp only at hF
  refine ⟨v, M1, w, M2, e1, e2, e3, e4, e4, hT.on hF (by decide), hN.on hF (by decide), hP.on hF (by decide) (by decide), hO.on hF (by decide) (by decide), hM.on hF (by decide) (by decide), hE.on hF (by decide) (by decide), hX.on hF (by decide) (by decide), hW.on hF (by decide) (by decide), F, hA.on hF (by decide) (by decide), hG.on hF (by decide) (by decide)⟩
theorem in_tray {M : Mem} {a1 a2 a3 : Int} (i1 : I32 a1) (i2 : I32 a2) (i3 : I32 a3) (h : Inv M) : Simi (d_PP_tray a1 a2 a3) (d_Mo_tray a1 a2 a3) M Inv := by
  obtain ⟨hs, hT, hN, hP, hO, hM, hE, hX, hW, F, hA, hG⟩ := h
  obtain ⟨v, M1, w, M2, e1, e2, e3, e4, e5⟩ := sim_tray i1 i2 i3 hT
  have hF := (w_PP_tray e1).cat (w_Mo_tray e2)
  dsimp only at hF
  refine ⟨v, M1, w, M2, e1, e2, e3, e4, e4, e5, n_tray e2 (hN.on (w_PP_tray e1) (by decide)), hP.on hF (by decide) (by decide), hO.on hF (by decide) (by decide), hM.on hF (by decide) (by decide), hE.on hF (by decide) (by decide), hX.on hF (by decide) (by decide), hW.on hF (by decide) (by decide), F, hA.on hF (by decide) (by decide), hG.on hF (by decide) (by decide)⟩
theorem in_write {M : Mem} {a1 a2 a3 : Int} (i1 : I32 a1) (i2 : I32 a2) (i3 : Lg a3) (h : Inv M) : Simi (d_PP_write a1 a2 a3) (d_Mo_write a1 a2 a3) M Inv := by
  obtain ⟨hs, hT, hN, hP, hO, hM, hE, hX, hW, F, hA, hG⟩ := h
  obtain ⟨v, M1, w, M2, e1, e2, e3, e4, e5⟩ := sim_write i1 i2 hT
  have hF := (w_PP_write e1).cat (w_Mo_write e2)
  dsimp only at hF
  refine ⟨v, M1, w, M2, e1, e2, e3, e4, e4, e5, n_write i1 i2 i3 (by rw [show M1 113 = M 113 from (w_PP_write e1).c 113 (by decide) (by decide), show M1 112 = M 112 from (w_PP_write e1).c 112 (by decide) (by decide)]; exact hT.1) e2 (hN.on (w_PP_write e1) (by decide)), hP.on hF (by decide) (by decide), hO.on hF (by decide) (by decide), hM.on hF (by decide) (by decide), hE.on hF (by decide) (by decide), hX.on hF (by decide) (by decide), hW.on hF (by decide) (by decide), F, hA.on hF (by decide) (by decide), hG.on hF (by decide) (by decide)⟩
theorem in_read {M : Mem} {a1 a2 : Int} (i1 : I32 a1) (i2 : I32 a2) (h : Inv M) : Siml (d_PP_read a1 a2) (d_Mo_read a1 a2) M Inv := by
  obtain ⟨hs, hT, hN, hP, hO, hM, hE, hX, hW, F, hA, hG⟩ := h
  obtain ⟨v, M1, w, M2, e1, e2, e3, e4, e5⟩ := sim_read i1 i2 hT
  have hF := (w_PP_read e1).cat (w_Mo_read e2)
  dsimp only at hF
  refine ⟨v, M1, w, M2, e1, e2, e3, e4, e4, hT.on hF (by decide), hN.on hF (by decide), hP.on hF (by decide) (by decide), hO.on hF (by decide) (by decide), hM.on hF (by decide) (by decide), hE.on hF (by decide) (by decide), hX.on hF (by decide) (by decide), hW.on hF (by decide) (by decide), F, hA.on hF (by decide) (by decide), hG.on hF (by decide) (by decide)⟩
theorem in_pour {M : Mem} {a1 a2 a3 a4 a5 : Int} (i1 : I32 a1) (i2 : I32 a2) (i3 : I32 a3) (i4 : I32 a4) (i5 : I32 a5) (h : Inv M) : Simi (d_PP_pour a1 a2 a3 a4 a5) (d_Mo_pour a1 a2 a3 a4 a5) M Inv := by
  obtain ⟨hs, hT, hN, hP, hO, hM, hE, hX, hW, F, hA, hG⟩ := h
  obtain ⟨v, M1, w, M2, e1, e2, e3, e4, e5⟩ := sim_pour i1 i2 i3 i4 i5 hT
  have hF := (w_PP_pour e1).cat (w_Mo_pour e2)
  dsimp only at hF
  refine ⟨v, M1, w, M2, e1, e2, e3, e4, e4, e5, n_pour i1 i2 i3 i4 i5 hT e1 e2 e5 hN, hP.on hF (by decide) (by decide), hO.on hF (by decide) (by decide), hM.on hF (by decide) (by decide), hE.on hF (by decide) (by decide), hX.on hF (by decide) (by decide), hW.on hF (by decide) (by decide), F, hA.on hF (by decide) (by decide), hG.on hF (by decide) (by decide)⟩
theorem in_farm {M : Mem} {a1 a2 a3 : Int} (i1 : I32 a1) (i2 : I32 a2) (i3 : I32 a3) (h : Inv M) : Simi (d_PP_farm a1 a2 a3) (d_Mo_farm a1 a2 a3) M Inv := by
  obtain ⟨hs, hT, hN, hP, hO, hM, hE, hX, hW, F, hA, hG⟩ := h
  obtain ⟨v, M1, w, M2, e1, e2, e3, e4, e5⟩ := sim_farm i1 i2 i3 hP
  have hF := (w_PP_farm e1).cat (w_Mo_farm e2)
  dsimp only at hF
  have q1 : M1 111 = M 111 := (w_PP_farm e1).c 111 (by decide) (by decide)
  have q2 : M1 115 = M 115 := (w_PP_farm e1).c 115 (by decide) (by decide)
  obtain ⟨u1, u2⟩ := farm_up i1 i2 i3 (by rw [q1]; exact hP.1) e2
  rw [q1] at u1 u2; rw [q2] at u2; dsimp only at u1 u2
  refine ⟨v, M1, w, M2, e1, e2, e3, e4, e4, hT.on hF (by decide), hN.on hF (by decide), e5, hO.up (hF.ag (by decide) (by decide)) u1, hM.on hF (by decide) (by decide), hE.up (hF.ag (by decide) (by decide)) u1 (Int.le_of_eq (hF.f 111 6 (by decide) (by decide)).symm), hX.on hF (by decide) (by decide), hW.on hF (by decide) (by decide), F, hA.on hF (by decide) (by decide), ?_⟩
  refine hG.mv (hF.ag (by decide) (by decide)) (Int.le_of_eq (hF.f 111 7 (by decide) (by decide)).symm) (fun k hk h0 => ?_)
  have ev := hE.2.2.2.2.2.2.2.1 k hk
  have hb : 0 ≤ M 121 k ∧ M 121 k < M 111 5 := by
    rcases ev.2.2.2.2.2.2.2.2.2 with d | d | d | d
    · exact d.2.2.2.1
    · exfalso; have := d.1; omega
    · exfalso; have := d.1; omega
    · exfalso; have := d.1; omega
  refine ⟨congrFun (hF.c 120 (by decide) (by decide)) _, congrFun (hF.c 121 (by decide) (by decide)) _, congrFun (hF.c 126 (by decide) (by decide)) _, congrFun (hF.c 127 (by decide) (by decide)) _, congrFun (hF.c 128 (by decide) (by decide)) _, u2 _ (by omega)⟩
theorem in_elevator {M : Mem} {a1 a2 : Int} (i1 : I32 a1) (i2 : I32 a2) (h : Inv M) : Simi (d_PP_elevator a1 a2) (d_Mo_elevator a1 a2) M Inv := by
  obtain ⟨hs, hT, hN, hP, hO, hM, hE, hX, hW, F, hA, hG⟩ := h
  obtain ⟨v, M1, w, M2, e1, e2, e3, e4, e5⟩ := sim_elevator i1 i2 hP
  have hF := (w_PP_elevator e1).cat (w_Mo_elevator e2)
  dsimp only at hF
  have q1 : M1 111 = M 111 := (w_PP_elevator e1).c 111 (by decide) (by decide)
  have u1 := elev_up i1 i2 (by rw [q1]; exact hP.2.1) e2
  rw [q1] at u1; dsimp only at u1
  refine ⟨v, M1, w, M2, e1, e2, e3, e4, e4, hT.on hF (by decide), hN.on hF (by decide), e5, hO.on hF (by decide) (by decide), hM.on hF (by decide) (by decide), hE.up (hF.ag (by decide) (by decide)) (Int.le_of_eq (hF.f 111 5 (by decide) (by decide)).symm) u1, hX.on hF (by decide) (by decide), hW.on hF (by decide) (by decide), F, hA.on hF (by decide) (by decide), hG.on hF (by decide) (by decide)⟩
theorem in_load {M : Mem} {a1 a2 a3 a4 a5 a6 : Int} (i1 : I32 a1) (i2 : I32 a2) (i3 : I32 a3) (i4 : I32 a4) (i5 : I32 a5) (i6 : I32 a6) (h : Inv M) : Simi (d_PP_load a1 a2 a3 a4 a5 a6) (d_Mo_load a1 a2 a3 a4 a5 a6) M Inv := by
  obtain ⟨hs, hT, hN, hP, hO, hM, hE, hX, hW, F, hA, hG⟩ := h
  obtain ⟨v, M1, w, M2, e1, e2, e3, e4, e5⟩ := sim_load i1 i2 i3 i4 i5 i6 hP hE
  have hF := (w_PP_load e1).cat (w_Mo_load e2)
  dsimp only at hF
  have q1 : M1 111 = M 111 := (w_PP_load e1).c 111 (by decide) (by decide)
  have kp := (kp_load i1 i2 i3 i4 i5 i6 (by rw [q1]; exact hP.1) (by rw [q1]; exact hP.2.1) (by rw [q1]; exact hE.1) (by rw [q1]; exact hE.2.2.1) (by rw [q1]; exact hE.2.2.2.2.1) e2).from (w_PP_load e1) (by decide)
  dsimp only at kp
  refine ⟨v, M1, w, M2, e1, e2, e3, e4, e4, hT.on hF (by decide), hN.on hF (by decide), hP.on hF (by decide) (by decide), hO.on hF (by decide) (by decide), hM.on hF (by decide) (by decide), e5, hX.on hF (by decide) (by decide), hW.on hF (by decide) (by decide), F, hA.on hF (by decide) (by decide), hG.mv (hF.ag (by decide) (by decide)) kp.1 (fun k hk _ => ⟨(kp.2 k hk).1, (kp.2 k hk).2.1, (kp.2 k hk).2.2.1, (kp.2 k hk).2.2.2.1, (kp.2 k hk).2.2.2.2, congrFun (hF.c 115 (by decide) (by decide)) _⟩)⟩
theorem in_car {M : Mem} {a1 a2 a3 a4 a5 a6 a7 : Int} (i1 : I32 a1) (i2 : I32 a2) (i3 : I32 a3) (i4 : I32 a4) (i5 : I32 a5) (i6 : I32 a6) (i7 : I32 a7) (h : Inv M) : Simi (d_PP_car a1 a2 a3 a4 a5 a6 a7) (d_Mo_car a1 a2 a3 a4 a5 a6 a7) M Inv := by
  obtain ⟨hs, hT, hN, hP, hO, hM, hE, hX, hW, F, hA, hG⟩ := h
  obtain ⟨v, M1, w, M2, e1, e2, e3, e4, e5⟩ := sim_car i1 i2 i3 i4 i5 i6 i7 hP hE
  have hF := (w_PP_car e1).cat (w_Mo_car e2)
  dsimp only at hF
  have q1 : M1 111 = M 111 := (w_PP_car e1).c 111 (by decide) (by decide)
  have kp := (kp_car i1 i2 i3 i4 i5 i6 i7 (by rw [q1]; exact hP.1) (by rw [q1]; exact hP.2.1) (by rw [q1]; exact hE.1) (by rw [q1]; exact hE.2.2.1) (by rw [q1]; exact hE.2.2.2.2.1) e2).from (w_PP_car e1) (by decide)
  dsimp only at kp
  refine ⟨v, M1, w, M2, e1, e2, e3, e4, e4, hT.on hF (by decide), hN.on hF (by decide), hP.on hF (by decide) (by decide), hO.on hF (by decide) (by decide), hM.on hF (by decide) (by decide), e5, hX.on hF (by decide) (by decide), hW.on hF (by decide) (by decide), F, hA.on hF (by decide) (by decide), hG.mv (hF.ag (by decide) (by decide)) kp.1 (fun k hk _ => ⟨(kp.2 k hk).1, (kp.2 k hk).2.1, (kp.2 k hk).2.2.1, (kp.2 k hk).2.2.2.1, (kp.2 k hk).2.2.2.2, congrFun (hF.c 115 (by decide) (by decide)) _⟩)⟩
theorem in_sale {M : Mem} {a1 a2 a3 a4 a5 a6 a7 : Int} (i1 : I32 a1) (i2 : I32 a2) (i3 : I32 a3) (i4 : I32 a4) (i5 : I32 a5) (i6 : I32 a6) (i7 : I32 a7) (h : Inv M) : Simi (d_PP_sale a1 a2 a3 a4 a5 a6 a7) (d_Mo_sale a1 a2 a3 a4 a5 a6 a7) M Inv := by
  obtain ⟨hs, hT, hN, hP, hO, hM, hE, hX, hW, F, hA, hG⟩ := h
  obtain ⟨v, M1, w, M2, e1, e2, e3, e4, e5⟩ := sim_sale i1 i2 i3 i4 i5 i6 i7 hP hE
  have hF := (w_PP_sale e1).cat (w_Mo_sale e2)
  dsimp only at hF
  have q1 : M1 111 = M 111 := (w_PP_sale e1).c 111 (by decide) (by decide)
  have kp := (kp_sale i1 i2 i3 i4 i5 i6 i7 (by rw [q1]; exact hP.1) (by rw [q1]; exact hP.2.1) (by rw [q1]; exact hE.1) (by rw [q1]; exact hE.2.2.1) (by rw [q1]; exact hE.2.2.2.2.1) e2).from (w_PP_sale e1) (by decide)
  dsimp only at kp
  refine ⟨v, M1, w, M2, e1, e2, e3, e4, e4, hT.on hF (by decide), hN.on hF (by decide), hP.on hF (by decide) (by decide), hO.on hF (by decide) (by decide), hM.on hF (by decide) (by decide), e5, hX.on hF (by decide) (by decide), hW.on hF (by decide) (by decide), F, hA.on hF (by decide) (by decide), hG.mv (hF.ag (by decide) (by decide)) kp.1 (fun k hk _ => ⟨(kp.2 k hk).1, (kp.2 k hk).2.1, (kp.2 k hk).2.2.1, (kp.2 k hk).2.2.2.1, (kp.2 k hk).2.2.2.2, congrFun (hF.c 115 (by decide) (by decide)) _⟩)⟩
theorem in_spoil {M : Mem} {a1 a2 a3 a4 a5 a6 : Int} (i1 : I32 a1) (i2 : I32 a2) (i3 : I32 a3) (i4 : I32 a4) (i5 : I32 a5) (i6 : I32 a6) (h : Inv M) : Simi (d_PP_spoil a1 a2 a3 a4 a5 a6) (d_Mo_spoil a1 a2 a3 a4 a5 a6) M Inv := by
  obtain ⟨hs, hT, hN, hP, hO, hM, hE, hX, hW, F, hA, hG⟩ := h
  obtain ⟨v, M1, w, M2, e1, e2, e3, e4, e5⟩ := sim_spoil i1 i2 i3 i4 i5 i6 hP hE
  have hF := (w_PP_spoil e1).cat (w_Mo_spoil e2)
  dsimp only at hF
  have q1 : M1 111 = M 111 := (w_PP_spoil e1).c 111 (by decide) (by decide)
  have kp := (kp_spoil i1 i2 i3 i4 i5 i6 (by rw [q1]; exact hP.1) (by rw [q1]; exact hP.2.1) (by rw [q1]; exact hE.1) (by rw [q1]; exact hE.2.2.1) (by rw [q1]; exact hE.2.2.2.2.1) e2).from (w_PP_spoil e1) (by decide)
  dsimp only at kp
  refine ⟨v, M1, w, M2, e1, e2, e3, e4, e4, hT.on hF (by decide), hN.on hF (by decide), hP.on hF (by decide) (by decide), hO.on hF (by decide) (by decide), hM.on hF (by decide) (by decide), e5, hX.on hF (by decide) (by decide), hW.on hF (by decide) (by decide), F, hA.on hF (by decide) (by decide), hG.mv (hF.ag (by decide) (by decide)) kp.1 (fun k hk _ => ⟨(kp.2 k hk).1, (kp.2 k hk).2.1, (kp.2 k hk).2.2.1, (kp.2 k hk).2.2.2.1, (kp.2 k hk).2.2.2.2, congrFun (hF.c 115 (by decide) (by decide)) _⟩)⟩
theorem in_grading {M : Mem} {a1 a2 a3 a4 : Int} (i1 : I32 a1) (i2 : I32 a2) (i3 : I32 a3) (i4 : I32 a4) (h : Inv M) : Simi (d_PP_grading a1 a2 a3 a4) (d_Mo_grading a1 a2 a3 a4) M Inv := by
  obtain ⟨hs, hT, hN, hP, hO, hM, hE, hX, hW, F, hA, hG⟩ := h
  obtain ⟨v, M1, w, M2, e1, e2, e3, e4, e5⟩ := sim_grading i1 i2 i3 i4 hA.ask hG hE hP
  have hF := (w_PP_grading e1).cat (w_Mo_grading e2)
  dsimp only at hF
  obtain ⟨e5, e6⟩ := e5
  refine ⟨v, M1, w, M2, e1, e2, e3, e4, e4, hT.on hF (by decide), hN.on hF (by decide), hP.on hF (by decide) (by decide), hO.on hF (by decide) (by decide), hM.on hF (by decide) (by decide), e6, hX.on hF (by decide) (by decide), hW.on hF (by decide) (by decide), F, hA.on hF (by decide) (by decide), e5⟩
theorem in_grade {M : Mem} {a1 a2 : Int} (i1 : I32 a1) (i2 : I32 a2) (h : Inv M) : Simi (d_PP_grade a1 a2) (d_Mo_grade a1 a2) M Inv := by
  obtain ⟨hs, hT, hN, hP, hO, hM, hE, hX, hW, F, hA, hG⟩ := h
  obtain ⟨v, M1, w, M2, e1, e2, e3, e4, e5⟩ := sim_grade i1 i2 hA.ask hG hE hP
  have hF := (w_PP_grade e1).cat (w_Mo_grade e2)
  dsimp only at hF
  refine ⟨v, M1, w, M2, e1, e2, e3, e4, e4, hT.on hF (by decide), hN.on hF (by decide), hP.on hF (by decide) (by decide), hO.on hF (by decide) (by decide), hM.on hF (by decide) (by decide), hE.on hF (by decide) (by decide), hX.on hF (by decide) (by decide), hW.on hF (by decide) (by decide), F, hA.on hF (by decide) (by decide), hG.on hF (by decide) (by decide)⟩
theorem in_bin {M : Mem} {a1 a2 a3 a4 a5 : Int} (i1 : I32 a1) (i2 : I32 a2) (i3 : I32 a3) (i4 : I32 a4) (i5 : I32 a5) (h : Inv M) : Simi (d_PP_bin a1 a2 a3 a4 a5) (d_Mo_bin a1 a2 a3 a4 a5) M Inv := by
  obtain ⟨hs, hT, hN, hP, hO, hM, hE, hX, hW, F, hA, hG⟩ := h
  obtain ⟨v, M1, w, M2, e1, e2, e3, e4, e5⟩ := sim_bin i1 i2 i3 i4 i5 hA.ask hG hE hP
  have hF := (w_PP_bin e1).cat (w_Mo_bin e2)
  dsimp only at hF
  refine ⟨v, M1, w, M2, e1, e2, e3, e4, e4, hT.on hF (by decide), hN.on hF (by decide), hP.on hF (by decide) (by decide), hO.on hF (by decide) (by decide), hM.on hF (by decide) (by decide), hE.on hF (by decide) (by decide), hX.on hF (by decide) (by decide), hW.on hF (by decide) (by decide), F, hA.on hF (by decide) (by decide), hG.on hF (by decide) (by decide)⟩
theorem in_port {M : Mem} {a1 a2 a3 a4 a5 : Int} (i1 : I32 a1) (i2 : I32 a2) (i3 : I32 a3) (i4 : I32 a4) (i5 : I32 a5) (h : Inv M) : Simi (d_PP_port a1 a2 a3 a4 a5) (d_Mo_port a1 a2 a3 a4 a5) M Inv := by
  obtain ⟨hs, hT, hN, hP, hO, hM, hE, hX, hW, F, hA, hG⟩ := h
  obtain ⟨v, M1, w, M2, e1, e2, e3, e4, e5⟩ := sim_port i1 i2 i3 i4 i5 hA.ask hG hE hP
  have hF := (w_PP_port e1).cat (w_Mo_port e2)
  dsimp only at hF
  refine ⟨v, M1, w, M2, e1, e2, e3, e4, e4, hT.on hF (by decide), hN.on hF (by decide), hP.on hF (by decide) (by decide), hO.on hF (by decide) (by decide), hM.on hF (by decide) (by decide), hE.on hF (by decide) (by decide), hX.on hF (by decide) (by decide), hW.on hF (by decide) (by decide), F, hA.on hF (by decide) (by decide), hG.on hF (by decide) (by decide)⟩
theorem in_sum {M : Mem} {a1 a2 a3 : Int} (i1 : I32 a1) (i2 : I32 a2) (i3 : I32 a3) (h : Inv M) : Simi (d_PP_sum a1 a2 a3) (d_Mo_sum a1 a2 a3) M Inv := by
  obtain ⟨hs, hT, hN, hP, hO, hM, hE, hX, hW, F, hA, hG⟩ := h
  obtain ⟨v, M1, w, M2, e1, e2, e3, e4, e5⟩ := sim_sum i1 i2 i3 hA.ask hG hE hP
  have hF := (w_PP_sum e1).cat (w_Mo_sum e2)
  dsimp only at hF
  refine ⟨v, M1, w, M2, e1, e2, e3, e4, e4, hT.on hF (by decide), hN.on hF (by decide), hP.on hF (by decide) (by decide), hO.on hF (by decide) (by decide), hM.on hF (by decide) (by decide), hE.on hF (by decide) (by decide), hX.on hF (by decide) (by decide), hW.on hF (by decide) (by decide), F, hA.on hF (by decide) (by decide), hG.on hF (by decide) (by decide)⟩
theorem in_feed {M : Mem} {a b c d e : Int}  (h : Inv M) : Simi (d_PP_feed a b c d e) (d_Mo_feed a b c d e) M Inv := by
  obtain ⟨hs, hT, hN, hP, hO, hM, hE, hX, hW, F, hA, hG⟩ := h
  obtain ⟨v, M1, w, M2, e1, e2, e3, e4, e5⟩ := sim_feed hs hX
  have hF := (w_PP_feed e1).cat (w_Mo_feed e2)
  dsimp only at hF
  refine ⟨v, M1, w, M2, e1, e2, e3, e4, e4, hT.on hF (by decide), hN.on hF (by decide), hP.on hF (by decide) (by decide), hO.on hF (by decide) (by decide), hM.on hF (by decide) (by decide), hE.on hF (by decide) (by decide), e5, hW.on hF (by decide) (by decide), F, hA.on hF (by decide) (by decide), hG.on hF (by decide) (by decide)⟩
theorem in_acts {M : Mem} {a1 a2 : Int} (i1 : I32 a1) (i2 : I32 a2) (h : Inv M) : Simi (d_PP_acts a1 a2) (d_Mo_acts a1 a2) M Inv := by
  obtain ⟨hs, hT, hN, hP, hO, hM, hE, hX, hW, F, hA, hG⟩ := h
  obtain ⟨v, M1, w, M2, e1, e2, e3, e4, e5⟩ := sim_acts i1 i2 hA hX hG hE hP
  have hF := (w_PP_acts e1).cat (w_Mo_acts e2)
  dsimp only at hF
  obtain ⟨F', e5, e6, e7⟩ := e5
  refine ⟨v, M1, w, M2, e1, e2, e3, e4, e4, hT.on hF (by decide), hN.on hF (by decide), hP.on hF (by decide) (by decide), hO.on hF (by decide) (by decide), hM.on hF (by decide) (by decide), hE.on hF (by decide) (by decide), e7, hW.on hF (by decide) (by decide), F', e5, e6⟩
theorem in_fault {M : Mem} {a1 : Int}  (h : Inv M) : Simi (d_PP_fault a1) (d_Mo_fault a1) M Inv := by
  obtain ⟨hs, hT, hN, hP, hO, hM, hE, hX, hW, F, hA, hG⟩ := h
  obtain ⟨v, M1, w, M2, e1, e2, e3, e4, e5⟩ := sim_fault hs hX
  have hF := (w_PP_fault e1).cat (w_Mo_fault e2)
  dsimp only at hF
  refine ⟨v, M1, w, M2, e1, e2, e3, e4, e4, hT.on hF (by decide), hN.on hF (by decide), hP.on hF (by decide) (by decide), hO.on hF (by decide) (by decide), hM.on hF (by decide) (by decide), hE.on hF (by decide) (by decide), hX.on hF (by decide) (by decide), hW.on hF (by decide) (by decide), F, hA.on hF (by decide) (by decide), hG.on hF (by decide) (by decide)⟩
theorem in_paid {M : Mem} {a1 a2 a3 a4 : Int} (i1 : I32 a1) (i2 : I32 a2) (i3 : I32 a3) (i4 : I32 a4) (h : Inv M) : Siml (d_PP_paid a1 a2 a3 a4) (d_Mo_paid a1 a2 a3 a4) M Inv := by
  obtain ⟨hs, hT, hN, hP, hO, hM, hE, hX, hW, F, hA, hG⟩ := h
  obtain ⟨v, M1, w, M2, e1, e2, e3, e4, e5⟩ := sim_paid i1 i2 i3 i4 hA.ask hG hE hP
  have hF := (w_PP_paid e1).cat (w_Mo_paid e2)
  dsimp only at hF
  refine ⟨v, M1, w, M2, e1, e2, e3, e4, e4, hT.on hF (by decide), hN.on hF (by decide), hP.on hF (by decide) (by decide), hO.on hF (by decide) (by decide), hM.on hF (by decide) (by decide), hE.on hF (by decide) (by decide), hX.on hF (by decide) (by decide), hW.on hF (by decide) (by decide), F, hA.on hF (by decide) (by decide), hG.on hF (by decide) (by decide)⟩
theorem in_last {M : Mem} {a1 a2 a3 : Int} (i1 : I32 a1) (i2 : I32 a2) (i3 : I32 a3) (h : Inv M) : Siml (d_PP_last a1 a2 a3) (d_Mo_last a1 a2 a3) M Inv := by
  obtain ⟨hs, hT, hN, hP, hO, hM, hE, hX, hW, F, hA, hG⟩ := h
  obtain ⟨v, M1, w, M2, e1, e2, e3, e4, e5⟩ := sim_last i1 i2 i3 hA.ask hG hE hP
  have hF := (w_PP_last e1).cat (w_Mo_last e2)
  dsimp only at hF
  refine ⟨v, M1, w, M2, e1, e2, e3, e4, e4, hT.on hF (by decide), hN.on hF (by decide), hP.on hF (by decide) (by decide), hO.on hF (by decide) (by decide), hM.on hF (by decide) (by decide), hE.on hF (by decide) (by decide), hX.on hF (by decide) (by decide), hW.on hF (by decide) (by decide), F, hA.on hF (by decide) (by decide), hG.on hF (by decide) (by decide)⟩
theorem in_first {M : Mem} {a1 a2 a3 : Int} (i1 : I32 a1) (i2 : I32 a2) (i3 : I32 a3) (h : Inv M) : Siml (d_PP_first a1 a2 a3) (d_Mo_first a1 a2 a3) M Inv := by
  obtain ⟨hs, hT, hN, hP, hO, hM, hE, hX, hW, F, hA, hG⟩ := h
  obtain ⟨v, M1, w, M2, e1, e2, e3, e4, e5⟩ := sim_first i1 i2 i3 hA.ask hG hE hP
  have hF := (w_PP_first e1).cat (w_Mo_first e2)
  dsimp only at hF
  refine ⟨v, M1, w, M2, e1, e2, e3, e4, e4, hT.on hF (by decide), hN.on hF (by decide), hP.on hF (by decide) (by decide), hO.on hF (by decide) (by decide), hM.on hF (by decide) (by decide), hE.on hF (by decide) (by decide), hX.on hF (by decide) (by decide), hW.on hF (by decide) (by decide), F, hA.on hF (by decide) (by decide), hG.on hF (by decide) (by decide)⟩
theorem in_below {M : Mem} {a1 a2 a3 : Int} (i1 : I32 a1) (i2 : I32 a2) (i3 : I32 a3) (h : Inv M) : Siml (d_PP_below a1 a2 a3) (d_Mo_below a1 a2 a3) M Inv := by
  obtain ⟨hs, hT, hN, hP, hO, hM, hE, hX, hW, F, hA, hG⟩ := h
  obtain ⟨v, M1, w, M2, e1, e2, e3, e4, e5⟩ := sim_below i1 i2 i3 hA.ask hG hE hP
  have hF := (w_PP_below e1).cat (w_Mo_below e2)
  dsimp only at hF
  refine ⟨v, M1, w, M2, e1, e2, e3, e4, e4, hT.on hF (by decide), hN.on hF (by decide), hP.on hF (by decide) (by decide), hO.on hF (by decide) (by decide), hM.on hF (by decide) (by decide), hE.on hF (by decide) (by decide), hX.on hF (by decide) (by decide), hW.on hF (by decide) (by decide), F, hA.on hF (by decide) (by decide), hG.on hF (by decide) (by decide)⟩
theorem in_owed {M : Mem} {a1 a2 a3 : Int} (i1 : I32 a1) (i2 : I32 a2) (i3 : I32 a3) (h : Inv M) : Siml (d_PP_owed a1 a2 a3) (d_Mo_owed a1 a2 a3) M Inv := by
  obtain ⟨hs, hT, hN, hP, hO, hM, hE, hX, hW, F, hA, hG⟩ := h
  obtain ⟨v, M1, w, M2, e1, e2, e3, e4, e5⟩ := sim_owed i1 i2 i3 hA.ask hG hE hP
  have hF := (w_PP_owed e1).cat (w_Mo_owed e2)
  dsimp only at hF
  refine ⟨v, M1, w, M2, e1, e2, e3, e4, e4, hT.on hF (by decide), hN.on hF (by decide), hP.on hF (by decide) (by decide), hO.on hF (by decide) (by decide), hM.on hF (by decide) (by decide), hE.on hF (by decide) (by decide), hX.on hF (by decide) (by decide), hW.on hF (by decide) (by decide), F, hA.on hF (by decide) (by decide), hG.on hF (by decide) (by decide)⟩
theorem in_turns {M : Mem} {a1 a2 a3 : Int} (i1 : I32 a1) (i2 : I32 a2) (i3 : I32 a3) (h : Inv M) : Simi (d_PP_turns a1 a2 a3) (d_Mo_turns a1 a2 a3) M Inv := by
  obtain ⟨hs, hT, hN, hP, hO, hM, hE, hX, hW, F, hA, hG⟩ := h
  obtain ⟨v, M1, w, M2, e1, e2, e3, e4, e5⟩ := sim_turns i1 i2 i3 hA.ask hG hE hP
  have hF := (w_PP_turns e1).cat (w_Mo_turns e2)
  dsimp only at hF
  refine ⟨v, M1, w, M2, e1, e2, e3, e4, e4, hT.on hF (by decide), hN.on hF (by decide), hP.on hF (by decide) (by decide), hO.on hF (by decide) (by decide), hM.on hF (by decide) (by decide), hE.on hF (by decide) (by decide), hX.on hF (by decide) (by decide), hW.on hF (by decide) (by decide), F, hA.on hF (by decide) (by decide), hG.on hF (by decide) (by decide)⟩
theorem in_sign {M : Mem} {a1 a2 a3 : Int} (i1 : I32 a1) (i2 : I32 a2) (i3 : I32 a3) (h : Inv M) : Simi (d_PP_sign a1 a2 a3) (d_Mo_sign a1 a2 a3) M Inv := by
  obtain ⟨hs, hT, hN, hP, hO, hM, hE, hX, hW, F, hA, hG⟩ := h
  obtain ⟨v, M1, w, M2, e1, e2, e3, e4, e5⟩ := sim_sign i1 i2 i3 hP
  have hF := (w_PP_sign e1).cat (w_Mo_sign e2)
  dsimp only at hF
  refine ⟨v, M1, w, M2, e1, e2, e3, e4, e4, hT.on hF (by decide), hN.on hF (by decide), e5, hO.on hF (by decide) (by decide), hM.on hF (by decide) (by decide), hE.on hF (by decide) (by decide), hX.on hF (by decide) (by decide), hW.on hF (by decide) (by decide), F, hA.on hF (by decide) (by decide), hG.on hF (by decide) (by decide)⟩
theorem in_let {M : Mem} {a1 a2 a3 : Int} (i1 : I32 a1) (i2 : I32 a2) (h : Inv M) : Simi (d_PP_let a1 a2 a3) (d_Mo_let a1 a2 a3) M Inv := by
  obtain ⟨hs, hT, hN, hP, hO, hM, hE, hX, hW, F, hA, hG⟩ := h
  obtain ⟨v, M1, w, M2, e1, e2, e3, e4, e5⟩ := sim_let i1 i2 hP
  have hF := (w_PP_let e1).cat (w_Mo_let e2)
  dsimp only at hF
  refine ⟨v, M1, w, M2, e1, e2, e3, e4, e4, hT.on hF (by decide), hN.on hF (by decide), e5, hO.on hF (by decide) (by decide), hM.on hF (by decide) (by decide), hE.on hF (by decide) (by decide), hX.on hF (by decide) (by decide), hW.on hF (by decide) (by decide), F, hA.on hF (by decide) (by decide), hG.on hF (by decide) (by decide)⟩
theorem in_outside {M : Mem} {a1 a2 a3 a4 : Int} (i1 : I32 a1) (i2 : I32 a2) (i3 : I32 a3) (i4 : I32 a4) (h : Inv M) : Simi (d_PP_outside a1 a2 a3 a4) (d_Mo_outside a1 a2 a3 a4) M Inv := by
  obtain ⟨hs, hT, hN, hP, hO, hM, hE, hX, hW, F, hA, hG⟩ := h
  obtain ⟨v, M1, w, M2, e1, e2, e3, e4, e5⟩ := sim_outside i1 i2 i3 i4 hO hP
  have hF := (w_PP_outside e1).cat (w_Mo_outside e2)
  dsimp only at hF
  refine ⟨v, M1, w, M2, e1, e2, e3, e4, e4, hT.on hF (by decide), hN.on hF (by decide), hP.on hF (by decide) (by decide), e5, hM.on hF (by decide) (by decide), hE.on hF (by decide) (by decide), hX.on hF (by decide) (by decide), hW.on hF (by decide) (by decide), F, hA.on hF (by decide) (by decide), hG.on hF (by decide) (by decide)⟩
theorem in_breach {M : Mem} {a1 : Int} (i1 : I32 a1) (h : Inv M) : Simi (d_PP_breach a1) (d_Mo_breach a1) M Inv := by
  obtain ⟨hs, hT, hN, hP, hO, hM, hE, hX, hW, F, hA, hG⟩ := h
  obtain ⟨v, M1, w, M2, e1, e2, e3, e4, e5⟩ := sim_breach i1 hA.ask hO hP
  have hF := (w_PP_breach e1).cat (w_Mo_breach e2)
  dsimp only at hF
  refine ⟨v, M1, w, M2, e1, e2, e3, e4, e4, hT.on hF (by decide), hN.on hF (by decide), hP.on hF (by decide) (by decide), hO.on hF (by decide) (by decide), hM.on hF (by decide) (by decide), hE.on hF (by decide) (by decide), hX.on hF (by decide) (by decide), hW.on hF (by decide) (by decide), F, hA.on hF (by decide) (by decide), hG.on hF (by decide) (by decide)⟩
theorem in_cost {M : Mem} {a1 a2 : Int} (i1 : I32 a1) (i2 : I32 a2) (h : Inv M) : Siml (d_PP_cost a1 a2) (d_Mo_cost a1 a2) M Inv := by
  obtain ⟨hs, hT, hN, hP, hO, hM, hE, hX, hW, F, hA, hG⟩ := h
  obtain ⟨v, M1, w, M2, e1, e2, e3, e4, e5⟩ := sim_cost i1 i2 hA.ask hO hP
  have hF := (w_PP_cost e1).cat (w_Mo_cost e2)
  dsimp only at hF
  refine ⟨v, M1, w, M2, e1, e2, e3, e4, e4, hT.on hF (by decide), hN.on hF (by decide), hP.on hF (by decide) (by decide), hO.on hF (by decide) (by decide), hM.on hF (by decide) (by decide), hE.on hF (by decide) (by decide), hX.on hF (by decide) (by decide), hW.on hF (by decide) (by decide), F, hA.on hF (by decide) (by decide), hG.on hF (by decide) (by decide)⟩
theorem in_price {M : Mem} {a1 a2 : Int} (i1 : I32 a1) (i2 : I32 a2) (h : Inv M) : Simi (d_PP_price a1 a2) (d_Mo_price a1 a2) M Inv := by
  obtain ⟨hs, hT, hN, hP, hO, hM, hE, hX, hW, F, hA, hG⟩ := h
  obtain ⟨v, M1, w, M2, e1, e2, e3, e4, e5⟩ := sim_price i1 i2 hM
  have hF := (w_PP_price e1).cat (w_Mo_price e2)
  dsimp only at hF
  refine ⟨v, M1, w, M2, e1, e2, e3, e4, e4, hT.on hF (by decide), hN.on hF (by decide), hP.on hF (by decide) (by decide), hO.on hF (by decide) (by decide), e5, hE.on hF (by decide) (by decide), hX.on hF (by decide) (by decide), hW.on hF (by decide) (by decide), F, hA.on hF (by decide) (by decide), hG.on hF (by decide) (by decide)⟩
theorem in_rules {M : Mem} {a1 a2 : Int} (i1 : I32 a1) (i2 : I32 a2) (h : Inv M) : Simi (d_PP_rules a1 a2) (d_Mo_rules a1 a2) M Inv := by
  obtain ⟨hs, hT, hN, hP, hO, hM, hE, hX, hW, F, hA, hG⟩ := h
  obtain ⟨v, M1, w, M2, e1, e2, e3, e4, e5⟩ := sim_rules i1 i2 hM
  have hF := (w_PP_rules e1).cat (w_Mo_rules e2)
  dsimp only at hF
  refine ⟨v, M1, w, M2, e1, e2, e3, e4, e4, hT.on hF (by decide), hN.on hF (by decide), hP.on hF (by decide) (by decide), hO.on hF (by decide) (by decide), e5, hE.on hF (by decide) (by decide), hX.on hF (by decide) (by decide), hW.on hF (by decide) (by decide), F, hA.on hF (by decide) (by decide), hG.on hF (by decide) (by decide)⟩
theorem in_alone {M : Mem} {a1 a2 a3 : Int} (i1 : I32 a1) (i2 : I32 a2) (i3 : I32 a3) (h : Inv M) : Siml (d_PP_alone a1 a2 a3) (d_Mo_alone a1 a2 a3) M Inv := by
  obtain ⟨hs, hT, hN, hP, hO, hM, hE, hX, hW, F, hA, hG⟩ := h
  obtain ⟨v, M1, w, M2, e1, e2, e3, e4, e5⟩ := sim_alone i1 i2 i3 hA.ask hG hE hP hM
  have hF := (w_PP_alone e1).cat (w_Mo_alone e2)
  dsimp only at hF
  refine ⟨v, M1, w, M2, e1, e2, e3, e4, e4, hT.on hF (by decide), hN.on hF (by decide), hP.on hF (by decide) (by decide), hO.on hF (by decide) (by decide), hM.on hF (by decide) (by decide), hE.on hF (by decide) (by decide), hX.on hF (by decide) (by decide), hW.on hF (by decide) (by decide), F, hA.on hF (by decide) (by decide), hG.on hF (by decide) (by decide)⟩
theorem in_more {M : Mem} {a1 a2 : Int} (i1 : I32 a1) (i2 : I32 a2) (h : Inv M) : Simi (d_PP_more a1 a2) (d_Mo_more a1 a2) M Inv := by
  obtain ⟨hs, hT, hN, hP, hO, hM, hE, hX, hW, F, hA, hG⟩ := h
  obtain ⟨v, M1, w, M2, e1, e2, e3, e4, e5⟩ := sim_more i1 i2 hA.ask hG hE hP hM
  have hF := (w_PP_more e1).cat (w_Mo_more e2)
  dsimp only at hF
  refine ⟨v, M1, w, M2, e1, e2, e3, e4, e4, hT.on hF (by decide), hN.on hF (by decide), hP.on hF (by decide) (by decide), hO.on hF (by decide) (by decide), hM.on hF (by decide) (by decide), hE.on hF (by decide) (by decide), hX.on hF (by decide) (by decide), hW.on hF (by decide) (by decide), F, hA.on hF (by decide) (by decide), hG.on hF (by decide) (by decide)⟩
theorem in_vote {M : Mem} {a1 a2 : Int} (i1 : I32 a1) (i2 : I32 a2) (h : Inv M) : Simi (d_PP_vote a1 a2) (d_Mo_vote a1 a2) M Inv := by
  obtain ⟨hs, hT, hN, hP, hO, hM, hE, hX, hW, F, hA, hG⟩ := h
  obtain ⟨v, M1, w, M2, e1, e2, e3, e4, e5⟩ := sim_vote i1 i2 hP
  have hF := (w_PP_vote e1).cat (w_Mo_vote e2)
  dsimp only at hF
  refine ⟨v, M1, w, M2, e1, e2, e3, e4, e4, hT.on hF (by decide), hN.on hF (by decide), e5, hO.on hF (by decide) (by decide), hM.on hF (by decide) (by decide), hE.on hF (by decide) (by decide), hX.on hF (by decide) (by decide), hW.on hF (by decide) (by decide), F, hA.on hF (by decide) (by decide), hG.on hF (by decide) (by decide)⟩
theorem in_result {M : Mem} {a1 a2 : Int} (i1 : I32 a1) (i2 : I32 a2) (h : Inv M) : Simi (d_PP_result a1 a2) (d_Mo_result a1 a2) M Inv := by
  obtain ⟨hs, hT, hN, hP, hO, hM, hE, hX, hW, F, hA, hG⟩ := h
  obtain ⟨v, M1, w, M2, e1, e2, e3, e4, e5⟩ := sim_result i1 i2 hA.ask hP
  have hF := (w_PP_result e1).cat (w_Mo_result e2)
  dsimp only at hF
  refine ⟨v, M1, w, M2, e1, e2, e3, e4, e4, hT.on hF (by decide), hN.on hF (by decide), hP.on hF (by decide) (by decide), hO.on hF (by decide) (by decide), hM.on hF (by decide) (by decide), hE.on hF (by decide) (by decide), hX.on hF (by decide) (by decide), hW.on hF (by decide) (by decide), F, hA.on hF (by decide) (by decide), hG.on hF (by decide) (by decide)⟩
theorem in_hangs {M : Mem} {a1 : Int} (i1 : I32 a1) (h : Inv M) : Simi (d_PP_hangs a1) (d_Mo_hangs a1) M Inv := by
  obtain ⟨hs, hT, hN, hP, hO, hM, hE, hX, hW, F, hA, hG⟩ := h
  obtain ⟨v, M1, w, M2, e1, e2, e3, e4, e5⟩ := sim_hangs i1 hA.ask hP
  have hF := (w_PP_hangs e1).cat (w_Mo_hangs e2)
  dsimp only at hF
  refine ⟨v, M1, w, M2, e1, e2, e3, e4, e4, hT.on hF (by decide), hN.on hF (by decide), hP.on hF (by decide) (by decide), hO.on hF (by decide) (by decide), hM.on hF (by decide) (by decide), hE.on hF (by decide) (by decide), hX.on hF (by decide) (by decide), hW.on hF (by decide) (by decide), F, hA.on hF (by decide) (by decide), hG.on hF (by decide) (by decide)⟩
theorem in_warm {M : Mem} {a1 a2 a3 : Int} (i1 : I32 a1) (i2 : I32 a2) (i3 : I32 a3) (h : Inv M) : Simi (d_PP_warm a1 a2 a3) (d_Mo_warm a1 a2 a3) M Inv := by
  obtain ⟨hs, hT, hN, hP, hO, hM, hE, hX, hW, F, hA, hG⟩ := h
  obtain ⟨v, M1, w, M2, e1, e2, e3, e4, e5⟩ := sim_warm i1 i2 i3 hT hN hW
  have hF := (w_PP_warm e1).cat (w_Mo_warm e2)
  dsimp only at hF
  refine ⟨v, M1, w, M2, e1, e2, e3, e4, e4, hT.on hF (by decide), hN.on hF (by decide), hP.on hF (by decide) (by decide), hO.on hF (by decide) (by decide), hM.on hF (by decide) (by decide), hE.on hF (by decide) (by decide), hX.on hF (by decide) (by decide), e5, F, hA.on hF (by decide) (by decide), hG.on hF (by decide) (by decide)⟩
theorem in_turned {M : Mem} {a1 : Int} (i1 : I32 a1) (h : Inv M) : Simi (d_PP_turned a1) (d_Mo_turned a1) M Inv := by
  obtain ⟨hs, hT, hN, hP, hO, hM, hE, hX, hW, F, hA, hG⟩ := h
  obtain ⟨v, M1, w, M2, e1, e2, e3, e4, e5⟩ := sim_turned i1 hW
  have hF := (w_PP_turned e1).cat (w_Mo_turned e2)
  dsimp only at hF
  refine ⟨v, M1, w, M2, e1, e2, e3, e4, e4, hT.on hF (by decide), hN.on hF (by decide), hP.on hF (by decide) (by decide), hO.on hF (by decide) (by decide), hM.on hF (by decide) (by decide), hE.on hF (by decide) (by decide), hX.on hF (by decide) (by decide), hW.on hF (by decide) (by decide), F, hA.on hF (by decide) (by decide), hG.on hF (by decide) (by decide)⟩
theorem in_send {M : Mem} {a1 a2 a3 a4 a5 : Int} (i1 : I32 a1) (i2 : I32 a2) (i3 : I32 a3) (i4 : I32 a4) (i5 : I32 a5) (h : Inv M) : Simi (d_PP_send a1 a2 a3 a4 a5) (d_Mo_send a1 a2 a3 a4 a5) M Inv := by
  obtain ⟨hs, hT, hN, hP, hO, hM, hE, hX, hW, F, hA, hG⟩ := h
  obtain ⟨v, M1, w, M2, e1, e2, e3, e4, e5⟩ := sim_send i1 i2 i3 i4 i5 hT hN
  have hF := (w_PP_send e1).cat (w_Mo_send e2)
  dsimp only at hF
  refine ⟨v, M1, w, M2, e1, e2, e3, e4, e4, hT.on hF (by decide), hN.on hF (by decide), hP.on hF (by decide) (by decide), hO.on hF (by decide) (by decide), hM.on hF (by decide) (by decide), hE.on hF (by decide) (by decide), hX.on hF (by decide) (by decide), hW.on hF (by decide) (by decide), F, hA.on hF (by decide) (by decide), hG.on hF (by decide) (by decide)⟩
