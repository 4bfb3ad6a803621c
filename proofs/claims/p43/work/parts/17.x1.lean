def f_X1_refuse (σ : St) (x1 : Int32) (x2 : Int32) : St × Int32 := (bnd (setI σ 1 1 x1) (fun q1 => (bnd (setI q1 1 2 x2) (fun q2 => (q2, x1)))))
abbrev rm_X1_refuse : Room := { frames := 0, cells := 0, slots := 0, locals := 0 }
set_option maxHeartbeats 4000000 in
set_option maxRecDepth 100000 in
theorem c_X1_refuse (l : Launch) (G : GE) (hG : Gok G) (σ : St) (x1 : Int32) (x2 : Int32) : MtI l G yX1_refuse cX1_refuse 3 rm_X1_refuse [.ref (G.2.1 1), .int x1, .int x2] σ (f_X1_refuse σ x1 x2) := by
  generalize hf : f_X1_refuse σ x1 x2 = fv
  rw [f_X1_refuse] at hf
  refine g_start hG (plainFor_of_name (by decide)) (Nat.le_of_ble_eq_true rfl) ?_
  intro p e s m args below meth c X hr hlk ls hl H locs hP hS
  have X : Cx G p s m args c cX1_refuse 3 RX1 := X
  obtain ⟨hx, hb, hml, hown, hts, hK, hbs, hXW, -⟩ := id X
  have hl : lv_has ls 3 [(0, .ref (G.2.1 1)), (1, .int x1), (2, .int x2)] := hl
  refine lv_aload_n hx hb dX1_refuse_0 rfl (lv_at hl 0 rfl) ?_
  refine lv_iload_n hx hb dX1_refuse_1 rfl (lv_at hl 1 rfl) ?_
  refine gp_1_1 X hP hS ab_1 kf_X1_18 dX1_refuse_2 (fun H locs hP hS => ?_)
  refine g_name hP (fun q1 hq1 hP => ?_)
  have hf := bnd_go hq1 hf
  refine lv_aload_n hx hb dX1_refuse_5 rfl (lv_at hl 0 rfl) ?_
  refine lv_iload_n hx hb dX1_refuse_6 rfl (lv_at hl 2 rfl) ?_
  refine gp_1_2 X hP hS ab_1 kf_X1_22 dX1_refuse_7 (fun H locs hP hS => ?_)
  refine g_name hP (fun q2 hq2 hP => ?_)
  have hf := bnd_go hq2 hf
  refine lv_iload_n hx hb dX1_refuse_10 rfl (lv_at hl 1 rfl) ?_
  exact g_iret X hr hlk hP hS hf dX1_refuse_11
def f_X1_mayAddCrayon (σ : St) (x1 : Int32) : St × Int32 := (if (f_X9_inRange x1 (10 : Int32) (120 : Int32)) = true then (if (σ.1 3 2) < (8 : Int32) then (σ, (0 : Int32)) else (bnd (f_X1_refuse σ (1 : Int32) (8 : Int32)) (fun q1 => (q1.1, q1.2)))) else (σ, (-2 : Int32)))
abbrev rm_X1_mayAddCrayon : Room := { frames := 1, cells := 0, slots := 0, locals := 22 }
set_option maxHeartbeats 4000000 in
set_option maxRecDepth 100000 in
theorem c_X1_mayAddCrayon (l : Launch) (G : GE) (hG : Gok G) (σ : St) (x1 : Int32) : MtI l G yX1_mayAddCrayon cX1_mayAddCrayon 2 rm_X1_mayAddCrayon [.ref (G.2.1 1), .int x1] σ (f_X1_mayAddCrayon σ x1) := by
  generalize hf : f_X1_mayAddCrayon σ x1 = fv
  rw [f_X1_mayAddCrayon] at hf
  refine g_start hG (plainFor_of_name (by decide)) (Nat.le_of_ble_eq_true rfl) ?_
  intro p e s m args below meth c X hr hlk ls hl H locs hP hS
  have X : Cx G p s m args c cX1_mayAddCrayon 2 RX1 := X
  obtain ⟨hx, hb, hml, hown, hts, hK, hbs, hXW, -⟩ := id X
  have hl : lv_has ls 2 [(0, .ref (G.2.1 1)), (1, .int x1)] := hl
  refine lv_iload_n hx hb dX1_mayAddCrayon_0 rfl (lv_at hl 1 rfl) ?_
  refine lv_bipush (v := 10) hx hb dX1_mayAddCrayon_1 (by decide) ?_
  refine lv_bipush (v := 120) hx hb dX1_mayAddCrayon_3 (by decide) ?_
  refine g_cZp (g_runSN (As := [.int x1, .int (10 : Int32), .int (120 : Int32)]) (rest := []) X (c_X9_inRange l G hG σ x1 (10 : Int32) (120 : Int32)) ca_X9_inRange km_X1_25 rfl rfl ⟨Nat.le_of_ble_eq_true rfl, Nat.le_of_ble_eq_true rfl⟩ hP hS rfl hl.1 rfl (Nat.le_of_ble_eq_true rfl) ⟨Nat.le_of_ble_eq_true rfl, Nat.le_of_ble_eq_true rfl⟩ dX1_mayAddCrayon_5) hS (fun H locs hP hS => ?_)
  refine g_ifneZ (tgt := 14) X dX1_mayAddCrayon_8 (by decide) (fun hc => ?_) (fun hc => ?_)
  · have hf := ite_t hc hf
    refine lv_aload_n hx hb dX1_mayAddCrayon_14 rfl (lv_at hl 0 rfl) ?_
    refine gg_1_0 (j := 2) rfl X hP ab_1 kf_X1_12 dX1_mayAddCrayon_15 ?_
    refine gg_6_0 (j := 3) rfl X hP ab_2 kf_X1_29 dX1_mayAddCrayon_18 ?_
    refine gg_2_2 X hP ab_3 kf_X1_33 dX1_mayAddCrayon_21 ?_
    refine lv_bipush (v := 8) hx hb dX1_mayAddCrayon_24 (by decide) ?_
    refine lv_icmp_lt (tgt := 39) hx hb dX1_mayAddCrayon_26 (by decide) (fun hc => ?_) (fun hc => ?_)
    · have hf := ite_t hc hf
      refine lv_iconst (v := 0) hx hb dX1_mayAddCrayon_39 (by decide) ?_
      exact g_iret X hr hlk hP hS hf dX1_mayAddCrayon_40
    · have hf := ite_f hc hf
      refine lv_aload_n hx hb dX1_mayAddCrayon_29 rfl (lv_at hl 0 rfl) ?_
      refine lv_iconst (v := 1) hx hb dX1_mayAddCrayon_30 (by decide) ?_
      refine lv_bipush (v := 8) hx hb dX1_mayAddCrayon_31 (by decide) ?_
      refine g_cI (g_runV (i := 1) (As := [.int (1 : Int32), .int (8 : Int32)]) (rest := []) X (c_X1_refuse l G hG σ (1 : Int32) (8 : Int32)) ca_X1_refuse km_X1_38 rfl rfl ⟨Nat.le_of_ble_eq_true rfl, Nat.le_of_ble_eq_true rfl⟩ hP hS (ty_lt ab_1) (cell_1 ab_1) rfl rfl rfl hl.1 rfl (Nat.le_of_ble_eq_true rfl) ⟨Nat.le_of_ble_eq_true rfl, Nat.le_of_ble_eq_true rfl⟩ dX1_mayAddCrayon_33) hS (fun q1 hq1 H locs hP hS => ?_)
      have hf := bnd_go hq1 hf
      refine lv_goto (tgt := 40) hx hb dX1_mayAddCrayon_36 (by decide) ?_
      exact g_iret X hr hlk hP hS hf dX1_mayAddCrayon_40
  · have hf := ite_z hc hf
    refine lv_bipush (v := -2) hx hb dX1_mayAddCrayon_11 (by decide) ?_
    exact g_iret X hr hlk hP hS hf dX1_mayAddCrayon_13
def f_X1_mayCut (σ : St) : St × Int32 := (if (σ.1 3 3) < (5 : Int32) then (σ, (0 : Int32)) else (bnd (f_X1_refuse σ (1 : Int32) (5 : Int32)) (fun q1 => (q1.1, q1.2))))
abbrev rm_X1_mayCut : Room := { frames := 1, cells := 0, slots := 0, locals := 22 }
set_option maxHeartbeats 4000000 in
set_option maxRecDepth 100000 in
theorem c_X1_mayCut (l : Launch) (G : GE) (hG : Gok G) (σ : St) : MtI l G yX1_mayCut cX1_mayCut 1 rm_X1_mayCut [.ref (G.2.1 1)] σ (f_X1_mayCut σ) := by
  generalize hf : f_X1_mayCut σ = fv
  rw [f_X1_mayCut] at hf
  refine g_start hG (plainFor_of_name (by decide)) (Nat.le_of_ble_eq_true rfl) ?_
  intro p e s m args below meth c X hr hlk ls hl H locs hP hS
  have X : Cx G p s m args c cX1_mayCut 1 RX1 := X
  obtain ⟨hx, hb, hml, hown, hts, hK, hbs, hXW, -⟩ := id X
  have hl : lv_has ls 1 [(0, .ref (G.2.1 1))] := hl
  refine lv_aload_n hx hb dX1_mayCut_0 rfl (lv_at hl 0 rfl) ?_
  refine gg_1_0 (j := 2) rfl X hP ab_1 kf_X1_12 dX1_mayCut_1 ?_
  refine gg_6_0 (j := 3) rfl X hP ab_2 kf_X1_29 dX1_mayCut_4 ?_
  refine gg_2_3 X hP ab_3 kf_X1_42 dX1_mayCut_7 ?_
  refine lv_iconst (v := 5) hx hb dX1_mayCut_10 (by decide) ?_
  refine lv_icmp_lt (tgt := 23) hx hb dX1_mayCut_11 (by decide) (fun hc => ?_) (fun hc => ?_)
  · have hf := ite_t hc hf
    refine lv_iconst (v := 0) hx hb dX1_mayCut_23 (by decide) ?_
    exact g_iret X hr hlk hP hS hf dX1_mayCut_24
  · have hf := ite_f hc hf
    refine lv_aload_n hx hb dX1_mayCut_14 rfl (lv_at hl 0 rfl) ?_
    refine lv_iconst (v := 1) hx hb dX1_mayCut_15 (by decide) ?_
    refine lv_iconst (v := 5) hx hb dX1_mayCut_16 (by decide) ?_
    refine g_cI (g_runV (i := 1) (As := [.int (1 : Int32), .int (5 : Int32)]) (rest := []) X (c_X1_refuse l G hG σ (1 : Int32) (5 : Int32)) ca_X1_refuse km_X1_38 rfl rfl ⟨Nat.le_of_ble_eq_true rfl, Nat.le_of_ble_eq_true rfl⟩ hP hS (ty_lt ab_1) (cell_1 ab_1) rfl rfl rfl hl.1 rfl (Nat.le_of_ble_eq_true rfl) ⟨Nat.le_of_ble_eq_true rfl, Nat.le_of_ble_eq_true rfl⟩ dX1_mayCut_17) hS (fun q1 hq1 H locs hP hS => ?_)
    have hf := bnd_go hq1 hf
    refine lv_goto (tgt := 24) hx hb dX1_mayCut_20 (by decide) ?_
    exact g_iret X hr hlk hP hS hf dX1_mayCut_24
def f_X1_mayMake (σ : St) (x1 : Int32) (x2 : Int32) : St × Int32 := (if (σ.1 6 8) < (20 : Int32) then (if x1 = x2 then (bnd (f_X1_refuse σ (2 : Int32) x1) (fun q1 => (q1.1, q1.2))) else (σ, (0 : Int32))) else (bnd (f_X1_refuse σ (1 : Int32) (20 : Int32)) (fun q2 => (q2.1, q2.2))))
abbrev rm_X1_mayMake : Room := { frames := 1, cells := 0, slots := 0, locals := 22 }
set_option maxHeartbeats 4000000 in
set_option maxRecDepth 100000 in
theorem c_X1_mayMake (l : Launch) (G : GE) (hG : Gok G) (σ : St) (x1 : Int32) (x2 : Int32) : MtI l G yX1_mayMake cX1_mayMake 3 rm_X1_mayMake [.ref (G.2.1 1), .int x1, .int x2] σ (f_X1_mayMake σ x1 x2) := by
  generalize hf : f_X1_mayMake σ x1 x2 = fv
  rw [f_X1_mayMake] at hf
  refine g_start hG (plainFor_of_name (by decide)) (Nat.le_of_ble_eq_true rfl) ?_
  intro p e s m args below meth c X hr hlk ls hl H locs hP hS
  have X : Cx G p s m args c cX1_mayMake 3 RX1 := X
  obtain ⟨hx, hb, hml, hown, hts, hK, hbs, hXW, -⟩ := id X
  have hl : lv_has ls 3 [(0, .ref (G.2.1 1)), (1, .int x1), (2, .int x2)] := hl
  refine lv_aload_n hx hb dX1_mayMake_0 rfl (lv_at hl 0 rfl) ?_
  refine gg_1_0 (j := 2) rfl X hP ab_1 kf_X1_12 dX1_mayMake_1 ?_
  refine gg_6_1 (j := 6) rfl X hP ab_2 kf_X1_45 dX1_mayMake_4 ?_
  refine gg_5_8 X hP ab_6 kf_X1_49 dX1_mayMake_7 ?_
  refine lv_bipush (v := 20) hx hb dX1_mayMake_10 (by decide) ?_
  refine lv_icmp_lt (tgt := 23) hx hb dX1_mayMake_12 (by decide) (fun hc => ?_) (fun hc => ?_)
  · have hf := ite_t hc hf
    refine lv_iload_n hx hb dX1_mayMake_23 rfl (lv_at hl 1 rfl) ?_
    refine lv_iload_n hx hb dX1_mayMake_24 rfl (lv_at hl 2 rfl) ?_
    refine lv_icmp_ne (tgt := 37) hx hb dX1_mayMake_25 (by decide) (fun hc => ?_) (fun hc => ?_)
    · have hf := ite_f hc hf
      refine lv_iconst (v := 0) hx hb dX1_mayMake_37 (by decide) ?_
      exact g_iret X hr hlk hP hS hf dX1_mayMake_38
    · have hf := ite_t hc hf
      refine lv_aload_n hx hb dX1_mayMake_28 rfl (lv_at hl 0 rfl) ?_
      refine lv_iconst (v := 2) hx hb dX1_mayMake_29 (by decide) ?_
      refine lv_iload_n hx hb dX1_mayMake_30 rfl (lv_at hl 1 rfl) ?_
      refine g_cI (g_runV (i := 1) (As := [.int (2 : Int32), .int x1]) (rest := []) X (c_X1_refuse l G hG σ (2 : Int32) x1) ca_X1_refuse km_X1_38 rfl rfl ⟨Nat.le_of_ble_eq_true rfl, Nat.le_of_ble_eq_true rfl⟩ hP hS (ty_lt ab_1) (cell_1 ab_1) rfl rfl rfl hl.1 rfl (Nat.le_of_ble_eq_true rfl) ⟨Nat.le_of_ble_eq_true rfl, Nat.le_of_ble_eq_true rfl⟩ dX1_mayMake_31) hS (fun q1 hq1 H locs hP hS => ?_)
      have hf := bnd_go hq1 hf
      refine lv_goto (tgt := 38) hx hb dX1_mayMake_34 (by decide) ?_
      exact g_iret X hr hlk hP hS hf dX1_mayMake_38
  · have hf := ite_f hc hf
    refine lv_aload_n hx hb dX1_mayMake_15 rfl (lv_at hl 0 rfl) ?_
    refine lv_iconst (v := 1) hx hb dX1_mayMake_16 (by decide) ?_
    refine lv_bipush (v := 20) hx hb dX1_mayMake_17 (by decide) ?_
    refine g_cI (g_runV (i := 1) (As := [.int (1 : Int32), .int (20 : Int32)]) (rest := []) X (c_X1_refuse l G hG σ (1 : Int32) (20 : Int32)) ca_X1_refuse km_X1_38 rfl rfl ⟨Nat.le_of_ble_eq_true rfl, Nat.le_of_ble_eq_true rfl⟩ hP hS (ty_lt ab_1) (cell_1 ab_1) rfl rfl rfl hl.1 rfl (Nat.le_of_ble_eq_true rfl) ⟨Nat.le_of_ble_eq_true rfl, Nat.le_of_ble_eq_true rfl⟩ dX1_mayMake_19) hS (fun q2 hq2 H locs hP hS => ?_)
    have hf := bnd_go hq2 hf
    exact g_iret X hr hlk hP hS hf dX1_mayMake_22
def f_X1_mayWrite (σ : St) (x1 : Int32) (x2 : Int32) (x3 : Int32) (x4 : Int32) : St × Int32 := (if (f_X9_isChild x1) = true then (if (f_X9_isChild x2) = true then (if (f_X2_hasCrayon σ 3 x4) = true then (if (f_X9_inRange x3 (1 : Int32) (40 : Int32)) = true then (bnd (f_X1_mayMake σ x1 x2) (fun q1 => (if q1.2 = 0 then (if 0 ≤ (Op.cmpValue (FP.fcmp (q1.1.2.1 4 x4.toNatClampNeg) (f_X9_crayonNeeded x3)) CmpOp.g) then (q1.1, q1.2) else (bnd (f_X1_refuse q1.1 (3 : Int32) x4) (fun q4 => (q4.1, q4.2)))) else (q1.1, q1.2)))) else (σ, (-2 : Int32))) else (σ, (-1 : Int32))) else (σ, (-1 : Int32))) else (σ, (-1 : Int32)))
def ok_X1_mayWrite (σ : St) (x1 : Int32) (x2 : Int32) (x3 : Int32) (x4 : Int32) : Prop := (((f_X9_isChild x1) = true → (((f_X9_isChild x2) = true → (((f_X2_hasCrayon σ 3 x4) = true → (((f_X9_inRange x3 (1 : Int32) (40 : Int32)) = true → (bndP (f_X1_mayMake σ x1 x2) (fun q1 => ((q1.2 = 0 → (vp_in x4 8 ∧ ok_X9_crayonNeeded x3)) ∧ (¬ q1.2 = 0 → True))))) ∧ ((f_X9_inRange x3 (1 : Int32) (40 : Int32)) = false → True))) ∧ ((f_X2_hasCrayon σ 3 x4) = false → True))) ∧ ((f_X9_isChild x2) = false → True))) ∧ ((f_X9_isChild x1) = false → True))
abbrev rm_X1_mayWrite : Room := { frames := 2, cells := 0, slots := 0, locals := 44 }
set_option maxHeartbeats 4000000 in
set_option maxRecDepth 100000 in
theorem c_X1_mayWrite (l : Launch) (G : GE) (hG : Gok G) (σ : St) (x1 : Int32) (x2 : Int32) (x3 : Int32) (x4 : Int32) (hok : ok_X1_mayWrite σ x1 x2 x3 x4) : MtI l G yX1_mayWrite cX1_mayWrite 6 rm_X1_mayWrite [.ref (G.2.1 1), .int x1, .int x2, .int x3, .int x4] σ (f_X1_mayWrite σ x1 x2 x3 x4) := by
  generalize hf : f_X1_mayWrite σ x1 x2 x3 x4 = fv
  rw [f_X1_mayWrite] at hf
  rw [ok_X1_mayWrite] at hok
  refine g_start hG (plainFor_of_name (by decide)) (Nat.le_of_ble_eq_true rfl) ?_
  intro p e s m args below meth c X hr hlk ls hl H locs hP hS
  have X : Cx G p s m args c cX1_mayWrite 6 RX1 := X
  obtain ⟨hx, hb, hml, hown, hts, hK, hbs, hXW, -⟩ := id X
  have hl : lv_has ls 6 [(0, .ref (G.2.1 1)), (1, .int x1), (2, .int x2), (3, .int x3), (4, .int x4)] := hl
  refine lv_iload_n hx hb dX1_mayWrite_0 rfl (lv_at hl 1 rfl) ?_
  refine g_cZp (g_runSN (As := [.int x1]) (rest := []) X (c_X9_isChild l G hG σ x1) ca_X9_isChild km_X1_54 rfl rfl ⟨Nat.le_of_ble_eq_true rfl, Nat.le_of_ble_eq_true rfl⟩ hP hS rfl hl.1 rfl (Nat.le_of_ble_eq_true rfl) ⟨Nat.le_of_ble_eq_true rfl, Nat.le_of_ble_eq_true rfl⟩ dX1_mayWrite_1) hS (fun H locs hP hS => ?_)
  refine g_ifeqZ (tgt := 29) X dX1_mayWrite_4 (by decide) (fun hc => ?_) (fun hc => ?_)
  · have hf := ite_z hc hf
    refine lv_iconst (v := -1) hx hb dX1_mayWrite_29 (by decide) ?_
    exact g_iret X hr hlk hP hS hf dX1_mayWrite_30
  · have hf := ite_t hc hf
    have hok := hok.1 hc
    refine lv_iload_n hx hb dX1_mayWrite_7 rfl (lv_at hl 2 rfl) ?_
    refine g_cZp (g_runSN (As := [.int x2]) (rest := []) X (c_X9_isChild l G hG σ x2) ca_X9_isChild km_X1_54 rfl rfl ⟨Nat.le_of_ble_eq_true rfl, Nat.le_of_ble_eq_true rfl⟩ hP hS rfl hl.1 rfl (Nat.le_of_ble_eq_true rfl) ⟨Nat.le_of_ble_eq_true rfl, Nat.le_of_ble_eq_true rfl⟩ dX1_mayWrite_8) hS (fun H locs hP hS => ?_)
    refine g_ifeqZ (tgt := 29) X dX1_mayWrite_11 (by decide) (fun hc => ?_) (fun hc => ?_)
    · have hf := ite_z hc hf
      refine lv_iconst (v := -1) hx hb dX1_mayWrite_29 (by decide) ?_
      exact g_iret X hr hlk hP hS hf dX1_mayWrite_30
    · have hf := ite_t hc hf
      have hok := hok.1 hc
      refine lv_aload_n hx hb dX1_mayWrite_14 rfl (lv_at hl 0 rfl) ?_
      refine gg_1_0 (j := 2) rfl X hP ab_1 kf_X1_12 dX1_mayWrite_15 ?_
      refine gg_6_0 (j := 3) rfl X hP ab_2 kf_X1_29 dX1_mayWrite_18 ?_
      refine lv_iload hx hb dX1_mayWrite_21 (lv_at hl 4 rfl) ?_
      refine g_cZp (g_runV (i := 3) (As := [.int x4]) (rest := []) X (c_X2_hasCrayon l G hG σ 3 ab_3 x4) ca_X2_hasCrayon km_X1_58 rfl rfl ⟨Nat.le_of_ble_eq_true rfl, Nat.le_of_ble_eq_true rfl⟩ hP hS (ty_lt ab_3) (cell_2 ab_3) rfl rfl rfl hl.1 rfl (Nat.le_of_ble_eq_true rfl) ⟨Nat.le_of_ble_eq_true rfl, Nat.le_of_ble_eq_true rfl⟩ dX1_mayWrite_23) hS (fun H locs hP hS => ?_)
      refine g_ifneZ (tgt := 31) X dX1_mayWrite_26 (by decide) (fun hc => ?_) (fun hc => ?_)
      · have hf := ite_t hc hf
        have hok := hok.1 hc
        refine lv_iload_n hx hb dX1_mayWrite_31 rfl (lv_at hl 3 rfl) ?_
        refine lv_iconst (v := 1) hx hb dX1_mayWrite_32 (by decide) ?_
        refine lv_bipush (v := 40) hx hb dX1_mayWrite_33 (by decide) ?_
        refine g_cZp (g_runSN (As := [.int x3, .int (1 : Int32), .int (40 : Int32)]) (rest := []) X (c_X9_inRange l G hG σ x3 (1 : Int32) (40 : Int32)) ca_X9_inRange km_X1_25 rfl rfl ⟨Nat.le_of_ble_eq_true rfl, Nat.le_of_ble_eq_true rfl⟩ hP hS rfl hl.1 rfl (Nat.le_of_ble_eq_true rfl) ⟨Nat.le_of_ble_eq_true rfl, Nat.le_of_ble_eq_true rfl⟩ dX1_mayWrite_35) hS (fun H locs hP hS => ?_)
        refine g_ifneZ (tgt := 44) X dX1_mayWrite_38 (by decide) (fun hc => ?_) (fun hc => ?_)
        · have hf := ite_t hc hf
          have hok := hok.1 hc
          refine lv_aload_n hx hb dX1_mayWrite_44 rfl (lv_at hl 0 rfl) ?_
          refine lv_iload_n hx hb dX1_mayWrite_45 rfl (lv_at hl 1 rfl) ?_
          refine lv_iload_n hx hb dX1_mayWrite_46 rfl (lv_at hl 2 rfl) ?_
          refine g_cI (g_runV (i := 1) (As := [.int x1, .int x2]) (rest := []) X (c_X1_mayMake l G hG σ x1 x2) ca_X1_mayMake km_X1_61 rfl rfl ⟨Nat.le_of_ble_eq_true rfl, Nat.le_of_ble_eq_true rfl⟩ hP hS (ty_lt ab_1) (cell_1 ab_1) rfl rfl rfl hl.1 rfl (Nat.le_of_ble_eq_true rfl) ⟨Nat.le_of_ble_eq_true rfl, Nat.le_of_ble_eq_true rfl⟩ dX1_mayWrite_47) hS (fun q1 hq1 H locs hP hS => ?_)
          have hf := bnd_go hq1 hf
          have hok := bnd_goP hq1 hok
          refine lv_istore (lv' := [(5, .int q1.2), (0, .ref (G.2.1 1)), (1, .int x1), (2, .int x2), (3, .int x3), (4, .int x4)]) hx hb dX1_mayWrite_50 hl (by decide) rfl (fun ls hl => ?_)
          refine lv_iload hx hb dX1_mayWrite_52 (lv_at hl 0 rfl) ?_
          refine lv_if_ne (tgt := 86) hx hb dX1_mayWrite_54 (by decide) (fun hc => ?_) (fun hc => ?_)
          · have hf := ite_f hc hf
            refine lv_iload hx hb dX1_mayWrite_86 (lv_at hl 0 rfl) ?_
            exact g_iret X hr hlk hP hS hf dX1_mayWrite_88
          · have hf := ite_t hc hf
            have hok := hok.1 hc
            refine lv_aload_n hx hb dX1_mayWrite_57 rfl (lv_at hl 1 rfl) ?_
            refine gg_1_0 (j := 2) rfl X hP ab_1 kf_X1_12 dX1_mayWrite_58 ?_
            refine gg_6_0 (j := 3) rfl X hP ab_2 kf_X1_29 dX1_mayWrite_61 ?_
            refine gg_2_0 (j := 4) rfl X hP ab_3 kf_X1_64 dX1_mayWrite_64 ?_
            refine lv_iload hx hb dX1_mayWrite_67 (lv_at hl 5 rfl) ?_
            have hs2 := hok.1
            have hok := hok.2
            refine g_fald X hP ab_4 (by rw [al_4]; exact hs2) dX1_mayWrite_69 ?_
            refine lv_iload_n hx hb dX1_mayWrite_70 rfl (lv_at hl 4 rfl) ?_
            have hs3 := hok
            refine g_cFp (g_runSN (As := [.int x3]) (rest := [.float (q1.1.2.1 4 x4.toNatClampNeg)]) X (c_X9_crayonNeeded l G hG q1.1 x3 hs3) ca_X9_crayonNeeded km_X1_68 rfl rfl ⟨Nat.le_of_ble_eq_true rfl, Nat.le_of_ble_eq_true rfl⟩ hP hS rfl hl.1 rfl (Nat.le_of_ble_eq_true rfl) ⟨Nat.le_of_ble_eq_true rfl, Nat.le_of_ble_eq_true rfl⟩ dX1_mayWrite_71) hS (fun H locs hP hS => ?_)
            refine lv_fcmp hx hb dX1_mayWrite_74 ?_
            refine lv_if_ge (tgt := 86) hx hb dX1_mayWrite_75 (by decide) (fun hc => ?_) (fun hc => ?_)
            · have hf := ite_t hc hf
              refine lv_iload hx hb dX1_mayWrite_86 (lv_at hl 0 rfl) ?_
              exact g_iret X hr hlk hP hS hf dX1_mayWrite_88
            · have hf := ite_f hc hf
              refine lv_aload_n hx hb dX1_mayWrite_78 rfl (lv_at hl 1 rfl) ?_
              refine lv_iconst (v := 3) hx hb dX1_mayWrite_79 (by decide) ?_
              refine lv_iload hx hb dX1_mayWrite_80 (lv_at hl 5 rfl) ?_
              refine g_cI (g_runV (i := 1) (As := [.int (3 : Int32), .int x4]) (rest := []) X (c_X1_refuse l G hG q1.1 (3 : Int32) x4) ca_X1_refuse km_X1_38 rfl rfl ⟨Nat.le_of_ble_eq_true rfl, Nat.le_of_ble_eq_true rfl⟩ hP hS (ty_lt ab_1) (cell_1 ab_1) rfl rfl rfl hl.1 rfl (Nat.le_of_ble_eq_true rfl) ⟨Nat.le_of_ble_eq_true rfl, Nat.le_of_ble_eq_true rfl⟩ dX1_mayWrite_82) hS (fun q4 hq4 H locs hP hS => ?_)
              have hf := bnd_go hq4 hf
              exact g_iret X hr hlk hP hS hf dX1_mayWrite_85
        · have hf := ite_z hc hf
          refine lv_bipush (v := -2) hx hb dX1_mayWrite_41 (by decide) ?_
          exact g_iret X hr hlk hP hS hf dX1_mayWrite_43
      · have hf := ite_z hc hf
        refine lv_iconst (v := -1) hx hb dX1_mayWrite_29 (by decide) ?_
        exact g_iret X hr hlk hP hS hf dX1_mayWrite_30
def f_X1_mayWrap (σ : St) (x1 : Int32) (x2 : Int32) (x3 : Int32) (x4 : Int32) (x5 : Int32) : St × Int32 := (if (f_X9_isChild x1) = true then (if (f_X9_isChild x2) = true then (if (f_X9_areSides x3 x4 x5) = true then (bnd (f_X1_mayMake σ x1 x2) (fun q1 => (if q1.2 = 0 then (if 0 ≤ (Op.cmpValue (FP.fcmp (q1.1.2.1 3 4) (f_X9_stringNeeded x3 x4 x5)) CmpOp.g) then (q1.1, q1.2) else (bnd (f_X1_refuse q1.1 (4 : Int32) (FP.f2i (q1.1.2.1 3 4))) (fun q3 => (q3.1, q3.2)))) else (q1.1, q1.2)))) else (σ, (-2 : Int32))) else (σ, (-1 : Int32))) else (σ, (-1 : Int32)))
def ok_X1_mayWrap (σ : St) (x1 : Int32) (x2 : Int32) (x3 : Int32) (x4 : Int32) (x5 : Int32) : Prop := (((f_X9_isChild x1) = true → (((f_X9_isChild x2) = true → (((f_X9_areSides x3 x4 x5) = true → (bndP (f_X1_mayMake σ x1 x2) (fun q1 => ((q1.2 = 0 → ok_X9_stringNeeded x3 x4 x5) ∧ (¬ q1.2 = 0 → True))))) ∧ ((f_X9_areSides x3 x4 x5) = false → True))) ∧ ((f_X9_isChild x2) = false → True))) ∧ ((f_X9_isChild x1) = false → True))
abbrev rm_X1_mayWrap : Room := { frames := 2, cells := 0, slots := 0, locals := 44 }
set_option maxHeartbeats 4000000 in
set_option maxRecDepth 100000 in
theorem c_X1_mayWrap (l : Launch) (G : GE) (hG : Gok G) (σ : St) (x1 : Int32) (x2 : Int32) (x3 : Int32) (x4 : Int32) (x5 : Int32) (hok : ok_X1_mayWrap σ x1 x2 x3 x4 x5) : MtI l G yX1_mayWrap cX1_mayWrap 7 rm_X1_mayWrap [.ref (G.2.1 1), .int x1, .int x2, .int x3, .int x4, .int x5] σ (f_X1_mayWrap σ x1 x2 x3 x4 x5) := by
  generalize hf : f_X1_mayWrap σ x1 x2 x3 x4 x5 = fv
  rw [f_X1_mayWrap] at hf
  rw [ok_X1_mayWrap] at hok
  refine g_start hG (plainFor_of_name (by decide)) (Nat.le_of_ble_eq_true rfl) ?_
  intro p e s m args below meth c X hr hlk ls hl H locs hP hS
  have X : Cx G p s m args c cX1_mayWrap 7 RX1 := X
  obtain ⟨hx, hb, hml, hown, hts, hK, hbs, hXW, -⟩ := id X
  have hl : lv_has ls 7 [(0, .ref (G.2.1 1)), (1, .int x1), (2, .int x2), (3, .int x3), (4, .int x4), (5, .int x5)] := hl
  refine lv_iload_n hx hb dX1_mayWrap_0 rfl (lv_at hl 1 rfl) ?_
  refine g_cZp (g_runSN (As := [.int x1]) (rest := []) X (c_X9_isChild l G hG σ x1) ca_X9_isChild km_X1_54 rfl rfl ⟨Nat.le_of_ble_eq_true rfl, Nat.le_of_ble_eq_true rfl⟩ hP hS rfl hl.1 rfl (Nat.le_of_ble_eq_true rfl) ⟨Nat.le_of_ble_eq_true rfl, Nat.le_of_ble_eq_true rfl⟩ dX1_mayWrap_1) hS (fun H locs hP hS => ?_)
  refine g_ifeqZ (tgt := 14) X dX1_mayWrap_4 (by decide) (fun hc => ?_) (fun hc => ?_)
  · have hf := ite_z hc hf
    refine lv_iconst (v := -1) hx hb dX1_mayWrap_14 (by decide) ?_
    exact g_iret X hr hlk hP hS hf dX1_mayWrap_15
  · have hf := ite_t hc hf
    have hok := hok.1 hc
    refine lv_iload_n hx hb dX1_mayWrap_7 rfl (lv_at hl 2 rfl) ?_
    refine g_cZp (g_runSN (As := [.int x2]) (rest := []) X (c_X9_isChild l G hG σ x2) ca_X9_isChild km_X1_54 rfl rfl ⟨Nat.le_of_ble_eq_true rfl, Nat.le_of_ble_eq_true rfl⟩ hP hS rfl hl.1 rfl (Nat.le_of_ble_eq_true rfl) ⟨Nat.le_of_ble_eq_true rfl, Nat.le_of_ble_eq_true rfl⟩ dX1_mayWrap_8) hS (fun H locs hP hS => ?_)
    refine g_ifneZ (tgt := 16) X dX1_mayWrap_11 (by decide) (fun hc => ?_) (fun hc => ?_)
    · have hf := ite_t hc hf
      have hok := hok.1 hc
      refine lv_iload_n hx hb dX1_mayWrap_16 rfl (lv_at hl 3 rfl) ?_
      refine lv_iload hx hb dX1_mayWrap_17 (lv_at hl 4 rfl) ?_
      refine lv_iload hx hb dX1_mayWrap_19 (lv_at hl 5 rfl) ?_
      refine g_cZp (g_runSN (As := [.int x3, .int x4, .int x5]) (rest := []) X (c_X9_areSides l G hG σ x3 x4 x5) ca_X9_areSides km_X1_72 rfl rfl ⟨Nat.le_of_ble_eq_true rfl, Nat.le_of_ble_eq_true rfl⟩ hP hS rfl hl.1 rfl (Nat.le_of_ble_eq_true rfl) ⟨Nat.le_of_ble_eq_true rfl, Nat.le_of_ble_eq_true rfl⟩ dX1_mayWrap_21) hS (fun H locs hP hS => ?_)
      refine g_ifneZ (tgt := 30) X dX1_mayWrap_24 (by decide) (fun hc => ?_) (fun hc => ?_)
      · have hf := ite_t hc hf
        have hok := hok.1 hc
        refine lv_aload_n hx hb dX1_mayWrap_30 rfl (lv_at hl 0 rfl) ?_
        refine lv_iload_n hx hb dX1_mayWrap_31 rfl (lv_at hl 1 rfl) ?_
        refine lv_iload_n hx hb dX1_mayWrap_32 rfl (lv_at hl 2 rfl) ?_
        refine g_cI (g_runV (i := 1) (As := [.int x1, .int x2]) (rest := []) X (c_X1_mayMake l G hG σ x1 x2) ca_X1_mayMake km_X1_61 rfl rfl ⟨Nat.le_of_ble_eq_true rfl, Nat.le_of_ble_eq_true rfl⟩ hP hS (ty_lt ab_1) (cell_1 ab_1) rfl rfl rfl hl.1 rfl (Nat.le_of_ble_eq_true rfl) ⟨Nat.le_of_ble_eq_true rfl, Nat.le_of_ble_eq_true rfl⟩ dX1_mayWrap_33) hS (fun q1 hq1 H locs hP hS => ?_)
        have hf := bnd_go hq1 hf
        have hok := bnd_goP hq1 hok
        refine lv_istore (lv' := [(6, .int q1.2), (0, .ref (G.2.1 1)), (1, .int x1), (2, .int x2), (3, .int x3), (4, .int x4), (5, .int x5)]) hx hb dX1_mayWrap_36 hl (by decide) rfl (fun ls hl => ?_)
        refine lv_iload hx hb dX1_mayWrap_38 (lv_at hl 0 rfl) ?_
        refine lv_if_ne (tgt := 82) hx hb dX1_mayWrap_40 (by decide) (fun hc => ?_) (fun hc => ?_)
        · have hf := ite_f hc hf
          refine lv_iload hx hb dX1_mayWrap_82 (lv_at hl 0 rfl) ?_
          exact g_iret X hr hlk hP hS hf dX1_mayWrap_84
        · have hf := ite_t hc hf
          have hok := hok.1 hc
          refine lv_aload_n hx hb dX1_mayWrap_43 rfl (lv_at hl 1 rfl) ?_
          refine gg_1_0 (j := 2) rfl X hP ab_1 kf_X1_12 dX1_mayWrap_44 ?_
          refine gg_6_0 (j := 3) rfl X hP ab_2 kf_X1_29 dX1_mayWrap_47 ?_
          refine gg_2_4 X hP ab_3 kf_X1_75 dX1_mayWrap_50 ?_
          refine lv_iload_n hx hb dX1_mayWrap_53 rfl (lv_at hl 4 rfl) ?_
          refine lv_iload hx hb dX1_mayWrap_54 (lv_at hl 5 rfl) ?_
          refine lv_iload hx hb dX1_mayWrap_56 (lv_at hl 6 rfl) ?_
          have hs2 := hok
          refine g_cFp (g_runSN (As := [.int x3, .int x4, .int x5]) (rest := [.float (q1.1.2.1 3 4)]) X (c_X9_stringNeeded l G hG q1.1 x3 x4 x5 hs2) ca_X9_stringNeeded km_X1_79 rfl rfl ⟨Nat.le_of_ble_eq_true rfl, Nat.le_of_ble_eq_true rfl⟩ hP hS rfl hl.1 rfl (Nat.le_of_ble_eq_true rfl) ⟨Nat.le_of_ble_eq_true rfl, Nat.le_of_ble_eq_true rfl⟩ dX1_mayWrap_58) hS (fun H locs hP hS => ?_)
          refine lv_fcmp hx hb dX1_mayWrap_61 ?_
          refine lv_if_ge (tgt := 82) hx hb dX1_mayWrap_62 (by decide) (fun hc => ?_) (fun hc => ?_)
          · have hf := ite_t hc hf
            refine lv_iload hx hb dX1_mayWrap_82 (lv_at hl 0 rfl) ?_
            exact g_iret X hr hlk hP hS hf dX1_mayWrap_84
          · have hf := ite_f hc hf
            refine lv_aload_n hx hb dX1_mayWrap_65 rfl (lv_at hl 1 rfl) ?_
            refine lv_iconst (v := 4) hx hb dX1_mayWrap_66 (by decide) ?_
            refine lv_aload_n hx hb dX1_mayWrap_67 rfl (lv_at hl 1 rfl) ?_
            refine gg_1_0 (j := 2) rfl X hP ab_1 kf_X1_12 dX1_mayWrap_68 ?_
            refine gg_6_0 (j := 3) rfl X hP ab_2 kf_X1_29 dX1_mayWrap_71 ?_
            refine gg_2_4 X hP ab_3 kf_X1_75 dX1_mayWrap_74 ?_
            refine lv_f2i hx hb dX1_mayWrap_77 ?_
            refine g_cI (g_runV (i := 1) (As := [.int (4 : Int32), .int (FP.f2i (q1.1.2.1 3 4))]) (rest := []) X (c_X1_refuse l G hG q1.1 (4 : Int32) (FP.f2i (q1.1.2.1 3 4))) ca_X1_refuse km_X1_38 rfl rfl ⟨Nat.le_of_ble_eq_true rfl, Nat.le_of_ble_eq_true rfl⟩ hP hS (ty_lt ab_1) (cell_1 ab_1) rfl rfl rfl hl.1 rfl (Nat.le_of_ble_eq_true rfl) ⟨Nat.le_of_ble_eq_true rfl, Nat.le_of_ble_eq_true rfl⟩ dX1_mayWrap_78) hS (fun q3 hq3 H locs hP hS => ?_)
            have hf := bnd_go hq3 hf
            exact g_iret X hr hlk hP hS hf dX1_mayWrap_81
      · have hf := ite_z hc hf
        refine lv_bipush (v := -2) hx hb dX1_mayWrap_27 (by decide) ?_
        exact g_iret X hr hlk hP hS hf dX1_mayWrap_29
    · have hf := ite_z hc hf
      refine lv_iconst (v := -1) hx hb dX1_mayWrap_14 (by decide) ?_
      exact g_iret X hr hlk hP hS hf dX1_mayWrap_15
def f_X1_mayStamp (σ : St) (x1 : Int32) (x2 : Int32) : St × Int32 := (if (f_X5_has σ 6 x1) = true then (if (f_X2_hasPotato σ 3 x2) = true then (if (σ.1 11 x1.toNatClampNeg) = 0 then (if (f_X9_isStrong (f_X2_printNow σ 3 x2)) = true then (σ, (0 : Int32)) else (bnd (f_X1_refuse σ (6 : Int32) x2) (fun q3 => (q3.1, q3.2)))) else (bnd (f_X1_refuse σ (5 : Int32) (σ.1 11 x1.toNatClampNeg)) (fun q5 => (q5.1, q5.2)))) else (σ, (-1 : Int32))) else (σ, (-1 : Int32)))
def ok_X1_mayStamp (σ : St) (x1 : Int32) (x2 : Int32) : Prop := (((f_X5_has σ 6 x1) = true → (((f_X2_hasPotato σ 3 x2) = true → (vp_in x1 20 ∧ (((σ.1 11 x1.toNatClampNeg) = 0 → ok_X2_printNow σ 3 x2) ∧ (¬ (σ.1 11 x1.toNatClampNeg) = 0 → vp_in x1 20)))) ∧ ((f_X2_hasPotato σ 3 x2) = false → True))) ∧ ((f_X5_has σ 6 x1) = false → True))
abbrev rm_X1_mayStamp : Room := { frames := 2, cells := 0, slots := 0, locals := 42 }
set_option maxHeartbeats 4000000 in
set_option maxRecDepth 100000 in
theorem c_X1_mayStamp (l : Launch) (G : GE) (hG : Gok G) (σ : St) (x1 : Int32) (x2 : Int32) (hok : ok_X1_mayStamp σ x1 x2) : MtI l G yX1_mayStamp cX1_mayStamp 3 rm_X1_mayStamp [.ref (G.2.1 1), .int x1, .int x2] σ (f_X1_mayStamp σ x1 x2) := by
  generalize hf : f_X1_mayStamp σ x1 x2 = fv
  rw [f_X1_mayStamp] at hf
  rw [ok_X1_mayStamp] at hok
  refine g_start hG (plainFor_of_name (by decide)) (Nat.le_of_ble_eq_true rfl) ?_
  intro p e s m args below meth c X hr hlk ls hl H locs hP hS
  have X : Cx G p s m args c cX1_mayStamp 3 RX1 := X
  obtain ⟨hx, hb, hml, hown, hts, hK, hbs, hXW, -⟩ := id X
  have hl : lv_has ls 3 [(0, .ref (G.2.1 1)), (1, .int x1), (2, .int x2)] := hl
  refine lv_aload_n hx hb dX1_mayStamp_0 rfl (lv_at hl 0 rfl) ?_
  refine gg_1_0 (j := 2) rfl X hP ab_1 kf_X1_12 dX1_mayStamp_1 ?_
  refine gg_6_1 (j := 6) rfl X hP ab_2 kf_X1_45 dX1_mayStamp_4 ?_
  refine lv_iload_n hx hb dX1_mayStamp_7 rfl (lv_at hl 1 rfl) ?_
  refine g_cZp (g_runV (i := 6) (As := [.int x1]) (rest := []) X (c_X5_has l G hG σ 6 ab_6 x1) ca_X5_has km_X1_83 rfl rfl ⟨Nat.le_of_ble_eq_true rfl, Nat.le_of_ble_eq_true rfl⟩ hP hS (ty_lt ab_6) (cell_5 ab_6) rfl rfl rfl hl.1 rfl (Nat.le_of_ble_eq_true rfl) ⟨Nat.le_of_ble_eq_true rfl, Nat.le_of_ble_eq_true rfl⟩ dX1_mayStamp_8) hS (fun H locs hP hS => ?_)
  refine g_ifeqZ (tgt := 28) X dX1_mayStamp_11 (by decide) (fun hc => ?_) (fun hc => ?_)
  · have hf := ite_z hc hf
    refine lv_iconst (v := -1) hx hb dX1_mayStamp_28 (by decide) ?_
    exact g_iret X hr hlk hP hS hf dX1_mayStamp_29
  · have hf := ite_t hc hf
    have hok := hok.1 hc
    refine lv_aload_n hx hb dX1_mayStamp_14 rfl (lv_at hl 0 rfl) ?_
    refine gg_1_0 (j := 2) rfl X hP ab_1 kf_X1_12 dX1_mayStamp_15 ?_
    refine gg_6_0 (j := 3) rfl X hP ab_2 kf_X1_29 dX1_mayStamp_18 ?_
    refine lv_iload_n hx hb dX1_mayStamp_21 rfl (lv_at hl 2 rfl) ?_
    refine g_cZp (g_runV (i := 3) (As := [.int x2]) (rest := []) X (c_X2_hasPotato l G hG σ 3 ab_3 x2) ca_X2_hasPotato km_X1_86 rfl rfl ⟨Nat.le_of_ble_eq_true rfl, Nat.le_of_ble_eq_true rfl⟩ hP hS (ty_lt ab_3) (cell_2 ab_3) rfl rfl rfl hl.1 rfl (Nat.le_of_ble_eq_true rfl) ⟨Nat.le_of_ble_eq_true rfl, Nat.le_of_ble_eq_true rfl⟩ dX1_mayStamp_22) hS (fun H locs hP hS => ?_)
    refine g_ifneZ (tgt := 30) X dX1_mayStamp_25 (by decide) (fun hc => ?_) (fun hc => ?_)
    · have hf := ite_t hc hf
      have hok := hok.1 hc
      refine lv_aload_n hx hb dX1_mayStamp_30 rfl (lv_at hl 0 rfl) ?_
      refine gg_1_0 (j := 2) rfl X hP ab_1 kf_X1_12 dX1_mayStamp_31 ?_
      refine gg_6_1 (j := 6) rfl X hP ab_2 kf_X1_45 dX1_mayStamp_34 ?_
      refine gg_5_4 (j := 11) rfl X hP ab_6 kf_X1_89 dX1_mayStamp_37 ?_
      refine lv_iload_n hx hb dX1_mayStamp_40 rfl (lv_at hl 1 rfl) ?_
      have hs1 := hok.1
      have hok := hok.2
      refine g_iald X hP ab_11 (by rw [al_11]; exact hs1) dX1_mayStamp_41 ?_
      refine lv_if_eq (tgt := 63) hx hb dX1_mayStamp_42 (by decide) (fun hc => ?_) (fun hc => ?_)
      · have hf := ite_t hc hf
        have hok := hok.1 hc
        refine lv_aload_n hx hb dX1_mayStamp_63 rfl (lv_at hl 0 rfl) ?_
        refine gg_1_0 (j := 2) rfl X hP ab_1 kf_X1_12 dX1_mayStamp_64 ?_
        refine gg_6_0 (j := 3) rfl X hP ab_2 kf_X1_29 dX1_mayStamp_67 ?_
        refine lv_iload_n hx hb dX1_mayStamp_70 rfl (lv_at hl 2 rfl) ?_
        have hs2 := hok
        refine g_cFp (g_runV (i := 3) (As := [.int x2]) (rest := []) X (c_X2_printNow l G hG σ 3 ab_3 x2 hs2) ca_X2_printNow km_X1_93 rfl rfl ⟨Nat.le_of_ble_eq_true rfl, Nat.le_of_ble_eq_true rfl⟩ hP hS (ty_lt ab_3) (cell_2 ab_3) rfl rfl rfl hl.1 rfl (Nat.le_of_ble_eq_true rfl) ⟨Nat.le_of_ble_eq_true rfl, Nat.le_of_ble_eq_true rfl⟩ dX1_mayStamp_71) hS (fun H locs hP hS => ?_)
        refine g_cZp (g_runSN (As := [.float (f_X2_printNow σ 3 x2)]) (rest := []) X (c_X9_isStrong l G hG σ (f_X2_printNow σ 3 x2)) ca_X9_isStrong km_X1_96 rfl rfl ⟨Nat.le_of_ble_eq_true rfl, Nat.le_of_ble_eq_true rfl⟩ hP hS rfl hl.1 rfl (Nat.le_of_ble_eq_true rfl) ⟨Nat.le_of_ble_eq_true rfl, Nat.le_of_ble_eq_true rfl⟩ dX1_mayStamp_74) hS (fun H locs hP hS => ?_)
        refine g_ifeqZ (tgt := 84) X dX1_mayStamp_77 (by decide) (fun hc => ?_) (fun hc => ?_)
        · have hf := ite_z hc hf
          refine lv_aload_n hx hb dX1_mayStamp_84 rfl (lv_at hl 0 rfl) ?_
          refine lv_bipush (v := 6) hx hb dX1_mayStamp_85 (by decide) ?_
          refine lv_iload_n hx hb dX1_mayStamp_87 rfl (lv_at hl 2 rfl) ?_
          refine g_cI (g_runV (i := 1) (As := [.int (6 : Int32), .int x2]) (rest := []) X (c_X1_refuse l G hG σ (6 : Int32) x2) ca_X1_refuse km_X1_38 rfl rfl ⟨Nat.le_of_ble_eq_true rfl, Nat.le_of_ble_eq_true rfl⟩ hP hS (ty_lt ab_1) (cell_1 ab_1) rfl rfl rfl hl.1 rfl (Nat.le_of_ble_eq_true rfl) ⟨Nat.le_of_ble_eq_true rfl, Nat.le_of_ble_eq_true rfl⟩ dX1_mayStamp_88) hS (fun q3 hq3 H locs hP hS => ?_)
          have hf := bnd_go hq3 hf
          exact g_iret X hr hlk hP hS hf dX1_mayStamp_91
        · have hf := ite_t hc hf
          refine lv_iconst (v := 0) hx hb dX1_mayStamp_80 (by decide) ?_
          refine lv_goto (tgt := 91) hx hb dX1_mayStamp_81 (by decide) ?_
          exact g_iret X hr hlk hP hS hf dX1_mayStamp_91
      · have hf := ite_f hc hf
        have hok := hok.2 hc
        refine lv_aload_n hx hb dX1_mayStamp_45 rfl (lv_at hl 0 rfl) ?_
        refine lv_iconst (v := 5) hx hb dX1_mayStamp_46 (by decide) ?_
        refine lv_aload_n hx hb dX1_mayStamp_47 rfl (lv_at hl 0 rfl) ?_
        refine gg_1_0 (j := 2) rfl X hP ab_1 kf_X1_12 dX1_mayStamp_48 ?_
        refine gg_6_1 (j := 6) rfl X hP ab_2 kf_X1_45 dX1_mayStamp_51 ?_
        refine gg_5_4 (j := 11) rfl X hP ab_6 kf_X1_89 dX1_mayStamp_54 ?_
        refine lv_iload_n hx hb dX1_mayStamp_57 rfl (lv_at hl 1 rfl) ?_
        have hs4 := hok
        refine g_iald X hP ab_11 (by rw [al_11]; exact hs4) dX1_mayStamp_58 ?_
        refine g_cI (g_runV (i := 1) (As := [.int (5 : Int32), .int (σ.1 11 x1.toNatClampNeg)]) (rest := []) X (c_X1_refuse l G hG σ (5 : Int32) (σ.1 11 x1.toNatClampNeg)) ca_X1_refuse km_X1_38 rfl rfl ⟨Nat.le_of_ble_eq_true rfl, Nat.le_of_ble_eq_true rfl⟩ hP hS (ty_lt ab_1) (cell_1 ab_1) rfl rfl rfl hl.1 rfl (Nat.le_of_ble_eq_true rfl) ⟨Nat.le_of_ble_eq_true rfl, Nat.le_of_ble_eq_true rfl⟩ dX1_mayStamp_59) hS (fun q5 hq5 H locs hP hS => ?_)
        have hf := bnd_go hq5 hf
        exact g_iret X hr hlk hP hS hf dX1_mayStamp_62
    · have hf := ite_z hc hf
      refine lv_iconst (v := -1) hx hb dX1_mayStamp_28 (by decide) ?_
      exact g_iret X hr hlk hP hS hf dX1_mayStamp_29
def f_X1_mayShelve (σ : St) (x1 : Int32) (x2 : Int32) : St × Int32 := (if (f_X5_has σ 6 x1) = true then (if (f_X9_inRange x2 (0 : Int32) (1 : Int32)) = true then (if (σ.1 11 x1.toNatClampNeg) = (1 : Int32) then (if (f_X8_lowestFree σ 15 (σ.1 9 x1.toNatClampNeg) x2) = (-1 : Int32) then (bnd (f_X1_refuse σ (8 : Int32) x2) (fun q6 => (q6.1, q6.2))) else (if (σ.1 7 x1.toNatClampNeg) = x2 then (σ, (0 : Int32)) else (bnd (f_X1_refuse σ (9 : Int32) x2) (fun q5 => (q5.1, q5.2))))) else (bnd (f_X1_refuse σ (7 : Int32) (σ.1 11 x1.toNatClampNeg)) (fun q8 => (q8.1, q8.2)))) else (σ, (-1 : Int32))) else (σ, (-1 : Int32)))
def ok_X1_mayShelve (σ : St) (x1 : Int32) (x2 : Int32) : Prop := (((f_X5_has σ 6 x1) = true → (((f_X9_inRange x2 (0 : Int32) (1 : Int32)) = true → (vp_in x1 20 ∧ (((σ.1 11 x1.toNatClampNeg) = (1 : Int32) → (vp_in x1 20 ∧ (ok_X8_lowestFree σ 15 (σ.1 9 x1.toNatClampNeg) x2 ∧ (((f_X8_lowestFree σ 15 (σ.1 9 x1.toNatClampNeg) x2) = (-1 : Int32) → True) ∧ (¬ (f_X8_lowestFree σ 15 (σ.1 9 x1.toNatClampNeg) x2) = (-1 : Int32) → vp_in x1 20))))) ∧ (¬ (σ.1 11 x1.toNatClampNeg) = (1 : Int32) → vp_in x1 20)))) ∧ ((f_X9_inRange x2 (0 : Int32) (1 : Int32)) = false → True))) ∧ ((f_X5_has σ 6 x1) = false → True))
abbrev rm_X1_mayShelve : Room := { frames := 3, cells := 0, slots := 0, locals := 68 }
set_option maxHeartbeats 4000000 in
set_option maxRecDepth 100000 in
theorem c_X1_mayShelve (l : Launch) (G : GE) (hG : Gok G) (σ : St) (x1 : Int32) (x2 : Int32) (hok : ok_X1_mayShelve σ x1 x2) : MtI l G yX1_mayShelve cX1_mayShelve 3 rm_X1_mayShelve [.ref (G.2.1 1), .int x1, .int x2] σ (f_X1_mayShelve σ x1 x2) := by
  generalize hf : f_X1_mayShelve σ x1 x2 = fv
  rw [f_X1_mayShelve] at hf
  rw [ok_X1_mayShelve] at hok
  refine g_start hG (plainFor_of_name (by decide)) (Nat.le_of_ble_eq_true rfl) ?_
  intro p e s m args below meth c X hr hlk ls hl H locs hP hS
  have X : Cx G p s m args c cX1_mayShelve 3 RX1 := X
  obtain ⟨hx, hb, hml, hown, hts, hK, hbs, hXW, -⟩ := id X
  have hl : lv_has ls 3 [(0, .ref (G.2.1 1)), (1, .int x1), (2, .int x2)] := hl
  refine lv_aload_n hx hb dX1_mayShelve_0 rfl (lv_at hl 0 rfl) ?_
  refine gg_1_0 (j := 2) rfl X hP ab_1 kf_X1_12 dX1_mayShelve_1 ?_
  refine gg_6_1 (j := 6) rfl X hP ab_2 kf_X1_45 dX1_mayShelve_4 ?_
  refine lv_iload_n hx hb dX1_mayShelve_7 rfl (lv_at hl 1 rfl) ?_
  refine g_cZp (g_runV (i := 6) (As := [.int x1]) (rest := []) X (c_X5_has l G hG σ 6 ab_6 x1) ca_X5_has km_X1_83 rfl rfl ⟨Nat.le_of_ble_eq_true rfl, Nat.le_of_ble_eq_true rfl⟩ hP hS (ty_lt ab_6) (cell_5 ab_6) rfl rfl rfl hl.1 rfl (Nat.le_of_ble_eq_true rfl) ⟨Nat.le_of_ble_eq_true rfl, Nat.le_of_ble_eq_true rfl⟩ dX1_mayShelve_8) hS (fun H locs hP hS => ?_)
  refine g_ifeqZ (tgt := 23) X dX1_mayShelve_11 (by decide) (fun hc => ?_) (fun hc => ?_)
  · have hf := ite_z hc hf
    refine lv_iconst (v := -1) hx hb dX1_mayShelve_23 (by decide) ?_
    exact g_iret X hr hlk hP hS hf dX1_mayShelve_24
  · have hf := ite_t hc hf
    have hok := hok.1 hc
    refine lv_iload_n hx hb dX1_mayShelve_14 rfl (lv_at hl 2 rfl) ?_
    refine lv_iconst (v := 0) hx hb dX1_mayShelve_15 (by decide) ?_
    refine lv_iconst (v := 1) hx hb dX1_mayShelve_16 (by decide) ?_
    refine g_cZp (g_runSN (As := [.int x2, .int (0 : Int32), .int (1 : Int32)]) (rest := []) X (c_X9_inRange l G hG σ x2 (0 : Int32) (1 : Int32)) ca_X9_inRange km_X1_25 rfl rfl ⟨Nat.le_of_ble_eq_true rfl, Nat.le_of_ble_eq_true rfl⟩ hP hS rfl hl.1 rfl (Nat.le_of_ble_eq_true rfl) ⟨Nat.le_of_ble_eq_true rfl, Nat.le_of_ble_eq_true rfl⟩ dX1_mayShelve_17) hS (fun H locs hP hS => ?_)
    refine g_ifneZ (tgt := 25) X dX1_mayShelve_20 (by decide) (fun hc => ?_) (fun hc => ?_)
    · have hf := ite_t hc hf
      have hok := hok.1 hc
      refine lv_aload_n hx hb dX1_mayShelve_25 rfl (lv_at hl 0 rfl) ?_
      refine gg_1_0 (j := 2) rfl X hP ab_1 kf_X1_12 dX1_mayShelve_26 ?_
      refine gg_6_1 (j := 6) rfl X hP ab_2 kf_X1_45 dX1_mayShelve_29 ?_
      refine gg_5_4 (j := 11) rfl X hP ab_6 kf_X1_89 dX1_mayShelve_32 ?_
      refine lv_iload_n hx hb dX1_mayShelve_35 rfl (lv_at hl 1 rfl) ?_
      have hs1 := hok.1
      have hok := hok.2
      refine g_iald X hP ab_11 (by rw [al_11]; exact hs1) dX1_mayShelve_36 ?_
      refine lv_iconst (v := 1) hx hb dX1_mayShelve_37 (by decide) ?_
      refine lv_icmp_eq (tgt := 60) hx hb dX1_mayShelve_38 (by decide) (fun hc => ?_) (fun hc => ?_)
      · have hf := ite_t hc hf
        have hok := hok.1 hc
        refine lv_aload_n hx hb dX1_mayShelve_60 rfl (lv_at hl 0 rfl) ?_
        refine gg_1_0 (j := 2) rfl X hP ab_1 kf_X1_12 dX1_mayShelve_61 ?_
        refine gg_6_2 (j := 15) rfl X hP ab_2 kf_X1_100 dX1_mayShelve_64 ?_
        refine lv_aload_n hx hb dX1_mayShelve_67 rfl (lv_at hl 0 rfl) ?_
        refine gg_1_0 (j := 2) rfl X hP ab_1 kf_X1_12 dX1_mayShelve_68 ?_
        refine gg_6_1 (j := 6) rfl X hP ab_2 kf_X1_45 dX1_mayShelve_71 ?_
        refine gg_5_2 (j := 9) rfl X hP ab_6 kf_X1_104 dX1_mayShelve_74 ?_
        refine lv_iload_n hx hb dX1_mayShelve_77 rfl (lv_at hl 1 rfl) ?_
        have hs2 := hok.1
        have hok := hok.2
        refine g_iald X hP ab_9 (by rw [al_9]; exact hs2) dX1_mayShelve_78 ?_
        refine lv_iload_n hx hb dX1_mayShelve_79 rfl (lv_at hl 2 rfl) ?_
        have hs3 := hok.1
        have hok := hok.2
        refine g_cIp (g_runV (i := 15) (As := [.int (σ.1 9 x1.toNatClampNeg), .int x2]) (rest := []) X (c_X8_lowestFree l G hG σ 15 ab_15 (σ.1 9 x1.toNatClampNeg) x2 hs3) ca_X8_lowestFree km_X1_107 rfl rfl ⟨Nat.le_of_ble_eq_true rfl, Nat.le_of_ble_eq_true rfl⟩ hP hS (ty_lt ab_15) (cell_8 ab_15) rfl rfl rfl hl.1 rfl (Nat.le_of_ble_eq_true rfl) ⟨Nat.le_of_ble_eq_true rfl, Nat.le_of_ble_eq_true rfl⟩ dX1_mayShelve_80) hS (fun H locs hP hS => ?_)
        refine lv_iconst (v := -1) hx hb dX1_mayShelve_83 (by decide) ?_
        refine lv_icmp_ne (tgt := 95) hx hb dX1_mayShelve_84 (by decide) (fun hc => ?_) (fun hc => ?_)
        · have hf := ite_f hc hf
          have hok := hok.2 hc
          refine lv_aload_n hx hb dX1_mayShelve_95 rfl (lv_at hl 0 rfl) ?_
          refine gg_1_0 (j := 2) rfl X hP ab_1 kf_X1_12 dX1_mayShelve_96 ?_
          refine gg_6_1 (j := 6) rfl X hP ab_2 kf_X1_45 dX1_mayShelve_99 ?_
          refine gg_5_0 (j := 7) rfl X hP ab_6 kf_X1_112 dX1_mayShelve_102 ?_
          refine lv_iload_n hx hb dX1_mayShelve_105 rfl (lv_at hl 1 rfl) ?_
          have hs4 := hok
          refine g_iald X hP ab_7 (by rw [al_7]; exact hs4) dX1_mayShelve_106 ?_
          refine lv_iload_n hx hb dX1_mayShelve_107 rfl (lv_at hl 2 rfl) ?_
          refine lv_icmp_eq (tgt := 121) hx hb dX1_mayShelve_108 (by decide) (fun hc => ?_) (fun hc => ?_)
          · have hf := ite_t hc hf
            refine lv_iconst (v := 0) hx hb dX1_mayShelve_121 (by decide) ?_
            exact g_iret X hr hlk hP hS hf dX1_mayShelve_122
          · have hf := ite_f hc hf
            refine lv_aload_n hx hb dX1_mayShelve_111 rfl (lv_at hl 0 rfl) ?_
            refine lv_bipush (v := 9) hx hb dX1_mayShelve_112 (by decide) ?_
            refine lv_iload_n hx hb dX1_mayShelve_114 rfl (lv_at hl 2 rfl) ?_
            refine g_cI (g_runV (i := 1) (As := [.int (9 : Int32), .int x2]) (rest := []) X (c_X1_refuse l G hG σ (9 : Int32) x2) ca_X1_refuse km_X1_38 rfl rfl ⟨Nat.le_of_ble_eq_true rfl, Nat.le_of_ble_eq_true rfl⟩ hP hS (ty_lt ab_1) (cell_1 ab_1) rfl rfl rfl hl.1 rfl (Nat.le_of_ble_eq_true rfl) ⟨Nat.le_of_ble_eq_true rfl, Nat.le_of_ble_eq_true rfl⟩ dX1_mayShelve_115) hS (fun q5 hq5 H locs hP hS => ?_)
            have hf := bnd_go hq5 hf
            refine lv_goto (tgt := 122) hx hb dX1_mayShelve_118 (by decide) ?_
            exact g_iret X hr hlk hP hS hf dX1_mayShelve_122
        · have hf := ite_t hc hf
          refine lv_aload_n hx hb dX1_mayShelve_87 rfl (lv_at hl 0 rfl) ?_
          refine lv_bipush (v := 8) hx hb dX1_mayShelve_88 (by decide) ?_
          refine lv_iload_n hx hb dX1_mayShelve_90 rfl (lv_at hl 2 rfl) ?_
          refine g_cI (g_runV (i := 1) (As := [.int (8 : Int32), .int x2]) (rest := []) X (c_X1_refuse l G hG σ (8 : Int32) x2) ca_X1_refuse km_X1_38 rfl rfl ⟨Nat.le_of_ble_eq_true rfl, Nat.le_of_ble_eq_true rfl⟩ hP hS (ty_lt ab_1) (cell_1 ab_1) rfl rfl rfl hl.1 rfl (Nat.le_of_ble_eq_true rfl) ⟨Nat.le_of_ble_eq_true rfl, Nat.le_of_ble_eq_true rfl⟩ dX1_mayShelve_91) hS (fun q6 hq6 H locs hP hS => ?_)
          have hf := bnd_go hq6 hf
          exact g_iret X hr hlk hP hS hf dX1_mayShelve_94
      · have hf := ite_f hc hf
        have hok := hok.2 hc
        refine lv_aload_n hx hb dX1_mayShelve_41 rfl (lv_at hl 0 rfl) ?_
        refine lv_bipush (v := 7) hx hb dX1_mayShelve_42 (by decide) ?_
        refine lv_aload_n hx hb dX1_mayShelve_44 rfl (lv_at hl 0 rfl) ?_
        refine gg_1_0 (j := 2) rfl X hP ab_1 kf_X1_12 dX1_mayShelve_45 ?_
        refine gg_6_1 (j := 6) rfl X hP ab_2 kf_X1_45 dX1_mayShelve_48 ?_
        refine gg_5_4 (j := 11) rfl X hP ab_6 kf_X1_89 dX1_mayShelve_51 ?_
        refine lv_iload_n hx hb dX1_mayShelve_54 rfl (lv_at hl 1 rfl) ?_
        have hs7 := hok
        refine g_iald X hP ab_11 (by rw [al_11]; exact hs7) dX1_mayShelve_55 ?_
        refine g_cI (g_runV (i := 1) (As := [.int (7 : Int32), .int (σ.1 11 x1.toNatClampNeg)]) (rest := []) X (c_X1_refuse l G hG σ (7 : Int32) (σ.1 11 x1.toNatClampNeg)) ca_X1_refuse km_X1_38 rfl rfl ⟨Nat.le_of_ble_eq_true rfl, Nat.le_of_ble_eq_true rfl⟩ hP hS (ty_lt ab_1) (cell_1 ab_1) rfl rfl rfl hl.1 rfl (Nat.le_of_ble_eq_true rfl) ⟨Nat.le_of_ble_eq_true rfl, Nat.le_of_ble_eq_true rfl⟩ dX1_mayShelve_56) hS (fun q8 hq8 H locs hP hS => ?_)
        have hf := bnd_go hq8 hf
        exact g_iret X hr hlk hP hS hf dX1_mayShelve_59
    · have hf := ite_z hc hf
      refine lv_iconst (v := -1) hx hb dX1_mayShelve_23 (by decide) ?_
      exact g_iret X hr hlk hP hS hf dX1_mayShelve_24
def f_X1_mayTake (σ : St) (x1 : Int32) : St × Int32 := (if (f_X9_isChild x1) = true then (if (f_X8_isBare σ 15 x1) = true then (bnd (f_X1_refuse σ (10 : Int32) x1) (fun q2 => (q2.1, q2.2))) else (σ, (0 : Int32))) else (σ, (-1 : Int32)))
def ok_X1_mayTake (σ : St) (x1 : Int32) : Prop := (((f_X9_isChild x1) = true → ok_X8_isBare σ 15 x1) ∧ ((f_X9_isChild x1) = false → True))
abbrev rm_X1_mayTake : Room := { frames := 3, cells := 0, slots := 0, locals := 68 }
set_option maxHeartbeats 4000000 in
set_option maxRecDepth 100000 in
theorem c_X1_mayTake (l : Launch) (G : GE) (hG : Gok G) (σ : St) (x1 : Int32) (hok : ok_X1_mayTake σ x1) : MtI l G yX1_mayTake cX1_mayTake 2 rm_X1_mayTake [.ref (G.2.1 1), .int x1] σ (f_X1_mayTake σ x1) := by
  generalize hf : f_X1_mayTake σ x1 = fv
  rw [f_X1_mayTake] at hf
  rw [ok_X1_mayTake] at hok
  refine g_start hG (plainFor_of_name (by decide)) (Nat.le_of_ble_eq_true rfl) ?_
  intro p e s m args below meth c X hr hlk ls hl H locs hP hS
  have X : Cx G p s m args c cX1_mayTake 2 RX1 := X
  obtain ⟨hx, hb, hml, hown, hts, hK, hbs, hXW, -⟩ := id X
  have hl : lv_has ls 2 [(0, .ref (G.2.1 1)), (1, .int x1)] := hl
  refine lv_iload_n hx hb dX1_mayTake_0 rfl (lv_at hl 1 rfl) ?_
  refine g_cZp (g_runSN (As := [.int x1]) (rest := []) X (c_X9_isChild l G hG σ x1) ca_X9_isChild km_X1_54 rfl rfl ⟨Nat.le_of_ble_eq_true rfl, Nat.le_of_ble_eq_true rfl⟩ hP hS rfl hl.1 rfl (Nat.le_of_ble_eq_true rfl) ⟨Nat.le_of_ble_eq_true rfl, Nat.le_of_ble_eq_true rfl⟩ dX1_mayTake_1) hS (fun H locs hP hS => ?_)
  refine g_ifneZ (tgt := 9) X dX1_mayTake_4 (by decide) (fun hc => ?_) (fun hc => ?_)
  · have hf := ite_t hc hf
    have hok := hok.1 hc
    refine lv_aload_n hx hb dX1_mayTake_9 rfl (lv_at hl 0 rfl) ?_
    refine gg_1_0 (j := 2) rfl X hP ab_1 kf_X1_12 dX1_mayTake_10 ?_
    refine gg_6_2 (j := 15) rfl X hP ab_2 kf_X1_100 dX1_mayTake_13 ?_
    refine lv_iload_n hx hb dX1_mayTake_16 rfl (lv_at hl 1 rfl) ?_
    have hs1 := hok
    refine g_cZp (g_runV (i := 15) (As := [.int x1]) (rest := []) X (c_X8_isBare l G hG σ 15 ab_15 x1 hs1) ca_X8_isBare km_X1_115 rfl rfl ⟨Nat.le_of_ble_eq_true rfl, Nat.le_of_ble_eq_true rfl⟩ hP hS (ty_lt ab_15) (cell_8 ab_15) rfl rfl rfl hl.1 rfl (Nat.le_of_ble_eq_true rfl) ⟨Nat.le_of_ble_eq_true rfl, Nat.le_of_ble_eq_true rfl⟩ dX1_mayTake_17) hS (fun H locs hP hS => ?_)
    refine g_ifeqZ (tgt := 33) X dX1_mayTake_20 (by decide) (fun hc => ?_) (fun hc => ?_)
    · have hf := ite_z hc hf
      refine lv_iconst (v := 0) hx hb dX1_mayTake_33 (by decide) ?_
      exact g_iret X hr hlk hP hS hf dX1_mayTake_34
    · have hf := ite_t hc hf
      refine lv_aload_n hx hb dX1_mayTake_23 rfl (lv_at hl 0 rfl) ?_
      refine lv_bipush (v := 10) hx hb dX1_mayTake_24 (by decide) ?_
      refine lv_iload_n hx hb dX1_mayTake_26 rfl (lv_at hl 1 rfl) ?_
      refine g_cI (g_runV (i := 1) (As := [.int (10 : Int32), .int x1]) (rest := []) X (c_X1_refuse l G hG σ (10 : Int32) x1) ca_X1_refuse km_X1_38 rfl rfl ⟨Nat.le_of_ble_eq_true rfl, Nat.le_of_ble_eq_true rfl⟩ hP hS (ty_lt ab_1) (cell_1 ab_1) rfl rfl rfl hl.1 rfl (Nat.le_of_ble_eq_true rfl) ⟨Nat.le_of_ble_eq_true rfl, Nat.le_of_ble_eq_true rfl⟩ dX1_mayTake_27) hS (fun q2 hq2 H locs hP hS => ?_)
      have hf := bnd_go hq2 hf
      refine lv_goto (tgt := 34) hx hb dX1_mayTake_30 (by decide) ?_
      exact g_iret X hr hlk hP hS hf dX1_mayTake_34
  · have hf := ite_z hc hf
    refine lv_iconst (v := -1) hx hb dX1_mayTake_7 (by decide) ?_
    exact g_iret X hr hlk hP hS hf dX1_mayTake_8
def f_X1_mayFeed (σ : St) (x1 : Int32) : St × Int32 := (if (f_X9_inRange x1 (1 : Int32) (9 : Int32)) = true then (if x1 ≤ (σ.1 18 1) then (σ, (0 : Int32)) else (bnd (f_X1_refuse σ (11 : Int32) (σ.1 18 1)) (fun q1 => (q1.1, q1.2)))) else (σ, (-2 : Int32)))
abbrev rm_X1_mayFeed : Room := { frames := 1, cells := 0, slots := 0, locals := 22 }
set_option maxHeartbeats 4000000 in
set_option maxRecDepth 100000 in
theorem c_X1_mayFeed (l : Launch) (G : GE) (hG : Gok G) (σ : St) (x1 : Int32) : MtI l G yX1_mayFeed cX1_mayFeed 3 rm_X1_mayFeed [.ref (G.2.1 1), .int x1] σ (f_X1_mayFeed σ x1) := by
  generalize hf : f_X1_mayFeed σ x1 = fv
  rw [f_X1_mayFeed] at hf
  refine g_start hG (plainFor_of_name (by decide)) (Nat.le_of_ble_eq_true rfl) ?_
  intro p e s m args below meth c X hr hlk ls hl H locs hP hS
  have X : Cx G p s m args c cX1_mayFeed 3 RX1 := X
  obtain ⟨hx, hb, hml, hown, hts, hK, hbs, hXW, -⟩ := id X
  have hl : lv_has ls 3 [(0, .ref (G.2.1 1)), (1, .int x1)] := hl
  refine lv_iload_n hx hb dX1_mayFeed_0 rfl (lv_at hl 1 rfl) ?_
  refine lv_iconst (v := 1) hx hb dX1_mayFeed_1 (by decide) ?_
  refine lv_bipush (v := 9) hx hb dX1_mayFeed_2 (by decide) ?_
  refine g_cZp (g_runSN (As := [.int x1, .int (1 : Int32), .int (9 : Int32)]) (rest := []) X (c_X9_inRange l G hG σ x1 (1 : Int32) (9 : Int32)) ca_X9_inRange km_X1_25 rfl rfl ⟨Nat.le_of_ble_eq_true rfl, Nat.le_of_ble_eq_true rfl⟩ hP hS rfl hl.1 rfl (Nat.le_of_ble_eq_true rfl) ⟨Nat.le_of_ble_eq_true rfl, Nat.le_of_ble_eq_true rfl⟩ dX1_mayFeed_4) hS (fun H locs hP hS => ?_)
  refine g_ifneZ (tgt := 13) X dX1_mayFeed_7 (by decide) (fun hc => ?_) (fun hc => ?_)
  · have hf := ite_t hc hf
    refine lv_aload_n hx hb dX1_mayFeed_13 rfl (lv_at hl 0 rfl) ?_
    refine gg_1_0 (j := 2) rfl X hP ab_1 kf_X1_12 dX1_mayFeed_14 ?_
    refine gg_6_3 (j := 18) rfl X hP ab_2 kf_X1_118 dX1_mayFeed_17 ?_
    refine gg_3_1 X hP ab_18 kf_X1_122 dX1_mayFeed_20 ?_
    refine lv_istore_n (lv' := [(2, .int (σ.1 18 1)), (0, .ref (G.2.1 1)), (1, .int x1)]) hx hb dX1_mayFeed_23 rfl hl (by decide) rfl (fun ls hl => ?_)
    refine lv_iload_n hx hb dX1_mayFeed_24 rfl (lv_at hl 0 rfl) ?_
    refine lv_iload_n hx hb dX1_mayFeed_25 rfl (lv_at hl 2 rfl) ?_
    refine lv_icmp_ge (tgt := 39) hx hb dX1_mayFeed_26 (by decide) (fun hc => ?_) (fun hc => ?_)
    · have hf := ite_t hc hf
      refine lv_iconst (v := 0) hx hb dX1_mayFeed_39 (by decide) ?_
      exact g_iret X hr hlk hP hS hf dX1_mayFeed_40
    · have hf := ite_f hc hf
      refine lv_aload_n hx hb dX1_mayFeed_29 rfl (lv_at hl 1 rfl) ?_
      refine lv_bipush (v := 11) hx hb dX1_mayFeed_30 (by decide) ?_
      refine lv_iload_n hx hb dX1_mayFeed_32 rfl (lv_at hl 0 rfl) ?_
      refine g_cI (g_runV (i := 1) (As := [.int (11 : Int32), .int (σ.1 18 1)]) (rest := []) X (c_X1_refuse l G hG σ (11 : Int32) (σ.1 18 1)) ca_X1_refuse km_X1_38 rfl rfl ⟨Nat.le_of_ble_eq_true rfl, Nat.le_of_ble_eq_true rfl⟩ hP hS (ty_lt ab_1) (cell_1 ab_1) rfl rfl rfl hl.1 rfl (Nat.le_of_ble_eq_true rfl) ⟨Nat.le_of_ble_eq_true rfl, Nat.le_of_ble_eq_true rfl⟩ dX1_mayFeed_33) hS (fun q1 hq1 H locs hP hS => ?_)
      have hf := bnd_go hq1 hf
      refine lv_goto (tgt := 40) hx hb dX1_mayFeed_36 (by decide) ?_
      exact g_iret X hr hlk hP hS hf dX1_mayFeed_40
  · have hf := ite_z hc hf
    refine lv_bipush (v := -2) hx hb dX1_mayFeed_10 (by decide) ?_
    exact g_iret X hr hlk hP hS hf dX1_mayFeed_12
def f_X1_mayPass (x1 : Int32) : Int32 := (if (f_X9_inRange x1 (1 : Int32) (60 : Int32)) = true then (0 : Int32) else (-2 : Int32))
abbrev rm_X1_mayPass : Room := { frames := 1, cells := 0, slots := 0, locals := 22 }
set_option maxHeartbeats 4000000 in
set_option maxRecDepth 100000 in
theorem c_X1_mayPass (l : Launch) (G : GE) (hG : Gok G) (σ : St) (x1 : Int32) : MtI l G yX1_mayPass cX1_mayPass 2 rm_X1_mayPass [.ref (G.2.1 1), .int x1] σ (σ, f_X1_mayPass x1) := by
  generalize hf : f_X1_mayPass x1 = fv
  rw [f_X1_mayPass] at hf
  refine g_start hG (plainFor_of_name (by decide)) (Nat.le_of_ble_eq_true rfl) ?_
  intro p e s m args below meth c X hr hlk ls hl H locs hP hS
  have X : Cx G p s m args c cX1_mayPass 2 RX1 := X
  obtain ⟨hx, hb, hml, hown, hts, hK, hbs, hXW, -⟩ := id X
  have hl : lv_has ls 2 [(0, .ref (G.2.1 1)), (1, .int x1)] := hl
  refine lv_iload_n hx hb dX1_mayPass_0 rfl (lv_at hl 1 rfl) ?_
  refine lv_iconst (v := 1) hx hb dX1_mayPass_1 (by decide) ?_
  refine lv_bipush (v := 60) hx hb dX1_mayPass_2 (by decide) ?_
  refine g_cZp (g_runSN (As := [.int x1, .int (1 : Int32), .int (60 : Int32)]) (rest := []) X (c_X9_inRange l G hG σ x1 (1 : Int32) (60 : Int32)) ca_X9_inRange km_X1_25 rfl rfl ⟨Nat.le_of_ble_eq_true rfl, Nat.le_of_ble_eq_true rfl⟩ hP hS rfl hl.1 rfl (Nat.le_of_ble_eq_true rfl) ⟨Nat.le_of_ble_eq_true rfl, Nat.le_of_ble_eq_true rfl⟩ dX1_mayPass_4) hS (fun H locs hP hS => ?_)
  refine g_ifeqZ (tgt := 14) X dX1_mayPass_7 (by decide) (fun hc => ?_) (fun hc => ?_)
  · have hf := ite_z hc hf
    refine lv_bipush (v := -2) hx hb dX1_mayPass_14 (by decide) ?_
    exact g_iret X hr hlk hP hS (congrArg (Prod.mk σ) hf) dX1_mayPass_16
  · have hf := ite_t hc hf
    refine lv_iconst (v := 0) hx hb dX1_mayPass_10 (by decide) ?_
    refine lv_goto (tgt := 16) hx hb dX1_mayPass_11 (by decide) ?_
    exact g_iret X hr hlk hP hS (congrArg (Prod.mk σ) hf) dX1_mayPass_16
def f_X4_remember (σ : St) (o1 : Nat) : St := (bnd (f_X6_copyFrom σ (53 + 17 * (σ.1 189 1).toNatClampNeg) o1) (fun q2 => (bnd (setI q2 189 1 (((q2.1 189 1) + (1 : Int32)) - ((q2.1 189 1) + (1 : Int32)) / (8 : Int32) * (8 : Int32))) (fun q3 => (bnd (setI q3 189 2 (if (8 : Int32) < ((q3.1 189 2) + (1 : Int32)) then (8 : Int32) else ((q3.1 189 2) + (1 : Int32)))) (fun q4 => q4))))))
def ok_X4_remember (σ : St) (o1 : Nat) : Prop := vp_in (σ.1 189 1) 8
abbrev rm_X4_remember : Room := { frames := 3, cells := 0, slots := 0, locals := 102 }
set_option maxHeartbeats 4000000 in
set_option maxRecDepth 100000 in
theorem c_X4_remember (l : Launch) (G : GE) (hG : Gok G) (σ : St) (o1 : Nat) (ho1 : tyOf o1 = 6) (hok : ok_X4_remember σ o1) : MtV l G yX4_remember cX4_remember 2 rm_X4_remember [.ref (G.2.1 189), .ref (G.2.1 o1)] σ (f_X4_remember σ o1) := by
  generalize hf : f_X4_remember σ o1 = fv
  rw [f_X4_remember] at hf
  rw [ok_X4_remember] at hok
  refine g_start hG (plainFor_of_name (by decide)) (Nat.le_of_ble_eq_true rfl) ?_
  intro p e s m args below meth c X hr hlk ls hl H locs hP hS
  have X : Cx G p s m args c cX4_remember 2 RX4 := X
  obtain ⟨hx, hb, hml, hown, hts, hK, hbs, hXW, -⟩ := id X
  have hl : lv_has ls 2 [(0, .ref (G.2.1 189)), (1, .ref (G.2.1 o1))] := hl
  refine lv_aload_n hx hb dX4_remember_0 rfl (lv_at hl 0 rfl) ?_
  refine gg_4_0 (j := 190) rfl X hP ab_189 kf_X4_11 dX4_remember_1 ?_
  refine lv_aload_n hx hb dX4_remember_4 rfl (lv_at hl 0 rfl) ?_
  refine gg_4_1 X hP ab_189 kf_X4_18 dX4_remember_5 ?_
  have hs1 := hok
  refine g_aald X hP ab_190 (by rw [al_190]; exact hs1) dX4_remember_8 ?_
  refine lv_aload_n hx hb dX4_remember_9 rfl (lv_at hl 1 rfl) ?_
  refine g_cV (g_runV (i := (53 + 17 * (σ.1 189 1).toNatClampNeg)) (As := [.ref (G.2.1 o1)]) (rest := []) X (c_X6_copyFrom l G hG σ (53 + 17 * (σ.1 189 1).toNatClampNeg) (ty_past hs1) o1 ho1) ca_X6_copyFrom km_X4_22 rfl rfl ⟨Nat.le_of_ble_eq_true rfl, Nat.le_of_ble_eq_true rfl⟩ hP hS (ty_lt (ty_past hs1)) (cell_6 (ty_past hs1)) rfl rfl rfl hl.1 rfl (Nat.le_of_ble_eq_true rfl) ⟨Nat.le_of_ble_eq_true rfl, Nat.le_of_ble_eq_true rfl⟩ dX4_remember_10) hS (fun q2 hq2 H locs hP hS => ?_)
  have hf := bnd_go hq2 hf
  refine lv_aload_n hx hb dX4_remember_13 rfl (lv_at hl 0 rfl) ?_
  refine lv_aload_n hx hb dX4_remember_14 rfl (lv_at hl 0 rfl) ?_
  refine gg_4_1 X hP ab_189 kf_X4_18 dX4_remember_15 ?_
  refine lv_iconst (v := 1) hx hb dX4_remember_18 (by decide) ?_
  refine lv_iadd hx hb dX4_remember_19 ?_
  refine lv_bipush (v := 8) hx hb dX4_remember_20 (by decide) ?_
  refine lv_irem hx hb dX4_remember_22 (by decide) ?_
  refine gp_4_1 X hP hS ab_189 kf_X4_18 dX4_remember_23 (fun H locs hP hS => ?_)
  refine g_name hP (fun q3 hq3 hP => ?_)
  have hf := bnd_go hq3 hf
  refine lv_aload_n hx hb dX4_remember_26 rfl (lv_at hl 0 rfl) ?_
  refine lv_aload_n hx hb dX4_remember_27 rfl (lv_at hl 0 rfl) ?_
  refine gg_4_2 X hP ab_189 kf_X4_26 dX4_remember_28 ?_
  refine lv_iconst (v := 1) hx hb dX4_remember_31 (by decide) ?_
  refine lv_iadd hx hb dX4_remember_32 ?_
  refine lv_bipush (v := 8) hx hb dX4_remember_33 (by decide) ?_
  refine g_min X km_X4_29 hl.1 (Nat.le_of_ble_eq_true rfl) (Nat.le_of_ble_eq_true rfl) (Nat.le_of_ble_eq_true rfl) (Nat.le_of_ble_eq_true rfl) dX4_remember_35 ?_
  refine gp_4_2 X hP hS ab_189 kf_X4_26 dX4_remember_38 (fun H locs hP hS => ?_)
  refine g_name hP (fun q4 hq4 hP => ?_)
  have hf := bnd_go hq4 hf
  exact g_vret X hr hlk hP hS hf dX4_remember_41
def f_X4_bringBack (σ : St) (o1 : Nat) : St := (bnd (setI σ 189 1 ((((σ.1 189 1) + (8 : Int32)) - (1 : Int32)) - (((σ.1 189 1) + (8 : Int32)) - (1 : Int32)) / (8 : Int32) * (8 : Int32))) (fun q1 => (bnd (setI q1 189 2 ((q1.1 189 2) - (1 : Int32))) (fun q2 => (bnd (f_X6_copyFrom q2 o1 (53 + 17 * (q2.1 189 1).toNatClampNeg)) (fun q4 => q4))))))
def ok_X4_bringBack (σ : St) (o1 : Nat) : Prop := (bndP (setI σ 189 1 ((((σ.1 189 1) + (8 : Int32)) - (1 : Int32)) - (((σ.1 189 1) + (8 : Int32)) - (1 : Int32)) / (8 : Int32) * (8 : Int32))) (fun q1 => (bndP (setI q1 189 2 ((q1.1 189 2) - (1 : Int32))) (fun q2 => vp_in (q2.1 189 1) 8))))
abbrev rm_X4_bringBack : Room := { frames := 3, cells := 0, slots := 0, locals := 102 }
set_option maxHeartbeats 4000000 in
set_option maxRecDepth 100000 in
theorem c_X4_bringBack (l : Launch) (G : GE) (hG : Gok G) (σ : St) (o1 : Nat) (ho1 : tyOf o1 = 6) (hok : ok_X4_bringBack σ o1) : MtV l G yX4_bringBack cX4_bringBack 2 rm_X4_bringBack [.ref (G.2.1 189), .ref (G.2.1 o1)] σ (f_X4_bringBack σ o1) := by
  generalize hf : f_X4_bringBack σ o1 = fv
  rw [f_X4_bringBack] at hf
  rw [ok_X4_bringBack] at hok
  refine g_start hG (plainFor_of_name (by decide)) (Nat.le_of_ble_eq_true rfl) ?_
  intro p e s m args below meth c X hr hlk ls hl H locs hP hS
  have X : Cx G p s m args c cX4_bringBack 2 RX4 := X
  obtain ⟨hx, hb, hml, hown, hts, hK, hbs, hXW, -⟩ := id X
  have hl : lv_has ls 2 [(0, .ref (G.2.1 189)), (1, .ref (G.2.1 o1))] := hl
  refine lv_aload_n hx hb dX4_bringBack_0 rfl (lv_at hl 0 rfl) ?_
  refine lv_aload_n hx hb dX4_bringBack_1 rfl (lv_at hl 0 rfl) ?_
  refine gg_4_1 X hP ab_189 kf_X4_18 dX4_bringBack_2 ?_
  refine lv_bipush (v := 8) hx hb dX4_bringBack_5 (by decide) ?_
  refine lv_iadd hx hb dX4_bringBack_7 ?_
  refine lv_iconst (v := 1) hx hb dX4_bringBack_8 (by decide) ?_
  refine lv_isub hx hb dX4_bringBack_9 ?_
  refine lv_bipush (v := 8) hx hb dX4_bringBack_10 (by decide) ?_
  refine lv_irem hx hb dX4_bringBack_12 (by decide) ?_
  refine gp_4_1 X hP hS ab_189 kf_X4_18 dX4_bringBack_13 (fun H locs hP hS => ?_)
  refine g_name hP (fun q1 hq1 hP => ?_)
  have hf := bnd_go hq1 hf
  have hok := bnd_goP hq1 hok
  refine lv_aload_n hx hb dX4_bringBack_16 rfl (lv_at hl 0 rfl) ?_
  refine lv_dup hx hb dX4_bringBack_17 rfl ?_
  refine gg_4_2 X hP ab_189 kf_X4_26 dX4_bringBack_18 ?_
  refine lv_iconst (v := 1) hx hb dX4_bringBack_21 (by decide) ?_
  refine lv_isub hx hb dX4_bringBack_22 ?_
  refine gp_4_2 X hP hS ab_189 kf_X4_26 dX4_bringBack_23 (fun H locs hP hS => ?_)
  refine g_name hP (fun q2 hq2 hP => ?_)
  have hf := bnd_go hq2 hf
  have hok := bnd_goP hq2 hok
  refine lv_aload_n hx hb dX4_bringBack_26 rfl (lv_at hl 1 rfl) ?_
  refine lv_aload_n hx hb dX4_bringBack_27 rfl (lv_at hl 0 rfl) ?_
  refine gg_4_0 (j := 190) rfl X hP ab_189 kf_X4_11 dX4_bringBack_28 ?_
  refine lv_aload_n hx hb dX4_bringBack_31 rfl (lv_at hl 0 rfl) ?_
  refine gg_4_1 X hP ab_189 kf_X4_18 dX4_bringBack_32 ?_
  have hs3 := hok
  refine g_aald X hP ab_190 (by rw [al_190]; exact hs3) dX4_bringBack_35 ?_
  refine g_cV (g_runV (i := o1) (As := [.ref (G.2.1 (53 + 17 * (q2.1 189 1).toNatClampNeg))]) (rest := []) X (c_X6_copyFrom l G hG q2 o1 ho1 (53 + 17 * (q2.1 189 1).toNatClampNeg) (ty_past hs3)) ca_X6_copyFrom km_X4_22 rfl rfl ⟨Nat.le_of_ble_eq_true rfl, Nat.le_of_ble_eq_true rfl⟩ hP hS (ty_lt ho1) (cell_6 ho1) rfl rfl rfl hl.1 rfl (Nat.le_of_ble_eq_true rfl) ⟨Nat.le_of_ble_eq_true rfl, Nat.le_of_ble_eq_true rfl⟩ dX4_bringBack_36) hS (fun q4 hq4 H locs hP hS => ?_)
  have hf := bnd_go hq4 hf
  exact g_vret X hr hlk hP hS hf dX4_bringBack_39
def f_X4_forget (σ : St) : St := (bnd (setI σ 189 2 (0 : Int32)) (fun q1 => q1))
abbrev rm_X4_forget : Room := { frames := 0, cells := 0, slots := 0, locals := 0 }
set_option maxHeartbeats 4000000 in
set_option maxRecDepth 100000 in
theorem c_X4_forget (l : Launch) (G : GE) (hG : Gok G) (σ : St) : MtV l G yX4_forget cX4_forget 1 rm_X4_forget [.ref (G.2.1 189)] σ (f_X4_forget σ) := by
  generalize hf : f_X4_forget σ = fv
  rw [f_X4_forget] at hf
  refine g_start hG (plainFor_of_name (by decide)) (Nat.le_of_ble_eq_true rfl) ?_
  intro p e s m args below meth c X hr hlk ls hl H locs hP hS
  have X : Cx G p s m args c cX4_forget 1 RX4 := X
  obtain ⟨hx, hb, hml, hown, hts, hK, hbs, hXW, -⟩ := id X
  have hl : lv_has ls 1 [(0, .ref (G.2.1 189))] := hl
  refine lv_aload_n hx hb dX4_forget_0 rfl (lv_at hl 0 rfl) ?_
  refine lv_iconst (v := 0) hx hb dX4_forget_1 (by decide) ?_
  refine gp_4_2 X hP hS ab_189 kf_X4_26 dX4_forget_2 (fun H locs hP hS => ?_)
  refine g_name hP (fun q1 hq1 hP => ?_)
  have hf := bnd_go hq1 hf
  exact g_vret X hr hlk hP hS hf dX4_forget_5
