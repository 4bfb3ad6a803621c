def f_X9_demand (σ : St) (x0 : Int32) : Nat × St := (if x0 = (-1 : Int32) then (2, σ) else (if x0 = (-2 : Int32) then (1, σ) else (if x0 = 0 then (0, σ) else (3, σ))))
abbrev rm_X9_demand : Room := { frames := 6, cells := 1, slots := 6, locals := 100 }
set_option maxHeartbeats 4000000 in
set_option maxRecDepth 100000 in
theorem c_X9_demand (l : Launch) (hfl : l.stackTraces = false) (G : GE) (hG : Gok G) (σ : St) (x0 : Int32) : XtV l G yX9_demand cX9_demand 1 rm_X9_demand [.int x0] σ (f_X9_demand σ x0) 1 6 := by
  generalize hf : f_X9_demand σ x0 = fv
  rw [f_X9_demand] at hf
  refine gx_start hG (by decide) (Nat.le_of_ble_eq_true rfl) ?_
  intro p e s m args below meth c X hr hlk hex ls hl H locs hP hS
  have X : Cx G p s m args c cX9_demand 1 RX9 := X
  obtain ⟨hx, hb, hml, hown, hts, hK, hbs, hXW, -⟩ := id X
  have hl : lv_has ls 1 [(0, .int x0)] := hl
  refine lv_iload_n hx hb dX9_demand_0 rfl (lv_at hl 0 rfl) ?_
  refine lv_iconst (v := -1) hx hb dX9_demand_1 (by decide) ?_
  refine lv_icmp_ne (tgt := 16) hx hb dX9_demand_2 (by decide) (fun hc => ?_) (fun hc => ?_)
  · have hf := ite_f hc hf
    refine lv_iload_n hx hb dX9_demand_16 rfl (lv_at hl 0 rfl) ?_
    refine lv_bipush (v := -2) hx hb dX9_demand_17 (by decide) ?_
    refine lv_icmp_ne (tgt := 33) hx hb dX9_demand_19 (by decide) (fun hc => ?_) (fun hc => ?_)
    · have hf := ite_f hc hf
      refine lv_iload_n hx hb dX9_demand_33 rfl (lv_at hl 0 rfl) ?_
      refine lv_if_eq (tgt := 48) hx hb dX9_demand_34 (by decide) (fun hc => ?_) (fun hc => ?_)
      · have hf := ite_t hc hf
        exact gx_vret X hr hlk hP hS hf (Nat.le_of_ble_eq_true rfl) (Nat.le_of_ble_eq_true rfl) dX9_demand_48
      · have hf := ite_f hc hf
        exact gx_throw (k := 3) X hfl hlk hex (by decide) kt_391 ki_391 ka_395 (hXW.2.1 2 (by decide)) hP hS hl.1 dX9_demand_37 dX9_demand_40 dX9_demand_41 dX9_demand_44 dX9_demand_47 ⟨Nat.le_of_ble_eq_true rfl, Nat.le_of_ble_eq_true rfl, Nat.le_of_ble_eq_true rfl, Nat.le_of_ble_eq_true rfl⟩ (Nat.le_of_ble_eq_true rfl) ⟨(by decide : (3 : Nat) ≠ 0), hf⟩ (Nat.le_of_ble_eq_true rfl) (Nat.le_of_ble_eq_true rfl)
    · have hf := ite_t hc hf
      exact gx_throw (k := 1) X hfl hlk hex (by decide) kt_342 ki_342 ka_346 (hXW.2.1 1 (by decide)) hP hS hl.1 dX9_demand_22 dX9_demand_25 dX9_demand_26 dX9_demand_29 dX9_demand_32 ⟨Nat.le_of_ble_eq_true rfl, Nat.le_of_ble_eq_true rfl, Nat.le_of_ble_eq_true rfl, Nat.le_of_ble_eq_true rfl⟩ (Nat.le_of_ble_eq_true rfl) ⟨(by decide : (1 : Nat) ≠ 0), hf⟩ (Nat.le_of_ble_eq_true rfl) (Nat.le_of_ble_eq_true rfl)
  · have hf := ite_t hc hf
    exact gx_throw (k := 2) X hfl hlk hex (by decide) kt_384 ki_384 ka_388 (hXW.2.1 0 (by decide)) hP hS hl.1 dX9_demand_5 dX9_demand_8 dX9_demand_9 dX9_demand_12 dX9_demand_15 ⟨Nat.le_of_ble_eq_true rfl, Nat.le_of_ble_eq_true rfl, Nat.le_of_ble_eq_true rfl, Nat.le_of_ble_eq_true rfl⟩ (Nat.le_of_ble_eq_true rfl) ⟨(by decide : (2 : Nat) ≠ 0), hf⟩ (Nat.le_of_ble_eq_true rfl) (Nat.le_of_ble_eq_true rfl)
def f_X9_demandFound (σ : St) (x0 : Bool) : Nat × St := (if x0 = true then (0, σ) else (4, σ))
abbrev rm_X9_demandFound : Room := { frames := 6, cells := 1, slots := 6, locals := 100 }
set_option maxHeartbeats 4000000 in
set_option maxRecDepth 100000 in
theorem c_X9_demandFound (l : Launch) (hfl : l.stackTraces = false) (G : GE) (hG : Gok G) (σ : St) (x0 : Bool) : XtV l G yX9_demandFound cX9_demandFound 1 rm_X9_demandFound [.int (bI x0)] σ (f_X9_demandFound σ x0) 1 6 := by
  generalize hf : f_X9_demandFound σ x0 = fv
  rw [f_X9_demandFound] at hf
  refine gx_start hG (by decide) (Nat.le_of_ble_eq_true rfl) ?_
  intro p e s m args below meth c X hr hlk hex ls hl H locs hP hS
  have X : Cx G p s m args c cX9_demandFound 1 RX9 := X
  obtain ⟨hx, hb, hml, hown, hts, hK, hbs, hXW, -⟩ := id X
  have hl : lv_has ls 1 [(0, .int (bI x0))] := hl
  refine lv_iload_n hx hb dX9_demandFound_0 rfl (lv_at hl 0 rfl) ?_
  refine g_ifneZ (tgt := 15) X dX9_demandFound_1 (by decide) (fun hc => ?_) (fun hc => ?_)
  · have hf := ite_t hc hf
    exact gx_vret X hr hlk hP hS hf (Nat.le_of_ble_eq_true rfl) (Nat.le_of_ble_eq_true rfl) dX9_demandFound_15
  · have hf := ite_z hc hf
    exact gx_throwN (k := 4) X hfl hlk hex (by decide) kt_396 ki_396 ka_400 (hXW.2.1 6 (by decide)) hP hS hl.1 dX9_demandFound_4 dX9_demandFound_7 dX9_demandFound_8 dX9_demandFound_11 dX9_demandFound_14 ⟨Nat.le_of_ble_eq_true rfl, Nat.le_of_ble_eq_true rfl, Nat.le_of_ble_eq_true rfl, Nat.le_of_ble_eq_true rfl⟩ (Nat.le_of_ble_eq_true rfl) ⟨(by decide : (4 : Nat) ≠ 0), hf⟩ (Nat.le_of_ble_eq_true rfl) (Nat.le_of_ble_eq_true rfl)
def f_X9_demandItem (σ : St) (x1 : Int32) : Nat × St := (if (f_X5_has σ 6 x1) = true then (bnd (f_X9_demand σ (0 : Int32)) (fun q2 => (if q2.1 = 0 then (0, q2.2) else (q2.1, q2.2)))) else (bnd (f_X9_demand σ (-1 : Int32)) (fun q1 => (if q1.1 = 0 then (0, q1.2) else (q1.1, q1.2)))))
abbrev rm_X9_demandItem : Room := { frames := 7, cells := 1, slots := 6, locals := 120 }
set_option maxHeartbeats 4000000 in
set_option maxRecDepth 100000 in
theorem c_X9_demandItem (l : Launch) (hfl : l.stackTraces = false) (G : GE) (hG : Gok G) (σ : St) (x1 : Int32) : XtV l G yX9_demandItem cX9_demandItem 2 rm_X9_demandItem [.ref (G.2.1 0), .int x1] σ (f_X9_demandItem σ x1) 1 6 := by
  generalize hf : f_X9_demandItem σ x1 = fv
  rw [f_X9_demandItem] at hf
  refine gx_start hG (by decide) (Nat.le_of_ble_eq_true rfl) ?_
  intro p e s m args below meth c X hr hlk hex ls hl H locs hP hS
  have X : Cx G p s m args c cX9_demandItem 2 RX9 := X
  obtain ⟨hx, hb, hml, hown, hts, hK, hbs, hXW, -⟩ := id X
  have hl : lv_has ls 2 [(0, .ref (G.2.1 0)), (1, .int x1)] := hl
  refine lv_aload_n hx hb dX9_demandItem_0 rfl (lv_at hl 0 rfl) ?_
  refine gg_9_1 X hP ab_0 kf_X9_20 dX9_demandItem_1 ?_
  refine gg_6_1 (j := 6) rfl X hP ab_2 kf_X9_101 dX9_demandItem_4 ?_
  refine lv_iload_n hx hb dX9_demandItem_7 rfl (lv_at hl 1 rfl) ?_
  refine g_cZp (g_runV (i := 6) (As := [.int x1]) (rest := []) X (c_X5_has l G hG σ 6 ab_6 x1) ca_X5_has km_X9_401 rfl rfl ⟨Nat.le_of_ble_eq_true rfl, Nat.le_of_ble_eq_true rfl⟩ hP hS (ty_lt ab_6) (cell_5 ab_6) rfl rfl rfl hl.1 rfl (Nat.le_of_ble_eq_true rfl) ⟨Nat.le_of_ble_eq_true rfl, Nat.le_of_ble_eq_true rfl⟩ dX9_demandItem_8) hS (fun H locs hP hS => ?_)
  refine g_ifeqZ (tgt := 18) X dX9_demandItem_11 (by decide) (fun hc => ?_) (fun hc => ?_)
  · have hf := ite_z hc hf
    refine lv_iconst (v := -1) hx hb dX9_demandItem_18 (by decide) ?_
    refine gx_cV (gx_runS (As := [.int (-1 : Int32)]) (rest := []) X (c_X9_demand l hfl G hG σ (-1 : Int32)) ca_X9_demand km_X9_54 rfl rfl ⟨Nat.le_of_ble_eq_true rfl, Nat.le_of_ble_eq_true rfl⟩ hP hS rfl hl.1 rfl (Nat.le_of_ble_eq_true rfl) ⟨Nat.le_of_ble_eq_true rfl, Nat.le_of_ble_eq_true rfl⟩ dX9_demandItem_19) hS (fun q1 hq1 hc H locs hP hS ce q9 hce hcv hcl => ?_) (fun q1 hq1 hc H locs hP hS => ?_)
    · have hf := bnd_go hq1 hf
      have hf := ite_f hc hf
      exact gx_out hex hlk hP hS hce hcv hcl ⟨hc, hf⟩ (Nat.le_of_ble_eq_true rfl) (Nat.le_of_ble_eq_true rfl)
    · have hf := bnd_go hq1 hf
      have hf := ite_t hc hf
      exact gx_vret X hr hlk hP hS hf (Nat.le_of_ble_eq_true rfl) (Nat.le_of_ble_eq_true rfl) dX9_demandItem_22
  · have hf := ite_t hc hf
    refine lv_iconst (v := 0) hx hb dX9_demandItem_14 (by decide) ?_
    refine lv_goto (tgt := 19) hx hb dX9_demandItem_15 (by decide) ?_
    refine gx_cV (gx_runS (As := [.int (0 : Int32)]) (rest := []) X (c_X9_demand l hfl G hG σ (0 : Int32)) ca_X9_demand km_X9_54 rfl rfl ⟨Nat.le_of_ble_eq_true rfl, Nat.le_of_ble_eq_true rfl⟩ hP hS rfl hl.1 rfl (Nat.le_of_ble_eq_true rfl) ⟨Nat.le_of_ble_eq_true rfl, Nat.le_of_ble_eq_true rfl⟩ dX9_demandItem_19) hS (fun q2 hq2 hc H locs hP hS ce q9 hce hcv hcl => ?_) (fun q2 hq2 hc H locs hP hS => ?_)
    · have hf := bnd_go hq2 hf
      have hf := ite_f hc hf
      exact gx_out hex hlk hP hS hce hcv hcl ⟨hc, hf⟩ (Nat.le_of_ble_eq_true rfl) (Nat.le_of_ble_eq_true rfl)
    · have hf := bnd_go hq2 hf
      have hf := ite_t hc hf
      exact gx_vret X hr hlk hP hS hf (Nat.le_of_ble_eq_true rfl) (Nat.le_of_ble_eq_true rfl) dX9_demandItem_22
def f_X9_demandPotato (σ : St) (x1 : Int32) : Nat × St := (if (f_X2_hasPotato σ 3 x1) = true then (bnd (f_X9_demand σ (0 : Int32)) (fun q2 => (if q2.1 = 0 then (0, q2.2) else (q2.1, q2.2)))) else (bnd (f_X9_demand σ (-1 : Int32)) (fun q1 => (if q1.1 = 0 then (0, q1.2) else (q1.1, q1.2)))))
abbrev rm_X9_demandPotato : Room := { frames := 7, cells := 1, slots := 6, locals := 120 }
set_option maxHeartbeats 4000000 in
set_option maxRecDepth 100000 in
theorem c_X9_demandPotato (l : Launch) (hfl : l.stackTraces = false) (G : GE) (hG : Gok G) (σ : St) (x1 : Int32) : XtV l G yX9_demandPotato cX9_demandPotato 2 rm_X9_demandPotato [.ref (G.2.1 0), .int x1] σ (f_X9_demandPotato σ x1) 1 6 := by
  generalize hf : f_X9_demandPotato σ x1 = fv
  rw [f_X9_demandPotato] at hf
  refine gx_start hG (by decide) (Nat.le_of_ble_eq_true rfl) ?_
  intro p e s m args below meth c X hr hlk hex ls hl H locs hP hS
  have X : Cx G p s m args c cX9_demandPotato 2 RX9 := X
  obtain ⟨hx, hb, hml, hown, hts, hK, hbs, hXW, -⟩ := id X
  have hl : lv_has ls 2 [(0, .ref (G.2.1 0)), (1, .int x1)] := hl
  refine lv_aload_n hx hb dX9_demandPotato_0 rfl (lv_at hl 0 rfl) ?_
  refine gg_9_1 X hP ab_0 kf_X9_20 dX9_demandPotato_1 ?_
  refine gg_6_0 (j := 3) rfl X hP ab_2 kf_X9_62 dX9_demandPotato_4 ?_
  refine lv_iload_n hx hb dX9_demandPotato_7 rfl (lv_at hl 1 rfl) ?_
  refine g_cZp (g_runV (i := 3) (As := [.int x1]) (rest := []) X (c_X2_hasPotato l G hG σ 3 ab_3 x1) ca_X2_hasPotato km_X9_404 rfl rfl ⟨Nat.le_of_ble_eq_true rfl, Nat.le_of_ble_eq_true rfl⟩ hP hS (ty_lt ab_3) (cell_2 ab_3) rfl rfl rfl hl.1 rfl (Nat.le_of_ble_eq_true rfl) ⟨Nat.le_of_ble_eq_true rfl, Nat.le_of_ble_eq_true rfl⟩ dX9_demandPotato_8) hS (fun H locs hP hS => ?_)
  refine g_ifeqZ (tgt := 18) X dX9_demandPotato_11 (by decide) (fun hc => ?_) (fun hc => ?_)
  · have hf := ite_z hc hf
    refine lv_iconst (v := -1) hx hb dX9_demandPotato_18 (by decide) ?_
    refine gx_cV (gx_runS (As := [.int (-1 : Int32)]) (rest := []) X (c_X9_demand l hfl G hG σ (-1 : Int32)) ca_X9_demand km_X9_54 rfl rfl ⟨Nat.le_of_ble_eq_true rfl, Nat.le_of_ble_eq_true rfl⟩ hP hS rfl hl.1 rfl (Nat.le_of_ble_eq_true rfl) ⟨Nat.le_of_ble_eq_true rfl, Nat.le_of_ble_eq_true rfl⟩ dX9_demandPotato_19) hS (fun q1 hq1 hc H locs hP hS ce q9 hce hcv hcl => ?_) (fun q1 hq1 hc H locs hP hS => ?_)
    · have hf := bnd_go hq1 hf
      have hf := ite_f hc hf
      exact gx_out hex hlk hP hS hce hcv hcl ⟨hc, hf⟩ (Nat.le_of_ble_eq_true rfl) (Nat.le_of_ble_eq_true rfl)
    · have hf := bnd_go hq1 hf
      have hf := ite_t hc hf
      exact gx_vret X hr hlk hP hS hf (Nat.le_of_ble_eq_true rfl) (Nat.le_of_ble_eq_true rfl) dX9_demandPotato_22
  · have hf := ite_t hc hf
    refine lv_iconst (v := 0) hx hb dX9_demandPotato_14 (by decide) ?_
    refine lv_goto (tgt := 19) hx hb dX9_demandPotato_15 (by decide) ?_
    refine gx_cV (gx_runS (As := [.int (0 : Int32)]) (rest := []) X (c_X9_demand l hfl G hG σ (0 : Int32)) ca_X9_demand km_X9_54 rfl rfl ⟨Nat.le_of_ble_eq_true rfl, Nat.le_of_ble_eq_true rfl⟩ hP hS rfl hl.1 rfl (Nat.le_of_ble_eq_true rfl) ⟨Nat.le_of_ble_eq_true rfl, Nat.le_of_ble_eq_true rfl⟩ dX9_demandPotato_19) hS (fun q2 hq2 hc H locs hP hS ce q9 hce hcv hcl => ?_) (fun q2 hq2 hc H locs hP hS => ?_)
    · have hf := bnd_go hq2 hf
      have hf := ite_f hc hf
      exact gx_out hex hlk hP hS hce hcv hcl ⟨hc, hf⟩ (Nat.le_of_ble_eq_true rfl) (Nat.le_of_ble_eq_true rfl)
    · have hf := bnd_go hq2 hf
      have hf := ite_t hc hf
      exact gx_vret X hr hlk hP hS hf (Nat.le_of_ble_eq_true rfl) (Nat.le_of_ble_eq_true rfl) dX9_demandPotato_22
def f_X9_demandWriting (σ : St) (x1 : Int32) (x2 : Int32) : Nat × St := (if (f_X2_hasCrayon σ 3 x1) = true then (bnd (f_X9_demand σ (0 : Int32)) (fun q4 => (if q4.1 = 0 then (if (f_X9_inRange x2 (1 : Int32) (40 : Int32)) = true then (bnd (f_X9_demand q4.2 (0 : Int32)) (fun q6 => (if q6.1 = 0 then (0, q6.2) else (q6.1, q6.2)))) else (bnd (f_X9_demand q4.2 (-2 : Int32)) (fun q5 => (if q5.1 = 0 then (0, q5.2) else (q5.1, q5.2))))) else (q4.1, q4.2)))) else (bnd (f_X9_demand σ (-1 : Int32)) (fun q1 => (if q1.1 = 0 then (if (f_X9_inRange x2 (1 : Int32) (40 : Int32)) = true then (bnd (f_X9_demand q1.2 (0 : Int32)) (fun q3 => (if q3.1 = 0 then (0, q3.2) else (q3.1, q3.2)))) else (bnd (f_X9_demand q1.2 (-2 : Int32)) (fun q2 => (if q2.1 = 0 then (0, q2.2) else (q2.1, q2.2))))) else (q1.1, q1.2)))))
abbrev rm_X9_demandWriting : Room := { frames := 7, cells := 2, slots := 12, locals := 120 }
set_option maxHeartbeats 4000000 in
set_option maxRecDepth 100000 in
theorem c_X9_demandWriting (l : Launch) (hfl : l.stackTraces = false) (G : GE) (hG : Gok G) (σ : St) (x1 : Int32) (x2 : Int32) : XtV l G yX9_demandWriting cX9_demandWriting 3 rm_X9_demandWriting [.ref (G.2.1 0), .int x1, .int x2] σ (f_X9_demandWriting σ x1 x2) 2 12 := by
  generalize hf : f_X9_demandWriting σ x1 x2 = fv
  rw [f_X9_demandWriting] at hf
  refine gx_start hG (by decide) (Nat.le_of_ble_eq_true rfl) ?_
  intro p e s m args below meth c X hr hlk hex ls hl H locs hP hS
  have X : Cx G p s m args c cX9_demandWriting 3 RX9 := X
  obtain ⟨hx, hb, hml, hown, hts, hK, hbs, hXW, -⟩ := id X
  have hl : lv_has ls 3 [(0, .ref (G.2.1 0)), (1, .int x1), (2, .int x2)] := hl
  refine lv_aload_n hx hb dX9_demandWriting_0 rfl (lv_at hl 0 rfl) ?_
  refine gg_9_1 X hP ab_0 kf_X9_20 dX9_demandWriting_1 ?_
  refine gg_6_0 (j := 3) rfl X hP ab_2 kf_X9_62 dX9_demandWriting_4 ?_
  refine lv_iload_n hx hb dX9_demandWriting_7 rfl (lv_at hl 1 rfl) ?_
  refine g_cZp (g_runV (i := 3) (As := [.int x1]) (rest := []) X (c_X2_hasCrayon l G hG σ 3 ab_3 x1) ca_X2_hasCrayon km_X9_73 rfl rfl ⟨Nat.le_of_ble_eq_true rfl, Nat.le_of_ble_eq_true rfl⟩ hP hS (ty_lt ab_3) (cell_2 ab_3) rfl rfl rfl hl.1 rfl (Nat.le_of_ble_eq_true rfl) ⟨Nat.le_of_ble_eq_true rfl, Nat.le_of_ble_eq_true rfl⟩ dX9_demandWriting_8) hS (fun H locs hP hS => ?_)
  refine g_ifeqZ (tgt := 18) X dX9_demandWriting_11 (by decide) (fun hc => ?_) (fun hc => ?_)
  · have hf := ite_z hc hf
    refine lv_iconst (v := -1) hx hb dX9_demandWriting_18 (by decide) ?_
    refine gx_cV (gx_runS (As := [.int (-1 : Int32)]) (rest := []) X (c_X9_demand l hfl G hG σ (-1 : Int32)) ca_X9_demand km_X9_54 rfl rfl ⟨Nat.le_of_ble_eq_true rfl, Nat.le_of_ble_eq_true rfl⟩ hP hS rfl hl.1 rfl (Nat.le_of_ble_eq_true rfl) ⟨Nat.le_of_ble_eq_true rfl, Nat.le_of_ble_eq_true rfl⟩ dX9_demandWriting_19) hS (fun q1 hq1 hc H locs hP hS ce q9 hce hcv hcl => ?_) (fun q1 hq1 hc H locs hP hS => ?_)
    · have hf := bnd_go hq1 hf
      have hf := ite_f hc hf
      exact gx_out hex hlk hP hS hce hcv hcl ⟨hc, hf⟩ (Nat.le_of_ble_eq_true rfl) (Nat.le_of_ble_eq_true rfl)
    · have hf := bnd_go hq1 hf
      have hf := ite_t hc hf
      refine lv_iload_n hx hb dX9_demandWriting_22 rfl (lv_at hl 2 rfl) ?_
      refine lv_iconst (v := 1) hx hb dX9_demandWriting_23 (by decide) ?_
      refine lv_bipush (v := 40) hx hb dX9_demandWriting_24 (by decide) ?_
      refine g_cZp (g_runS (As := [.int x2, .int (1 : Int32), .int (40 : Int32)]) (rest := []) X (c_X9_inRange l G hG q1.2 x2 (1 : Int32) (40 : Int32)) ca_X9_inRange km_X9_97 rfl rfl ⟨Nat.le_of_ble_eq_true rfl, Nat.le_of_ble_eq_true rfl⟩ hP hS rfl hl.1 rfl (Nat.le_of_ble_eq_true rfl) ⟨Nat.le_of_ble_eq_true rfl, Nat.le_of_ble_eq_true rfl⟩ dX9_demandWriting_26) hS (fun H locs hP hS => ?_)
      refine g_ifeqZ (tgt := 36) X dX9_demandWriting_29 (by decide) (fun hc => ?_) (fun hc => ?_)
      · have hf := ite_z hc hf
        refine lv_bipush (v := -2) hx hb dX9_demandWriting_36 (by decide) ?_
        refine gx_cV (gx_runS (As := [.int (-2 : Int32)]) (rest := []) X (c_X9_demand l hfl G hG q1.2 (-2 : Int32)) ca_X9_demand km_X9_54 rfl rfl ⟨Nat.le_of_ble_eq_true rfl, Nat.le_of_ble_eq_true rfl⟩ hP hS rfl hl.1 rfl (Nat.le_of_ble_eq_true rfl) ⟨Nat.le_of_ble_eq_true rfl, Nat.le_of_ble_eq_true rfl⟩ dX9_demandWriting_38) hS (fun q2 hq2 hc H locs hP hS ce q9 hce hcv hcl => ?_) (fun q2 hq2 hc H locs hP hS => ?_)
        · have hf := bnd_go hq2 hf
          have hf := ite_f hc hf
          exact gx_out hex hlk hP hS hce hcv hcl ⟨hc, hf⟩ (Nat.le_of_ble_eq_true rfl) (Nat.le_of_ble_eq_true rfl)
        · have hf := bnd_go hq2 hf
          have hf := ite_t hc hf
          exact gx_vret X hr hlk hP hS hf (Nat.le_of_ble_eq_true rfl) (Nat.le_of_ble_eq_true rfl) dX9_demandWriting_41
      · have hf := ite_t hc hf
        refine lv_iconst (v := 0) hx hb dX9_demandWriting_32 (by decide) ?_
        refine lv_goto (tgt := 38) hx hb dX9_demandWriting_33 (by decide) ?_
        refine gx_cV (gx_runS (As := [.int (0 : Int32)]) (rest := []) X (c_X9_demand l hfl G hG q1.2 (0 : Int32)) ca_X9_demand km_X9_54 rfl rfl ⟨Nat.le_of_ble_eq_true rfl, Nat.le_of_ble_eq_true rfl⟩ hP hS rfl hl.1 rfl (Nat.le_of_ble_eq_true rfl) ⟨Nat.le_of_ble_eq_true rfl, Nat.le_of_ble_eq_true rfl⟩ dX9_demandWriting_38) hS (fun q3 hq3 hc H locs hP hS ce q9 hce hcv hcl => ?_) (fun q3 hq3 hc H locs hP hS => ?_)
        · have hf := bnd_go hq3 hf
          have hf := ite_f hc hf
          exact gx_out hex hlk hP hS hce hcv hcl ⟨hc, hf⟩ (Nat.le_of_ble_eq_true rfl) (Nat.le_of_ble_eq_true rfl)
        · have hf := bnd_go hq3 hf
          have hf := ite_t hc hf
          exact gx_vret X hr hlk hP hS hf (Nat.le_of_ble_eq_true rfl) (Nat.le_of_ble_eq_true rfl) dX9_demandWriting_41
  · have hf := ite_t hc hf
    refine lv_iconst (v := 0) hx hb dX9_demandWriting_14 (by decide) ?_
    refine lv_goto (tgt := 19) hx hb dX9_demandWriting_15 (by decide) ?_
    refine gx_cV (gx_runS (As := [.int (0 : Int32)]) (rest := []) X (c_X9_demand l hfl G hG σ (0 : Int32)) ca_X9_demand km_X9_54 rfl rfl ⟨Nat.le_of_ble_eq_true rfl, Nat.le_of_ble_eq_true rfl⟩ hP hS rfl hl.1 rfl (Nat.le_of_ble_eq_true rfl) ⟨Nat.le_of_ble_eq_true rfl, Nat.le_of_ble_eq_true rfl⟩ dX9_demandWriting_19) hS (fun q4 hq4 hc H locs hP hS ce q9 hce hcv hcl => ?_) (fun q4 hq4 hc H locs hP hS => ?_)
    · have hf := bnd_go hq4 hf
      have hf := ite_f hc hf
      exact gx_out hex hlk hP hS hce hcv hcl ⟨hc, hf⟩ (Nat.le_of_ble_eq_true rfl) (Nat.le_of_ble_eq_true rfl)
    · have hf := bnd_go hq4 hf
      have hf := ite_t hc hf
      refine lv_iload_n hx hb dX9_demandWriting_22 rfl (lv_at hl 2 rfl) ?_
      refine lv_iconst (v := 1) hx hb dX9_demandWriting_23 (by decide) ?_
      refine lv_bipush (v := 40) hx hb dX9_demandWriting_24 (by decide) ?_
      refine g_cZp (g_runS (As := [.int x2, .int (1 : Int32), .int (40 : Int32)]) (rest := []) X (c_X9_inRange l G hG q4.2 x2 (1 : Int32) (40 : Int32)) ca_X9_inRange km_X9_97 rfl rfl ⟨Nat.le_of_ble_eq_true rfl, Nat.le_of_ble_eq_true rfl⟩ hP hS rfl hl.1 rfl (Nat.le_of_ble_eq_true rfl) ⟨Nat.le_of_ble_eq_true rfl, Nat.le_of_ble_eq_true rfl⟩ dX9_demandWriting_26) hS (fun H locs hP hS => ?_)
      refine g_ifeqZ (tgt := 36) X dX9_demandWriting_29 (by decide) (fun hc => ?_) (fun hc => ?_)
      · have hf := ite_z hc hf
        refine lv_bipush (v := -2) hx hb dX9_demandWriting_36 (by decide) ?_
        refine gx_cV (gx_runS (As := [.int (-2 : Int32)]) (rest := []) X (c_X9_demand l hfl G hG q4.2 (-2 : Int32)) ca_X9_demand km_X9_54 rfl rfl ⟨Nat.le_of_ble_eq_true rfl, Nat.le_of_ble_eq_true rfl⟩ hP hS rfl hl.1 rfl (Nat.le_of_ble_eq_true rfl) ⟨Nat.le_of_ble_eq_true rfl, Nat.le_of_ble_eq_true rfl⟩ dX9_demandWriting_38) hS (fun q5 hq5 hc H locs hP hS ce q9 hce hcv hcl => ?_) (fun q5 hq5 hc H locs hP hS => ?_)
        · have hf := bnd_go hq5 hf
          have hf := ite_f hc hf
          exact gx_out hex hlk hP hS hce hcv hcl ⟨hc, hf⟩ (Nat.le_of_ble_eq_true rfl) (Nat.le_of_ble_eq_true rfl)
        · have hf := bnd_go hq5 hf
          have hf := ite_t hc hf
          exact gx_vret X hr hlk hP hS hf (Nat.le_of_ble_eq_true rfl) (Nat.le_of_ble_eq_true rfl) dX9_demandWriting_41
      · have hf := ite_t hc hf
        refine lv_iconst (v := 0) hx hb dX9_demandWriting_32 (by decide) ?_
        refine lv_goto (tgt := 38) hx hb dX9_demandWriting_33 (by decide) ?_
        refine gx_cV (gx_runS (As := [.int (0 : Int32)]) (rest := []) X (c_X9_demand l hfl G hG q4.2 (0 : Int32)) ca_X9_demand km_X9_54 rfl rfl ⟨Nat.le_of_ble_eq_true rfl, Nat.le_of_ble_eq_true rfl⟩ hP hS rfl hl.1 rfl (Nat.le_of_ble_eq_true rfl) ⟨Nat.le_of_ble_eq_true rfl, Nat.le_of_ble_eq_true rfl⟩ dX9_demandWriting_38) hS (fun q6 hq6 hc H locs hP hS ce q9 hce hcv hcl => ?_) (fun q6 hq6 hc H locs hP hS => ?_)
        · have hf := bnd_go hq6 hf
          have hf := ite_f hc hf
          exact gx_out hex hlk hP hS hce hcv hcl ⟨hc, hf⟩ (Nat.le_of_ble_eq_true rfl) (Nat.le_of_ble_eq_true rfl)
        · have hf := bnd_go hq6 hf
          have hf := ite_t hc hf
          exact gx_vret X hr hlk hP hS hf (Nat.le_of_ble_eq_true rfl) (Nat.le_of_ble_eq_true rfl) dX9_demandWriting_41
