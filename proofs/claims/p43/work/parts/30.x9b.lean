def f_X9_shelve (σ : St) (x1 : Int32) (x2 : Int32) : Nat × St × Int32 := (bnd (f_X1_mayShelve σ x1 x2) (fun q2 => (bnd (f_X9_demand q2.1 q2.2) (fun q3 => (if q3.1 = 0 then (bnd (f_X4_remember q3.2 2) (fun q5 => (bnd (f_X6_shelveItem q5 2 x1 x2) (fun q7 => (0, q7.1, q7.2))))) else (q3.1, q3.2, 0))))))
def ok_X9_shelve (σ : St) (x1 : Int32) (x2 : Int32) : Prop := (ok_X1_mayShelve σ x1 x2 ∧ (bndP (f_X1_mayShelve σ x1 x2) (fun q2 => (bndP (f_X9_demand q2.1 q2.2) (fun q3 => q3.1 = 0 → (ok_X4_remember q3.2 2 ∧ (bndP (f_X4_remember q3.2 2) (fun q5 => ok_X6_shelveItem q5 2 x1 x2))))))))
abbrev rm_X9_shelve : Room := { frames := 7, cells := 1, slots := 6, locals := 123 }
set_option maxHeartbeats 4000000 in
set_option maxRecDepth 100000 in
theorem c_X9_shelve (l : Launch) (hfl : l.stackTraces = false) (G : GE) (hG : Gok G) (σ : St) (x1 : Int32) (x2 : Int32) (hok : ok_X9_shelve σ x1 x2) : XtI l G yX9_shelve cX9_shelve 3 rm_X9_shelve [.ref (G.2.1 0), .int x1, .int x2] σ (f_X9_shelve σ x1 x2) 1 6 := by
  generalize hf : f_X9_shelve σ x1 x2 = fv
  rw [f_X9_shelve] at hf
  rw [ok_X9_shelve] at hok
  refine gx_start hG (by decide) (Nat.le_of_ble_eq_true rfl) ?_
  intro p e s m args below meth c X hr hlk hex ls hl H locs hP hS
  have X : Cx G p s m args c cX9_shelve 3 RX9 := X
  obtain ⟨hx, hb, hml, hown, hts, hK, hbs, hXW, -⟩ := id X
  have hl : lv_has ls 3 [(0, .ref (G.2.1 0)), (1, .int x1), (2, .int x2)] := hl
  refine lv_aload_n hx hb dX9_shelve_0 rfl (lv_at hl 0 rfl) ?_
  refine gg_9_0 X hP ab_0 kf_X9_10 dX9_shelve_1 ?_
  refine lv_iload_n hx hb dX9_shelve_4 rfl (lv_at hl 1 rfl) ?_
  refine lv_iload_n hx hb dX9_shelve_5 rfl (lv_at hl 2 rfl) ?_
  have hs1 := hok.1
  have hok := hok.2
  refine g_cI (g_runV (i := 1) (As := [.int x1, .int x2]) (rest := []) X (c_X1_mayShelve l G hG σ x1 x2 hs1) ca_X1_mayShelve km_X9_201 rfl rfl ⟨Nat.le_of_ble_eq_true rfl, Nat.le_of_ble_eq_true rfl⟩ hP hS (ty_lt ab_1) (cell_1 ab_1) rfl rfl rfl hl.1 rfl (Nat.le_of_ble_eq_true rfl) ⟨Nat.le_of_ble_eq_true rfl, Nat.le_of_ble_eq_true rfl⟩ dX9_shelve_6) hS (fun q2 hq2 H locs hP hS => ?_)
  have hf := bnd_go hq2 hf
  have hok := bnd_goP hq2 hok
  refine gx_cV (gx_runS (As := [.int q2.2]) (rest := []) X (c_X9_demand l hfl G hG q2.1 q2.2) ca_X9_demand km_X9_54 rfl rfl ⟨Nat.le_of_ble_eq_true rfl, Nat.le_of_ble_eq_true rfl⟩ hP hS rfl hl.1 rfl (Nat.le_of_ble_eq_true rfl) ⟨Nat.le_of_ble_eq_true rfl, Nat.le_of_ble_eq_true rfl⟩ dX9_shelve_9) hS (fun q3 hq3 hc H locs hP hS ce q9 hce hcv hcl => ?_) (fun q3 hq3 hc H locs hP hS => ?_)
  · have hf := bnd_go hq3 hf
    have hf := ite_f hc hf
    exact gx_out hex hlk hP hS hce hcv hcl ⟨hc, hf⟩ (Nat.le_of_ble_eq_true rfl) (Nat.le_of_ble_eq_true rfl)
  · have hf := bnd_go hq3 hf
    have hf := ite_t hc hf
    have hok := bnd_goP hq3 hok hc
    refine lv_aload_n hx hb dX9_shelve_12 rfl (lv_at hl 0 rfl) ?_
    refine gg_9_4 X hP ab_0 kf_X9_35 dX9_shelve_13 ?_
    refine lv_aload_n hx hb dX9_shelve_16 rfl (lv_at hl 0 rfl) ?_
    refine gg_9_1 X hP ab_0 kf_X9_20 dX9_shelve_17 ?_
    have hs4 := hok.1
    have hok := hok.2
    refine g_cV (g_runV (i := 189) (As := [.ref (G.2.1 2)]) (rest := []) X (c_X4_remember l G hG q3.2 2 ab_2 hs4) ca_X4_remember km_X9_58 rfl rfl ⟨Nat.le_of_ble_eq_true rfl, Nat.le_of_ble_eq_true rfl⟩ hP hS (ty_lt ab_189) (cell_4 ab_189) rfl rfl rfl hl.1 rfl (Nat.le_of_ble_eq_true rfl) ⟨Nat.le_of_ble_eq_true rfl, Nat.le_of_ble_eq_true rfl⟩ dX9_shelve_20) hS (fun q5 hq5 H locs hP hS => ?_)
    have hf := bnd_go hq5 hf
    have hok := bnd_goP hq5 hok
    refine lv_aload_n hx hb dX9_shelve_23 rfl (lv_at hl 0 rfl) ?_
    refine gg_9_1 X hP ab_0 kf_X9_20 dX9_shelve_24 ?_
    refine lv_iload_n hx hb dX9_shelve_27 rfl (lv_at hl 1 rfl) ?_
    refine lv_iload_n hx hb dX9_shelve_28 rfl (lv_at hl 2 rfl) ?_
    have hs6 := hok
    refine g_cI (g_runV (i := 2) (As := [.int x1, .int x2]) (rest := []) X (c_X6_shelveItem l G hG q5 2 ab_2 x1 x2 hs6) ca_X6_shelveItem km_X9_204 rfl rfl ⟨Nat.le_of_ble_eq_true rfl, Nat.le_of_ble_eq_true rfl⟩ hP hS (ty_lt ab_2) (cell_6 ab_2) rfl rfl rfl hl.1 rfl (Nat.le_of_ble_eq_true rfl) ⟨Nat.le_of_ble_eq_true rfl, Nat.le_of_ble_eq_true rfl⟩ dX9_shelve_29) hS (fun q7 hq7 H locs hP hS => ?_)
    have hf := bnd_go hq7 hf
    exact gx_iret X hr hlk hP hS hf (Nat.le_of_ble_eq_true rfl) (Nat.le_of_ble_eq_true rfl) dX9_shelve_32
def f_X9_take (σ : St) (x1 : Int32) : Nat × St × Int32 := (bnd (f_X1_mayTake σ x1) (fun q2 => (bnd (f_X9_demand q2.1 q2.2) (fun q3 => (if q3.1 = 0 then (bnd (f_X4_remember q3.2 2) (fun q5 => (bnd (f_X6_takeAll q5 2 x1) (fun q7 => (0, q7.1, q7.2))))) else (q3.1, q3.2, 0))))))
def ok_X9_take (σ : St) (x1 : Int32) : Prop := (ok_X1_mayTake σ x1 ∧ (bndP (f_X1_mayTake σ x1) (fun q2 => (bndP (f_X9_demand q2.1 q2.2) (fun q3 => q3.1 = 0 → (ok_X4_remember q3.2 2 ∧ (bndP (f_X4_remember q3.2 2) (fun q5 => ok_X6_takeAll q5 2 x1))))))))
abbrev rm_X9_take : Room := { frames := 7, cells := 1, slots := 6, locals := 123 }
set_option maxHeartbeats 4000000 in
set_option maxRecDepth 100000 in
theorem c_X9_take (l : Launch) (hfl : l.stackTraces = false) (G : GE) (hG : Gok G) (σ : St) (x1 : Int32) (hok : ok_X9_take σ x1) : XtI l G yX9_take cX9_take 2 rm_X9_take [.ref (G.2.1 0), .int x1] σ (f_X9_take σ x1) 1 6 := by
  generalize hf : f_X9_take σ x1 = fv
  rw [f_X9_take] at hf
  rw [ok_X9_take] at hok
  refine gx_start hG (by decide) (Nat.le_of_ble_eq_true rfl) ?_
  intro p e s m args below meth c X hr hlk hex ls hl H locs hP hS
  have X : Cx G p s m args c cX9_take 2 RX9 := X
  obtain ⟨hx, hb, hml, hown, hts, hK, hbs, hXW, -⟩ := id X
  have hl : lv_has ls 2 [(0, .ref (G.2.1 0)), (1, .int x1)] := hl
  refine lv_aload_n hx hb dX9_take_0 rfl (lv_at hl 0 rfl) ?_
  refine gg_9_0 X hP ab_0 kf_X9_10 dX9_take_1 ?_
  refine lv_iload_n hx hb dX9_take_4 rfl (lv_at hl 1 rfl) ?_
  have hs1 := hok.1
  have hok := hok.2
  refine g_cI (g_runV (i := 1) (As := [.int x1]) (rest := []) X (c_X1_mayTake l G hG σ x1 hs1) ca_X1_mayTake km_X9_207 rfl rfl ⟨Nat.le_of_ble_eq_true rfl, Nat.le_of_ble_eq_true rfl⟩ hP hS (ty_lt ab_1) (cell_1 ab_1) rfl rfl rfl hl.1 rfl (Nat.le_of_ble_eq_true rfl) ⟨Nat.le_of_ble_eq_true rfl, Nat.le_of_ble_eq_true rfl⟩ dX9_take_5) hS (fun q2 hq2 H locs hP hS => ?_)
  have hf := bnd_go hq2 hf
  have hok := bnd_goP hq2 hok
  refine gx_cV (gx_runS (As := [.int q2.2]) (rest := []) X (c_X9_demand l hfl G hG q2.1 q2.2) ca_X9_demand km_X9_54 rfl rfl ⟨Nat.le_of_ble_eq_true rfl, Nat.le_of_ble_eq_true rfl⟩ hP hS rfl hl.1 rfl (Nat.le_of_ble_eq_true rfl) ⟨Nat.le_of_ble_eq_true rfl, Nat.le_of_ble_eq_true rfl⟩ dX9_take_8) hS (fun q3 hq3 hc H locs hP hS ce q9 hce hcv hcl => ?_) (fun q3 hq3 hc H locs hP hS => ?_)
  · have hf := bnd_go hq3 hf
    have hf := ite_f hc hf
    exact gx_out hex hlk hP hS hce hcv hcl ⟨hc, hf⟩ (Nat.le_of_ble_eq_true rfl) (Nat.le_of_ble_eq_true rfl)
  · have hf := bnd_go hq3 hf
    have hf := ite_t hc hf
    have hok := bnd_goP hq3 hok hc
    refine lv_aload_n hx hb dX9_take_11 rfl (lv_at hl 0 rfl) ?_
    refine gg_9_4 X hP ab_0 kf_X9_35 dX9_take_12 ?_
    refine lv_aload_n hx hb dX9_take_15 rfl (lv_at hl 0 rfl) ?_
    refine gg_9_1 X hP ab_0 kf_X9_20 dX9_take_16 ?_
    have hs4 := hok.1
    have hok := hok.2
    refine g_cV (g_runV (i := 189) (As := [.ref (G.2.1 2)]) (rest := []) X (c_X4_remember l G hG q3.2 2 ab_2 hs4) ca_X4_remember km_X9_58 rfl rfl ⟨Nat.le_of_ble_eq_true rfl, Nat.le_of_ble_eq_true rfl⟩ hP hS (ty_lt ab_189) (cell_4 ab_189) rfl rfl rfl hl.1 rfl (Nat.le_of_ble_eq_true rfl) ⟨Nat.le_of_ble_eq_true rfl, Nat.le_of_ble_eq_true rfl⟩ dX9_take_19) hS (fun q5 hq5 H locs hP hS => ?_)
    have hf := bnd_go hq5 hf
    have hok := bnd_goP hq5 hok
    refine lv_aload_n hx hb dX9_take_22 rfl (lv_at hl 0 rfl) ?_
    refine gg_9_1 X hP ab_0 kf_X9_20 dX9_take_23 ?_
    refine lv_iload_n hx hb dX9_take_26 rfl (lv_at hl 1 rfl) ?_
    have hs6 := hok
    refine g_cI (g_runV (i := 2) (As := [.int x1]) (rest := []) X (c_X6_takeAll l G hG q5 2 ab_2 x1 hs6) ca_X6_takeAll km_X9_210 rfl rfl ⟨Nat.le_of_ble_eq_true rfl, Nat.le_of_ble_eq_true rfl⟩ hP hS (ty_lt ab_2) (cell_6 ab_2) rfl rfl rfl hl.1 rfl (Nat.le_of_ble_eq_true rfl) ⟨Nat.le_of_ble_eq_true rfl, Nat.le_of_ble_eq_true rfl⟩ dX9_take_27) hS (fun q7 hq7 H locs hP hS => ?_)
    have hf := bnd_go hq7 hf
    exact gx_iret X hr hlk hP hS hf (Nat.le_of_ble_eq_true rfl) (Nat.le_of_ble_eq_true rfl) dX9_take_30
def f_X9_inHole (σ : St) (x1 : Int32) (x2 : Int32) (x3 : Int32) : Nat × St × Int32 := (if (f_X8_isHole x1 x2 x3) = true then (bnd (f_X9_demand σ (0 : Int32)) (fun q5 => (if q5.1 = 0 then (if (f_X8_itemAt q5.2 15 x1 x2 x3) = (-1 : Int32) then (bnd (f_X9_demandFound q5.2 false) (fun q7 => (if q7.1 = 0 then (0, q7.2, (f_X8_itemAt q5.2 15 x1 x2 x3)) else (q7.1, q7.2, 0)))) else (bnd (f_X9_demandFound q5.2 true) (fun q8 => (if q8.1 = 0 then (0, q8.2, (f_X8_itemAt q5.2 15 x1 x2 x3)) else (q8.1, q8.2, 0))))) else (q5.1, q5.2, 0)))) else (bnd (f_X9_demand σ (-1 : Int32)) (fun q1 => (if q1.1 = 0 then (if (f_X8_itemAt q1.2 15 x1 x2 x3) = (-1 : Int32) then (bnd (f_X9_demandFound q1.2 false) (fun q3 => (if q3.1 = 0 then (0, q3.2, (f_X8_itemAt q1.2 15 x1 x2 x3)) else (q3.1, q3.2, 0)))) else (bnd (f_X9_demandFound q1.2 true) (fun q4 => (if q4.1 = 0 then (0, q4.2, (f_X8_itemAt q1.2 15 x1 x2 x3)) else (q4.1, q4.2, 0))))) else (q1.1, q1.2, 0)))))
def ok_X9_inHole (σ : St) (x1 : Int32) (x2 : Int32) (x3 : Int32) : Prop := (((f_X8_isHole x1 x2 x3) = true → (bndP (f_X9_demand σ (0 : Int32)) (fun q5 => q5.1 = 0 → ok_X8_itemAt q5.2 15 x1 x2 x3))) ∧ ((f_X8_isHole x1 x2 x3) = false → (bndP (f_X9_demand σ (-1 : Int32)) (fun q1 => q1.1 = 0 → ok_X8_itemAt q1.2 15 x1 x2 x3))))
abbrev rm_X9_inHole : Room := { frames := 7, cells := 2, slots := 12, locals := 120 }
set_option maxHeartbeats 4000000 in
set_option maxRecDepth 100000 in
theorem c_X9_inHole (l : Launch) (hfl : l.stackTraces = false) (G : GE) (hG : Gok G) (σ : St) (x1 : Int32) (x2 : Int32) (x3 : Int32) (hok : ok_X9_inHole σ x1 x2 x3) : XtI l G yX9_inHole cX9_inHole 5 rm_X9_inHole [.ref (G.2.1 0), .int x1, .int x2, .int x3] σ (f_X9_inHole σ x1 x2 x3) 2 12 := by
  generalize hf : f_X9_inHole σ x1 x2 x3 = fv
  rw [f_X9_inHole] at hf
  rw [ok_X9_inHole] at hok
  refine gx_start hG (by decide) (Nat.le_of_ble_eq_true rfl) ?_
  intro p e s m args below meth c X hr hlk hex ls hl H locs hP hS
  have X : Cx G p s m args c cX9_inHole 5 RX9 := X
  obtain ⟨hx, hb, hml, hown, hts, hK, hbs, hXW, -⟩ := id X
  have hl : lv_has ls 5 [(0, .ref (G.2.1 0)), (1, .int x1), (2, .int x2), (3, .int x3)] := hl
  refine lv_iload_n hx hb dX9_inHole_0 rfl (lv_at hl 1 rfl) ?_
  refine lv_iload_n hx hb dX9_inHole_1 rfl (lv_at hl 2 rfl) ?_
  refine lv_iload_n hx hb dX9_inHole_2 rfl (lv_at hl 3 rfl) ?_
  refine g_cZp (g_runS (As := [.int x1, .int x2, .int x3]) (rest := []) X (c_X8_isHole l G hG σ x1 x2 x3) ca_X8_isHole km_X9_213 rfl rfl ⟨Nat.le_of_ble_eq_true rfl, Nat.le_of_ble_eq_true rfl⟩ hP hS rfl hl.1 rfl (Nat.le_of_ble_eq_true rfl) ⟨Nat.le_of_ble_eq_true rfl, Nat.le_of_ble_eq_true rfl⟩ dX9_inHole_3) hS (fun H locs hP hS => ?_)
  refine g_ifeqZ (tgt := 13) X dX9_inHole_6 (by decide) (fun hc => ?_) (fun hc => ?_)
  · have hf := ite_z hc hf
    have hok := hok.2 hc
    refine lv_iconst (v := -1) hx hb dX9_inHole_13 (by decide) ?_
    refine gx_cV (gx_runS (As := [.int (-1 : Int32)]) (rest := []) X (c_X9_demand l hfl G hG σ (-1 : Int32)) ca_X9_demand km_X9_54 rfl rfl ⟨Nat.le_of_ble_eq_true rfl, Nat.le_of_ble_eq_true rfl⟩ hP hS rfl hl.1 rfl (Nat.le_of_ble_eq_true rfl) ⟨Nat.le_of_ble_eq_true rfl, Nat.le_of_ble_eq_true rfl⟩ dX9_inHole_14) hS (fun q1 hq1 hc H locs hP hS ce q9 hce hcv hcl => ?_) (fun q1 hq1 hc H locs hP hS => ?_)
    · have hf := bnd_go hq1 hf
      have hf := ite_f hc hf
      exact gx_out hex hlk hP hS hce hcv hcl ⟨hc, hf⟩ (Nat.le_of_ble_eq_true rfl) (Nat.le_of_ble_eq_true rfl)
    · have hf := bnd_go hq1 hf
      have hf := ite_t hc hf
      have hok := bnd_goP hq1 hok hc
      refine lv_aload_n hx hb dX9_inHole_17 rfl (lv_at hl 0 rfl) ?_
      refine gg_9_1 X hP ab_0 kf_X9_20 dX9_inHole_18 ?_
      refine gg_6_2 (j := 15) rfl X hP ab_2 kf_X9_218 dX9_inHole_21 ?_
      refine lv_iload_n hx hb dX9_inHole_24 rfl (lv_at hl 1 rfl) ?_
      refine lv_iload_n hx hb dX9_inHole_25 rfl (lv_at hl 2 rfl) ?_
      refine lv_iload_n hx hb dX9_inHole_26 rfl (lv_at hl 3 rfl) ?_
      have hs2 := hok
      refine g_cIp (g_runV (i := 15) (As := [.int x1, .int x2, .int x3]) (rest := []) X (c_X8_itemAt l G hG q1.2 15 ab_15 x1 x2 x3 hs2) ca_X8_itemAt km_X9_222 rfl rfl ⟨Nat.le_of_ble_eq_true rfl, Nat.le_of_ble_eq_true rfl⟩ hP hS (ty_lt ab_15) (cell_8 ab_15) rfl rfl rfl hl.1 rfl (Nat.le_of_ble_eq_true rfl) ⟨Nat.le_of_ble_eq_true rfl, Nat.le_of_ble_eq_true rfl⟩ dX9_inHole_27) hS (fun H locs hP hS => ?_)
      refine lv_istore (lv' := [(4, .int (f_X8_itemAt q1.2 15 x1 x2 x3)), (0, .ref (G.2.1 0)), (1, .int x1), (2, .int x2), (3, .int x3)]) hx hb dX9_inHole_30 hl (by decide) rfl (fun ls hl => ?_)
      refine lv_iload hx hb dX9_inHole_32 (lv_at hl 0 rfl) ?_
      refine lv_iconst (v := -1) hx hb dX9_inHole_34 (by decide) ?_
      refine lv_icmp_eq (tgt := 42) hx hb dX9_inHole_35 (by decide) (fun hc => ?_) (fun hc => ?_)
      · have hf := ite_t hc hf
        refine lv_iconst (v := 0) hx hb dX9_inHole_42 (by decide) ?_
        refine gx_cV (gx_runS (As := [.int (bI false)]) (rest := []) X (c_X9_demandFound l hfl G hG q1.2 false) ca_X9_demandFound km_X9_115 rfl rfl ⟨Nat.le_of_ble_eq_true rfl, Nat.le_of_ble_eq_true rfl⟩ hP hS rfl hl.1 rfl (Nat.le_of_ble_eq_true rfl) ⟨Nat.le_of_ble_eq_true rfl, Nat.le_of_ble_eq_true rfl⟩ dX9_inHole_43) hS (fun q3 hq3 hc H locs hP hS ce q9 hce hcv hcl => ?_) (fun q3 hq3 hc H locs hP hS => ?_)
        · have hf := bnd_go hq3 hf
          have hf := ite_f hc hf
          exact gx_out hex hlk hP hS hce hcv hcl ⟨hc, hf⟩ (Nat.le_of_ble_eq_true rfl) (Nat.le_of_ble_eq_true rfl)
        · have hf := bnd_go hq3 hf
          have hf := ite_t hc hf
          refine lv_iload hx hb dX9_inHole_46 (lv_at hl 0 rfl) ?_
          exact gx_iret X hr hlk hP hS hf (Nat.le_of_ble_eq_true rfl) (Nat.le_of_ble_eq_true rfl) dX9_inHole_48
      · have hf := ite_f hc hf
        refine lv_iconst (v := 1) hx hb dX9_inHole_38 (by decide) ?_
        refine lv_goto (tgt := 43) hx hb dX9_inHole_39 (by decide) ?_
        refine gx_cV (gx_runS (As := [.int (bI true)]) (rest := []) X (c_X9_demandFound l hfl G hG q1.2 true) ca_X9_demandFound km_X9_115 rfl rfl ⟨Nat.le_of_ble_eq_true rfl, Nat.le_of_ble_eq_true rfl⟩ hP hS rfl hl.1 rfl (Nat.le_of_ble_eq_true rfl) ⟨Nat.le_of_ble_eq_true rfl, Nat.le_of_ble_eq_true rfl⟩ dX9_inHole_43) hS (fun q4 hq4 hc H locs hP hS ce q9 hce hcv hcl => ?_) (fun q4 hq4 hc H locs hP hS => ?_)
        · have hf := bnd_go hq4 hf
          have hf := ite_f hc hf
          exact gx_out hex hlk hP hS hce hcv hcl ⟨hc, hf⟩ (Nat.le_of_ble_eq_true rfl) (Nat.le_of_ble_eq_true rfl)
        · have hf := bnd_go hq4 hf
          have hf := ite_t hc hf
          refine lv_iload hx hb dX9_inHole_46 (lv_at hl 0 rfl) ?_
          exact gx_iret X hr hlk hP hS hf (Nat.le_of_ble_eq_true rfl) (Nat.le_of_ble_eq_true rfl) dX9_inHole_48
  · have hf := ite_t hc hf
    have hok := hok.1 hc
    refine lv_iconst (v := 0) hx hb dX9_inHole_9 (by decide) ?_
    refine lv_goto (tgt := 14) hx hb dX9_inHole_10 (by decide) ?_
    refine gx_cV (gx_runS (As := [.int (0 : Int32)]) (rest := []) X (c_X9_demand l hfl G hG σ (0 : Int32)) ca_X9_demand km_X9_54 rfl rfl ⟨Nat.le_of_ble_eq_true rfl, Nat.le_of_ble_eq_true rfl⟩ hP hS rfl hl.1 rfl (Nat.le_of_ble_eq_true rfl) ⟨Nat.le_of_ble_eq_true rfl, Nat.le_of_ble_eq_true rfl⟩ dX9_inHole_14) hS (fun q5 hq5 hc H locs hP hS ce q9 hce hcv hcl => ?_) (fun q5 hq5 hc H locs hP hS => ?_)
    · have hf := bnd_go hq5 hf
      have hf := ite_f hc hf
      exact gx_out hex hlk hP hS hce hcv hcl ⟨hc, hf⟩ (Nat.le_of_ble_eq_true rfl) (Nat.le_of_ble_eq_true rfl)
    · have hf := bnd_go hq5 hf
      have hf := ite_t hc hf
      have hok := bnd_goP hq5 hok hc
      refine lv_aload_n hx hb dX9_inHole_17 rfl (lv_at hl 0 rfl) ?_
      refine gg_9_1 X hP ab_0 kf_X9_20 dX9_inHole_18 ?_
      refine gg_6_2 (j := 15) rfl X hP ab_2 kf_X9_218 dX9_inHole_21 ?_
      refine lv_iload_n hx hb dX9_inHole_24 rfl (lv_at hl 1 rfl) ?_
      refine lv_iload_n hx hb dX9_inHole_25 rfl (lv_at hl 2 rfl) ?_
      refine lv_iload_n hx hb dX9_inHole_26 rfl (lv_at hl 3 rfl) ?_
      have hs6 := hok
      refine g_cIp (g_runV (i := 15) (As := [.int x1, .int x2, .int x3]) (rest := []) X (c_X8_itemAt l G hG q5.2 15 ab_15 x1 x2 x3 hs6) ca_X8_itemAt km_X9_222 rfl rfl ⟨Nat.le_of_ble_eq_true rfl, Nat.le_of_ble_eq_true rfl⟩ hP hS (ty_lt ab_15) (cell_8 ab_15) rfl rfl rfl hl.1 rfl (Nat.le_of_ble_eq_true rfl) ⟨Nat.le_of_ble_eq_true rfl, Nat.le_of_ble_eq_true rfl⟩ dX9_inHole_27) hS (fun H locs hP hS => ?_)
      refine lv_istore (lv' := [(4, .int (f_X8_itemAt q5.2 15 x1 x2 x3)), (0, .ref (G.2.1 0)), (1, .int x1), (2, .int x2), (3, .int x3)]) hx hb dX9_inHole_30 hl (by decide) rfl (fun ls hl => ?_)
      refine lv_iload hx hb dX9_inHole_32 (lv_at hl 0 rfl) ?_
      refine lv_iconst (v := -1) hx hb dX9_inHole_34 (by decide) ?_
      refine lv_icmp_eq (tgt := 42) hx hb dX9_inHole_35 (by decide) (fun hc => ?_) (fun hc => ?_)
      · have hf := ite_t hc hf
        refine lv_iconst (v := 0) hx hb dX9_inHole_42 (by decide) ?_
        refine gx_cV (gx_runS (As := [.int (bI false)]) (rest := []) X (c_X9_demandFound l hfl G hG q5.2 false) ca_X9_demandFound km_X9_115 rfl rfl ⟨Nat.le_of_ble_eq_true rfl, Nat.le_of_ble_eq_true rfl⟩ hP hS rfl hl.1 rfl (Nat.le_of_ble_eq_true rfl) ⟨Nat.le_of_ble_eq_true rfl, Nat.le_of_ble_eq_true rfl⟩ dX9_inHole_43) hS (fun q7 hq7 hc H locs hP hS ce q9 hce hcv hcl => ?_) (fun q7 hq7 hc H locs hP hS => ?_)
        · have hf := bnd_go hq7 hf
          have hf := ite_f hc hf
          exact gx_out hex hlk hP hS hce hcv hcl ⟨hc, hf⟩ (Nat.le_of_ble_eq_true rfl) (Nat.le_of_ble_eq_true rfl)
        · have hf := bnd_go hq7 hf
          have hf := ite_t hc hf
          refine lv_iload hx hb dX9_inHole_46 (lv_at hl 0 rfl) ?_
          exact gx_iret X hr hlk hP hS hf (Nat.le_of_ble_eq_true rfl) (Nat.le_of_ble_eq_true rfl) dX9_inHole_48
      · have hf := ite_f hc hf
        refine lv_iconst (v := 1) hx hb dX9_inHole_38 (by decide) ?_
        refine lv_goto (tgt := 43) hx hb dX9_inHole_39 (by decide) ?_
        refine gx_cV (gx_runS (As := [.int (bI true)]) (rest := []) X (c_X9_demandFound l hfl G hG q5.2 true) ca_X9_demandFound km_X9_115 rfl rfl ⟨Nat.le_of_ble_eq_true rfl, Nat.le_of_ble_eq_true rfl⟩ hP hS rfl hl.1 rfl (Nat.le_of_ble_eq_true rfl) ⟨Nat.le_of_ble_eq_true rfl, Nat.le_of_ble_eq_true rfl⟩ dX9_inHole_43) hS (fun q8 hq8 hc H locs hP hS ce q9 hce hcv hcl => ?_) (fun q8 hq8 hc H locs hP hS => ?_)
        · have hf := bnd_go hq8 hf
          have hf := ite_f hc hf
          exact gx_out hex hlk hP hS hce hcv hcl ⟨hc, hf⟩ (Nat.le_of_ble_eq_true rfl) (Nat.le_of_ble_eq_true rfl)
        · have hf := bnd_go hq8 hf
          have hf := ite_t hc hf
          refine lv_iload hx hb dX9_inHole_46 (lv_at hl 0 rfl) ?_
          exact gx_iret X hr hlk hP hS hf (Nat.le_of_ble_eq_true rfl) (Nat.le_of_ble_eq_true rfl) dX9_inHole_48
def f_X9_read (σ : St) (x1 : Int32) : Nat × St × Int32 := (if (f_X9_isChild x1) = true then (bnd (f_X9_demand σ (0 : Int32)) (fun q3 => (if q3.1 = 0 then (0, q3.2, (q3.2.1 17 x1.toNatClampNeg)) else (q3.1, q3.2, 0)))) else (bnd (f_X9_demand σ (-1 : Int32)) (fun q1 => (if q1.1 = 0 then (0, q1.2, (q1.2.1 17 x1.toNatClampNeg)) else (q1.1, q1.2, 0)))))
def ok_X9_read (σ : St) (x1 : Int32) : Prop := (((f_X9_isChild x1) = true → (bndP (f_X9_demand σ (0 : Int32)) (fun q3 => q3.1 = 0 → vp_in x1 6))) ∧ ((f_X9_isChild x1) = false → (bndP (f_X9_demand σ (-1 : Int32)) (fun q1 => q1.1 = 0 → vp_in x1 6))))
abbrev rm_X9_read : Room := { frames := 7, cells := 1, slots := 6, locals := 120 }
set_option maxHeartbeats 4000000 in
set_option maxRecDepth 100000 in
theorem c_X9_read (l : Launch) (hfl : l.stackTraces = false) (G : GE) (hG : Gok G) (σ : St) (x1 : Int32) (hok : ok_X9_read σ x1) : XtI l G yX9_read cX9_read 2 rm_X9_read [.ref (G.2.1 0), .int x1] σ (f_X9_read σ x1) 1 6 := by
  generalize hf : f_X9_read σ x1 = fv
  rw [f_X9_read] at hf
  rw [ok_X9_read] at hok
  refine gx_start hG (by decide) (Nat.le_of_ble_eq_true rfl) ?_
  intro p e s m args below meth c X hr hlk hex ls hl H locs hP hS
  have X : Cx G p s m args c cX9_read 2 RX9 := X
  obtain ⟨hx, hb, hml, hown, hts, hK, hbs, hXW, -⟩ := id X
  have hl : lv_has ls 2 [(0, .ref (G.2.1 0)), (1, .int x1)] := hl
  refine lv_iload_n hx hb dX9_read_0 rfl (lv_at hl 1 rfl) ?_
  refine g_cZp (g_runS (As := [.int x1]) (rest := []) X (c_X9_isChild l G hG σ x1) ca_X9_isChild km_X9_226 rfl rfl ⟨Nat.le_of_ble_eq_true rfl, Nat.le_of_ble_eq_true rfl⟩ hP hS rfl hl.1 rfl (Nat.le_of_ble_eq_true rfl) ⟨Nat.le_of_ble_eq_true rfl, Nat.le_of_ble_eq_true rfl⟩ dX9_read_1) hS (fun H locs hP hS => ?_)
  refine g_ifeqZ (tgt := 11) X dX9_read_4 (by decide) (fun hc => ?_) (fun hc => ?_)
  · have hf := ite_z hc hf
    have hok := hok.2 hc
    refine lv_iconst (v := -1) hx hb dX9_read_11 (by decide) ?_
    refine gx_cV (gx_runS (As := [.int (-1 : Int32)]) (rest := []) X (c_X9_demand l hfl G hG σ (-1 : Int32)) ca_X9_demand km_X9_54 rfl rfl ⟨Nat.le_of_ble_eq_true rfl, Nat.le_of_ble_eq_true rfl⟩ hP hS rfl hl.1 rfl (Nat.le_of_ble_eq_true rfl) ⟨Nat.le_of_ble_eq_true rfl, Nat.le_of_ble_eq_true rfl⟩ dX9_read_12) hS (fun q1 hq1 hc H locs hP hS ce q9 hce hcv hcl => ?_) (fun q1 hq1 hc H locs hP hS => ?_)
    · have hf := bnd_go hq1 hf
      have hf := ite_f hc hf
      exact gx_out hex hlk hP hS hce hcv hcl ⟨hc, hf⟩ (Nat.le_of_ble_eq_true rfl) (Nat.le_of_ble_eq_true rfl)
    · have hf := bnd_go hq1 hf
      have hf := ite_t hc hf
      have hok := bnd_goP hq1 hok hc
      refine lv_aload_n hx hb dX9_read_15 rfl (lv_at hl 0 rfl) ?_
      refine gg_9_1 X hP ab_0 kf_X9_20 dX9_read_16 ?_
      refine gg_6_2 (j := 15) rfl X hP ab_2 kf_X9_218 dX9_read_19 ?_
      refine gg_8_1 (j := 17) rfl X hP ab_15 kf_X9_229 dX9_read_22 ?_
      refine lv_iload_n hx hb dX9_read_25 rfl (lv_at hl 1 rfl) ?_
      have hs2 := hok
      refine g_iald X hP ab_17 (by rw [al_17]; exact hs2) dX9_read_26 ?_
      exact gx_iret X hr hlk hP hS hf (Nat.le_of_ble_eq_true rfl) (Nat.le_of_ble_eq_true rfl) dX9_read_27
  · have hf := ite_t hc hf
    have hok := hok.1 hc
    refine lv_iconst (v := 0) hx hb dX9_read_7 (by decide) ?_
    refine lv_goto (tgt := 12) hx hb dX9_read_8 (by decide) ?_
    refine gx_cV (gx_runS (As := [.int (0 : Int32)]) (rest := []) X (c_X9_demand l hfl G hG σ (0 : Int32)) ca_X9_demand km_X9_54 rfl rfl ⟨Nat.le_of_ble_eq_true rfl, Nat.le_of_ble_eq_true rfl⟩ hP hS rfl hl.1 rfl (Nat.le_of_ble_eq_true rfl) ⟨Nat.le_of_ble_eq_true rfl, Nat.le_of_ble_eq_true rfl⟩ dX9_read_12) hS (fun q3 hq3 hc H locs hP hS ce q9 hce hcv hcl => ?_) (fun q3 hq3 hc H locs hP hS => ?_)
    · have hf := bnd_go hq3 hf
      have hf := ite_f hc hf
      exact gx_out hex hlk hP hS hce hcv hcl ⟨hc, hf⟩ (Nat.le_of_ble_eq_true rfl) (Nat.le_of_ble_eq_true rfl)
    · have hf := bnd_go hq3 hf
      have hf := ite_t hc hf
      have hok := bnd_goP hq3 hok hc
      refine lv_aload_n hx hb dX9_read_15 rfl (lv_at hl 0 rfl) ?_
      refine gg_9_1 X hP ab_0 kf_X9_20 dX9_read_16 ?_
      refine gg_6_2 (j := 15) rfl X hP ab_2 kf_X9_218 dX9_read_19 ?_
      refine gg_8_1 (j := 17) rfl X hP ab_15 kf_X9_229 dX9_read_22 ?_
      refine lv_iload_n hx hb dX9_read_25 rfl (lv_at hl 1 rfl) ?_
      have hs4 := hok
      refine g_iald X hP ab_17 (by rw [al_17]; exact hs4) dX9_read_26 ?_
      exact gx_iret X hr hlk hP hS hf (Nat.le_of_ble_eq_true rfl) (Nat.le_of_ble_eq_true rfl) dX9_read_27
def f_X9_snacks (σ : St) (x1 : Int32) : Nat × St × Int32 := (if (f_X9_inRange x1 (1 : Int32) (20 : Int32)) = true then (bnd (f_X9_demand σ (0 : Int32)) (fun q5 => (if q5.1 = 0 then (bnd (f_X4_remember q5.2 2) (fun q7 => (bnd (f_X3_addSnacks q7 18 x1) (fun q8 => (0, q8, (q8.1 18 1)))))) else (q5.1, q5.2, 0)))) else (bnd (f_X9_demand σ (-2 : Int32)) (fun q1 => (if q1.1 = 0 then (bnd (f_X4_remember q1.2 2) (fun q3 => (bnd (f_X3_addSnacks q3 18 x1) (fun q4 => (0, q4, (q4.1 18 1)))))) else (q1.1, q1.2, 0)))))
def ok_X9_snacks (σ : St) (x1 : Int32) : Prop := (((f_X9_inRange x1 (1 : Int32) (20 : Int32)) = true → (bndP (f_X9_demand σ (0 : Int32)) (fun q5 => q5.1 = 0 → ok_X4_remember q5.2 2))) ∧ ((f_X9_inRange x1 (1 : Int32) (20 : Int32)) = false → (bndP (f_X9_demand σ (-2 : Int32)) (fun q1 => q1.1 = 0 → ok_X4_remember q1.2 2))))
abbrev rm_X9_snacks : Room := { frames := 7, cells := 1, slots := 6, locals := 123 }
set_option maxHeartbeats 4000000 in
set_option maxRecDepth 100000 in
theorem c_X9_snacks (l : Launch) (hfl : l.stackTraces = false) (G : GE) (hG : Gok G) (σ : St) (x1 : Int32) (hok : ok_X9_snacks σ x1) : XtI l G yX9_snacks cX9_snacks 2 rm_X9_snacks [.ref (G.2.1 0), .int x1] σ (f_X9_snacks σ x1) 1 6 := by
  generalize hf : f_X9_snacks σ x1 = fv
  rw [f_X9_snacks] at hf
  rw [ok_X9_snacks] at hok
  refine gx_start hG (by decide) (Nat.le_of_ble_eq_true rfl) ?_
  intro p e s m args below meth c X hr hlk hex ls hl H locs hP hS
  have X : Cx G p s m args c cX9_snacks 2 RX9 := X
  obtain ⟨hx, hb, hml, hown, hts, hK, hbs, hXW, -⟩ := id X
  have hl : lv_has ls 2 [(0, .ref (G.2.1 0)), (1, .int x1)] := hl
  refine lv_iload_n hx hb dX9_snacks_0 rfl (lv_at hl 1 rfl) ?_
  refine lv_iconst (v := 1) hx hb dX9_snacks_1 (by decide) ?_
  refine lv_bipush (v := 20) hx hb dX9_snacks_2 (by decide) ?_
  refine g_cZp (g_runS (As := [.int x1, .int (1 : Int32), .int (20 : Int32)]) (rest := []) X (c_X9_inRange l G hG σ x1 (1 : Int32) (20 : Int32)) ca_X9_inRange km_X9_97 rfl rfl ⟨Nat.le_of_ble_eq_true rfl, Nat.le_of_ble_eq_true rfl⟩ hP hS rfl hl.1 rfl (Nat.le_of_ble_eq_true rfl) ⟨Nat.le_of_ble_eq_true rfl, Nat.le_of_ble_eq_true rfl⟩ dX9_snacks_4) hS (fun H locs hP hS => ?_)
  refine g_ifeqZ (tgt := 14) X dX9_snacks_7 (by decide) (fun hc => ?_) (fun hc => ?_)
  · have hf := ite_z hc hf
    have hok := hok.2 hc
    refine lv_bipush (v := -2) hx hb dX9_snacks_14 (by decide) ?_
    refine gx_cV (gx_runS (As := [.int (-2 : Int32)]) (rest := []) X (c_X9_demand l hfl G hG σ (-2 : Int32)) ca_X9_demand km_X9_54 rfl rfl ⟨Nat.le_of_ble_eq_true rfl, Nat.le_of_ble_eq_true rfl⟩ hP hS rfl hl.1 rfl (Nat.le_of_ble_eq_true rfl) ⟨Nat.le_of_ble_eq_true rfl, Nat.le_of_ble_eq_true rfl⟩ dX9_snacks_16) hS (fun q1 hq1 hc H locs hP hS ce q9 hce hcv hcl => ?_) (fun q1 hq1 hc H locs hP hS => ?_)
    · have hf := bnd_go hq1 hf
      have hf := ite_f hc hf
      exact gx_out hex hlk hP hS hce hcv hcl ⟨hc, hf⟩ (Nat.le_of_ble_eq_true rfl) (Nat.le_of_ble_eq_true rfl)
    · have hf := bnd_go hq1 hf
      have hf := ite_t hc hf
      have hok := bnd_goP hq1 hok hc
      refine lv_aload_n hx hb dX9_snacks_19 rfl (lv_at hl 0 rfl) ?_
      refine gg_9_4 X hP ab_0 kf_X9_35 dX9_snacks_20 ?_
      refine lv_aload_n hx hb dX9_snacks_23 rfl (lv_at hl 0 rfl) ?_
      refine gg_9_1 X hP ab_0 kf_X9_20 dX9_snacks_24 ?_
      have hs2 := hok
      refine g_cV (g_runV (i := 189) (As := [.ref (G.2.1 2)]) (rest := []) X (c_X4_remember l G hG q1.2 2 ab_2 hs2) ca_X4_remember km_X9_58 rfl rfl ⟨Nat.le_of_ble_eq_true rfl, Nat.le_of_ble_eq_true rfl⟩ hP hS (ty_lt ab_189) (cell_4 ab_189) rfl rfl rfl hl.1 rfl (Nat.le_of_ble_eq_true rfl) ⟨Nat.le_of_ble_eq_true rfl, Nat.le_of_ble_eq_true rfl⟩ dX9_snacks_27) hS (fun q3 hq3 H locs hP hS => ?_)
      have hf := bnd_go hq3 hf
      refine lv_aload_n hx hb dX9_snacks_30 rfl (lv_at hl 0 rfl) ?_
      refine gg_9_1 X hP ab_0 kf_X9_20 dX9_snacks_31 ?_
      refine gg_6_3 (j := 18) rfl X hP ab_2 kf_X9_232 dX9_snacks_34 ?_
      refine lv_iload_n hx hb dX9_snacks_37 rfl (lv_at hl 1 rfl) ?_
      refine g_cV (g_runV (i := 18) (As := [.int x1]) (rest := []) X (c_X3_addSnacks l G hG q3 18 ab_18 x1) ca_X3_addSnacks km_X9_236 rfl rfl ⟨Nat.le_of_ble_eq_true rfl, Nat.le_of_ble_eq_true rfl⟩ hP hS (ty_lt ab_18) (cell_3 ab_18) rfl rfl rfl hl.1 rfl (Nat.le_of_ble_eq_true rfl) ⟨Nat.le_of_ble_eq_true rfl, Nat.le_of_ble_eq_true rfl⟩ dX9_snacks_38) hS (fun q4 hq4 H locs hP hS => ?_)
      have hf := bnd_go hq4 hf
      refine lv_aload_n hx hb dX9_snacks_41 rfl (lv_at hl 0 rfl) ?_
      refine gg_9_1 X hP ab_0 kf_X9_20 dX9_snacks_42 ?_
      refine gg_6_3 (j := 18) rfl X hP ab_2 kf_X9_232 dX9_snacks_45 ?_
      refine gg_3_1 X hP ab_18 kf_X9_241 dX9_snacks_48 ?_
      exact gx_iret X hr hlk hP hS hf (Nat.le_of_ble_eq_true rfl) (Nat.le_of_ble_eq_true rfl) dX9_snacks_51
  · have hf := ite_t hc hf
    have hok := hok.1 hc
    refine lv_iconst (v := 0) hx hb dX9_snacks_10 (by decide) ?_
    refine lv_goto (tgt := 16) hx hb dX9_snacks_11 (by decide) ?_
    refine gx_cV (gx_runS (As := [.int (0 : Int32)]) (rest := []) X (c_X9_demand l hfl G hG σ (0 : Int32)) ca_X9_demand km_X9_54 rfl rfl ⟨Nat.le_of_ble_eq_true rfl, Nat.le_of_ble_eq_true rfl⟩ hP hS rfl hl.1 rfl (Nat.le_of_ble_eq_true rfl) ⟨Nat.le_of_ble_eq_true rfl, Nat.le_of_ble_eq_true rfl⟩ dX9_snacks_16) hS (fun q5 hq5 hc H locs hP hS ce q9 hce hcv hcl => ?_) (fun q5 hq5 hc H locs hP hS => ?_)
    · have hf := bnd_go hq5 hf
      have hf := ite_f hc hf
      exact gx_out hex hlk hP hS hce hcv hcl ⟨hc, hf⟩ (Nat.le_of_ble_eq_true rfl) (Nat.le_of_ble_eq_true rfl)
    · have hf := bnd_go hq5 hf
      have hf := ite_t hc hf
      have hok := bnd_goP hq5 hok hc
      refine lv_aload_n hx hb dX9_snacks_19 rfl (lv_at hl 0 rfl) ?_
      refine gg_9_4 X hP ab_0 kf_X9_35 dX9_snacks_20 ?_
      refine lv_aload_n hx hb dX9_snacks_23 rfl (lv_at hl 0 rfl) ?_
      refine gg_9_1 X hP ab_0 kf_X9_20 dX9_snacks_24 ?_
      have hs6 := hok
      refine g_cV (g_runV (i := 189) (As := [.ref (G.2.1 2)]) (rest := []) X (c_X4_remember l G hG q5.2 2 ab_2 hs6) ca_X4_remember km_X9_58 rfl rfl ⟨Nat.le_of_ble_eq_true rfl, Nat.le_of_ble_eq_true rfl⟩ hP hS (ty_lt ab_189) (cell_4 ab_189) rfl rfl rfl hl.1 rfl (Nat.le_of_ble_eq_true rfl) ⟨Nat.le_of_ble_eq_true rfl, Nat.le_of_ble_eq_true rfl⟩ dX9_snacks_27) hS (fun q7 hq7 H locs hP hS => ?_)
      have hf := bnd_go hq7 hf
      refine lv_aload_n hx hb dX9_snacks_30 rfl (lv_at hl 0 rfl) ?_
      refine gg_9_1 X hP ab_0 kf_X9_20 dX9_snacks_31 ?_
      refine gg_6_3 (j := 18) rfl X hP ab_2 kf_X9_232 dX9_snacks_34 ?_
      refine lv_iload_n hx hb dX9_snacks_37 rfl (lv_at hl 1 rfl) ?_
      refine g_cV (g_runV (i := 18) (As := [.int x1]) (rest := []) X (c_X3_addSnacks l G hG q7 18 ab_18 x1) ca_X3_addSnacks km_X9_236 rfl rfl ⟨Nat.le_of_ble_eq_true rfl, Nat.le_of_ble_eq_true rfl⟩ hP hS (ty_lt ab_18) (cell_3 ab_18) rfl rfl rfl hl.1 rfl (Nat.le_of_ble_eq_true rfl) ⟨Nat.le_of_ble_eq_true rfl, Nat.le_of_ble_eq_true rfl⟩ dX9_snacks_38) hS (fun q8 hq8 H locs hP hS => ?_)
      have hf := bnd_go hq8 hf
      refine lv_aload_n hx hb dX9_snacks_41 rfl (lv_at hl 0 rfl) ?_
      refine gg_9_1 X hP ab_0 kf_X9_20 dX9_snacks_42 ?_
      refine gg_6_3 (j := 18) rfl X hP ab_2 kf_X9_232 dX9_snacks_45 ?_
      refine gg_3_1 X hP ab_18 kf_X9_241 dX9_snacks_48 ?_
      exact gx_iret X hr hlk hP hS hf (Nat.le_of_ble_eq_true rfl) (Nat.le_of_ble_eq_true rfl) dX9_snacks_51
def f_X9_feed (σ : St) (x1 : Int32) : Nat × St × Int32 := (bnd (f_X1_mayFeed σ x1) (fun q1 => (bnd (f_X9_demand q1.1 q1.2) (fun q2 => (if q2.1 = 0 then (bnd (f_X4_remember q2.2 2) (fun q4 => (bnd (f_X3_eatSnacks q4 18 x1) (fun q6 => (0, q6, (f_X0_ofFloat (q6.2.1 18 0))))))) else (q2.1, q2.2, 0))))))
def ok_X9_feed (σ : St) (x1 : Int32) : Prop := (bndP (f_X1_mayFeed σ x1) (fun q1 => (bndP (f_X9_demand q1.1 q1.2) (fun q2 => q2.1 = 0 → (ok_X4_remember q2.2 2 ∧ (bndP (f_X4_remember q2.2 2) (fun q4 => (ok_X3_eatSnacks q4 18 x1 ∧ (bndP (f_X3_eatSnacks q4 18 x1) (fun q6 => ok_X0_ofFloat (q6.2.1 18 0)))))))))))
abbrev rm_X9_feed : Room := { frames := 7, cells := 1, slots := 6, locals := 123 }
set_option maxHeartbeats 4000000 in
set_option maxRecDepth 100000 in
theorem c_X9_feed (l : Launch) (hfl : l.stackTraces = false) (G : GE) (hG : Gok G) (σ : St) (x1 : Int32) (hok : ok_X9_feed σ x1) : XtI l G yX9_feed cX9_feed 2 rm_X9_feed [.ref (G.2.1 0), .int x1] σ (f_X9_feed σ x1) 1 6 := by
  generalize hf : f_X9_feed σ x1 = fv
  rw [f_X9_feed] at hf
  rw [ok_X9_feed] at hok
  refine gx_start hG (by decide) (Nat.le_of_ble_eq_true rfl) ?_
  intro p e s m args below meth c X hr hlk hex ls hl H locs hP hS
  have X : Cx G p s m args c cX9_feed 2 RX9 := X
  obtain ⟨hx, hb, hml, hown, hts, hK, hbs, hXW, -⟩ := id X
  have hl : lv_has ls 2 [(0, .ref (G.2.1 0)), (1, .int x1)] := hl
  refine lv_aload_n hx hb dX9_feed_0 rfl (lv_at hl 0 rfl) ?_
  refine gg_9_0 X hP ab_0 kf_X9_10 dX9_feed_1 ?_
  refine lv_iload_n hx hb dX9_feed_4 rfl (lv_at hl 1 rfl) ?_
  refine g_cI (g_runV (i := 1) (As := [.int x1]) (rest := []) X (c_X1_mayFeed l G hG σ x1) ca_X1_mayFeed km_X9_245 rfl rfl ⟨Nat.le_of_ble_eq_true rfl, Nat.le_of_ble_eq_true rfl⟩ hP hS (ty_lt ab_1) (cell_1 ab_1) rfl rfl rfl hl.1 rfl (Nat.le_of_ble_eq_true rfl) ⟨Nat.le_of_ble_eq_true rfl, Nat.le_of_ble_eq_true rfl⟩ dX9_feed_5) hS (fun q1 hq1 H locs hP hS => ?_)
  have hf := bnd_go hq1 hf
  have hok := bnd_goP hq1 hok
  refine gx_cV (gx_runS (As := [.int q1.2]) (rest := []) X (c_X9_demand l hfl G hG q1.1 q1.2) ca_X9_demand km_X9_54 rfl rfl ⟨Nat.le_of_ble_eq_true rfl, Nat.le_of_ble_eq_true rfl⟩ hP hS rfl hl.1 rfl (Nat.le_of_ble_eq_true rfl) ⟨Nat.le_of_ble_eq_true rfl, Nat.le_of_ble_eq_true rfl⟩ dX9_feed_8) hS (fun q2 hq2 hc H locs hP hS ce q9 hce hcv hcl => ?_) (fun q2 hq2 hc H locs hP hS => ?_)
  · have hf := bnd_go hq2 hf
    have hf := ite_f hc hf
    exact gx_out hex hlk hP hS hce hcv hcl ⟨hc, hf⟩ (Nat.le_of_ble_eq_true rfl) (Nat.le_of_ble_eq_true rfl)
  · have hf := bnd_go hq2 hf
    have hf := ite_t hc hf
    have hok := bnd_goP hq2 hok hc
    refine lv_aload_n hx hb dX9_feed_11 rfl (lv_at hl 0 rfl) ?_
    refine gg_9_4 X hP ab_0 kf_X9_35 dX9_feed_12 ?_
    refine lv_aload_n hx hb dX9_feed_15 rfl (lv_at hl 0 rfl) ?_
    refine gg_9_1 X hP ab_0 kf_X9_20 dX9_feed_16 ?_
    have hs3 := hok.1
    have hok := hok.2
    refine g_cV (g_runV (i := 189) (As := [.ref (G.2.1 2)]) (rest := []) X (c_X4_remember l G hG q2.2 2 ab_2 hs3) ca_X4_remember km_X9_58 rfl rfl ⟨Nat.le_of_ble_eq_true rfl, Nat.le_of_ble_eq_true rfl⟩ hP hS (ty_lt ab_189) (cell_4 ab_189) rfl rfl rfl hl.1 rfl (Nat.le_of_ble_eq_true rfl) ⟨Nat.le_of_ble_eq_true rfl, Nat.le_of_ble_eq_true rfl⟩ dX9_feed_19) hS (fun q4 hq4 H locs hP hS => ?_)
    have hf := bnd_go hq4 hf
    have hok := bnd_goP hq4 hok
    refine lv_aload_n hx hb dX9_feed_22 rfl (lv_at hl 0 rfl) ?_
    refine gg_9_1 X hP ab_0 kf_X9_20 dX9_feed_23 ?_
    refine gg_6_3 (j := 18) rfl X hP ab_2 kf_X9_232 dX9_feed_26 ?_
    refine lv_iload_n hx hb dX9_feed_29 rfl (lv_at hl 1 rfl) ?_
    have hs5 := hok.1
    have hok := hok.2
    refine g_cV (g_runV (i := 18) (As := [.int x1]) (rest := []) X (c_X3_eatSnacks l G hG q4 18 ab_18 x1 hs5) ca_X3_eatSnacks km_X9_248 rfl rfl ⟨Nat.le_of_ble_eq_true rfl, Nat.le_of_ble_eq_true rfl⟩ hP hS (ty_lt ab_18) (cell_3 ab_18) rfl rfl rfl hl.1 rfl (Nat.le_of_ble_eq_true rfl) ⟨Nat.le_of_ble_eq_true rfl, Nat.le_of_ble_eq_true rfl⟩ dX9_feed_30) hS (fun q6 hq6 H locs hP hS => ?_)
    have hf := bnd_go hq6 hf
    have hok := bnd_goP hq6 hok
    refine lv_aload_n hx hb dX9_feed_33 rfl (lv_at hl 0 rfl) ?_
    refine gg_9_1 X hP ab_0 kf_X9_20 dX9_feed_34 ?_
    refine gg_6_3 (j := 18) rfl X hP ab_2 kf_X9_232 dX9_feed_37 ?_
    refine gg_3_0 X hP ab_18 kf_X9_251 dX9_feed_40 ?_
    have hs7 := hok
    refine g_cIp (g_runS (As := [.float (q6.2.1 18 0)]) (rest := []) X (c_X0_ofFloat l G hG q6 (q6.2.1 18 0) hs7) ca_X0_ofFloat km_X9_122 rfl rfl ⟨Nat.le_of_ble_eq_true rfl, Nat.le_of_ble_eq_true rfl⟩ hP hS rfl hl.1 rfl (Nat.le_of_ble_eq_true rfl) ⟨Nat.le_of_ble_eq_true rfl, Nat.le_of_ble_eq_true rfl⟩ dX9_feed_43) hS (fun H locs hP hS => ?_)
    exact gx_iret X hr hlk hP hS hf (Nat.le_of_ble_eq_true rfl) (Nat.le_of_ble_eq_true rfl) dX9_feed_46
def f_X9_hunger (σ : St) : UInt32 := (σ.2.1 18 0)
abbrev rm_X9_hunger : Room := { frames := 0, cells := 0, slots := 0, locals := 0 }
set_option maxHeartbeats 4000000 in
set_option maxRecDepth 100000 in
theorem c_X9_hunger (l : Launch) (G : GE) (hG : Gok G) (σ : St) : MtF l G yX9_hunger cX9_hunger 1 rm_X9_hunger [.ref (G.2.1 0)] σ (σ, f_X9_hunger σ) := by
  generalize hf : f_X9_hunger σ = fv
  rw [f_X9_hunger] at hf
  refine g_start hG (plainFor_of_name (by decide)) (Nat.le_of_ble_eq_true rfl) ?_
  intro p e s m args below meth c X hr hlk ls hl H locs hP hS
  have X : Cx G p s m args c cX9_hunger 1 RX9 := X
  obtain ⟨hx, hb, hml, hown, hts, hK, hbs, hXW, -⟩ := id X
  have hl : lv_has ls 1 [(0, .ref (G.2.1 0))] := hl
  refine lv_aload_n hx hb dX9_hunger_0 rfl (lv_at hl 0 rfl) ?_
  refine gg_9_1 X hP ab_0 kf_X9_20 dX9_hunger_1 ?_
  refine gg_6_3 (j := 18) rfl X hP ab_2 kf_X9_232 dX9_hunger_4 ?_
  refine gg_3_0 X hP ab_18 kf_X9_251 dX9_hunger_7 ?_
  exact g_fret X hr hlk hP hS (congrArg (Prod.mk σ) hf) dX9_hunger_10
def f_X9_prey (σ : St) : Nat × St × Int32 := (if (f_X5_worstOnShelf σ 6) = (-1 : Int32) then (bnd (f_X9_demandFound σ false) (fun q2 => (if q2.1 = 0 then (0, q2.2, (f_X5_worstOnShelf σ 6)) else (q2.1, q2.2, 0)))) else (bnd (f_X9_demandFound σ true) (fun q3 => (if q3.1 = 0 then (0, q3.2, (f_X5_worstOnShelf σ 6)) else (q3.1, q3.2, 0)))))
def ok_X9_prey (σ : St) : Prop := ok_X5_worstOnShelf σ 6
abbrev rm_X9_prey : Room := { frames := 7, cells := 1, slots := 6, locals := 120 }
set_option maxHeartbeats 4000000 in
set_option maxRecDepth 100000 in
theorem c_X9_prey (l : Launch) (hfl : l.stackTraces = false) (G : GE) (hG : Gok G) (σ : St) (hok : ok_X9_prey σ) : XtI l G yX9_prey cX9_prey 2 rm_X9_prey [.ref (G.2.1 0)] σ (f_X9_prey σ) 1 6 := by
  generalize hf : f_X9_prey σ = fv
  rw [f_X9_prey] at hf
  rw [ok_X9_prey] at hok
  refine gx_start hG (by decide) (Nat.le_of_ble_eq_true rfl) ?_
  intro p e s m args below meth c X hr hlk hex ls hl H locs hP hS
  have X : Cx G p s m args c cX9_prey 2 RX9 := X
  obtain ⟨hx, hb, hml, hown, hts, hK, hbs, hXW, -⟩ := id X
  have hl : lv_has ls 2 [(0, .ref (G.2.1 0))] := hl
  refine lv_aload_n hx hb dX9_prey_0 rfl (lv_at hl 0 rfl) ?_
  refine gg_9_1 X hP ab_0 kf_X9_20 dX9_prey_1 ?_
  refine gg_6_1 (j := 6) rfl X hP ab_2 kf_X9_101 dX9_prey_4 ?_
  have hs1 := hok
  refine g_cIp (g_runV (i := 6) (As := []) (rest := []) X (c_X5_worstOnShelf l G hG σ 6 ab_6 hs1) ca_X5_worstOnShelf km_X9_254 rfl rfl ⟨Nat.le_of_ble_eq_true rfl, Nat.le_of_ble_eq_true rfl⟩ hP hS (ty_lt ab_6) (cell_5 ab_6) rfl rfl rfl hl.1 rfl (Nat.le_of_ble_eq_true rfl) ⟨Nat.le_of_ble_eq_true rfl, Nat.le_of_ble_eq_true rfl⟩ dX9_prey_7) hS (fun H locs hP hS => ?_)
  refine lv_istore_n (lv' := [(1, .int (f_X5_worstOnShelf σ 6)), (0, .ref (G.2.1 0))]) hx hb dX9_prey_10 rfl hl (by decide) rfl (fun ls hl => ?_)
  refine lv_iload_n hx hb dX9_prey_11 rfl (lv_at hl 0 rfl) ?_
  refine lv_iconst (v := -1) hx hb dX9_prey_12 (by decide) ?_
  refine lv_icmp_eq (tgt := 20) hx hb dX9_prey_13 (by decide) (fun hc => ?_) (fun hc => ?_)
  · have hf := ite_t hc hf
    refine lv_iconst (v := 0) hx hb dX9_prey_20 (by decide) ?_
    refine gx_cV (gx_runS (As := [.int (bI false)]) (rest := []) X (c_X9_demandFound l hfl G hG σ false) ca_X9_demandFound km_X9_115 rfl rfl ⟨Nat.le_of_ble_eq_true rfl, Nat.le_of_ble_eq_true rfl⟩ hP hS rfl hl.1 rfl (Nat.le_of_ble_eq_true rfl) ⟨Nat.le_of_ble_eq_true rfl, Nat.le_of_ble_eq_true rfl⟩ dX9_prey_21) hS (fun q2 hq2 hc H locs hP hS ce q9 hce hcv hcl => ?_) (fun q2 hq2 hc H locs hP hS => ?_)
    · have hf := bnd_go hq2 hf
      have hf := ite_f hc hf
      exact gx_out hex hlk hP hS hce hcv hcl ⟨hc, hf⟩ (Nat.le_of_ble_eq_true rfl) (Nat.le_of_ble_eq_true rfl)
    · have hf := bnd_go hq2 hf
      have hf := ite_t hc hf
      refine lv_iload_n hx hb dX9_prey_24 rfl (lv_at hl 0 rfl) ?_
      exact gx_iret X hr hlk hP hS hf (Nat.le_of_ble_eq_true rfl) (Nat.le_of_ble_eq_true rfl) dX9_prey_25
  · have hf := ite_f hc hf
    refine lv_iconst (v := 1) hx hb dX9_prey_16 (by decide) ?_
    refine lv_goto (tgt := 21) hx hb dX9_prey_17 (by decide) ?_
    refine gx_cV (gx_runS (As := [.int (bI true)]) (rest := []) X (c_X9_demandFound l hfl G hG σ true) ca_X9_demandFound km_X9_115 rfl rfl ⟨Nat.le_of_ble_eq_true rfl, Nat.le_of_ble_eq_true rfl⟩ hP hS rfl hl.1 rfl (Nat.le_of_ble_eq_true rfl) ⟨Nat.le_of_ble_eq_true rfl, Nat.le_of_ble_eq_true rfl⟩ dX9_prey_21) hS (fun q3 hq3 hc H locs hP hS ce q9 hce hcv hcl => ?_) (fun q3 hq3 hc H locs hP hS => ?_)
    · have hf := bnd_go hq3 hf
      have hf := ite_f hc hf
      exact gx_out hex hlk hP hS hce hcv hcl ⟨hc, hf⟩ (Nat.le_of_ble_eq_true rfl) (Nat.le_of_ble_eq_true rfl)
    · have hf := bnd_go hq3 hf
      have hf := ite_t hc hf
      refine lv_iload_n hx hb dX9_prey_24 rfl (lv_at hl 0 rfl) ?_
      exact gx_iret X hr hlk hP hS hf (Nat.le_of_ble_eq_true rfl) (Nat.le_of_ble_eq_true rfl) dX9_prey_25
def fX9_eatsIn_L38 (σ : St) : Nat → UInt32 → Int32 → Nat × St × Int32
  | 0, _, _ => (0, σ, 0)
  | n38 + 1, x1, x2 => (if (1000000 : Int32) ≤ x2 then (0, σ, x2) else (if (f_X9_isHungry x1) = true then (0, σ, x2) else (fX9_eatsIn_L38 σ n38 (f_X9_hungrier x1) (x2 + (1 : Int32)))))
def okX9_eatsIn_L38 (σ : St) : Nat → UInt32 → Int32 → Prop
  | 0, _, _ => False
  | n38 + 1, x1, x2 => (((1000000 : Int32) ≤ x2 → True) ∧ (¬ (1000000 : Int32) ≤ x2 → (((f_X9_isHungry x1) = true → True) ∧ ((f_X9_isHungry x1) = false → (ok_X9_hungrier x1 ∧ (okX9_eatsIn_L38 σ n38 (f_X9_hungrier x1) (x2 + (1 : Int32))))))))
def f_X9_eatsIn (σ : St) : Nat × St × Int32 := (if (f_X5_worstOnShelf σ 6) = (-1 : Int32) then (bnd (f_X9_demandFound σ false) (fun q2 => (if q2.1 = 0 then (fX9_eatsIn_L38 q2.2 2000 (f_X9_hungrier (q2.2.2.1 18 0)) (1 : Int32)) else (q2.1, q2.2, 0)))) else (bnd (f_X9_demandFound σ true) (fun q5 => (if q5.1 = 0 then (fX9_eatsIn_L38 q5.2 2000 (f_X9_hungrier (q5.2.2.1 18 0)) (1 : Int32)) else (q5.1, q5.2, 0)))))
def ok_X9_eatsIn (σ : St) : Prop := (ok_X5_worstOnShelf σ 6 ∧ (((f_X5_worstOnShelf σ 6) = (-1 : Int32) → (bndP (f_X9_demandFound σ false) (fun q2 => q2.1 = 0 → (ok_X9_hungrier (q2.2.2.1 18 0) ∧ (okX9_eatsIn_L38 q2.2 2000 (f_X9_hungrier (q2.2.2.1 18 0)) (1 : Int32)))))) ∧ (¬ (f_X5_worstOnShelf σ 6) = (-1 : Int32) → (bndP (f_X9_demandFound σ true) (fun q5 => q5.1 = 0 → (ok_X9_hungrier (q5.2.2.1 18 0) ∧ (okX9_eatsIn_L38 q5.2 2000 (f_X9_hungrier (q5.2.2.1 18 0)) (1 : Int32))))))))
abbrev rm_X9_eatsIn : Room := { frames := 7, cells := 1, slots := 6, locals := 120 }
set_option maxHeartbeats 4000000 in
set_option maxRecDepth 100000 in
theorem c_X9_eatsIn (l : Launch) (hfl : l.stackTraces = false) (G : GE) (hG : Gok G) (σ : St) (hok : ok_X9_eatsIn σ) : XtI l G yX9_eatsIn cX9_eatsIn 3 rm_X9_eatsIn [.ref (G.2.1 0)] σ (f_X9_eatsIn σ) 1 6 := by
  generalize hf : f_X9_eatsIn σ = fv
  rw [f_X9_eatsIn] at hf
  rw [ok_X9_eatsIn] at hok
  refine gx_start hG (by decide) (Nat.le_of_ble_eq_true rfl) ?_
  intro p e s m args below meth c X hr hlk hex ls hl H locs hP hS
  have X : Cx G p s m args c cX9_eatsIn 3 RX9 := X
  obtain ⟨hx, hb, hml, hown, hts, hK, hbs, hXW, -⟩ := id X
  have hl : lv_has ls 3 [(0, .ref (G.2.1 0))] := hl
  refine lv_aload_n hx hb dX9_eatsIn_0 rfl (lv_at hl 0 rfl) ?_
  refine gg_9_1 X hP ab_0 kf_X9_20 dX9_eatsIn_1 ?_
  refine gg_6_1 (j := 6) rfl X hP ab_2 kf_X9_101 dX9_eatsIn_4 ?_
  have hs1 := hok.1
  have hok := hok.2
  refine g_cIp (g_runV (i := 6) (As := []) (rest := []) X (c_X5_worstOnShelf l G hG σ 6 ab_6 hs1) ca_X5_worstOnShelf km_X9_254 rfl rfl ⟨Nat.le_of_ble_eq_true rfl, Nat.le_of_ble_eq_true rfl⟩ hP hS (ty_lt ab_6) (cell_5 ab_6) rfl rfl rfl hl.1 rfl (Nat.le_of_ble_eq_true rfl) ⟨Nat.le_of_ble_eq_true rfl, Nat.le_of_ble_eq_true rfl⟩ dX9_eatsIn_7) hS (fun H locs hP hS => ?_)
  refine lv_iconst (v := -1) hx hb dX9_eatsIn_10 (by decide) ?_
  refine lv_icmp_eq (tgt := 18) hx hb dX9_eatsIn_11 (by decide) (fun hc => ?_) (fun hc => ?_)
  · have hf := ite_t hc hf
    have hok := hok.1 hc
    refine lv_iconst (v := 0) hx hb dX9_eatsIn_18 (by decide) ?_
    refine gx_cV (gx_runS (As := [.int (bI false)]) (rest := []) X (c_X9_demandFound l hfl G hG σ false) ca_X9_demandFound km_X9_115 rfl rfl ⟨Nat.le_of_ble_eq_true rfl, Nat.le_of_ble_eq_true rfl⟩ hP hS rfl hl.1 rfl (Nat.le_of_ble_eq_true rfl) ⟨Nat.le_of_ble_eq_true rfl, Nat.le_of_ble_eq_true rfl⟩ dX9_eatsIn_19) hS (fun q2 hq2 hc H locs hP hS ce q9 hce hcv hcl => ?_) (fun q2 hq2 hc H locs hP hS => ?_)
    · have hf := bnd_go hq2 hf
      have hf := ite_f hc hf
      exact gx_out hex hlk hP hS hce hcv hcl ⟨hc, hf⟩ (Nat.le_of_ble_eq_true rfl) (Nat.le_of_ble_eq_true rfl)
    · have hf := bnd_go hq2 hf
      have hf := ite_t hc hf
      have hok := bnd_goP hq2 hok hc
      refine lv_aload_n hx hb dX9_eatsIn_22 rfl (lv_at hl 0 rfl) ?_
      refine gg_9_1 X hP ab_0 kf_X9_20 dX9_eatsIn_23 ?_
      refine gg_6_3 (j := 18) rfl X hP ab_2 kf_X9_232 dX9_eatsIn_26 ?_
      refine gg_3_0 X hP ab_18 kf_X9_251 dX9_eatsIn_29 ?_
      have hs3 := hok.1
      have hok := hok.2
      refine g_cFp (g_runS (As := [.float (q2.2.2.1 18 0)]) (rest := []) X (c_X9_hungrier l G hG q2.2 (q2.2.2.1 18 0) hs3) ca_X9_hungrier km_X9_257 rfl rfl ⟨Nat.le_of_ble_eq_true rfl, Nat.le_of_ble_eq_true rfl⟩ hP hS rfl hl.1 rfl (Nat.le_of_ble_eq_true rfl) ⟨Nat.le_of_ble_eq_true rfl, Nat.le_of_ble_eq_true rfl⟩ dX9_eatsIn_32) hS (fun H locs hP hS => ?_)
      refine lv_fstore_n (lv' := [(1, .float (f_X9_hungrier (q2.2.2.1 18 0))), (0, .ref (G.2.1 0))]) hx hb dX9_eatsIn_35 rfl hl (by decide) rfl (fun ls hl => ?_)
      refine lv_iconst (v := 1) hx hb dX9_eatsIn_36 (by decide) ?_
      refine lv_istore_n (lv' := [(2, .int (1 : Int32)), (1, .float (f_X9_hungrier (q2.2.2.1 18 0))), (0, .ref (G.2.1 0))]) hx hb dX9_eatsIn_37 rfl hl (by decide) rfl (fun ls hl => ?_)
      have K38 : ∀ (n38 : Nat) (σ : St) (x1 : UInt32) (x2 : Int32), okX9_eatsIn_L38 σ n38 x1 x2 → fX9_eatsIn_L38 σ n38 x1 x2 = fv → ∀ (H : Heap) (locs : List Loc), va_P G.1 vcl (wl G σ) H → va_S (GA G) s.heap H locs → ∀ (ls : Array Slot), lv_has ls 3 [(0, .ref (G.2.1 0)), (1, .float x1), (2, .int x2)] → W p l e rm_X9_eatsIn s m args below meth c H locs 1 6 (vx_MQ below (va_Qi (fun r u => (0, u, r) = fv) (PB G) (GA G)) (vx_X (pxI fv) (BX G) (GA G)) args s 1 6 (GA G)) (F0 m 38 ls []) := by
        intro n38
        induction n38 with
        | zero =>
          intro σ x1 x2 hok
          exact hok.elim
        | succ n38 ih38 =>
          intro σ x1 x2 hok hf H locs hP hS ls hl
          rw [okX9_eatsIn_L38] at hok
          rw [fX9_eatsIn_L38] at hf
          refine lv_iload_n hx hb dX9_eatsIn_38 rfl (lv_at hl 2 rfl) ?_
          refine lv_ldc hx hb hown (hts _ kc_X9_150) dX9_eatsIn_39 ?_
          refine lv_icmp_ge (tgt := 62) hx hb dX9_eatsIn_41 (by decide) (fun hc => ?_) (fun hc => ?_)
          · have hf := ite_t hc hf
            refine lv_iload_n hx hb dX9_eatsIn_62 rfl (lv_at hl 2 rfl) ?_
            exact gx_iret X hr hlk hP hS hf (Nat.le_of_ble_eq_true rfl) (Nat.le_of_ble_eq_true rfl) dX9_eatsIn_63
          · have hf := ite_f hc hf
            have hok := hok.2 hc
            refine lv_fload_n hx hb dX9_eatsIn_44 rfl (lv_at hl 1 rfl) ?_
            refine g_cZp (g_runS (As := [.float x1]) (rest := []) X (c_X9_isHungry l G hG σ x1) ca_X9_isHungry km_X9_260 rfl rfl ⟨Nat.le_of_ble_eq_true rfl, Nat.le_of_ble_eq_true rfl⟩ hP hS rfl hl.1 rfl (Nat.le_of_ble_eq_true rfl) ⟨Nat.le_of_ble_eq_true rfl, Nat.le_of_ble_eq_true rfl⟩ dX9_eatsIn_45) hS (fun H locs hP hS => ?_)
            refine g_ifneZ (tgt := 62) X dX9_eatsIn_48 (by decide) (fun hc => ?_) (fun hc => ?_)
            · have hf := ite_t hc hf
              refine lv_iload_n hx hb dX9_eatsIn_62 rfl (lv_at hl 2 rfl) ?_
              exact gx_iret X hr hlk hP hS hf (Nat.le_of_ble_eq_true rfl) (Nat.le_of_ble_eq_true rfl) dX9_eatsIn_63
            · have hf := ite_z hc hf
              have hok := hok.2 hc
              refine lv_fload_n hx hb dX9_eatsIn_51 rfl (lv_at hl 1 rfl) ?_
              have hs4 := hok.1
              have hok := hok.2
              refine g_cFp (g_runS (As := [.float x1]) (rest := []) X (c_X9_hungrier l G hG σ x1 hs4) ca_X9_hungrier km_X9_257 rfl rfl ⟨Nat.le_of_ble_eq_true rfl, Nat.le_of_ble_eq_true rfl⟩ hP hS rfl hl.1 rfl (Nat.le_of_ble_eq_true rfl) ⟨Nat.le_of_ble_eq_true rfl, Nat.le_of_ble_eq_true rfl⟩ dX9_eatsIn_52) hS (fun H locs hP hS => ?_)
              refine lv_fstore_n (lv' := [(1, .float (f_X9_hungrier x1)), (0, .ref (G.2.1 0)), (2, .int x2)]) hx hb dX9_eatsIn_55 rfl hl (by decide) rfl (fun ls hl => ?_)
              refine lv_iinc (v := (x2 + (1 : Int32))) (lv' := [(2, .int (x2 + (1 : Int32))), (1, .float (f_X9_hungrier x1)), (0, .ref (G.2.1 0))]) hx hb dX9_eatsIn_56 hl (k := 2) rfl rfl (by decide) rfl (fun ls hl => ?_)
              refine lv_goto (tgt := 38) hx hb dX9_eatsIn_59 (by decide) ?_
              exact ih38 σ (f_X9_hungrier x1) (x2 + (1 : Int32)) hok hf _ _ hP hS ls (lv_sub hl [2, 1, 0] rfl)
      exact K38 2000 q2.2 (f_X9_hungrier (q2.2.2.1 18 0)) (1 : Int32) hok hf _ _ hP hS ls (lv_sub hl [2, 1, 0] rfl)
  · have hf := ite_f hc hf
    have hok := hok.2 hc
    refine lv_iconst (v := 1) hx hb dX9_eatsIn_14 (by decide) ?_
    refine lv_goto (tgt := 19) hx hb dX9_eatsIn_15 (by decide) ?_
    refine gx_cV (gx_runS (As := [.int (bI true)]) (rest := []) X (c_X9_demandFound l hfl G hG σ true) ca_X9_demandFound km_X9_115 rfl rfl ⟨Nat.le_of_ble_eq_true rfl, Nat.le_of_ble_eq_true rfl⟩ hP hS rfl hl.1 rfl (Nat.le_of_ble_eq_true rfl) ⟨Nat.le_of_ble_eq_true rfl, Nat.le_of_ble_eq_true rfl⟩ dX9_eatsIn_19) hS (fun q5 hq5 hc H locs hP hS ce q9 hce hcv hcl => ?_) (fun q5 hq5 hc H locs hP hS => ?_)
    · have hf := bnd_go hq5 hf
      have hf := ite_f hc hf
      exact gx_out hex hlk hP hS hce hcv hcl ⟨hc, hf⟩ (Nat.le_of_ble_eq_true rfl) (Nat.le_of_ble_eq_true rfl)
    · have hf := bnd_go hq5 hf
      have hf := ite_t hc hf
      have hok := bnd_goP hq5 hok hc
      refine lv_aload_n hx hb dX9_eatsIn_22 rfl (lv_at hl 0 rfl) ?_
      refine gg_9_1 X hP ab_0 kf_X9_20 dX9_eatsIn_23 ?_
      refine gg_6_3 (j := 18) rfl X hP ab_2 kf_X9_232 dX9_eatsIn_26 ?_
      refine gg_3_0 X hP ab_18 kf_X9_251 dX9_eatsIn_29 ?_
      have hs6 := hok.1
      have hok := hok.2
      refine g_cFp (g_runS (As := [.float (q5.2.2.1 18 0)]) (rest := []) X (c_X9_hungrier l G hG q5.2 (q5.2.2.1 18 0) hs6) ca_X9_hungrier km_X9_257 rfl rfl ⟨Nat.le_of_ble_eq_true rfl, Nat.le_of_ble_eq_true rfl⟩ hP hS rfl hl.1 rfl (Nat.le_of_ble_eq_true rfl) ⟨Nat.le_of_ble_eq_true rfl, Nat.le_of_ble_eq_true rfl⟩ dX9_eatsIn_32) hS (fun H locs hP hS => ?_)
      refine lv_fstore_n (lv' := [(1, .float (f_X9_hungrier (q5.2.2.1 18 0))), (0, .ref (G.2.1 0))]) hx hb dX9_eatsIn_35 rfl hl (by decide) rfl (fun ls hl => ?_)
      refine lv_iconst (v := 1) hx hb dX9_eatsIn_36 (by decide) ?_
      refine lv_istore_n (lv' := [(2, .int (1 : Int32)), (1, .float (f_X9_hungrier (q5.2.2.1 18 0))), (0, .ref (G.2.1 0))]) hx hb dX9_eatsIn_37 rfl hl (by decide) rfl (fun ls hl => ?_)
      have K38 : ∀ (n38 : Nat) (σ : St) (x1 : UInt32) (x2 : Int32), okX9_eatsIn_L38 σ n38 x1 x2 → fX9_eatsIn_L38 σ n38 x1 x2 = fv → ∀ (H : Heap) (locs : List Loc), va_P G.1 vcl (wl G σ) H → va_S (GA G) s.heap H locs → ∀ (ls : Array Slot), lv_has ls 3 [(0, .ref (G.2.1 0)), (1, .float x1), (2, .int x2)] → W p l e rm_X9_eatsIn s m args below meth c H locs 1 6 (vx_MQ below (va_Qi (fun r u => (0, u, r) = fv) (PB G) (GA G)) (vx_X (pxI fv) (BX G) (GA G)) args s 1 6 (GA G)) (F0 m 38 ls []) := by
        intro n38
        induction n38 with
        | zero =>
          intro σ x1 x2 hok
          exact hok.elim
        | succ n38 ih38 =>
          intro σ x1 x2 hok hf H locs hP hS ls hl
          rw [okX9_eatsIn_L38] at hok
          rw [fX9_eatsIn_L38] at hf
          refine lv_iload_n hx hb dX9_eatsIn_38 rfl (lv_at hl 2 rfl) ?_
          refine lv_ldc hx hb hown (hts _ kc_X9_150) dX9_eatsIn_39 ?_
          refine lv_icmp_ge (tgt := 62) hx hb dX9_eatsIn_41 (by decide) (fun hc => ?_) (fun hc => ?_)
          · have hf := ite_t hc hf
            refine lv_iload_n hx hb dX9_eatsIn_62 rfl (lv_at hl 2 rfl) ?_
            exact gx_iret X hr hlk hP hS hf (Nat.le_of_ble_eq_true rfl) (Nat.le_of_ble_eq_true rfl) dX9_eatsIn_63
          · have hf := ite_f hc hf
            have hok := hok.2 hc
            refine lv_fload_n hx hb dX9_eatsIn_44 rfl (lv_at hl 1 rfl) ?_
            refine g_cZp (g_runS (As := [.float x1]) (rest := []) X (c_X9_isHungry l G hG σ x1) ca_X9_isHungry km_X9_260 rfl rfl ⟨Nat.le_of_ble_eq_true rfl, Nat.le_of_ble_eq_true rfl⟩ hP hS rfl hl.1 rfl (Nat.le_of_ble_eq_true rfl) ⟨Nat.le_of_ble_eq_true rfl, Nat.le_of_ble_eq_true rfl⟩ dX9_eatsIn_45) hS (fun H locs hP hS => ?_)
            refine g_ifneZ (tgt := 62) X dX9_eatsIn_48 (by decide) (fun hc => ?_) (fun hc => ?_)
            · have hf := ite_t hc hf
              refine lv_iload_n hx hb dX9_eatsIn_62 rfl (lv_at hl 2 rfl) ?_
              exact gx_iret X hr hlk hP hS hf (Nat.le_of_ble_eq_true rfl) (Nat.le_of_ble_eq_true rfl) dX9_eatsIn_63
            · have hf := ite_z hc hf
              have hok := hok.2 hc
              refine lv_fload_n hx hb dX9_eatsIn_51 rfl (lv_at hl 1 rfl) ?_
              have hs7 := hok.1
              have hok := hok.2
              refine g_cFp (g_runS (As := [.float x1]) (rest := []) X (c_X9_hungrier l G hG σ x1 hs7) ca_X9_hungrier km_X9_257 rfl rfl ⟨Nat.le_of_ble_eq_true rfl, Nat.le_of_ble_eq_true rfl⟩ hP hS rfl hl.1 rfl (Nat.le_of_ble_eq_true rfl) ⟨Nat.le_of_ble_eq_true rfl, Nat.le_of_ble_eq_true rfl⟩ dX9_eatsIn_52) hS (fun H locs hP hS => ?_)
              refine lv_fstore_n (lv' := [(1, .float (f_X9_hungrier x1)), (0, .ref (G.2.1 0)), (2, .int x2)]) hx hb dX9_eatsIn_55 rfl hl (by decide) rfl (fun ls hl => ?_)
              refine lv_iinc (v := (x2 + (1 : Int32))) (lv' := [(2, .int (x2 + (1 : Int32))), (1, .float (f_X9_hungrier x1)), (0, .ref (G.2.1 0))]) hx hb dX9_eatsIn_56 hl (k := 2) rfl rfl (by decide) rfl (fun ls hl => ?_)
              refine lv_goto (tgt := 38) hx hb dX9_eatsIn_59 (by decide) ?_
              exact ih38 σ (f_X9_hungrier x1) (x2 + (1 : Int32)) hok hf _ _ hP hS ls (lv_sub hl [2, 1, 0] rfl)
      exact K38 2000 q5.2 (f_X9_hungrier (q5.2.2.1 18 0)) (1 : Int32) hok hf _ _ hP hS ls (lv_sub hl [2, 1, 0] rfl)
def f_X9_pass (σ : St) (x1 : Int32) : Nat × St × Int32 := (bnd (f_X9_demand σ (f_X1_mayPass x1)) (fun q1 => (if q1.1 = 0 then (bnd (f_X4_remember q1.2 2) (fun q3 => (bnd (f_X6_passHours q3 2 x1) (fun q5 => (0, q5.1, q5.2))))) else (q1.1, q1.2, 0))))
def ok_X9_pass (σ : St) (x1 : Int32) : Prop := (bndP (f_X9_demand σ (f_X1_mayPass x1)) (fun q1 => q1.1 = 0 → (ok_X4_remember q1.2 2 ∧ (bndP (f_X4_remember q1.2 2) (fun q3 => ok_X6_passHours q3 2 x1)))))
abbrev rm_X9_pass : Room := { frames := 7, cells := 1, slots := 6, locals := 123 }
set_option maxHeartbeats 4000000 in
set_option maxRecDepth 100000 in
theorem c_X9_pass (l : Launch) (hfl : l.stackTraces = false) (G : GE) (hG : Gok G) (σ : St) (x1 : Int32) (hok : ok_X9_pass σ x1) : XtI l G yX9_pass cX9_pass 2 rm_X9_pass [.ref (G.2.1 0), .int x1] σ (f_X9_pass σ x1) 1 6 := by
  generalize hf : f_X9_pass σ x1 = fv
  rw [f_X9_pass] at hf
  rw [ok_X9_pass] at hok
  refine gx_start hG (by decide) (Nat.le_of_ble_eq_true rfl) ?_
  intro p e s m args below meth c X hr hlk hex ls hl H locs hP hS
  have X : Cx G p s m args c cX9_pass 2 RX9 := X
  obtain ⟨hx, hb, hml, hown, hts, hK, hbs, hXW, -⟩ := id X
  have hl : lv_has ls 2 [(0, .ref (G.2.1 0)), (1, .int x1)] := hl
  refine lv_aload_n hx hb dX9_pass_0 rfl (lv_at hl 0 rfl) ?_
  refine gg_9_0 X hP ab_0 kf_X9_10 dX9_pass_1 ?_
  refine lv_iload_n hx hb dX9_pass_4 rfl (lv_at hl 1 rfl) ?_
  refine g_cIp (g_runV (i := 1) (As := [.int x1]) (rest := []) X (c_X1_mayPass l G hG σ x1) ca_X1_mayPass km_X9_263 rfl rfl ⟨Nat.le_of_ble_eq_true rfl, Nat.le_of_ble_eq_true rfl⟩ hP hS (ty_lt ab_1) (cell_1 ab_1) rfl rfl rfl hl.1 rfl (Nat.le_of_ble_eq_true rfl) ⟨Nat.le_of_ble_eq_true rfl, Nat.le_of_ble_eq_true rfl⟩ dX9_pass_5) hS (fun H locs hP hS => ?_)
  refine gx_cV (gx_runS (As := [.int (f_X1_mayPass x1)]) (rest := []) X (c_X9_demand l hfl G hG σ (f_X1_mayPass x1)) ca_X9_demand km_X9_54 rfl rfl ⟨Nat.le_of_ble_eq_true rfl, Nat.le_of_ble_eq_true rfl⟩ hP hS rfl hl.1 rfl (Nat.le_of_ble_eq_true rfl) ⟨Nat.le_of_ble_eq_true rfl, Nat.le_of_ble_eq_true rfl⟩ dX9_pass_8) hS (fun q1 hq1 hc H locs hP hS ce q9 hce hcv hcl => ?_) (fun q1 hq1 hc H locs hP hS => ?_)
  · have hf := bnd_go hq1 hf
    have hf := ite_f hc hf
    exact gx_out hex hlk hP hS hce hcv hcl ⟨hc, hf⟩ (Nat.le_of_ble_eq_true rfl) (Nat.le_of_ble_eq_true rfl)
  · have hf := bnd_go hq1 hf
    have hf := ite_t hc hf
    have hok := bnd_goP hq1 hok hc
    refine lv_aload_n hx hb dX9_pass_11 rfl (lv_at hl 0 rfl) ?_
    refine gg_9_4 X hP ab_0 kf_X9_35 dX9_pass_12 ?_
    refine lv_aload_n hx hb dX9_pass_15 rfl (lv_at hl 0 rfl) ?_
    refine gg_9_1 X hP ab_0 kf_X9_20 dX9_pass_16 ?_
    have hs2 := hok.1
    have hok := hok.2
    refine g_cV (g_runV (i := 189) (As := [.ref (G.2.1 2)]) (rest := []) X (c_X4_remember l G hG q1.2 2 ab_2 hs2) ca_X4_remember km_X9_58 rfl rfl ⟨Nat.le_of_ble_eq_true rfl, Nat.le_of_ble_eq_true rfl⟩ hP hS (ty_lt ab_189) (cell_4 ab_189) rfl rfl rfl hl.1 rfl (Nat.le_of_ble_eq_true rfl) ⟨Nat.le_of_ble_eq_true rfl, Nat.le_of_ble_eq_true rfl⟩ dX9_pass_19) hS (fun q3 hq3 H locs hP hS => ?_)
    have hf := bnd_go hq3 hf
    have hok := bnd_goP hq3 hok
    refine lv_aload_n hx hb dX9_pass_22 rfl (lv_at hl 0 rfl) ?_
    refine gg_9_1 X hP ab_0 kf_X9_20 dX9_pass_23 ?_
    refine lv_iload_n hx hb dX9_pass_26 rfl (lv_at hl 1 rfl) ?_
    have hs4 := hok
    refine g_cI (g_runV (i := 2) (As := [.int x1]) (rest := []) X (c_X6_passHours l G hG q3 2 ab_2 x1 hs4) ca_X6_passHours km_X9_266 rfl rfl ⟨Nat.le_of_ble_eq_true rfl, Nat.le_of_ble_eq_true rfl⟩ hP hS (ty_lt ab_2) (cell_6 ab_2) rfl rfl rfl hl.1 rfl (Nat.le_of_ble_eq_true rfl) ⟨Nat.le_of_ble_eq_true rfl, Nat.le_of_ble_eq_true rfl⟩ dX9_pass_27) hS (fun q5 hq5 H locs hP hS => ?_)
    have hf := bnd_go hq5 hf
    exact gx_iret X hr hlk hP hS hf (Nat.le_of_ble_eq_true rfl) (Nat.le_of_ble_eq_true rfl) dX9_pass_30
def f_X9_append (σ : St) (x1 : Int32) : Nat × St × Int32 := (if (σ.1 191 3) < (60 : Int32) then (bnd (f_X7_add σ x1) (fun q2 => (0, q2, (q2.1 191 3)))) else (5, σ, 0))
def ok_X9_append (σ : St) (x1 : Int32) : Prop := (((σ.1 191 3) < (60 : Int32) → ok_X7_add σ x1) ∧ (¬ (σ.1 191 3) < (60 : Int32) → True))
abbrev rm_X9_append : Room := { frames := 6, cells := 1, slots := 6, locals := 100 }
set_option maxHeartbeats 4000000 in
set_option maxRecDepth 100000 in
theorem c_X9_append (l : Launch) (hfl : l.stackTraces = false) (G : GE) (hG : Gok G) (σ : St) (x1 : Int32) (hok : ok_X9_append σ x1) : XtI l G yX9_append cX9_append 2 rm_X9_append [.ref (G.2.1 0), .int x1] σ (f_X9_append σ x1) 1 6 := by
  generalize hf : f_X9_append σ x1 = fv
  rw [f_X9_append] at hf
  rw [ok_X9_append] at hok
  refine gx_start hG (by decide) (Nat.le_of_ble_eq_true rfl) ?_
  intro p e s m args below meth c X hr hlk hex ls hl H locs hP hS
  have X : Cx G p s m args c cX9_append 2 RX9 := X
  obtain ⟨hx, hb, hml, hown, hts, hK, hbs, hXW, -⟩ := id X
  have hl : lv_has ls 2 [(0, .ref (G.2.1 0)), (1, .int x1)] := hl
  refine lv_aload_n hx hb dX9_append_0 rfl (lv_at hl 0 rfl) ?_
  refine gg_9_5 X hP ab_0 kf_X9_42 dX9_append_1 ?_
  refine gg_7_3 X hP ab_191 kf_X9_282 dX9_append_4 ?_
  refine lv_bipush (v := 60) hx hb dX9_append_7 (by decide) ?_
  refine lv_icmp_lt (tgt := 23) hx hb dX9_append_9 (by decide) (fun hc => ?_) (fun hc => ?_)
  · have hf := ite_t hc hf
    have hok := hok.1 hc
    refine lv_aload_n hx hb dX9_append_23 rfl (lv_at hl 0 rfl) ?_
    refine gg_9_5 X hP ab_0 kf_X9_42 dX9_append_24 ?_
    refine lv_iload_n hx hb dX9_append_27 rfl (lv_at hl 1 rfl) ?_
    have hs1 := hok
    refine g_cV (g_runV (i := 191) (As := [.int x1]) (rest := []) X (c_X7_add l G hG σ x1 hs1) ca_X7_add km_X9_292 rfl rfl ⟨Nat.le_of_ble_eq_true rfl, Nat.le_of_ble_eq_true rfl⟩ hP hS (ty_lt ab_191) (cell_7 ab_191) rfl rfl rfl hl.1 rfl (Nat.le_of_ble_eq_true rfl) ⟨Nat.le_of_ble_eq_true rfl, Nat.le_of_ble_eq_true rfl⟩ dX9_append_28) hS (fun q2 hq2 H locs hP hS => ?_)
    have hf := bnd_go hq2 hf
    refine lv_aload_n hx hb dX9_append_31 rfl (lv_at hl 0 rfl) ?_
    refine gg_9_5 X hP ab_0 kf_X9_42 dX9_append_32 ?_
    refine gg_7_3 X hP ab_191 kf_X9_282 dX9_append_35 ?_
    exact gx_iret X hr hlk hP hS hf (Nat.le_of_ble_eq_true rfl) (Nat.le_of_ble_eq_true rfl) dX9_append_38
  · have hf := ite_f hc hf
    exact gx_throw (k := 5) X hfl hlk hex (by decide) kt_285 ki_285 ka_289 (hXW.2.1 7 (by decide)) hP hS hl.1 dX9_append_12 dX9_append_15 dX9_append_16 dX9_append_19 dX9_append_22 ⟨Nat.le_of_ble_eq_true rfl, Nat.le_of_ble_eq_true rfl, Nat.le_of_ble_eq_true rfl, Nat.le_of_ble_eq_true rfl⟩ (Nat.le_of_ble_eq_true rfl) ⟨(by decide : (5 : Nat) ≠ 0), hf⟩ (Nat.le_of_ble_eq_true rfl) (Nat.le_of_ble_eq_true rfl)
def fX9_run_L42 : Nat → St → Int32 → Int32 → Nat × St × Int32
  | 0, σ, _, _ => (0, σ, 0)
  | n42 + 1, σ, x1, x2 => (if (σ.1 191 4) ≤ x2 then (if x1 = 0 then (if x1 = (-1 : Int32) then (bnd (f_X9_demand σ (-2 : Int32)) (fun q8 => (if q8.1 = 0 then (bnd (f_X4_remember q8.2 19) (fun q10 => (0, q10, (q10.1 191 4)))) else (q8.1, q8.2, 0)))) else (bnd (f_X9_demand σ x1) (fun q5 => (if q5.1 = 0 then (bnd (f_X4_remember q5.2 19) (fun q7 => (0, q7, (q7.1 191 4)))) else (q5.1, q5.2, 0))))) else (bnd (f_X6_copyFrom σ 2 19) (fun q11 => (if x1 = (-1 : Int32) then (bnd (f_X9_demand q11 (-2 : Int32)) (fun q15 => (if q15.1 = 0 then (bnd (f_X4_remember q15.2 19) (fun q17 => (0, q17, (q17.1 191 4)))) else (q15.1, q15.2, 0)))) else (bnd (f_X9_demand q11 x1) (fun q12 => (if q12.1 = 0 then (bnd (f_X4_remember q12.2 19) (fun q14 => (0, q14, (q14.1 191 4)))) else (q12.1, q12.2, 0)))))))) else (if x1 = 0 then (bnd (f_X9_carryOut σ x2) (fun q32 => (fX9_run_L42 n42 q32.1 q32.2 (x2 + (1 : Int32))))) else (if x1 = 0 then (if x1 = (-1 : Int32) then (bnd (f_X9_demand σ (-2 : Int32)) (fun q21 => (if q21.1 = 0 then (bnd (f_X4_remember q21.2 19) (fun q23 => (0, q23, (q23.1 191 4)))) else (q21.1, q21.2, 0)))) else (bnd (f_X9_demand σ x1) (fun q18 => (if q18.1 = 0 then (bnd (f_X4_remember q18.2 19) (fun q20 => (0, q20, (q20.1 191 4)))) else (q18.1, q18.2, 0))))) else (bnd (f_X6_copyFrom σ 2 19) (fun q24 => (if x1 = (-1 : Int32) then (bnd (f_X9_demand q24 (-2 : Int32)) (fun q28 => (if q28.1 = 0 then (bnd (f_X4_remember q28.2 19) (fun q30 => (0, q30, (q30.1 191 4)))) else (q28.1, q28.2, 0)))) else (bnd (f_X9_demand q24 x1) (fun q25 => (if q25.1 = 0 then (bnd (f_X4_remember q25.2 19) (fun q27 => (0, q27, (q27.1 191 4)))) else (q25.1, q25.2, 0))))))))))
def okX9_run_L42 : Nat → St → Int32 → Int32 → Prop
  | 0, _, _, _ => False
  | n42 + 1, σ, x1, x2 => (((σ.1 191 4) ≤ x2 → ((x1 = 0 → ((x1 = (-1 : Int32) → (bndP (f_X9_demand σ (-2 : Int32)) (fun q8 => q8.1 = 0 → ok_X4_remember q8.2 19))) ∧ (¬ x1 = (-1 : Int32) → (bndP (f_X9_demand σ x1) (fun q5 => q5.1 = 0 → ok_X4_remember q5.2 19))))) ∧ (¬ x1 = 0 → (bndP (f_X6_copyFrom σ 2 19) (fun q11 => ((x1 = (-1 : Int32) → (bndP (f_X9_demand q11 (-2 : Int32)) (fun q15 => q15.1 = 0 → ok_X4_remember q15.2 19))) ∧ (¬ x1 = (-1 : Int32) → (bndP (f_X9_demand q11 x1) (fun q12 => q12.1 = 0 → ok_X4_remember q12.2 19))))))))) ∧ (¬ (σ.1 191 4) ≤ x2 → ((x1 = 0 → (ok_X9_carryOut σ x2 ∧ (bndP (f_X9_carryOut σ x2) (fun q32 => (okX9_run_L42 n42 q32.1 q32.2 (x2 + (1 : Int32))))))) ∧ (¬ x1 = 0 → ((x1 = 0 → ((x1 = (-1 : Int32) → (bndP (f_X9_demand σ (-2 : Int32)) (fun q21 => q21.1 = 0 → ok_X4_remember q21.2 19))) ∧ (¬ x1 = (-1 : Int32) → (bndP (f_X9_demand σ x1) (fun q18 => q18.1 = 0 → ok_X4_remember q18.2 19))))) ∧ (¬ x1 = 0 → (bndP (f_X6_copyFrom σ 2 19) (fun q24 => ((x1 = (-1 : Int32) → (bndP (f_X9_demand q24 (-2 : Int32)) (fun q28 => q28.1 = 0 → ok_X4_remember q28.2 19))) ∧ (¬ x1 = (-1 : Int32) → (bndP (f_X9_demand q24 x1) (fun q25 => q25.1 = 0 → ok_X4_remember q25.2 19))))))))))))
def f_X9_run (σ : St) : Nat × St × Int32 := (bnd (f_X7_scan σ) (fun q2 => (if (q2.1 191 5) = (-1 : Int32) then (bnd (f_X9_demand q2 (0 : Int32)) (fun q33 => (if q33.1 = 0 then (bnd (f_X6_copyFrom q33.2 19 2) (fun q34 => (fX9_run_L42 2000 q34 (0 : Int32) (0 : Int32)))) else (q33.1, q33.2, 0)))) else (bnd (f_X9_demand q2 (-2 : Int32)) (fun q3 => (if q3.1 = 0 then (bnd (f_X6_copyFrom q3.2 19 2) (fun q4 => (fX9_run_L42 2000 q4 (0 : Int32) (0 : Int32)))) else (q3.1, q3.2, 0)))))))
def ok_X9_run (σ : St) : Prop := (ok_X7_scan σ ∧ (bndP (f_X7_scan σ) (fun q2 => (((q2.1 191 5) = (-1 : Int32) → (bndP (f_X9_demand q2 (0 : Int32)) (fun q33 => q33.1 = 0 → (bndP (f_X6_copyFrom q33.2 19 2) (fun q34 => (okX9_run_L42 2000 q34 (0 : Int32) (0 : Int32))))))) ∧ (¬ (q2.1 191 5) = (-1 : Int32) → (bndP (f_X9_demand q2 (-2 : Int32)) (fun q3 => q3.1 = 0 → (bndP (f_X6_copyFrom q3.2 19 2) (fun q4 => (okX9_run_L42 2000 q4 (0 : Int32) (0 : Int32)))))))))))
abbrev rm_X9_run : Room := { frames := 8, cells := 2, slots := 12, locals := 169 }
set_option maxHeartbeats 4000000 in
set_option maxRecDepth 100000 in
theorem c_X9_run (l : Launch) (hfl : l.stackTraces = false) (G : GE) (hG : Gok G) (σ : St) (hok : ok_X9_run σ) : XtI l G yX9_run cX9_run 3 rm_X9_run [.ref (G.2.1 0)] σ (f_X9_run σ) 2 12 := by
  generalize hf : f_X9_run σ = fv
  rw [f_X9_run] at hf
  rw [ok_X9_run] at hok
  refine gx_start hG (by decide) (Nat.le_of_ble_eq_true rfl) ?_
  intro p e s m args below meth c X hr hlk hex ls hl H locs hP hS
  have X : Cx G p s m args c cX9_run 3 RX9 := X
  obtain ⟨hx, hb, hml, hown, hts, hK, hbs, hXW, -⟩ := id X
  have hl : lv_has ls 3 [(0, .ref (G.2.1 0))] := hl
  refine lv_aload_n hx hb dX9_run_0 rfl (lv_at hl 0 rfl) ?_
  refine gg_9_5 X hP ab_0 kf_X9_42 dX9_run_1 ?_
  have hs1 := hok.1
  have hok := hok.2
  refine g_cV (g_runV (i := 191) (As := []) (rest := []) X (c_X7_scan l G hG σ hs1) ca_X7_scan km_X9_296 rfl rfl ⟨Nat.le_of_ble_eq_true rfl, Nat.le_of_ble_eq_true rfl⟩ hP hS (ty_lt ab_191) (cell_7 ab_191) rfl rfl rfl hl.1 rfl (Nat.le_of_ble_eq_true rfl) ⟨Nat.le_of_ble_eq_true rfl, Nat.le_of_ble_eq_true rfl⟩ dX9_run_4) hS (fun q2 hq2 H locs hP hS => ?_)
  have hf := bnd_go hq2 hf
  have hok := bnd_goP hq2 hok
  refine lv_aload_n hx hb dX9_run_7 rfl (lv_at hl 0 rfl) ?_
  refine gg_9_5 X hP ab_0 kf_X9_42 dX9_run_8 ?_
  refine gg_7_5 X hP ab_191 kf_X9_299 dX9_run_11 ?_
  refine lv_iconst (v := -1) hx hb dX9_run_14 (by decide) ?_
  refine lv_icmp_ne (tgt := 22) hx hb dX9_run_15 (by decide) (fun hc => ?_) (fun hc => ?_)
  · have hf := ite_f hc hf
    have hok := hok.2 hc
    refine lv_bipush (v := -2) hx hb dX9_run_22 (by decide) ?_
    refine gx_cV (gx_runS (As := [.int (-2 : Int32)]) (rest := []) X (c_X9_demand l hfl G hG q2 (-2 : Int32)) ca_X9_demand km_X9_54 rfl rfl ⟨Nat.le_of_ble_eq_true rfl, Nat.le_of_ble_eq_true rfl⟩ hP hS rfl hl.1 rfl (Nat.le_of_ble_eq_true rfl) ⟨Nat.le_of_ble_eq_true rfl, Nat.le_of_ble_eq_true rfl⟩ dX9_run_24) hS (fun q3 hq3 hc H locs hP hS ce q9 hce hcv hcl => ?_) (fun q3 hq3 hc H locs hP hS => ?_)
    · have hf := bnd_go hq3 hf
      have hf := ite_f hc hf
      exact gx_out hex hlk hP hS hce hcv hcl ⟨hc, hf⟩ (Nat.le_of_ble_eq_true rfl) (Nat.le_of_ble_eq_true rfl)
    · have hf := bnd_go hq3 hf
      have hf := ite_t hc hf
      have hok := bnd_goP hq3 hok hc
      refine lv_aload_n hx hb dX9_run_27 rfl (lv_at hl 0 rfl) ?_
      refine gg_9_2 X hP ab_0 kf_X9_26 dX9_run_28 ?_
      refine lv_aload_n hx hb dX9_run_31 rfl (lv_at hl 0 rfl) ?_
      refine gg_9_1 X hP ab_0 kf_X9_20 dX9_run_32 ?_
      refine g_cV (g_runV (i := 19) (As := [.ref (G.2.1 2)]) (rest := []) X (c_X6_copyFrom l G hG q3.2 19 ab_19 2 ab_2) ca_X6_copyFrom km_X9_302 rfl rfl ⟨Nat.le_of_ble_eq_true rfl, Nat.le_of_ble_eq_true rfl⟩ hP hS (ty_lt ab_19) (cell_6 ab_19) rfl rfl rfl hl.1 rfl (Nat.le_of_ble_eq_true rfl) ⟨Nat.le_of_ble_eq_true rfl, Nat.le_of_ble_eq_true rfl⟩ dX9_run_35) hS (fun q4 hq4 H locs hP hS => ?_)
      have hf := bnd_go hq4 hf
      have hok := bnd_goP hq4 hok
      refine lv_iconst (v := 0) hx hb dX9_run_38 (by decide) ?_
      refine lv_istore_n (lv' := [(1, .int (0 : Int32)), (0, .ref (G.2.1 0))]) hx hb dX9_run_39 rfl hl (by decide) rfl (fun ls hl => ?_)
      refine lv_iconst (v := 0) hx hb dX9_run_40 (by decide) ?_
      refine lv_istore_n (lv' := [(2, .int (0 : Int32)), (1, .int (0 : Int32)), (0, .ref (G.2.1 0))]) hx hb dX9_run_41 rfl hl (by decide) rfl (fun ls hl => ?_)
      have K42 : ∀ (n42 : Nat) (σ : St) (x1 : Int32) (x2 : Int32), okX9_run_L42 n42 σ x1 x2 → fX9_run_L42 n42 σ x1 x2 = fv → ∀ (H : Heap) (locs : List Loc), va_P G.1 vcl (wl G σ) H → va_S (GA G) s.heap H locs → ∀ (ls : Array Slot), lv_has ls 3 [(0, .ref (G.2.1 0)), (1, .int x1), (2, .int x2)] → W p l e rm_X9_run s m args below meth c H locs 1 6 (vx_MQ below (va_Qi (fun r u => (0, u, r) = fv) (PB G) (GA G)) (vx_X (pxI fv) (BX G) (GA G)) args s 2 12 (GA G)) (F0 m 42 ls []) := by
        intro n42
        induction n42 with
        | zero =>
          intro σ x1 x2 hok
          exact hok.elim
        | succ n42 ih42 =>
          intro σ x1 x2 hok hf H locs hP hS ls hl
          rw [okX9_run_L42] at hok
          rw [fX9_run_L42] at hf
          refine lv_iload_n hx hb dX9_run_42 rfl (lv_at hl 2 rfl) ?_
          refine lv_aload_n hx hb dX9_run_43 rfl (lv_at hl 0 rfl) ?_
          refine gg_9_5 X hP ab_0 kf_X9_42 dX9_run_44 ?_
          refine gg_7_4 X hP ab_191 kf_X9_305 dX9_run_47 ?_
          refine lv_icmp_ge (tgt := 69) hx hb dX9_run_50 (by decide) (fun hc => ?_) (fun hc => ?_)
          · have hf := ite_t hc hf
            have hok := hok.1 hc
            refine lv_iload_n hx hb dX9_run_69 rfl (lv_at hl 1 rfl) ?_
            refine lv_if_eq (tgt := 84) hx hb dX9_run_70 (by decide) (fun hc => ?_) (fun hc => ?_)
            · have hf := ite_t hc hf
              have hok := hok.1 hc
              refine lv_iload_n hx hb dX9_run_84 rfl (lv_at hl 1 rfl) ?_
              refine lv_iconst (v := -1) hx hb dX9_run_85 (by decide) ?_
              refine lv_icmp_ne (tgt := 94) hx hb dX9_run_86 (by decide) (fun hc => ?_) (fun hc => ?_)
              · have hf := ite_f hc hf
                have hok := hok.2 hc
                refine lv_iload_n hx hb dX9_run_94 rfl (lv_at hl 1 rfl) ?_
                refine gx_cV (gx_runS (As := [.int x1]) (rest := []) X (c_X9_demand l hfl G hG σ x1) ca_X9_demand km_X9_54 rfl rfl ⟨Nat.le_of_ble_eq_true rfl, Nat.le_of_ble_eq_true rfl⟩ hP hS rfl hl.1 rfl (Nat.le_of_ble_eq_true rfl) ⟨Nat.le_of_ble_eq_true rfl, Nat.le_of_ble_eq_true rfl⟩ dX9_run_95) hS (fun q5 hq5 hc H locs hP hS ce q9 hce hcv hcl => ?_) (fun q5 hq5 hc H locs hP hS => ?_)
                · have hf := bnd_go hq5 hf
                  have hf := ite_f hc hf
                  exact gx_out hex hlk hP hS hce hcv hcl ⟨hc, hf⟩ (Nat.le_of_ble_eq_true rfl) (Nat.le_of_ble_eq_true rfl)
                · have hf := bnd_go hq5 hf
                  have hf := ite_t hc hf
                  have hok := bnd_goP hq5 hok hc
                  refine lv_aload_n hx hb dX9_run_98 rfl (lv_at hl 0 rfl) ?_
                  refine gg_9_4 X hP ab_0 kf_X9_35 dX9_run_99 ?_
                  refine lv_aload_n hx hb dX9_run_102 rfl (lv_at hl 0 rfl) ?_
                  refine gg_9_2 X hP ab_0 kf_X9_26 dX9_run_103 ?_
                  have hs6 := hok
                  refine g_cV (g_runV (i := 189) (As := [.ref (G.2.1 19)]) (rest := []) X (c_X4_remember l G hG q5.2 19 ab_19 hs6) ca_X4_remember km_X9_58 rfl rfl ⟨Nat.le_of_ble_eq_true rfl, Nat.le_of_ble_eq_true rfl⟩ hP hS (ty_lt ab_189) (cell_4 ab_189) rfl rfl rfl hl.1 rfl (Nat.le_of_ble_eq_true rfl) ⟨Nat.le_of_ble_eq_true rfl, Nat.le_of_ble_eq_true rfl⟩ dX9_run_106) hS (fun q7 hq7 H locs hP hS => ?_)
                  have hf := bnd_go hq7 hf
                  refine lv_aload_n hx hb dX9_run_109 rfl (lv_at hl 0 rfl) ?_
                  refine gg_9_5 X hP ab_0 kf_X9_42 dX9_run_110 ?_
                  refine gg_7_4 X hP ab_191 kf_X9_305 dX9_run_113 ?_
                  exact gx_iret X hr hlk hP hS hf (Nat.le_of_ble_eq_true rfl) (Nat.le_of_ble_eq_true rfl) dX9_run_116
              · have hf := ite_t hc hf
                have hok := hok.1 hc
                refine lv_bipush (v := -2) hx hb dX9_run_89 (by decide) ?_
                refine lv_goto (tgt := 95) hx hb dX9_run_91 (by decide) ?_
                refine gx_cV (gx_runS (As := [.int (-2 : Int32)]) (rest := []) X (c_X9_demand l hfl G hG σ (-2 : Int32)) ca_X9_demand km_X9_54 rfl rfl ⟨Nat.le_of_ble_eq_true rfl, Nat.le_of_ble_eq_true rfl⟩ hP hS rfl hl.1 rfl (Nat.le_of_ble_eq_true rfl) ⟨Nat.le_of_ble_eq_true rfl, Nat.le_of_ble_eq_true rfl⟩ dX9_run_95) hS (fun q8 hq8 hc H locs hP hS ce q9 hce hcv hcl => ?_) (fun q8 hq8 hc H locs hP hS => ?_)
                · have hf := bnd_go hq8 hf
                  have hf := ite_f hc hf
                  exact gx_out hex hlk hP hS hce hcv hcl ⟨hc, hf⟩ (Nat.le_of_ble_eq_true rfl) (Nat.le_of_ble_eq_true rfl)
                · have hf := bnd_go hq8 hf
                  have hf := ite_t hc hf
                  have hok := bnd_goP hq8 hok hc
                  refine lv_aload_n hx hb dX9_run_98 rfl (lv_at hl 0 rfl) ?_
                  refine gg_9_4 X hP ab_0 kf_X9_35 dX9_run_99 ?_
                  refine lv_aload_n hx hb dX9_run_102 rfl (lv_at hl 0 rfl) ?_
                  refine gg_9_2 X hP ab_0 kf_X9_26 dX9_run_103 ?_
                  have hs9 := hok
                  refine g_cV (g_runV (i := 189) (As := [.ref (G.2.1 19)]) (rest := []) X (c_X4_remember l G hG q8.2 19 ab_19 hs9) ca_X4_remember km_X9_58 rfl rfl ⟨Nat.le_of_ble_eq_true rfl, Nat.le_of_ble_eq_true rfl⟩ hP hS (ty_lt ab_189) (cell_4 ab_189) rfl rfl rfl hl.1 rfl (Nat.le_of_ble_eq_true rfl) ⟨Nat.le_of_ble_eq_true rfl, Nat.le_of_ble_eq_true rfl⟩ dX9_run_106) hS (fun q10 hq10 H locs hP hS => ?_)
                  have hf := bnd_go hq10 hf
                  refine lv_aload_n hx hb dX9_run_109 rfl (lv_at hl 0 rfl) ?_
                  refine gg_9_5 X hP ab_0 kf_X9_42 dX9_run_110 ?_
                  refine gg_7_4 X hP ab_191 kf_X9_305 dX9_run_113 ?_
                  exact gx_iret X hr hlk hP hS hf (Nat.le_of_ble_eq_true rfl) (Nat.le_of_ble_eq_true rfl) dX9_run_116
            · have hf := ite_f hc hf
              have hok := hok.2 hc
              refine lv_aload_n hx hb dX9_run_73 rfl (lv_at hl 0 rfl) ?_
              refine gg_9_1 X hP ab_0 kf_X9_20 dX9_run_74 ?_
              refine lv_aload_n hx hb dX9_run_77 rfl (lv_at hl 0 rfl) ?_
              refine gg_9_2 X hP ab_0 kf_X9_26 dX9_run_78 ?_
              refine g_cV (g_runV (i := 2) (As := [.ref (G.2.1 19)]) (rest := []) X (c_X6_copyFrom l G hG σ 2 ab_2 19 ab_19) ca_X6_copyFrom km_X9_302 rfl rfl ⟨Nat.le_of_ble_eq_true rfl, Nat.le_of_ble_eq_true rfl⟩ hP hS (ty_lt ab_2) (cell_6 ab_2) rfl rfl rfl hl.1 rfl (Nat.le_of_ble_eq_true rfl) ⟨Nat.le_of_ble_eq_true rfl, Nat.le_of_ble_eq_true rfl⟩ dX9_run_81) hS (fun q11 hq11 H locs hP hS => ?_)
              have hf := bnd_go hq11 hf
              have hok := bnd_goP hq11 hok
              refine lv_iload_n hx hb dX9_run_84 rfl (lv_at hl 1 rfl) ?_
              refine lv_iconst (v := -1) hx hb dX9_run_85 (by decide) ?_
              refine lv_icmp_ne (tgt := 94) hx hb dX9_run_86 (by decide) (fun hc => ?_) (fun hc => ?_)
              · have hf := ite_f hc hf
                have hok := hok.2 hc
                refine lv_iload_n hx hb dX9_run_94 rfl (lv_at hl 1 rfl) ?_
                refine gx_cV (gx_runS (As := [.int x1]) (rest := []) X (c_X9_demand l hfl G hG q11 x1) ca_X9_demand km_X9_54 rfl rfl ⟨Nat.le_of_ble_eq_true rfl, Nat.le_of_ble_eq_true rfl⟩ hP hS rfl hl.1 rfl (Nat.le_of_ble_eq_true rfl) ⟨Nat.le_of_ble_eq_true rfl, Nat.le_of_ble_eq_true rfl⟩ dX9_run_95) hS (fun q12 hq12 hc H locs hP hS ce q9 hce hcv hcl => ?_) (fun q12 hq12 hc H locs hP hS => ?_)
                · have hf := bnd_go hq12 hf
                  have hf := ite_f hc hf
                  exact gx_out hex hlk hP hS hce hcv hcl ⟨hc, hf⟩ (Nat.le_of_ble_eq_true rfl) (Nat.le_of_ble_eq_true rfl)
                · have hf := bnd_go hq12 hf
                  have hf := ite_t hc hf
                  have hok := bnd_goP hq12 hok hc
                  refine lv_aload_n hx hb dX9_run_98 rfl (lv_at hl 0 rfl) ?_
                  refine gg_9_4 X hP ab_0 kf_X9_35 dX9_run_99 ?_
                  refine lv_aload_n hx hb dX9_run_102 rfl (lv_at hl 0 rfl) ?_
                  refine gg_9_2 X hP ab_0 kf_X9_26 dX9_run_103 ?_
                  have hs13 := hok
                  refine g_cV (g_runV (i := 189) (As := [.ref (G.2.1 19)]) (rest := []) X (c_X4_remember l G hG q12.2 19 ab_19 hs13) ca_X4_remember km_X9_58 rfl rfl ⟨Nat.le_of_ble_eq_true rfl, Nat.le_of_ble_eq_true rfl⟩ hP hS (ty_lt ab_189) (cell_4 ab_189) rfl rfl rfl hl.1 rfl (Nat.le_of_ble_eq_true rfl) ⟨Nat.le_of_ble_eq_true rfl, Nat.le_of_ble_eq_true rfl⟩ dX9_run_106) hS (fun q14 hq14 H locs hP hS => ?_)
                  have hf := bnd_go hq14 hf
                  refine lv_aload_n hx hb dX9_run_109 rfl (lv_at hl 0 rfl) ?_
                  refine gg_9_5 X hP ab_0 kf_X9_42 dX9_run_110 ?_
                  refine gg_7_4 X hP ab_191 kf_X9_305 dX9_run_113 ?_
                  exact gx_iret X hr hlk hP hS hf (Nat.le_of_ble_eq_true rfl) (Nat.le_of_ble_eq_true rfl) dX9_run_116
              · have hf := ite_t hc hf
                have hok := hok.1 hc
                refine lv_bipush (v := -2) hx hb dX9_run_89 (by decide) ?_
                refine lv_goto (tgt := 95) hx hb dX9_run_91 (by decide) ?_
                refine gx_cV (gx_runS (As := [.int (-2 : Int32)]) (rest := []) X (c_X9_demand l hfl G hG q11 (-2 : Int32)) ca_X9_demand km_X9_54 rfl rfl ⟨Nat.le_of_ble_eq_true rfl, Nat.le_of_ble_eq_true rfl⟩ hP hS rfl hl.1 rfl (Nat.le_of_ble_eq_true rfl) ⟨Nat.le_of_ble_eq_true rfl, Nat.le_of_ble_eq_true rfl⟩ dX9_run_95) hS (fun q15 hq15 hc H locs hP hS ce q9 hce hcv hcl => ?_) (fun q15 hq15 hc H locs hP hS => ?_)
                · have hf := bnd_go hq15 hf
                  have hf := ite_f hc hf
                  exact gx_out hex hlk hP hS hce hcv hcl ⟨hc, hf⟩ (Nat.le_of_ble_eq_true rfl) (Nat.le_of_ble_eq_true rfl)
                · have hf := bnd_go hq15 hf
                  have hf := ite_t hc hf
                  have hok := bnd_goP hq15 hok hc
                  refine lv_aload_n hx hb dX9_run_98 rfl (lv_at hl 0 rfl) ?_
                  refine gg_9_4 X hP ab_0 kf_X9_35 dX9_run_99 ?_
                  refine lv_aload_n hx hb dX9_run_102 rfl (lv_at hl 0 rfl) ?_
                  refine gg_9_2 X hP ab_0 kf_X9_26 dX9_run_103 ?_
                  have hs16 := hok
                  refine g_cV (g_runV (i := 189) (As := [.ref (G.2.1 19)]) (rest := []) X (c_X4_remember l G hG q15.2 19 ab_19 hs16) ca_X4_remember km_X9_58 rfl rfl ⟨Nat.le_of_ble_eq_true rfl, Nat.le_of_ble_eq_true rfl⟩ hP hS (ty_lt ab_189) (cell_4 ab_189) rfl rfl rfl hl.1 rfl (Nat.le_of_ble_eq_true rfl) ⟨Nat.le_of_ble_eq_true rfl, Nat.le_of_ble_eq_true rfl⟩ dX9_run_106) hS (fun q17 hq17 H locs hP hS => ?_)
                  have hf := bnd_go hq17 hf
                  refine lv_aload_n hx hb dX9_run_109 rfl (lv_at hl 0 rfl) ?_
                  refine gg_9_5 X hP ab_0 kf_X9_42 dX9_run_110 ?_
                  refine gg_7_4 X hP ab_191 kf_X9_305 dX9_run_113 ?_
                  exact gx_iret X hr hlk hP hS hf (Nat.le_of_ble_eq_true rfl) (Nat.le_of_ble_eq_true rfl) dX9_run_116
          · have hf := ite_f hc hf
            have hok := hok.2 hc
            refine lv_iload_n hx hb dX9_run_53 rfl (lv_at hl 1 rfl) ?_
            refine lv_if_ne (tgt := 69) hx hb dX9_run_54 (by decide) (fun hc => ?_) (fun hc => ?_)
            · have hf := ite_f hc hf
              have hok := hok.2 hc
              refine lv_iload_n hx hb dX9_run_69 rfl (lv_at hl 1 rfl) ?_
              refine lv_if_eq (tgt := 84) hx hb dX9_run_70 (by decide) (fun hc => ?_) (fun hc => ?_)
              · have hf := ite_t hc hf
                have hok := hok.1 hc
                refine lv_iload_n hx hb dX9_run_84 rfl (lv_at hl 1 rfl) ?_
                refine lv_iconst (v := -1) hx hb dX9_run_85 (by decide) ?_
                refine lv_icmp_ne (tgt := 94) hx hb dX9_run_86 (by decide) (fun hc => ?_) (fun hc => ?_)
                · have hf := ite_f hc hf
                  have hok := hok.2 hc
                  refine lv_iload_n hx hb dX9_run_94 rfl (lv_at hl 1 rfl) ?_
                  refine gx_cV (gx_runS (As := [.int x1]) (rest := []) X (c_X9_demand l hfl G hG σ x1) ca_X9_demand km_X9_54 rfl rfl ⟨Nat.le_of_ble_eq_true rfl, Nat.le_of_ble_eq_true rfl⟩ hP hS rfl hl.1 rfl (Nat.le_of_ble_eq_true rfl) ⟨Nat.le_of_ble_eq_true rfl, Nat.le_of_ble_eq_true rfl⟩ dX9_run_95) hS (fun q18 hq18 hc H locs hP hS ce q9 hce hcv hcl => ?_) (fun q18 hq18 hc H locs hP hS => ?_)
                  · have hf := bnd_go hq18 hf
                    have hf := ite_f hc hf
                    exact gx_out hex hlk hP hS hce hcv hcl ⟨hc, hf⟩ (Nat.le_of_ble_eq_true rfl) (Nat.le_of_ble_eq_true rfl)
                  · have hf := bnd_go hq18 hf
                    have hf := ite_t hc hf
                    have hok := bnd_goP hq18 hok hc
                    refine lv_aload_n hx hb dX9_run_98 rfl (lv_at hl 0 rfl) ?_
                    refine gg_9_4 X hP ab_0 kf_X9_35 dX9_run_99 ?_
                    refine lv_aload_n hx hb dX9_run_102 rfl (lv_at hl 0 rfl) ?_
                    refine gg_9_2 X hP ab_0 kf_X9_26 dX9_run_103 ?_
                    have hs19 := hok
                    refine g_cV (g_runV (i := 189) (As := [.ref (G.2.1 19)]) (rest := []) X (c_X4_remember l G hG q18.2 19 ab_19 hs19) ca_X4_remember km_X9_58 rfl rfl ⟨Nat.le_of_ble_eq_true rfl, Nat.le_of_ble_eq_true rfl⟩ hP hS (ty_lt ab_189) (cell_4 ab_189) rfl rfl rfl hl.1 rfl (Nat.le_of_ble_eq_true rfl) ⟨Nat.le_of_ble_eq_true rfl, Nat.le_of_ble_eq_true rfl⟩ dX9_run_106) hS (fun q20 hq20 H locs hP hS => ?_)
                    have hf := bnd_go hq20 hf
                    refine lv_aload_n hx hb dX9_run_109 rfl (lv_at hl 0 rfl) ?_
                    refine gg_9_5 X hP ab_0 kf_X9_42 dX9_run_110 ?_
                    refine gg_7_4 X hP ab_191 kf_X9_305 dX9_run_113 ?_
                    exact gx_iret X hr hlk hP hS hf (Nat.le_of_ble_eq_true rfl) (Nat.le_of_ble_eq_true rfl) dX9_run_116
                · have hf := ite_t hc hf
                  have hok := hok.1 hc
                  refine lv_bipush (v := -2) hx hb dX9_run_89 (by decide) ?_
                  refine lv_goto (tgt := 95) hx hb dX9_run_91 (by decide) ?_
                  refine gx_cV (gx_runS (As := [.int (-2 : Int32)]) (rest := []) X (c_X9_demand l hfl G hG σ (-2 : Int32)) ca_X9_demand km_X9_54 rfl rfl ⟨Nat.le_of_ble_eq_true rfl, Nat.le_of_ble_eq_true rfl⟩ hP hS rfl hl.1 rfl (Nat.le_of_ble_eq_true rfl) ⟨Nat.le_of_ble_eq_true rfl, Nat.le_of_ble_eq_true rfl⟩ dX9_run_95) hS (fun q21 hq21 hc H locs hP hS ce q9 hce hcv hcl => ?_) (fun q21 hq21 hc H locs hP hS => ?_)
                  · have hf := bnd_go hq21 hf
                    have hf := ite_f hc hf
                    exact gx_out hex hlk hP hS hce hcv hcl ⟨hc, hf⟩ (Nat.le_of_ble_eq_true rfl) (Nat.le_of_ble_eq_true rfl)
                  · have hf := bnd_go hq21 hf
                    have hf := ite_t hc hf
                    have hok := bnd_goP hq21 hok hc
                    refine lv_aload_n hx hb dX9_run_98 rfl (lv_at hl 0 rfl) ?_
                    refine gg_9_4 X hP ab_0 kf_X9_35 dX9_run_99 ?_
                    refine lv_aload_n hx hb dX9_run_102 rfl (lv_at hl 0 rfl) ?_
                    refine gg_9_2 X hP ab_0 kf_X9_26 dX9_run_103 ?_
                    have hs22 := hok
                    refine g_cV (g_runV (i := 189) (As := [.ref (G.2.1 19)]) (rest := []) X (c_X4_remember l G hG q21.2 19 ab_19 hs22) ca_X4_remember km_X9_58 rfl rfl ⟨Nat.le_of_ble_eq_true rfl, Nat.le_of_ble_eq_true rfl⟩ hP hS (ty_lt ab_189) (cell_4 ab_189) rfl rfl rfl hl.1 rfl (Nat.le_of_ble_eq_true rfl) ⟨Nat.le_of_ble_eq_true rfl, Nat.le_of_ble_eq_true rfl⟩ dX9_run_106) hS (fun q23 hq23 H locs hP hS => ?_)
                    have hf := bnd_go hq23 hf
                    refine lv_aload_n hx hb dX9_run_109 rfl (lv_at hl 0 rfl) ?_
                    refine gg_9_5 X hP ab_0 kf_X9_42 dX9_run_110 ?_
                    refine gg_7_4 X hP ab_191 kf_X9_305 dX9_run_113 ?_
                    exact gx_iret X hr hlk hP hS hf (Nat.le_of_ble_eq_true rfl) (Nat.le_of_ble_eq_true rfl) dX9_run_116
              · have hf := ite_f hc hf
                have hok := hok.2 hc
                refine lv_aload_n hx hb dX9_run_73 rfl (lv_at hl 0 rfl) ?_
                refine gg_9_1 X hP ab_0 kf_X9_20 dX9_run_74 ?_
                refine lv_aload_n hx hb dX9_run_77 rfl (lv_at hl 0 rfl) ?_
                refine gg_9_2 X hP ab_0 kf_X9_26 dX9_run_78 ?_
                refine g_cV (g_runV (i := 2) (As := [.ref (G.2.1 19)]) (rest := []) X (c_X6_copyFrom l G hG σ 2 ab_2 19 ab_19) ca_X6_copyFrom km_X9_302 rfl rfl ⟨Nat.le_of_ble_eq_true rfl, Nat.le_of_ble_eq_true rfl⟩ hP hS (ty_lt ab_2) (cell_6 ab_2) rfl rfl rfl hl.1 rfl (Nat.le_of_ble_eq_true rfl) ⟨Nat.le_of_ble_eq_true rfl, Nat.le_of_ble_eq_true rfl⟩ dX9_run_81) hS (fun q24 hq24 H locs hP hS => ?_)
                have hf := bnd_go hq24 hf
                have hok := bnd_goP hq24 hok
                refine lv_iload_n hx hb dX9_run_84 rfl (lv_at hl 1 rfl) ?_
                refine lv_iconst (v := -1) hx hb dX9_run_85 (by decide) ?_
                refine lv_icmp_ne (tgt := 94) hx hb dX9_run_86 (by decide) (fun hc => ?_) (fun hc => ?_)
                · have hf := ite_f hc hf
                  have hok := hok.2 hc
                  refine lv_iload_n hx hb dX9_run_94 rfl (lv_at hl 1 rfl) ?_
                  refine gx_cV (gx_runS (As := [.int x1]) (rest := []) X (c_X9_demand l hfl G hG q24 x1) ca_X9_demand km_X9_54 rfl rfl ⟨Nat.le_of_ble_eq_true rfl, Nat.le_of_ble_eq_true rfl⟩ hP hS rfl hl.1 rfl (Nat.le_of_ble_eq_true rfl) ⟨Nat.le_of_ble_eq_true rfl, Nat.le_of_ble_eq_true rfl⟩ dX9_run_95) hS (fun q25 hq25 hc H locs hP hS ce q9 hce hcv hcl => ?_) (fun q25 hq25 hc H locs hP hS => ?_)
                  · have hf := bnd_go hq25 hf
                    have hf := ite_f hc hf
                    exact gx_out hex hlk hP hS hce hcv hcl ⟨hc, hf⟩ (Nat.le_of_ble_eq_true rfl) (Nat.le_of_ble_eq_true rfl)
                  · have hf := bnd_go hq25 hf
                    have hf := ite_t hc hf
                    have hok := bnd_goP hq25 hok hc
                    refine lv_aload_n hx hb dX9_run_98 rfl (lv_at hl 0 rfl) ?_
                    refine gg_9_4 X hP ab_0 kf_X9_35 dX9_run_99 ?_
                    refine lv_aload_n hx hb dX9_run_102 rfl (lv_at hl 0 rfl) ?_
                    refine gg_9_2 X hP ab_0 kf_X9_26 dX9_run_103 ?_
                    have hs26 := hok
                    refine g_cV (g_runV (i := 189) (As := [.ref (G.2.1 19)]) (rest := []) X (c_X4_remember l G hG q25.2 19 ab_19 hs26) ca_X4_remember km_X9_58 rfl rfl ⟨Nat.le_of_ble_eq_true rfl, Nat.le_of_ble_eq_true rfl⟩ hP hS (ty_lt ab_189) (cell_4 ab_189) rfl rfl rfl hl.1 rfl (Nat.le_of_ble_eq_true rfl) ⟨Nat.le_of_ble_eq_true rfl, Nat.le_of_ble_eq_true rfl⟩ dX9_run_106) hS (fun q27 hq27 H locs hP hS => ?_)
                    have hf := bnd_go hq27 hf
                    refine lv_aload_n hx hb dX9_run_109 rfl (lv_at hl 0 rfl) ?_
                    refine gg_9_5 X hP ab_0 kf_X9_42 dX9_run_110 ?_
                    refine gg_7_4 X hP ab_191 kf_X9_305 dX9_run_113 ?_
                    exact gx_iret X hr hlk hP hS hf (Nat.le_of_ble_eq_true rfl) (Nat.le_of_ble_eq_true rfl) dX9_run_116
                · have hf := ite_t hc hf
                  have hok := hok.1 hc
                  refine lv_bipush (v := -2) hx hb dX9_run_89 (by decide) ?_
                  refine lv_goto (tgt := 95) hx hb dX9_run_91 (by decide) ?_
                  refine gx_cV (gx_runS (As := [.int (-2 : Int32)]) (rest := []) X (c_X9_demand l hfl G hG q24 (-2 : Int32)) ca_X9_demand km_X9_54 rfl rfl ⟨Nat.le_of_ble_eq_true rfl, Nat.le_of_ble_eq_true rfl⟩ hP hS rfl hl.1 rfl (Nat.le_of_ble_eq_true rfl) ⟨Nat.le_of_ble_eq_true rfl, Nat.le_of_ble_eq_true rfl⟩ dX9_run_95) hS (fun q28 hq28 hc H locs hP hS ce q9 hce hcv hcl => ?_) (fun q28 hq28 hc H locs hP hS => ?_)
                  · have hf := bnd_go hq28 hf
                    have hf := ite_f hc hf
                    exact gx_out hex hlk hP hS hce hcv hcl ⟨hc, hf⟩ (Nat.le_of_ble_eq_true rfl) (Nat.le_of_ble_eq_true rfl)
                  · have hf := bnd_go hq28 hf
                    have hf := ite_t hc hf
                    have hok := bnd_goP hq28 hok hc
                    refine lv_aload_n hx hb dX9_run_98 rfl (lv_at hl 0 rfl) ?_
                    refine gg_9_4 X hP ab_0 kf_X9_35 dX9_run_99 ?_
                    refine lv_aload_n hx hb dX9_run_102 rfl (lv_at hl 0 rfl) ?_
                    refine gg_9_2 X hP ab_0 kf_X9_26 dX9_run_103 ?_
                    have hs29 := hok
                    refine g_cV (g_runV (i := 189) (As := [.ref (G.2.1 19)]) (rest := []) X (c_X4_remember l G hG q28.2 19 ab_19 hs29) ca_X4_remember km_X9_58 rfl rfl ⟨Nat.le_of_ble_eq_true rfl, Nat.le_of_ble_eq_true rfl⟩ hP hS (ty_lt ab_189) (cell_4 ab_189) rfl rfl rfl hl.1 rfl (Nat.le_of_ble_eq_true rfl) ⟨Nat.le_of_ble_eq_true rfl, Nat.le_of_ble_eq_true rfl⟩ dX9_run_106) hS (fun q30 hq30 H locs hP hS => ?_)
                    have hf := bnd_go hq30 hf
                    refine lv_aload_n hx hb dX9_run_109 rfl (lv_at hl 0 rfl) ?_
                    refine gg_9_5 X hP ab_0 kf_X9_42 dX9_run_110 ?_
                    refine gg_7_4 X hP ab_191 kf_X9_305 dX9_run_113 ?_
                    exact gx_iret X hr hlk hP hS hf (Nat.le_of_ble_eq_true rfl) (Nat.le_of_ble_eq_true rfl) dX9_run_116
            · have hf := ite_t hc hf
              have hok := hok.1 hc
              refine lv_aload_n hx hb dX9_run_57 rfl (lv_at hl 0 rfl) ?_
              refine lv_iload_n hx hb dX9_run_58 rfl (lv_at hl 2 rfl) ?_
              have hs31 := hok.1
              have hok := hok.2
              refine g_cI (g_runV (i := 0) (As := [.int x2]) (rest := []) X (c_X9_carryOut l G hG σ x2 hs31) ca_X9_carryOut km_X9_308 rfl rfl ⟨Nat.le_of_ble_eq_true rfl, Nat.le_of_ble_eq_true rfl⟩ hP hS (ty_lt ab_0) (cell_9 ab_0) rfl rfl rfl hl.1 rfl (Nat.le_of_ble_eq_true rfl) ⟨Nat.le_of_ble_eq_true rfl, Nat.le_of_ble_eq_true rfl⟩ dX9_run_59) hS (fun q32 hq32 H locs hP hS => ?_)
              have hf := bnd_go hq32 hf
              have hok := bnd_goP hq32 hok
              refine lv_istore_n (lv' := [(1, .int q32.2), (0, .ref (G.2.1 0)), (2, .int x2)]) hx hb dX9_run_62 rfl hl (by decide) rfl (fun ls hl => ?_)
              refine lv_iinc (v := (x2 + (1 : Int32))) (lv' := [(2, .int (x2 + (1 : Int32))), (1, .int q32.2), (0, .ref (G.2.1 0))]) hx hb dX9_run_63 hl (k := 2) rfl rfl (by decide) rfl (fun ls hl => ?_)
              refine lv_goto (tgt := 42) hx hb dX9_run_66 (by decide) ?_
              exact ih42 q32.1 q32.2 (x2 + (1 : Int32)) hok hf _ _ hP hS ls (lv_sub hl [2, 1, 0] rfl)
      exact K42 2000 q4 (0 : Int32) (0 : Int32) hok hf _ _ hP hS ls (lv_sub hl [2, 1, 0] rfl)
  · have hf := ite_t hc hf
    have hok := hok.1 hc
    refine lv_iconst (v := 0) hx hb dX9_run_18 (by decide) ?_
    refine lv_goto (tgt := 24) hx hb dX9_run_19 (by decide) ?_
    refine gx_cV (gx_runS (As := [.int (0 : Int32)]) (rest := []) X (c_X9_demand l hfl G hG q2 (0 : Int32)) ca_X9_demand km_X9_54 rfl rfl ⟨Nat.le_of_ble_eq_true rfl, Nat.le_of_ble_eq_true rfl⟩ hP hS rfl hl.1 rfl (Nat.le_of_ble_eq_true rfl) ⟨Nat.le_of_ble_eq_true rfl, Nat.le_of_ble_eq_true rfl⟩ dX9_run_24) hS (fun q33 hq33 hc H locs hP hS ce q9 hce hcv hcl => ?_) (fun q33 hq33 hc H locs hP hS => ?_)
    · have hf := bnd_go hq33 hf
      have hf := ite_f hc hf
      exact gx_out hex hlk hP hS hce hcv hcl ⟨hc, hf⟩ (Nat.le_of_ble_eq_true rfl) (Nat.le_of_ble_eq_true rfl)
    · have hf := bnd_go hq33 hf
      have hf := ite_t hc hf
      have hok := bnd_goP hq33 hok hc
      refine lv_aload_n hx hb dX9_run_27 rfl (lv_at hl 0 rfl) ?_
      refine gg_9_2 X hP ab_0 kf_X9_26 dX9_run_28 ?_
      refine lv_aload_n hx hb dX9_run_31 rfl (lv_at hl 0 rfl) ?_
      refine gg_9_1 X hP ab_0 kf_X9_20 dX9_run_32 ?_
      refine g_cV (g_runV (i := 19) (As := [.ref (G.2.1 2)]) (rest := []) X (c_X6_copyFrom l G hG q33.2 19 ab_19 2 ab_2) ca_X6_copyFrom km_X9_302 rfl rfl ⟨Nat.le_of_ble_eq_true rfl, Nat.le_of_ble_eq_true rfl⟩ hP hS (ty_lt ab_19) (cell_6 ab_19) rfl rfl rfl hl.1 rfl (Nat.le_of_ble_eq_true rfl) ⟨Nat.le_of_ble_eq_true rfl, Nat.le_of_ble_eq_true rfl⟩ dX9_run_35) hS (fun q34 hq34 H locs hP hS => ?_)
      have hf := bnd_go hq34 hf
      have hok := bnd_goP hq34 hok
      refine lv_iconst (v := 0) hx hb dX9_run_38 (by decide) ?_
      refine lv_istore_n (lv' := [(1, .int (0 : Int32)), (0, .ref (G.2.1 0))]) hx hb dX9_run_39 rfl hl (by decide) rfl (fun ls hl => ?_)
      refine lv_iconst (v := 0) hx hb dX9_run_40 (by decide) ?_
      refine lv_istore_n (lv' := [(2, .int (0 : Int32)), (1, .int (0 : Int32)), (0, .ref (G.2.1 0))]) hx hb dX9_run_41 rfl hl (by decide) rfl (fun ls hl => ?_)
      have K42 : ∀ (n42 : Nat) (σ : St) (x1 : Int32) (x2 : Int32), okX9_run_L42 n42 σ x1 x2 → fX9_run_L42 n42 σ x1 x2 = fv → ∀ (H : Heap) (locs : List Loc), va_P G.1 vcl (wl G σ) H → va_S (GA G) s.heap H locs → ∀ (ls : Array Slot), lv_has ls 3 [(0, .ref (G.2.1 0)), (1, .int x1), (2, .int x2)] → W p l e rm_X9_run s m args below meth c H locs 1 6 (vx_MQ below (va_Qi (fun r u => (0, u, r) = fv) (PB G) (GA G)) (vx_X (pxI fv) (BX G) (GA G)) args s 2 12 (GA G)) (F0 m 42 ls []) := by
        intro n42
        induction n42 with
        | zero =>
          intro σ x1 x2 hok
          exact hok.elim
        | succ n42 ih42 =>
          intro σ x1 x2 hok hf H locs hP hS ls hl
          rw [okX9_run_L42] at hok
          rw [fX9_run_L42] at hf
          refine lv_iload_n hx hb dX9_run_42 rfl (lv_at hl 2 rfl) ?_
          refine lv_aload_n hx hb dX9_run_43 rfl (lv_at hl 0 rfl) ?_
          refine gg_9_5 X hP ab_0 kf_X9_42 dX9_run_44 ?_
          refine gg_7_4 X hP ab_191 kf_X9_305 dX9_run_47 ?_
          refine lv_icmp_ge (tgt := 69) hx hb dX9_run_50 (by decide) (fun hc => ?_) (fun hc => ?_)
          · have hf := ite_t hc hf
            have hok := hok.1 hc
            refine lv_iload_n hx hb dX9_run_69 rfl (lv_at hl 1 rfl) ?_
            refine lv_if_eq (tgt := 84) hx hb dX9_run_70 (by decide) (fun hc => ?_) (fun hc => ?_)
            · have hf := ite_t hc hf
              have hok := hok.1 hc
              refine lv_iload_n hx hb dX9_run_84 rfl (lv_at hl 1 rfl) ?_
              refine lv_iconst (v := -1) hx hb dX9_run_85 (by decide) ?_
              refine lv_icmp_ne (tgt := 94) hx hb dX9_run_86 (by decide) (fun hc => ?_) (fun hc => ?_)
              · have hf := ite_f hc hf
                have hok := hok.2 hc
                refine lv_iload_n hx hb dX9_run_94 rfl (lv_at hl 1 rfl) ?_
                refine gx_cV (gx_runS (As := [.int x1]) (rest := []) X (c_X9_demand l hfl G hG σ x1) ca_X9_demand km_X9_54 rfl rfl ⟨Nat.le_of_ble_eq_true rfl, Nat.le_of_ble_eq_true rfl⟩ hP hS rfl hl.1 rfl (Nat.le_of_ble_eq_true rfl) ⟨Nat.le_of_ble_eq_true rfl, Nat.le_of_ble_eq_true rfl⟩ dX9_run_95) hS (fun q35 hq35 hc H locs hP hS ce q9 hce hcv hcl => ?_) (fun q35 hq35 hc H locs hP hS => ?_)
                · have hf := bnd_go hq35 hf
                  have hf := ite_f hc hf
                  exact gx_out hex hlk hP hS hce hcv hcl ⟨hc, hf⟩ (Nat.le_of_ble_eq_true rfl) (Nat.le_of_ble_eq_true rfl)
                · have hf := bnd_go hq35 hf
                  have hf := ite_t hc hf
                  have hok := bnd_goP hq35 hok hc
                  refine lv_aload_n hx hb dX9_run_98 rfl (lv_at hl 0 rfl) ?_
                  refine gg_9_4 X hP ab_0 kf_X9_35 dX9_run_99 ?_
                  refine lv_aload_n hx hb dX9_run_102 rfl (lv_at hl 0 rfl) ?_
                  refine gg_9_2 X hP ab_0 kf_X9_26 dX9_run_103 ?_
                  have hs36 := hok
                  refine g_cV (g_runV (i := 189) (As := [.ref (G.2.1 19)]) (rest := []) X (c_X4_remember l G hG q35.2 19 ab_19 hs36) ca_X4_remember km_X9_58 rfl rfl ⟨Nat.le_of_ble_eq_true rfl, Nat.le_of_ble_eq_true rfl⟩ hP hS (ty_lt ab_189) (cell_4 ab_189) rfl rfl rfl hl.1 rfl (Nat.le_of_ble_eq_true rfl) ⟨Nat.le_of_ble_eq_true rfl, Nat.le_of_ble_eq_true rfl⟩ dX9_run_106) hS (fun q37 hq37 H locs hP hS => ?_)
                  have hf := bnd_go hq37 hf
                  refine lv_aload_n hx hb dX9_run_109 rfl (lv_at hl 0 rfl) ?_
                  refine gg_9_5 X hP ab_0 kf_X9_42 dX9_run_110 ?_
                  refine gg_7_4 X hP ab_191 kf_X9_305 dX9_run_113 ?_
                  exact gx_iret X hr hlk hP hS hf (Nat.le_of_ble_eq_true rfl) (Nat.le_of_ble_eq_true rfl) dX9_run_116
              · have hf := ite_t hc hf
                have hok := hok.1 hc
                refine lv_bipush (v := -2) hx hb dX9_run_89 (by decide) ?_
                refine lv_goto (tgt := 95) hx hb dX9_run_91 (by decide) ?_
                refine gx_cV (gx_runS (As := [.int (-2 : Int32)]) (rest := []) X (c_X9_demand l hfl G hG σ (-2 : Int32)) ca_X9_demand km_X9_54 rfl rfl ⟨Nat.le_of_ble_eq_true rfl, Nat.le_of_ble_eq_true rfl⟩ hP hS rfl hl.1 rfl (Nat.le_of_ble_eq_true rfl) ⟨Nat.le_of_ble_eq_true rfl, Nat.le_of_ble_eq_true rfl⟩ dX9_run_95) hS (fun q38 hq38 hc H locs hP hS ce q9 hce hcv hcl => ?_) (fun q38 hq38 hc H locs hP hS => ?_)
                · have hf := bnd_go hq38 hf
                  have hf := ite_f hc hf
                  exact gx_out hex hlk hP hS hce hcv hcl ⟨hc, hf⟩ (Nat.le_of_ble_eq_true rfl) (Nat.le_of_ble_eq_true rfl)
                · have hf := bnd_go hq38 hf
                  have hf := ite_t hc hf
                  have hok := bnd_goP hq38 hok hc
                  refine lv_aload_n hx hb dX9_run_98 rfl (lv_at hl 0 rfl) ?_
                  refine gg_9_4 X hP ab_0 kf_X9_35 dX9_run_99 ?_
                  refine lv_aload_n hx hb dX9_run_102 rfl (lv_at hl 0 rfl) ?_
                  refine gg_9_2 X hP ab_0 kf_X9_26 dX9_run_103 ?_
                  have hs39 := hok
                  refine g_cV (g_runV (i := 189) (As := [.ref (G.2.1 19)]) (rest := []) X (c_X4_remember l G hG q38.2 19 ab_19 hs39) ca_X4_remember km_X9_58 rfl rfl ⟨Nat.le_of_ble_eq_true rfl, Nat.le_of_ble_eq_true rfl⟩ hP hS (ty_lt ab_189) (cell_4 ab_189) rfl rfl rfl hl.1 rfl (Nat.le_of_ble_eq_true rfl) ⟨Nat.le_of_ble_eq_true rfl, Nat.le_of_ble_eq_true rfl⟩ dX9_run_106) hS (fun q40 hq40 H locs hP hS => ?_)
                  have hf := bnd_go hq40 hf
                  refine lv_aload_n hx hb dX9_run_109 rfl (lv_at hl 0 rfl) ?_
                  refine gg_9_5 X hP ab_0 kf_X9_42 dX9_run_110 ?_
                  refine gg_7_4 X hP ab_191 kf_X9_305 dX9_run_113 ?_
                  exact gx_iret X hr hlk hP hS hf (Nat.le_of_ble_eq_true rfl) (Nat.le_of_ble_eq_true rfl) dX9_run_116
            · have hf := ite_f hc hf
              have hok := hok.2 hc
              refine lv_aload_n hx hb dX9_run_73 rfl (lv_at hl 0 rfl) ?_
              refine gg_9_1 X hP ab_0 kf_X9_20 dX9_run_74 ?_
              refine lv_aload_n hx hb dX9_run_77 rfl (lv_at hl 0 rfl) ?_
              refine gg_9_2 X hP ab_0 kf_X9_26 dX9_run_78 ?_
              refine g_cV (g_runV (i := 2) (As := [.ref (G.2.1 19)]) (rest := []) X (c_X6_copyFrom l G hG σ 2 ab_2 19 ab_19) ca_X6_copyFrom km_X9_302 rfl rfl ⟨Nat.le_of_ble_eq_true rfl, Nat.le_of_ble_eq_true rfl⟩ hP hS (ty_lt ab_2) (cell_6 ab_2) rfl rfl rfl hl.1 rfl (Nat.le_of_ble_eq_true rfl) ⟨Nat.le_of_ble_eq_true rfl, Nat.le_of_ble_eq_true rfl⟩ dX9_run_81) hS (fun q41 hq41 H locs hP hS => ?_)
              have hf := bnd_go hq41 hf
              have hok := bnd_goP hq41 hok
              refine lv_iload_n hx hb dX9_run_84 rfl (lv_at hl 1 rfl) ?_
              refine lv_iconst (v := -1) hx hb dX9_run_85 (by decide) ?_
              refine lv_icmp_ne (tgt := 94) hx hb dX9_run_86 (by decide) (fun hc => ?_) (fun hc => ?_)
              · have hf := ite_f hc hf
                have hok := hok.2 hc
                refine lv_iload_n hx hb dX9_run_94 rfl (lv_at hl 1 rfl) ?_
                refine gx_cV (gx_runS (As := [.int x1]) (rest := []) X (c_X9_demand l hfl G hG q41 x1) ca_X9_demand km_X9_54 rfl rfl ⟨Nat.le_of_ble_eq_true rfl, Nat.le_of_ble_eq_true rfl⟩ hP hS rfl hl.1 rfl (Nat.le_of_ble_eq_true rfl) ⟨Nat.le_of_ble_eq_true rfl, Nat.le_of_ble_eq_true rfl⟩ dX9_run_95) hS (fun q42 hq42 hc H locs hP hS ce q9 hce hcv hcl => ?_) (fun q42 hq42 hc H locs hP hS => ?_)
                · have hf := bnd_go hq42 hf
                  have hf := ite_f hc hf
                  exact gx_out hex hlk hP hS hce hcv hcl ⟨hc, hf⟩ (Nat.le_of_ble_eq_true rfl) (Nat.le_of_ble_eq_true rfl)
                · have hf := bnd_go hq42 hf
                  have hf := ite_t hc hf
                  have hok := bnd_goP hq42 hok hc
                  refine lv_aload_n hx hb dX9_run_98 rfl (lv_at hl 0 rfl) ?_
                  refine gg_9_4 X hP ab_0 kf_X9_35 dX9_run_99 ?_
                  refine lv_aload_n hx hb dX9_run_102 rfl (lv_at hl 0 rfl) ?_
                  refine gg_9_2 X hP ab_0 kf_X9_26 dX9_run_103 ?_
                  have hs43 := hok
                  refine g_cV (g_runV (i := 189) (As := [.ref (G.2.1 19)]) (rest := []) X (c_X4_remember l G hG q42.2 19 ab_19 hs43) ca_X4_remember km_X9_58 rfl rfl ⟨Nat.le_of_ble_eq_true rfl, Nat.le_of_ble_eq_true rfl⟩ hP hS (ty_lt ab_189) (cell_4 ab_189) rfl rfl rfl hl.1 rfl (Nat.le_of_ble_eq_true rfl) ⟨Nat.le_of_ble_eq_true rfl, Nat.le_of_ble_eq_true rfl⟩ dX9_run_106) hS (fun q44 hq44 H locs hP hS => ?_)
                  have hf := bnd_go hq44 hf
                  refine lv_aload_n hx hb dX9_run_109 rfl (lv_at hl 0 rfl) ?_
                  refine gg_9_5 X hP ab_0 kf_X9_42 dX9_run_110 ?_
                  refine gg_7_4 X hP ab_191 kf_X9_305 dX9_run_113 ?_
                  exact gx_iret X hr hlk hP hS hf (Nat.le_of_ble_eq_true rfl) (Nat.le_of_ble_eq_true rfl) dX9_run_116
              · have hf := ite_t hc hf
                have hok := hok.1 hc
                refine lv_bipush (v := -2) hx hb dX9_run_89 (by decide) ?_
                refine lv_goto (tgt := 95) hx hb dX9_run_91 (by decide) ?_
                refine gx_cV (gx_runS (As := [.int (-2 : Int32)]) (rest := []) X (c_X9_demand l hfl G hG q41 (-2 : Int32)) ca_X9_demand km_X9_54 rfl rfl ⟨Nat.le_of_ble_eq_true rfl, Nat.le_of_ble_eq_true rfl⟩ hP hS rfl hl.1 rfl (Nat.le_of_ble_eq_true rfl) ⟨Nat.le_of_ble_eq_true rfl, Nat.le_of_ble_eq_true rfl⟩ dX9_run_95) hS (fun q45 hq45 hc H locs hP hS ce q9 hce hcv hcl => ?_) (fun q45 hq45 hc H locs hP hS => ?_)
                · have hf := bnd_go hq45 hf
                  have hf := ite_f hc hf
                  exact gx_out hex hlk hP hS hce hcv hcl ⟨hc, hf⟩ (Nat.le_of_ble_eq_true rfl) (Nat.le_of_ble_eq_true rfl)
                · have hf := bnd_go hq45 hf
                  have hf := ite_t hc hf
                  have hok := bnd_goP hq45 hok hc
                  refine lv_aload_n hx hb dX9_run_98 rfl (lv_at hl 0 rfl) ?_
                  refine gg_9_4 X hP ab_0 kf_X9_35 dX9_run_99 ?_
                  refine lv_aload_n hx hb dX9_run_102 rfl (lv_at hl 0 rfl) ?_
                  refine gg_9_2 X hP ab_0 kf_X9_26 dX9_run_103 ?_
                  have hs46 := hok
                  refine g_cV (g_runV (i := 189) (As := [.ref (G.2.1 19)]) (rest := []) X (c_X4_remember l G hG q45.2 19 ab_19 hs46) ca_X4_remember km_X9_58 rfl rfl ⟨Nat.le_of_ble_eq_true rfl, Nat.le_of_ble_eq_true rfl⟩ hP hS (ty_lt ab_189) (cell_4 ab_189) rfl rfl rfl hl.1 rfl (Nat.le_of_ble_eq_true rfl) ⟨Nat.le_of_ble_eq_true rfl, Nat.le_of_ble_eq_true rfl⟩ dX9_run_106) hS (fun q47 hq47 H locs hP hS => ?_)
                  have hf := bnd_go hq47 hf
                  refine lv_aload_n hx hb dX9_run_109 rfl (lv_at hl 0 rfl) ?_
                  refine gg_9_5 X hP ab_0 kf_X9_42 dX9_run_110 ?_
                  refine gg_7_4 X hP ab_191 kf_X9_305 dX9_run_113 ?_
                  exact gx_iret X hr hlk hP hS hf (Nat.le_of_ble_eq_true rfl) (Nat.le_of_ble_eq_true rfl) dX9_run_116
          · have hf := ite_f hc hf
            have hok := hok.2 hc
            refine lv_iload_n hx hb dX9_run_53 rfl (lv_at hl 1 rfl) ?_
            refine lv_if_ne (tgt := 69) hx hb dX9_run_54 (by decide) (fun hc => ?_) (fun hc => ?_)
            · have hf := ite_f hc hf
              have hok := hok.2 hc
              refine lv_iload_n hx hb dX9_run_69 rfl (lv_at hl 1 rfl) ?_
              refine lv_if_eq (tgt := 84) hx hb dX9_run_70 (by decide) (fun hc => ?_) (fun hc => ?_)
              · have hf := ite_t hc hf
                have hok := hok.1 hc
                refine lv_iload_n hx hb dX9_run_84 rfl (lv_at hl 1 rfl) ?_
                refine lv_iconst (v := -1) hx hb dX9_run_85 (by decide) ?_
                refine lv_icmp_ne (tgt := 94) hx hb dX9_run_86 (by decide) (fun hc => ?_) (fun hc => ?_)
                · have hf := ite_f hc hf
                  have hok := hok.2 hc
                  refine lv_iload_n hx hb dX9_run_94 rfl (lv_at hl 1 rfl) ?_
                  refine gx_cV (gx_runS (As := [.int x1]) (rest := []) X (c_X9_demand l hfl G hG σ x1) ca_X9_demand km_X9_54 rfl rfl ⟨Nat.le_of_ble_eq_true rfl, Nat.le_of_ble_eq_true rfl⟩ hP hS rfl hl.1 rfl (Nat.le_of_ble_eq_true rfl) ⟨Nat.le_of_ble_eq_true rfl, Nat.le_of_ble_eq_true rfl⟩ dX9_run_95) hS (fun q48 hq48 hc H locs hP hS ce q9 hce hcv hcl => ?_) (fun q48 hq48 hc H locs hP hS => ?_)
                  · have hf := bnd_go hq48 hf
                    have hf := ite_f hc hf
                    exact gx_out hex hlk hP hS hce hcv hcl ⟨hc, hf⟩ (Nat.le_of_ble_eq_true rfl) (Nat.le_of_ble_eq_true rfl)
                  · have hf := bnd_go hq48 hf
                    have hf := ite_t hc hf
                    have hok := bnd_goP hq48 hok hc
                    refine lv_aload_n hx hb dX9_run_98 rfl (lv_at hl 0 rfl) ?_
                    refine gg_9_4 X hP ab_0 kf_X9_35 dX9_run_99 ?_
                    refine lv_aload_n hx hb dX9_run_102 rfl (lv_at hl 0 rfl) ?_
                    refine gg_9_2 X hP ab_0 kf_X9_26 dX9_run_103 ?_
                    have hs49 := hok
                    refine g_cV (g_runV (i := 189) (As := [.ref (G.2.1 19)]) (rest := []) X (c_X4_remember l G hG q48.2 19 ab_19 hs49) ca_X4_remember km_X9_58 rfl rfl ⟨Nat.le_of_ble_eq_true rfl, Nat.le_of_ble_eq_true rfl⟩ hP hS (ty_lt ab_189) (cell_4 ab_189) rfl rfl rfl hl.1 rfl (Nat.le_of_ble_eq_true rfl) ⟨Nat.le_of_ble_eq_true rfl, Nat.le_of_ble_eq_true rfl⟩ dX9_run_106) hS (fun q50 hq50 H locs hP hS => ?_)
                    have hf := bnd_go hq50 hf
                    refine lv_aload_n hx hb dX9_run_109 rfl (lv_at hl 0 rfl) ?_
                    refine gg_9_5 X hP ab_0 kf_X9_42 dX9_run_110 ?_
                    refine gg_7_4 X hP ab_191 kf_X9_305 dX9_run_113 ?_
                    exact gx_iret X hr hlk hP hS hf (Nat.le_of_ble_eq_true rfl) (Nat.le_of_ble_eq_true rfl) dX9_run_116
                · have hf := ite_t hc hf
                  have hok := hok.1 hc
                  refine lv_bipush (v := -2) hx hb dX9_run_89 (by decide) ?_
                  refine lv_goto (tgt := 95) hx hb dX9_run_91 (by decide) ?_
                  refine gx_cV (gx_runS (As := [.int (-2 : Int32)]) (rest := []) X (c_X9_demand l hfl G hG σ (-2 : Int32)) ca_X9_demand km_X9_54 rfl rfl ⟨Nat.le_of_ble_eq_true rfl, Nat.le_of_ble_eq_true rfl⟩ hP hS rfl hl.1 rfl (Nat.le_of_ble_eq_true rfl) ⟨Nat.le_of_ble_eq_true rfl, Nat.le_of_ble_eq_true rfl⟩ dX9_run_95) hS (fun q51 hq51 hc H locs hP hS ce q9 hce hcv hcl => ?_) (fun q51 hq51 hc H locs hP hS => ?_)
                  · have hf := bnd_go hq51 hf
                    have hf := ite_f hc hf
                    exact gx_out hex hlk hP hS hce hcv hcl ⟨hc, hf⟩ (Nat.le_of_ble_eq_true rfl) (Nat.le_of_ble_eq_true rfl)
                  · have hf := bnd_go hq51 hf
                    have hf := ite_t hc hf
                    have hok := bnd_goP hq51 hok hc
                    refine lv_aload_n hx hb dX9_run_98 rfl (lv_at hl 0 rfl) ?_
                    refine gg_9_4 X hP ab_0 kf_X9_35 dX9_run_99 ?_
                    refine lv_aload_n hx hb dX9_run_102 rfl (lv_at hl 0 rfl) ?_
                    refine gg_9_2 X hP ab_0 kf_X9_26 dX9_run_103 ?_
                    have hs52 := hok
                    refine g_cV (g_runV (i := 189) (As := [.ref (G.2.1 19)]) (rest := []) X (c_X4_remember l G hG q51.2 19 ab_19 hs52) ca_X4_remember km_X9_58 rfl rfl ⟨Nat.le_of_ble_eq_true rfl, Nat.le_of_ble_eq_true rfl⟩ hP hS (ty_lt ab_189) (cell_4 ab_189) rfl rfl rfl hl.1 rfl (Nat.le_of_ble_eq_true rfl) ⟨Nat.le_of_ble_eq_true rfl, Nat.le_of_ble_eq_true rfl⟩ dX9_run_106) hS (fun q53 hq53 H locs hP hS => ?_)
                    have hf := bnd_go hq53 hf
                    refine lv_aload_n hx hb dX9_run_109 rfl (lv_at hl 0 rfl) ?_
                    refine gg_9_5 X hP ab_0 kf_X9_42 dX9_run_110 ?_
                    refine gg_7_4 X hP ab_191 kf_X9_305 dX9_run_113 ?_
                    exact gx_iret X hr hlk hP hS hf (Nat.le_of_ble_eq_true rfl) (Nat.le_of_ble_eq_true rfl) dX9_run_116
              · have hf := ite_f hc hf
                have hok := hok.2 hc
                refine lv_aload_n hx hb dX9_run_73 rfl (lv_at hl 0 rfl) ?_
                refine gg_9_1 X hP ab_0 kf_X9_20 dX9_run_74 ?_
                refine lv_aload_n hx hb dX9_run_77 rfl (lv_at hl 0 rfl) ?_
                refine gg_9_2 X hP ab_0 kf_X9_26 dX9_run_78 ?_
                refine g_cV (g_runV (i := 2) (As := [.ref (G.2.1 19)]) (rest := []) X (c_X6_copyFrom l G hG σ 2 ab_2 19 ab_19) ca_X6_copyFrom km_X9_302 rfl rfl ⟨Nat.le_of_ble_eq_true rfl, Nat.le_of_ble_eq_true rfl⟩ hP hS (ty_lt ab_2) (cell_6 ab_2) rfl rfl rfl hl.1 rfl (Nat.le_of_ble_eq_true rfl) ⟨Nat.le_of_ble_eq_true rfl, Nat.le_of_ble_eq_true rfl⟩ dX9_run_81) hS (fun q54 hq54 H locs hP hS => ?_)
                have hf := bnd_go hq54 hf
                have hok := bnd_goP hq54 hok
                refine lv_iload_n hx hb dX9_run_84 rfl (lv_at hl 1 rfl) ?_
                refine lv_iconst (v := -1) hx hb dX9_run_85 (by decide) ?_
                refine lv_icmp_ne (tgt := 94) hx hb dX9_run_86 (by decide) (fun hc => ?_) (fun hc => ?_)
                · have hf := ite_f hc hf
                  have hok := hok.2 hc
                  refine lv_iload_n hx hb dX9_run_94 rfl (lv_at hl 1 rfl) ?_
                  refine gx_cV (gx_runS (As := [.int x1]) (rest := []) X (c_X9_demand l hfl G hG q54 x1) ca_X9_demand km_X9_54 rfl rfl ⟨Nat.le_of_ble_eq_true rfl, Nat.le_of_ble_eq_true rfl⟩ hP hS rfl hl.1 rfl (Nat.le_of_ble_eq_true rfl) ⟨Nat.le_of_ble_eq_true rfl, Nat.le_of_ble_eq_true rfl⟩ dX9_run_95) hS (fun q55 hq55 hc H locs hP hS ce q9 hce hcv hcl => ?_) (fun q55 hq55 hc H locs hP hS => ?_)
                  · have hf := bnd_go hq55 hf
                    have hf := ite_f hc hf
                    exact gx_out hex hlk hP hS hce hcv hcl ⟨hc, hf⟩ (Nat.le_of_ble_eq_true rfl) (Nat.le_of_ble_eq_true rfl)
                  · have hf := bnd_go hq55 hf
                    have hf := ite_t hc hf
                    have hok := bnd_goP hq55 hok hc
                    refine lv_aload_n hx hb dX9_run_98 rfl (lv_at hl 0 rfl) ?_
                    refine gg_9_4 X hP ab_0 kf_X9_35 dX9_run_99 ?_
                    refine lv_aload_n hx hb dX9_run_102 rfl (lv_at hl 0 rfl) ?_
                    refine gg_9_2 X hP ab_0 kf_X9_26 dX9_run_103 ?_
                    have hs56 := hok
                    refine g_cV (g_runV (i := 189) (As := [.ref (G.2.1 19)]) (rest := []) X (c_X4_remember l G hG q55.2 19 ab_19 hs56) ca_X4_remember km_X9_58 rfl rfl ⟨Nat.le_of_ble_eq_true rfl, Nat.le_of_ble_eq_true rfl⟩ hP hS (ty_lt ab_189) (cell_4 ab_189) rfl rfl rfl hl.1 rfl (Nat.le_of_ble_eq_true rfl) ⟨Nat.le_of_ble_eq_true rfl, Nat.le_of_ble_eq_true rfl⟩ dX9_run_106) hS (fun q57 hq57 H locs hP hS => ?_)
                    have hf := bnd_go hq57 hf
                    refine lv_aload_n hx hb dX9_run_109 rfl (lv_at hl 0 rfl) ?_
                    refine gg_9_5 X hP ab_0 kf_X9_42 dX9_run_110 ?_
                    refine gg_7_4 X hP ab_191 kf_X9_305 dX9_run_113 ?_
                    exact gx_iret X hr hlk hP hS hf (Nat.le_of_ble_eq_true rfl) (Nat.le_of_ble_eq_true rfl) dX9_run_116
                · have hf := ite_t hc hf
                  have hok := hok.1 hc
                  refine lv_bipush (v := -2) hx hb dX9_run_89 (by decide) ?_
                  refine lv_goto (tgt := 95) hx hb dX9_run_91 (by decide) ?_
                  refine gx_cV (gx_runS (As := [.int (-2 : Int32)]) (rest := []) X (c_X9_demand l hfl G hG q54 (-2 : Int32)) ca_X9_demand km_X9_54 rfl rfl ⟨Nat.le_of_ble_eq_true rfl, Nat.le_of_ble_eq_true rfl⟩ hP hS rfl hl.1 rfl (Nat.le_of_ble_eq_true rfl) ⟨Nat.le_of_ble_eq_true rfl, Nat.le_of_ble_eq_true rfl⟩ dX9_run_95) hS (fun q58 hq58 hc H locs hP hS ce q9 hce hcv hcl => ?_) (fun q58 hq58 hc H locs hP hS => ?_)
                  · have hf := bnd_go hq58 hf
                    have hf := ite_f hc hf
                    exact gx_out hex hlk hP hS hce hcv hcl ⟨hc, hf⟩ (Nat.le_of_ble_eq_true rfl) (Nat.le_of_ble_eq_true rfl)
                  · have hf := bnd_go hq58 hf
                    have hf := ite_t hc hf
                    have hok := bnd_goP hq58 hok hc
                    refine lv_aload_n hx hb dX9_run_98 rfl (lv_at hl 0 rfl) ?_
                    refine gg_9_4 X hP ab_0 kf_X9_35 dX9_run_99 ?_
                    refine lv_aload_n hx hb dX9_run_102 rfl (lv_at hl 0 rfl) ?_
                    refine gg_9_2 X hP ab_0 kf_X9_26 dX9_run_103 ?_
                    have hs59 := hok
                    refine g_cV (g_runV (i := 189) (As := [.ref (G.2.1 19)]) (rest := []) X (c_X4_remember l G hG q58.2 19 ab_19 hs59) ca_X4_remember km_X9_58 rfl rfl ⟨Nat.le_of_ble_eq_true rfl, Nat.le_of_ble_eq_true rfl⟩ hP hS (ty_lt ab_189) (cell_4 ab_189) rfl rfl rfl hl.1 rfl (Nat.le_of_ble_eq_true rfl) ⟨Nat.le_of_ble_eq_true rfl, Nat.le_of_ble_eq_true rfl⟩ dX9_run_106) hS (fun q60 hq60 H locs hP hS => ?_)
                    have hf := bnd_go hq60 hf
                    refine lv_aload_n hx hb dX9_run_109 rfl (lv_at hl 0 rfl) ?_
                    refine gg_9_5 X hP ab_0 kf_X9_42 dX9_run_110 ?_
                    refine gg_7_4 X hP ab_191 kf_X9_305 dX9_run_113 ?_
                    exact gx_iret X hr hlk hP hS hf (Nat.le_of_ble_eq_true rfl) (Nat.le_of_ble_eq_true rfl) dX9_run_116
            · have hf := ite_t hc hf
              have hok := hok.1 hc
              refine lv_aload_n hx hb dX9_run_57 rfl (lv_at hl 0 rfl) ?_
              refine lv_iload_n hx hb dX9_run_58 rfl (lv_at hl 2 rfl) ?_
              have hs61 := hok.1
              have hok := hok.2
              refine g_cI (g_runV (i := 0) (As := [.int x2]) (rest := []) X (c_X9_carryOut l G hG σ x2 hs61) ca_X9_carryOut km_X9_308 rfl rfl ⟨Nat.le_of_ble_eq_true rfl, Nat.le_of_ble_eq_true rfl⟩ hP hS (ty_lt ab_0) (cell_9 ab_0) rfl rfl rfl hl.1 rfl (Nat.le_of_ble_eq_true rfl) ⟨Nat.le_of_ble_eq_true rfl, Nat.le_of_ble_eq_true rfl⟩ dX9_run_59) hS (fun q62 hq62 H locs hP hS => ?_)
              have hf := bnd_go hq62 hf
              have hok := bnd_goP hq62 hok
              refine lv_istore_n (lv' := [(1, .int q62.2), (0, .ref (G.2.1 0)), (2, .int x2)]) hx hb dX9_run_62 rfl hl (by decide) rfl (fun ls hl => ?_)
              refine lv_iinc (v := (x2 + (1 : Int32))) (lv' := [(2, .int (x2 + (1 : Int32))), (1, .int q62.2), (0, .ref (G.2.1 0))]) hx hb dX9_run_63 hl (k := 2) rfl rfl (by decide) rfl (fun ls hl => ?_)
              refine lv_goto (tgt := 42) hx hb dX9_run_66 (by decide) ?_
              exact ih42 q62.1 q62.2 (x2 + (1 : Int32)) hok hf _ _ hP hS ls (lv_sub hl [2, 1, 0] rfl)
      exact K42 2000 q34 (0 : Int32) (0 : Int32) hok hf _ _ hP hS ls (lv_sub hl [2, 1, 0] rfl)
def f_X9_account (σ : St) (x1 : Int32) : Nat × St × Int32 := (if x1 = (0 : Int32) then (0, σ, (σ.1 18 3)) else (if x1 = (1 : Int32) then (0, σ, (σ.1 3 2)) else (if x1 = (2 : Int32) then (0, σ, (σ.1 6 8)) else (if x1 = (3 : Int32) then (0, σ, (f_X5_letters σ 6)) else (if x1 = (4 : Int32) then (0, σ, (σ.1 3 3)) else (if x1 = (5 : Int32) then (0, σ, (f_X5_inState σ 6 (x1 - (5 : Int32)))) else (if x1 = (6 : Int32) then (0, σ, (f_X5_inState σ 6 (x1 - (5 : Int32)))) else (if x1 = (7 : Int32) then (0, σ, (f_X5_inState σ 6 (x1 - (5 : Int32)))) else (if x1 = (8 : Int32) then (0, σ, (f_X5_inState σ 6 (x1 - (5 : Int32)))) else (if x1 = (9 : Int32) then (0, σ, (f_X5_inState σ 6 (x1 - (5 : Int32)))) else (if x1 = (10 : Int32) then (0, σ, (σ.1 18 1)) else (if x1 = (11 : Int32) then (0, σ, (σ.1 18 2)) else (if x1 = (12 : Int32) then (0, σ, (f_X5_allWords σ 6)) else (if x1 = (13 : Int32) then (0, σ, (σ.1 191 3)) else (if x1 = (14 : Int32) then (0, σ, (σ.1 189 2)) else (1, σ, 0))))))))))))))))
def ok_X9_account (σ : St) (x1 : Int32) : Prop := ((x1 = (0 : Int32) → True) ∧ (¬ x1 = (0 : Int32) → ((x1 = (1 : Int32) → True) ∧ (¬ x1 = (1 : Int32) → ((x1 = (2 : Int32) → True) ∧ (¬ x1 = (2 : Int32) → ((x1 = (3 : Int32) → ok_X5_letters σ 6) ∧ (¬ x1 = (3 : Int32) → ((x1 = (4 : Int32) → True) ∧ (¬ x1 = (4 : Int32) → ((x1 = (5 : Int32) → ok_X5_inState σ 6 (x1 - (5 : Int32))) ∧ (¬ x1 = (5 : Int32) → ((x1 = (6 : Int32) → ok_X5_inState σ 6 (x1 - (5 : Int32))) ∧ (¬ x1 = (6 : Int32) → ((x1 = (7 : Int32) → ok_X5_inState σ 6 (x1 - (5 : Int32))) ∧ (¬ x1 = (7 : Int32) → ((x1 = (8 : Int32) → ok_X5_inState σ 6 (x1 - (5 : Int32))) ∧ (¬ x1 = (8 : Int32) → ((x1 = (9 : Int32) → ok_X5_inState σ 6 (x1 - (5 : Int32))) ∧ (¬ x1 = (9 : Int32) → ((x1 = (10 : Int32) → True) ∧ (¬ x1 = (10 : Int32) → ((x1 = (11 : Int32) → True) ∧ (¬ x1 = (11 : Int32) → ((x1 = (12 : Int32) → ok_X5_allWords σ 6) ∧ (¬ x1 = (12 : Int32) → True))))))))))))))))))))))))))
abbrev rm_X9_account : Room := { frames := 6, cells := 1, slots := 6, locals := 100 }
set_option maxHeartbeats 4000000 in
set_option maxRecDepth 100000 in
theorem c_X9_account (l : Launch) (hfl : l.stackTraces = false) (G : GE) (hG : Gok G) (σ : St) (x1 : Int32) (hok : ok_X9_account σ x1) : XtI l G yX9_account cX9_account 2 rm_X9_account [.ref (G.2.1 0), .int x1] σ (f_X9_account σ x1) 1 6 := by
  generalize hf : f_X9_account σ x1 = fv
  rw [f_X9_account] at hf
  rw [ok_X9_account] at hok
  refine gx_start hG (by decide) (Nat.le_of_ble_eq_true rfl) ?_
  intro p e s m args below meth c X hr hlk hex ls hl H locs hP hS
  have X : Cx G p s m args c cX9_account 2 RX9 := X
  obtain ⟨hx, hb, hml, hown, hts, hK, hbs, hXW, -⟩ := id X
  have hl : lv_has ls 2 [(0, .ref (G.2.1 0)), (1, .int x1)] := hl
  refine lv_iload_n hx hb dX9_account_0 rfl (lv_at hl 1 rfl) ?_
  by_cases hd0 : x1 = (0 : Int32)
  · have hf := ite_t hd0 hf
    refine lv_tableIn (off := 75) (tgt := 76) hx hb dX9_account_1 (by rw [hd0]; decide) (by rw [hd0]; decide) (by rw [hd0]; rfl) (by decide) ?_
    refine lv_aload_n hx hb dX9_account_76 rfl (lv_at hl 0 rfl) ?_
    refine gg_9_1 X hP ab_0 kf_X9_20 dX9_account_77 ?_
    refine gg_6_3 (j := 18) rfl X hP ab_2 kf_X9_232 dX9_account_80 ?_
    refine gg_3_3 X hP ab_18 kf_X9_317 dX9_account_83 ?_
    exact gx_iret X hr hlk hP hS hf (Nat.le_of_ble_eq_true rfl) (Nat.le_of_ble_eq_true rfl) dX9_account_86
  · have hf := ite_f hd0 hf
    have hok := hok.2 hd0
    by_cases hd1 : x1 = (1 : Int32)
    · have hf := ite_t hd1 hf
      refine lv_tableIn (off := 86) (tgt := 87) hx hb dX9_account_1 (by rw [hd1]; decide) (by rw [hd1]; decide) (by rw [hd1]; rfl) (by decide) ?_
      refine lv_aload_n hx hb dX9_account_87 rfl (lv_at hl 0 rfl) ?_
      refine gg_9_1 X hP ab_0 kf_X9_20 dX9_account_88 ?_
      refine gg_6_0 (j := 3) rfl X hP ab_2 kf_X9_62 dX9_account_91 ?_
      refine gg_2_2 X hP ab_3 kf_X9_320 dX9_account_94 ?_
      exact gx_iret X hr hlk hP hS hf (Nat.le_of_ble_eq_true rfl) (Nat.le_of_ble_eq_true rfl) dX9_account_97
    · have hf := ite_f hd1 hf
      have hok := hok.2 hd1
      by_cases hd2 : x1 = (2 : Int32)
      · have hf := ite_t hd2 hf
        refine lv_tableIn (off := 97) (tgt := 98) hx hb dX9_account_1 (by rw [hd2]; decide) (by rw [hd2]; decide) (by rw [hd2]; rfl) (by decide) ?_
        refine lv_aload_n hx hb dX9_account_98 rfl (lv_at hl 0 rfl) ?_
        refine gg_9_1 X hP ab_0 kf_X9_20 dX9_account_99 ?_
        refine gg_6_1 (j := 6) rfl X hP ab_2 kf_X9_101 dX9_account_102 ?_
        refine gg_5_8 X hP ab_6 kf_X9_323 dX9_account_105 ?_
        exact gx_iret X hr hlk hP hS hf (Nat.le_of_ble_eq_true rfl) (Nat.le_of_ble_eq_true rfl) dX9_account_108
      · have hf := ite_f hd2 hf
        have hok := hok.2 hd2
        by_cases hd3 : x1 = (3 : Int32)
        · have hf := ite_t hd3 hf
          have hok := hok.1 hd3
          refine lv_tableIn (off := 108) (tgt := 109) hx hb dX9_account_1 (by rw [hd3]; decide) (by rw [hd3]; decide) (by rw [hd3]; rfl) (by decide) ?_
          refine lv_aload_n hx hb dX9_account_109 rfl (lv_at hl 0 rfl) ?_
          refine gg_9_1 X hP ab_0 kf_X9_20 dX9_account_110 ?_
          refine gg_6_1 (j := 6) rfl X hP ab_2 kf_X9_101 dX9_account_113 ?_
          have hs1 := hok
          refine g_cIp (g_runV (i := 6) (As := []) (rest := []) X (c_X5_letters l G hG σ 6 ab_6 hs1) ca_X5_letters km_X9_326 rfl rfl ⟨Nat.le_of_ble_eq_true rfl, Nat.le_of_ble_eq_true rfl⟩ hP hS (ty_lt ab_6) (cell_5 ab_6) rfl rfl rfl hl.1 rfl (Nat.le_of_ble_eq_true rfl) ⟨Nat.le_of_ble_eq_true rfl, Nat.le_of_ble_eq_true rfl⟩ dX9_account_116) hS (fun H locs hP hS => ?_)
          exact gx_iret X hr hlk hP hS hf (Nat.le_of_ble_eq_true rfl) (Nat.le_of_ble_eq_true rfl) dX9_account_119
        · have hf := ite_f hd3 hf
          have hok := hok.2 hd3
          by_cases hd4 : x1 = (4 : Int32)
          · have hf := ite_t hd4 hf
            refine lv_tableIn (off := 119) (tgt := 120) hx hb dX9_account_1 (by rw [hd4]; decide) (by rw [hd4]; decide) (by rw [hd4]; rfl) (by decide) ?_
            refine lv_aload_n hx hb dX9_account_120 rfl (lv_at hl 0 rfl) ?_
            refine gg_9_1 X hP ab_0 kf_X9_20 dX9_account_121 ?_
            refine gg_6_0 (j := 3) rfl X hP ab_2 kf_X9_62 dX9_account_124 ?_
            refine gg_2_3 X hP ab_3 kf_X9_329 dX9_account_127 ?_
            exact gx_iret X hr hlk hP hS hf (Nat.le_of_ble_eq_true rfl) (Nat.le_of_ble_eq_true rfl) dX9_account_130
          · have hf := ite_f hd4 hf
            have hok := hok.2 hd4
            by_cases hd5 : x1 = (5 : Int32)
            · have hf := ite_t hd5 hf
              have hok := hok.1 hd5
              refine lv_tableIn (off := 130) (tgt := 131) hx hb dX9_account_1 (by rw [hd5]; decide) (by rw [hd5]; decide) (by rw [hd5]; rfl) (by decide) ?_
              refine lv_aload_n hx hb dX9_account_131 rfl (lv_at hl 0 rfl) ?_
              refine gg_9_1 X hP ab_0 kf_X9_20 dX9_account_132 ?_
              refine gg_6_1 (j := 6) rfl X hP ab_2 kf_X9_101 dX9_account_135 ?_
              refine lv_iload_n hx hb dX9_account_138 rfl (lv_at hl 1 rfl) ?_
              refine lv_iconst (v := 5) hx hb dX9_account_139 (by decide) ?_
              refine lv_isub hx hb dX9_account_140 ?_
              have hs2 := hok
              refine g_cIp (g_runV (i := 6) (As := [.int (x1 - (5 : Int32))]) (rest := []) X (c_X5_inState l G hG σ 6 ab_6 (x1 - (5 : Int32)) hs2) ca_X5_inState km_X9_332 rfl rfl ⟨Nat.le_of_ble_eq_true rfl, Nat.le_of_ble_eq_true rfl⟩ hP hS (ty_lt ab_6) (cell_5 ab_6) rfl rfl rfl hl.1 rfl (Nat.le_of_ble_eq_true rfl) ⟨Nat.le_of_ble_eq_true rfl, Nat.le_of_ble_eq_true rfl⟩ dX9_account_141) hS (fun H locs hP hS => ?_)
              exact gx_iret X hr hlk hP hS hf (Nat.le_of_ble_eq_true rfl) (Nat.le_of_ble_eq_true rfl) dX9_account_144
            · have hf := ite_f hd5 hf
              have hok := hok.2 hd5
              by_cases hd6 : x1 = (6 : Int32)
              · have hf := ite_t hd6 hf
                have hok := hok.1 hd6
                refine lv_tableIn (off := 130) (tgt := 131) hx hb dX9_account_1 (by rw [hd6]; decide) (by rw [hd6]; decide) (by rw [hd6]; rfl) (by decide) ?_
                refine lv_aload_n hx hb dX9_account_131 rfl (lv_at hl 0 rfl) ?_
                refine gg_9_1 X hP ab_0 kf_X9_20 dX9_account_132 ?_
                refine gg_6_1 (j := 6) rfl X hP ab_2 kf_X9_101 dX9_account_135 ?_
                refine lv_iload_n hx hb dX9_account_138 rfl (lv_at hl 1 rfl) ?_
                refine lv_iconst (v := 5) hx hb dX9_account_139 (by decide) ?_
                refine lv_isub hx hb dX9_account_140 ?_
                have hs3 := hok
                refine g_cIp (g_runV (i := 6) (As := [.int (x1 - (5 : Int32))]) (rest := []) X (c_X5_inState l G hG σ 6 ab_6 (x1 - (5 : Int32)) hs3) ca_X5_inState km_X9_332 rfl rfl ⟨Nat.le_of_ble_eq_true rfl, Nat.le_of_ble_eq_true rfl⟩ hP hS (ty_lt ab_6) (cell_5 ab_6) rfl rfl rfl hl.1 rfl (Nat.le_of_ble_eq_true rfl) ⟨Nat.le_of_ble_eq_true rfl, Nat.le_of_ble_eq_true rfl⟩ dX9_account_141) hS (fun H locs hP hS => ?_)
                exact gx_iret X hr hlk hP hS hf (Nat.le_of_ble_eq_true rfl) (Nat.le_of_ble_eq_true rfl) dX9_account_144
              · have hf := ite_f hd6 hf
                have hok := hok.2 hd6
                by_cases hd7 : x1 = (7 : Int32)
                · have hf := ite_t hd7 hf
                  have hok := hok.1 hd7
                  refine lv_tableIn (off := 130) (tgt := 131) hx hb dX9_account_1 (by rw [hd7]; decide) (by rw [hd7]; decide) (by rw [hd7]; rfl) (by decide) ?_
                  refine lv_aload_n hx hb dX9_account_131 rfl (lv_at hl 0 rfl) ?_
                  refine gg_9_1 X hP ab_0 kf_X9_20 dX9_account_132 ?_
                  refine gg_6_1 (j := 6) rfl X hP ab_2 kf_X9_101 dX9_account_135 ?_
                  refine lv_iload_n hx hb dX9_account_138 rfl (lv_at hl 1 rfl) ?_
                  refine lv_iconst (v := 5) hx hb dX9_account_139 (by decide) ?_
                  refine lv_isub hx hb dX9_account_140 ?_
                  have hs4 := hok
                  refine g_cIp (g_runV (i := 6) (As := [.int (x1 - (5 : Int32))]) (rest := []) X (c_X5_inState l G hG σ 6 ab_6 (x1 - (5 : Int32)) hs4) ca_X5_inState km_X9_332 rfl rfl ⟨Nat.le_of_ble_eq_true rfl, Nat.le_of_ble_eq_true rfl⟩ hP hS (ty_lt ab_6) (cell_5 ab_6) rfl rfl rfl hl.1 rfl (Nat.le_of_ble_eq_true rfl) ⟨Nat.le_of_ble_eq_true rfl, Nat.le_of_ble_eq_true rfl⟩ dX9_account_141) hS (fun H locs hP hS => ?_)
                  exact gx_iret X hr hlk hP hS hf (Nat.le_of_ble_eq_true rfl) (Nat.le_of_ble_eq_true rfl) dX9_account_144
                · have hf := ite_f hd7 hf
                  have hok := hok.2 hd7
                  by_cases hd8 : x1 = (8 : Int32)
                  · have hf := ite_t hd8 hf
                    have hok := hok.1 hd8
                    refine lv_tableIn (off := 130) (tgt := 131) hx hb dX9_account_1 (by rw [hd8]; decide) (by rw [hd8]; decide) (by rw [hd8]; rfl) (by decide) ?_
                    refine lv_aload_n hx hb dX9_account_131 rfl (lv_at hl 0 rfl) ?_
                    refine gg_9_1 X hP ab_0 kf_X9_20 dX9_account_132 ?_
                    refine gg_6_1 (j := 6) rfl X hP ab_2 kf_X9_101 dX9_account_135 ?_
                    refine lv_iload_n hx hb dX9_account_138 rfl (lv_at hl 1 rfl) ?_
                    refine lv_iconst (v := 5) hx hb dX9_account_139 (by decide) ?_
                    refine lv_isub hx hb dX9_account_140 ?_
                    have hs5 := hok
                    refine g_cIp (g_runV (i := 6) (As := [.int (x1 - (5 : Int32))]) (rest := []) X (c_X5_inState l G hG σ 6 ab_6 (x1 - (5 : Int32)) hs5) ca_X5_inState km_X9_332 rfl rfl ⟨Nat.le_of_ble_eq_true rfl, Nat.le_of_ble_eq_true rfl⟩ hP hS (ty_lt ab_6) (cell_5 ab_6) rfl rfl rfl hl.1 rfl (Nat.le_of_ble_eq_true rfl) ⟨Nat.le_of_ble_eq_true rfl, Nat.le_of_ble_eq_true rfl⟩ dX9_account_141) hS (fun H locs hP hS => ?_)
                    exact gx_iret X hr hlk hP hS hf (Nat.le_of_ble_eq_true rfl) (Nat.le_of_ble_eq_true rfl) dX9_account_144
                  · have hf := ite_f hd8 hf
                    have hok := hok.2 hd8
                    by_cases hd9 : x1 = (9 : Int32)
                    · have hf := ite_t hd9 hf
                      have hok := hok.1 hd9
                      refine lv_tableIn (off := 130) (tgt := 131) hx hb dX9_account_1 (by rw [hd9]; decide) (by rw [hd9]; decide) (by rw [hd9]; rfl) (by decide) ?_
                      refine lv_aload_n hx hb dX9_account_131 rfl (lv_at hl 0 rfl) ?_
                      refine gg_9_1 X hP ab_0 kf_X9_20 dX9_account_132 ?_
                      refine gg_6_1 (j := 6) rfl X hP ab_2 kf_X9_101 dX9_account_135 ?_
                      refine lv_iload_n hx hb dX9_account_138 rfl (lv_at hl 1 rfl) ?_
                      refine lv_iconst (v := 5) hx hb dX9_account_139 (by decide) ?_
                      refine lv_isub hx hb dX9_account_140 ?_
                      have hs6 := hok
                      refine g_cIp (g_runV (i := 6) (As := [.int (x1 - (5 : Int32))]) (rest := []) X (c_X5_inState l G hG σ 6 ab_6 (x1 - (5 : Int32)) hs6) ca_X5_inState km_X9_332 rfl rfl ⟨Nat.le_of_ble_eq_true rfl, Nat.le_of_ble_eq_true rfl⟩ hP hS (ty_lt ab_6) (cell_5 ab_6) rfl rfl rfl hl.1 rfl (Nat.le_of_ble_eq_true rfl) ⟨Nat.le_of_ble_eq_true rfl, Nat.le_of_ble_eq_true rfl⟩ dX9_account_141) hS (fun H locs hP hS => ?_)
                      exact gx_iret X hr hlk hP hS hf (Nat.le_of_ble_eq_true rfl) (Nat.le_of_ble_eq_true rfl) dX9_account_144
                    · have hf := ite_f hd9 hf
                      have hok := hok.2 hd9
                      by_cases hd10 : x1 = (10 : Int32)
                      · have hf := ite_t hd10 hf
                        refine lv_tableIn (off := 144) (tgt := 145) hx hb dX9_account_1 (by rw [hd10]; decide) (by rw [hd10]; decide) (by rw [hd10]; rfl) (by decide) ?_
                        refine lv_aload_n hx hb dX9_account_145 rfl (lv_at hl 0 rfl) ?_
                        refine gg_9_1 X hP ab_0 kf_X9_20 dX9_account_146 ?_
                        refine gg_6_3 (j := 18) rfl X hP ab_2 kf_X9_232 dX9_account_149 ?_
                        refine gg_3_1 X hP ab_18 kf_X9_241 dX9_account_152 ?_
                        exact gx_iret X hr hlk hP hS hf (Nat.le_of_ble_eq_true rfl) (Nat.le_of_ble_eq_true rfl) dX9_account_155
                      · have hf := ite_f hd10 hf
                        have hok := hok.2 hd10
                        by_cases hd11 : x1 = (11 : Int32)
                        · have hf := ite_t hd11 hf
                          refine lv_tableIn (off := 155) (tgt := 156) hx hb dX9_account_1 (by rw [hd11]; decide) (by rw [hd11]; decide) (by rw [hd11]; rfl) (by decide) ?_
                          refine lv_aload_n hx hb dX9_account_156 rfl (lv_at hl 0 rfl) ?_
                          refine gg_9_1 X hP ab_0 kf_X9_20 dX9_account_157 ?_
                          refine gg_6_3 (j := 18) rfl X hP ab_2 kf_X9_232 dX9_account_160 ?_
                          refine gg_3_2 X hP ab_18 kf_X9_335 dX9_account_163 ?_
                          exact gx_iret X hr hlk hP hS hf (Nat.le_of_ble_eq_true rfl) (Nat.le_of_ble_eq_true rfl) dX9_account_166
                        · have hf := ite_f hd11 hf
                          have hok := hok.2 hd11
                          by_cases hd12 : x1 = (12 : Int32)
                          · have hf := ite_t hd12 hf
                            have hok := hok.1 hd12
                            refine lv_tableIn (off := 166) (tgt := 167) hx hb dX9_account_1 (by rw [hd12]; decide) (by rw [hd12]; decide) (by rw [hd12]; rfl) (by decide) ?_
                            refine lv_aload_n hx hb dX9_account_167 rfl (lv_at hl 0 rfl) ?_
                            refine gg_9_1 X hP ab_0 kf_X9_20 dX9_account_168 ?_
                            refine gg_6_1 (j := 6) rfl X hP ab_2 kf_X9_101 dX9_account_171 ?_
                            have hs7 := hok
                            refine g_cIp (g_runV (i := 6) (As := []) (rest := []) X (c_X5_allWords l G hG σ 6 ab_6 hs7) ca_X5_allWords km_X9_338 rfl rfl ⟨Nat.le_of_ble_eq_true rfl, Nat.le_of_ble_eq_true rfl⟩ hP hS (ty_lt ab_6) (cell_5 ab_6) rfl rfl rfl hl.1 rfl (Nat.le_of_ble_eq_true rfl) ⟨Nat.le_of_ble_eq_true rfl, Nat.le_of_ble_eq_true rfl⟩ dX9_account_174) hS (fun H locs hP hS => ?_)
                            exact gx_iret X hr hlk hP hS hf (Nat.le_of_ble_eq_true rfl) (Nat.le_of_ble_eq_true rfl) dX9_account_177
                          · have hf := ite_f hd12 hf
                            by_cases hd13 : x1 = (13 : Int32)
                            · have hf := ite_t hd13 hf
                              refine lv_tableIn (off := 177) (tgt := 178) hx hb dX9_account_1 (by rw [hd13]; decide) (by rw [hd13]; decide) (by rw [hd13]; rfl) (by decide) ?_
                              refine lv_aload_n hx hb dX9_account_178 rfl (lv_at hl 0 rfl) ?_
                              refine gg_9_5 X hP ab_0 kf_X9_42 dX9_account_179 ?_
                              refine gg_7_3 X hP ab_191 kf_X9_282 dX9_account_182 ?_
                              exact gx_iret X hr hlk hP hS hf (Nat.le_of_ble_eq_true rfl) (Nat.le_of_ble_eq_true rfl) dX9_account_185
                            · have hf := ite_f hd13 hf
                              by_cases hd14 : x1 = (14 : Int32)
                              · have hf := ite_t hd14 hf
                                refine lv_tableIn (off := 185) (tgt := 186) hx hb dX9_account_1 (by rw [hd14]; decide) (by rw [hd14]; decide) (by rw [hd14]; rfl) (by decide) ?_
                                refine lv_aload_n hx hb dX9_account_186 rfl (lv_at hl 0 rfl) ?_
                                refine gg_9_4 X hP ab_0 kf_X9_35 dX9_account_187 ?_
                                refine gg_4_2 X hP ab_189 kf_X9_341 dX9_account_190 ?_
                                exact gx_iret X hr hlk hP hS hf (Nat.le_of_ble_eq_true rfl) (Nat.le_of_ble_eq_true rfl) dX9_account_193
                              · have hf := ite_f hd14 hf
                                refine lv_tableOut (tgt := 194) hx hb dX9_account_1 (by have z0 : x1.toInt ≠ 0 := sw_ne hd0; have z1 : x1.toInt ≠ 1 := sw_ne hd1; have z2 : x1.toInt ≠ 2 := sw_ne hd2; have z3 : x1.toInt ≠ 3 := sw_ne hd3; have z4 : x1.toInt ≠ 4 := sw_ne hd4; have z5 : x1.toInt ≠ 5 := sw_ne hd5; have z6 : x1.toInt ≠ 6 := sw_ne hd6; have z7 : x1.toInt ≠ 7 := sw_ne hd7; have z8 : x1.toInt ≠ 8 := sw_ne hd8; have z9 : x1.toInt ≠ 9 := sw_ne hd9; have z10 : x1.toInt ≠ 10 := sw_ne hd10; have z11 : x1.toInt ≠ 11 := sw_ne hd11; have z12 : x1.toInt ≠ 12 := sw_ne hd12; have z13 : x1.toInt ≠ 13 := sw_ne hd13; have z14 : x1.toInt ≠ 14 := sw_ne hd14; show x1.toInt < 0 ∨ 14 < x1.toInt; omega) (by decide) ?_
                                exact gx_throw (k := 1) X hfl hlk hex (by decide) kt_342 ki_342 ka_346 (hXW.2.1 3 (by decide)) hP hS hl.1 dX9_account_194 dX9_account_197 dX9_account_198 dX9_account_201 dX9_account_204 ⟨Nat.le_of_ble_eq_true rfl, Nat.le_of_ble_eq_true rfl, Nat.le_of_ble_eq_true rfl, Nat.le_of_ble_eq_true rfl⟩ (Nat.le_of_ble_eq_true rfl) ⟨(by decide : (1 : Nat) ≠ 0), hf⟩ (Nat.le_of_ble_eq_true rfl) (Nat.le_of_ble_eq_true rfl)
def f_X9_isWell (σ : St) : Bool := (if (f_X6_areItemsWell σ 2) = true then (if (f_X6_areHolesWell σ 2) = true then (if (f_X6_areReadersWell σ 2) = true then true else false) else false) else false)
def ok_X9_isWell (σ : St) : Prop := (ok_X6_areItemsWell σ 2 ∧ (((f_X6_areItemsWell σ 2) = true → (ok_X6_areHolesWell σ 2 ∧ (((f_X6_areHolesWell σ 2) = true → ok_X6_areReadersWell σ 2) ∧ ((f_X6_areHolesWell σ 2) = false → True)))) ∧ ((f_X6_areItemsWell σ 2) = false → True)))
abbrev rm_X9_isWell : Room := { frames := 5, cells := 0, slots := 0, locals := 109 }
set_option maxHeartbeats 4000000 in
set_option maxRecDepth 100000 in
theorem c_X9_isWell (l : Launch) (G : GE) (hG : Gok G) (σ : St) (hok : ok_X9_isWell σ) : MtZ l G yX9_isWell cX9_isWell 1 rm_X9_isWell [.ref (G.2.1 0)] σ (σ, f_X9_isWell σ) := by
  generalize hf : f_X9_isWell σ = fv
  rw [f_X9_isWell] at hf
  rw [ok_X9_isWell] at hok
  refine g_start hG (plainFor_of_name (by decide)) (Nat.le_of_ble_eq_true rfl) ?_
  intro p e s m args below meth c X hr hlk ls hl H locs hP hS
  have X : Cx G p s m args c cX9_isWell 1 RX9 := X
  obtain ⟨hx, hb, hml, hown, hts, hK, hbs, hXW, -⟩ := id X
  have hl : lv_has ls 1 [(0, .ref (G.2.1 0))] := hl
  refine lv_aload_n hx hb dX9_isWell_0 rfl (lv_at hl 0 rfl) ?_
  refine gg_9_1 X hP ab_0 kf_X9_20 dX9_isWell_1 ?_
  have hs1 := hok.1
  have hok := hok.2
  refine g_cZp (g_runV (i := 2) (As := []) (rest := []) X (c_X6_areItemsWell l G hG σ 2 ab_2 hs1) ca_X6_areItemsWell km_X9_347 rfl rfl ⟨Nat.le_of_ble_eq_true rfl, Nat.le_of_ble_eq_true rfl⟩ hP hS (ty_lt ab_2) (cell_6 ab_2) rfl rfl rfl hl.1 rfl (Nat.le_of_ble_eq_true rfl) ⟨Nat.le_of_ble_eq_true rfl, Nat.le_of_ble_eq_true rfl⟩ dX9_isWell_4) hS (fun H locs hP hS => ?_)
  refine g_ifeqZ (tgt := 34) X dX9_isWell_7 (by decide) (fun hc => ?_) (fun hc => ?_)
  · have hf := ite_z hc hf
    refine lv_iconst (v := 0) hx hb dX9_isWell_34 (by decide) ?_
    exact g_zret (b := false) X hr hlk rfl hP hS (congrArg (Prod.mk σ) hf) dX9_isWell_35
  · have hf := ite_t hc hf
    have hok := hok.1 hc
    refine lv_aload_n hx hb dX9_isWell_10 rfl (lv_at hl 0 rfl) ?_
    refine gg_9_1 X hP ab_0 kf_X9_20 dX9_isWell_11 ?_
    have hs2 := hok.1
    have hok := hok.2
    refine g_cZp (g_runV (i := 2) (As := []) (rest := []) X (c_X6_areHolesWell l G hG σ 2 ab_2 hs2) ca_X6_areHolesWell km_X9_351 rfl rfl ⟨Nat.le_of_ble_eq_true rfl, Nat.le_of_ble_eq_true rfl⟩ hP hS (ty_lt ab_2) (cell_6 ab_2) rfl rfl rfl hl.1 rfl (Nat.le_of_ble_eq_true rfl) ⟨Nat.le_of_ble_eq_true rfl, Nat.le_of_ble_eq_true rfl⟩ dX9_isWell_14) hS (fun H locs hP hS => ?_)
    refine g_ifeqZ (tgt := 34) X dX9_isWell_17 (by decide) (fun hc => ?_) (fun hc => ?_)
    · have hf := ite_z hc hf
      refine lv_iconst (v := 0) hx hb dX9_isWell_34 (by decide) ?_
      exact g_zret (b := false) X hr hlk rfl hP hS (congrArg (Prod.mk σ) hf) dX9_isWell_35
    · have hf := ite_t hc hf
      have hok := hok.1 hc
      refine lv_aload_n hx hb dX9_isWell_20 rfl (lv_at hl 0 rfl) ?_
      refine gg_9_1 X hP ab_0 kf_X9_20 dX9_isWell_21 ?_
      have hs3 := hok
      refine g_cZp (g_runV (i := 2) (As := []) (rest := []) X (c_X6_areReadersWell l G hG σ 2 ab_2 hs3) ca_X6_areReadersWell km_X9_354 rfl rfl ⟨Nat.le_of_ble_eq_true rfl, Nat.le_of_ble_eq_true rfl⟩ hP hS (ty_lt ab_2) (cell_6 ab_2) rfl rfl rfl hl.1 rfl (Nat.le_of_ble_eq_true rfl) ⟨Nat.le_of_ble_eq_true rfl, Nat.le_of_ble_eq_true rfl⟩ dX9_isWell_24) hS (fun H locs hP hS => ?_)
      refine g_ifeqZ (tgt := 34) X dX9_isWell_27 (by decide) (fun hc => ?_) (fun hc => ?_)
      · have hf := ite_z hc hf
        refine lv_iconst (v := 0) hx hb dX9_isWell_34 (by decide) ?_
        exact g_zret (b := false) X hr hlk rfl hP hS (congrArg (Prod.mk σ) hf) dX9_isWell_35
      · have hf := ite_t hc hf
        refine lv_iconst (v := 1) hx hb dX9_isWell_30 (by decide) ?_
        refine lv_goto (tgt := 35) hx hb dX9_isWell_31 (by decide) ?_
        exact g_zret (b := true) X hr hlk rfl hP hS (congrArg (Prod.mk σ) hf) dX9_isWell_35
def f_X9_undo (σ : St) : Nat × St × Int32 := (if (σ.1 189 2) = 0 then (5, σ, 0) else (bnd (f_X4_bringBack σ 2) (fun q2 => (0, q2, (q2.1 189 2)))))
def ok_X9_undo (σ : St) : Prop := (((σ.1 189 2) = 0 → True) ∧ (¬ (σ.1 189 2) = 0 → ok_X4_bringBack σ 2))
abbrev rm_X9_undo : Room := { frames := 6, cells := 1, slots := 6, locals := 123 }
set_option maxHeartbeats 4000000 in
set_option maxRecDepth 100000 in
theorem c_X9_undo (l : Launch) (hfl : l.stackTraces = false) (G : GE) (hG : Gok G) (σ : St) (hok : ok_X9_undo σ) : XtI l G yX9_undo cX9_undo 1 rm_X9_undo [.ref (G.2.1 0)] σ (f_X9_undo σ) 1 6 := by
  generalize hf : f_X9_undo σ = fv
  rw [f_X9_undo] at hf
  rw [ok_X9_undo] at hok
  refine gx_start hG (by decide) (Nat.le_of_ble_eq_true rfl) ?_
  intro p e s m args below meth c X hr hlk hex ls hl H locs hP hS
  have X : Cx G p s m args c cX9_undo 1 RX9 := X
  obtain ⟨hx, hb, hml, hown, hts, hK, hbs, hXW, -⟩ := id X
  have hl : lv_has ls 1 [(0, .ref (G.2.1 0))] := hl
  refine lv_aload_n hx hb dX9_undo_0 rfl (lv_at hl 0 rfl) ?_
  refine gg_9_4 X hP ab_0 kf_X9_35 dX9_undo_1 ?_
  refine gg_4_2 X hP ab_189 kf_X9_341 dX9_undo_4 ?_
  refine lv_if_ne (tgt := 21) hx hb dX9_undo_7 (by decide) (fun hc => ?_) (fun hc => ?_)
  · have hf := ite_f hc hf
    have hok := hok.2 hc
    refine lv_aload_n hx hb dX9_undo_21 rfl (lv_at hl 0 rfl) ?_
    refine gg_9_4 X hP ab_0 kf_X9_35 dX9_undo_22 ?_
    refine lv_aload_n hx hb dX9_undo_25 rfl (lv_at hl 0 rfl) ?_
    refine gg_9_1 X hP ab_0 kf_X9_20 dX9_undo_26 ?_
    have hs1 := hok
    refine g_cV (g_runV (i := 189) (As := [.ref (G.2.1 2)]) (rest := []) X (c_X4_bringBack l G hG σ 2 ab_2 hs1) ca_X4_bringBack km_X9_372 rfl rfl ⟨Nat.le_of_ble_eq_true rfl, Nat.le_of_ble_eq_true rfl⟩ hP hS (ty_lt ab_189) (cell_4 ab_189) rfl rfl rfl hl.1 rfl (Nat.le_of_ble_eq_true rfl) ⟨Nat.le_of_ble_eq_true rfl, Nat.le_of_ble_eq_true rfl⟩ dX9_undo_29) hS (fun q2 hq2 H locs hP hS => ?_)
    have hf := bnd_go hq2 hf
    refine lv_aload_n hx hb dX9_undo_32 rfl (lv_at hl 0 rfl) ?_
    refine gg_9_4 X hP ab_0 kf_X9_35 dX9_undo_33 ?_
    refine gg_4_2 X hP ab_189 kf_X9_341 dX9_undo_36 ?_
    exact gx_iret X hr hlk hP hS hf (Nat.le_of_ble_eq_true rfl) (Nat.le_of_ble_eq_true rfl) dX9_undo_39
  · have hf := ite_t hc hf
    exact gx_throw (k := 5) X hfl hlk hex (by decide) kt_285 ki_285 ka_289 (hXW.2.1 4 (by decide)) hP hS hl.1 dX9_undo_10 dX9_undo_13 dX9_undo_14 dX9_undo_17 dX9_undo_20 ⟨Nat.le_of_ble_eq_true rfl, Nat.le_of_ble_eq_true rfl, Nat.le_of_ble_eq_true rfl, Nat.le_of_ble_eq_true rfl⟩ (Nat.le_of_ble_eq_true rfl) ⟨(by decide : (5 : Nat) ≠ 0), hf⟩ (Nat.le_of_ble_eq_true rfl) (Nat.le_of_ble_eq_true rfl)
def f_X9_save (σ : St) : St × Int32 := (bnd (f_X6_copyFrom σ 36 2) (fun q1 => (bnd (setI q1 0 7 (1 : Int32)) (fun q2 => (q2, (q2.1 6 8))))))
abbrev rm_X9_save : Room := { frames := 3, cells := 0, slots := 0, locals := 102 }
set_option maxHeartbeats 4000000 in
set_option maxRecDepth 100000 in
theorem c_X9_save (l : Launch) (G : GE) (hG : Gok G) (σ : St) : MtI l G yX9_save cX9_save 1 rm_X9_save [.ref (G.2.1 0)] σ (f_X9_save σ) := by
  generalize hf : f_X9_save σ = fv
  rw [f_X9_save] at hf
  refine g_start hG (plainFor_of_name (by decide)) (Nat.le_of_ble_eq_true rfl) ?_
  intro p e s m args below meth c X hr hlk ls hl H locs hP hS
  have X : Cx G p s m args c cX9_save 1 RX9 := X
  obtain ⟨hx, hb, hml, hown, hts, hK, hbs, hXW, -⟩ := id X
  have hl : lv_has ls 1 [(0, .ref (G.2.1 0))] := hl
  refine lv_aload_n hx hb dX9_save_0 rfl (lv_at hl 0 rfl) ?_
  refine gg_9_3 X hP ab_0 kf_X9_29 dX9_save_1 ?_
  refine lv_aload_n hx hb dX9_save_4 rfl (lv_at hl 0 rfl) ?_
  refine gg_9_1 X hP ab_0 kf_X9_20 dX9_save_5 ?_
  refine g_cV (g_runV (i := 36) (As := [.ref (G.2.1 2)]) (rest := []) X (c_X6_copyFrom l G hG σ 36 ab_36 2 ab_2) ca_X6_copyFrom km_X9_302 rfl rfl ⟨Nat.le_of_ble_eq_true rfl, Nat.le_of_ble_eq_true rfl⟩ hP hS (ty_lt ab_36) (cell_6 ab_36) rfl rfl rfl hl.1 rfl (Nat.le_of_ble_eq_true rfl) ⟨Nat.le_of_ble_eq_true rfl, Nat.le_of_ble_eq_true rfl⟩ dX9_save_8) hS (fun q1 hq1 H locs hP hS => ?_)
  have hf := bnd_go hq1 hf
  refine lv_aload_n hx hb dX9_save_11 rfl (lv_at hl 0 rfl) ?_
  refine lv_iconst (v := 1) hx hb dX9_save_12 (by decide) ?_
  refine gp_9_7 X hP hS ab_0 kf_X9_375 rfl rfl dX9_save_13 (fun H locs hP hS => ?_)
  refine g_name hP (fun q2 hq2 hP => ?_)
  have hf := bnd_go hq2 hf
  refine lv_aload_n hx hb dX9_save_16 rfl (lv_at hl 0 rfl) ?_
  refine gg_9_1 X hP ab_0 kf_X9_20 dX9_save_17 ?_
  refine gg_6_1 (j := 6) rfl X hP ab_2 kf_X9_101 dX9_save_20 ?_
  refine gg_5_8 X hP ab_6 kf_X9_323 dX9_save_23 ?_
  exact g_iret X hr hlk hP hS hf dX9_save_26
def f_X9_restore (σ : St) : Nat × St × Int32 := (if (σ.1 0 7) = 0 then (5, σ, 0) else (bnd (f_X6_copyFrom σ 2 36) (fun q1 => (bnd (f_X4_forget q1) (fun q2 => (0, q2, (q2.1 6 8)))))))
abbrev rm_X9_restore : Room := { frames := 6, cells := 1, slots := 6, locals := 102 }
set_option maxHeartbeats 4000000 in
set_option maxRecDepth 100000 in
theorem c_X9_restore (l : Launch) (hfl : l.stackTraces = false) (G : GE) (hG : Gok G) (σ : St) : XtI l G yX9_restore cX9_restore 1 rm_X9_restore [.ref (G.2.1 0)] σ (f_X9_restore σ) 1 6 := by
  generalize hf : f_X9_restore σ = fv
  rw [f_X9_restore] at hf
  refine gx_start hG (by decide) (Nat.le_of_ble_eq_true rfl) ?_
  intro p e s m args below meth c X hr hlk hex ls hl H locs hP hS
  have X : Cx G p s m args c cX9_restore 1 RX9 := X
  obtain ⟨hx, hb, hml, hown, hts, hK, hbs, hXW, -⟩ := id X
  have hl : lv_has ls 1 [(0, .ref (G.2.1 0))] := hl
  refine lv_aload_n hx hb dX9_restore_0 rfl (lv_at hl 0 rfl) ?_
  refine gg_9_7 X hP ab_0 kf_X9_375 dX9_restore_1 ?_
  refine lv_if_ne (tgt := 18) hx hb dX9_restore_4 (by decide) (fun hc => ?_) (fun hc => ?_)
  · have hf := ite_f hc hf
    refine lv_aload_n hx hb dX9_restore_18 rfl (lv_at hl 0 rfl) ?_
    refine gg_9_1 X hP ab_0 kf_X9_20 dX9_restore_19 ?_
    refine lv_aload_n hx hb dX9_restore_22 rfl (lv_at hl 0 rfl) ?_
    refine gg_9_3 X hP ab_0 kf_X9_29 dX9_restore_23 ?_
    refine g_cV (g_runV (i := 2) (As := [.ref (G.2.1 36)]) (rest := []) X (c_X6_copyFrom l G hG σ 2 ab_2 36 ab_36) ca_X6_copyFrom km_X9_302 rfl rfl ⟨Nat.le_of_ble_eq_true rfl, Nat.le_of_ble_eq_true rfl⟩ hP hS (ty_lt ab_2) (cell_6 ab_2) rfl rfl rfl hl.1 rfl (Nat.le_of_ble_eq_true rfl) ⟨Nat.le_of_ble_eq_true rfl, Nat.le_of_ble_eq_true rfl⟩ dX9_restore_26) hS (fun q1 hq1 H locs hP hS => ?_)
    have hf := bnd_go hq1 hf
    refine lv_aload_n hx hb dX9_restore_29 rfl (lv_at hl 0 rfl) ?_
    refine gg_9_4 X hP ab_0 kf_X9_35 dX9_restore_30 ?_
    refine g_cV (g_runV (i := 189) (As := []) (rest := []) X (c_X4_forget l G hG q1) ca_X4_forget km_X9_381 rfl rfl ⟨Nat.le_of_ble_eq_true rfl, Nat.le_of_ble_eq_true rfl⟩ hP hS (ty_lt ab_189) (cell_4 ab_189) rfl rfl rfl hl.1 rfl (Nat.le_of_ble_eq_true rfl) ⟨Nat.le_of_ble_eq_true rfl, Nat.le_of_ble_eq_true rfl⟩ dX9_restore_33) hS (fun q2 hq2 H locs hP hS => ?_)
    have hf := bnd_go hq2 hf
    refine lv_aload_n hx hb dX9_restore_36 rfl (lv_at hl 0 rfl) ?_
    refine gg_9_1 X hP ab_0 kf_X9_20 dX9_restore_37 ?_
    refine gg_6_1 (j := 6) rfl X hP ab_2 kf_X9_101 dX9_restore_40 ?_
    refine gg_5_8 X hP ab_6 kf_X9_323 dX9_restore_43 ?_
    exact gx_iret X hr hlk hP hS hf (Nat.le_of_ble_eq_true rfl) (Nat.le_of_ble_eq_true rfl) dX9_restore_46
  · have hf := ite_t hc hf
    exact gx_throw (k := 5) X hfl hlk hex (by decide) kt_285 ki_285 ka_289 (hXW.2.1 5 (by decide)) hP hS hl.1 dX9_restore_7 dX9_restore_10 dX9_restore_11 dX9_restore_14 dX9_restore_17 ⟨Nat.le_of_ble_eq_true rfl, Nat.le_of_ble_eq_true rfl, Nat.le_of_ble_eq_true rfl, Nat.le_of_ble_eq_true rfl⟩ (Nat.le_of_ble_eq_true rfl) ⟨(by decide : (5 : Nat) ≠ 0), hf⟩ (Nat.le_of_ble_eq_true rfl) (Nat.le_of_ble_eq_true rfl)
