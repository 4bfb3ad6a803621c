def f_X9_crayon (σ : St) (x1 : Int32) : Nat × St × Int32 := (bnd (f_X1_mayAddCrayon σ x1) (fun q1 => (bnd (f_X9_demand q1.1 q1.2) (fun q2 => (if q2.1 = 0 then (bnd (f_X4_remember q2.2 2) (fun q4 => (bnd (f_X2_addCrayon q4 3 (FP.fmul (1036831949 : UInt32) (FP.i2f x1))) (fun q7 => (0, q7.1, q7.2))))) else (q2.1, q2.2, 0))))))
def ok_X9_crayon (σ : St) (x1 : Int32) : Prop := (bndP (f_X1_mayAddCrayon σ x1) (fun q1 => (bndP (f_X9_demand q1.1 q1.2) (fun q2 => q2.1 = 0 → (ok_X4_remember q2.2 2 ∧ (bndP (f_X4_remember q2.2 2) (fun q4 => (vf_n32 (FP.fmul (1036831949 : UInt32) (FP.i2f x1)) ∧ ok_X2_addCrayon q4 3 (FP.fmul (1036831949 : UInt32) (FP.i2f x1))))))))))
abbrev rm_X9_crayon : Room := { frames := 7, cells := 1, slots := 6, locals := 123 }
set_option maxHeartbeats 4000000 in
set_option maxRecDepth 100000 in
theorem c_X9_crayon (l : Launch) (hfl : l.stackTraces = false) (G : GE) (hG : Gok G) (σ : St) (x1 : Int32) (hok : ok_X9_crayon σ x1) : XtI l G yX9_crayon cX9_crayon 2 rm_X9_crayon [.ref (G.2.1 0), .int x1] σ (f_X9_crayon σ x1) 1 6 := by
  generalize hf : f_X9_crayon σ x1 = fv
  rw [f_X9_crayon] at hf
  rw [ok_X9_crayon] at hok
  refine gx_start hG (by decide) (Nat.le_of_ble_eq_true rfl) ?_
  intro p e s m args below meth c X hr hlk hex ls hl H locs hP hS
  have X : Cx G p s m args c cX9_crayon 2 RX9 := X
  obtain ⟨hx, hb, hml, hown, hts, hK, hbs, hXW, -⟩ := id X
  have hl : lv_has ls 2 [(0, .ref (G.2.1 0)), (1, .int x1)] := hl
  refine lv_aload_n hx hb dX9_crayon_0 rfl (lv_at hl 0 rfl) ?_
  refine gg_9_0 X hP ab_0 kf_X9_10 dX9_crayon_1 ?_
  refine lv_iload_n hx hb dX9_crayon_4 rfl (lv_at hl 1 rfl) ?_
  refine g_cI (g_runV (i := 1) (As := [.int x1]) (rest := []) X (c_X1_mayAddCrayon l G hG σ x1) ca_X1_mayAddCrayon km_X9_50 rfl rfl ⟨Nat.le_of_ble_eq_true rfl, Nat.le_of_ble_eq_true rfl⟩ hP hS (ty_lt ab_1) (cell_1 ab_1) rfl rfl rfl hl.1 rfl (Nat.le_of_ble_eq_true rfl) ⟨Nat.le_of_ble_eq_true rfl, Nat.le_of_ble_eq_true rfl⟩ dX9_crayon_5) hS (fun q1 hq1 H locs hP hS => ?_)
  have hf := bnd_go hq1 hf
  have hok := bnd_goP hq1 hok
  refine gx_cV (gx_runS (As := [.int q1.2]) (rest := []) X (c_X9_demand l hfl G hG q1.1 q1.2) ca_X9_demand km_X9_54 rfl rfl ⟨Nat.le_of_ble_eq_true rfl, Nat.le_of_ble_eq_true rfl⟩ hP hS rfl hl.1 rfl (Nat.le_of_ble_eq_true rfl) ⟨Nat.le_of_ble_eq_true rfl, Nat.le_of_ble_eq_true rfl⟩ dX9_crayon_8) hS (fun q2 hq2 hc H locs hP hS ce q9 hce hcv hcl => ?_) (fun q2 hq2 hc H locs hP hS => ?_)
  · have hf := bnd_go hq2 hf
    have hf := ite_f hc hf
    exact gx_out hex hlk hP hS hce hcv hcl ⟨hc, hf⟩ (Nat.le_of_ble_eq_true rfl) (Nat.le_of_ble_eq_true rfl)
  · have hf := bnd_go hq2 hf
    have hf := ite_t hc hf
    have hok := bnd_goP hq2 hok hc
    refine lv_aload_n hx hb dX9_crayon_11 rfl (lv_at hl 0 rfl) ?_
    refine gg_9_4 X hP ab_0 kf_X9_35 dX9_crayon_12 ?_
    refine lv_aload_n hx hb dX9_crayon_15 rfl (lv_at hl 0 rfl) ?_
    refine gg_9_1 X hP ab_0 kf_X9_20 dX9_crayon_16 ?_
    have hs3 := hok.1
    have hok := hok.2
    refine g_cV (g_runV (i := 189) (As := [.ref (G.2.1 2)]) (rest := []) X (c_X4_remember l G hG q2.2 2 ab_2 hs3) ca_X4_remember km_X9_58 rfl rfl ⟨Nat.le_of_ble_eq_true rfl, Nat.le_of_ble_eq_true rfl⟩ hP hS (ty_lt ab_189) (cell_4 ab_189) rfl rfl rfl hl.1 rfl (Nat.le_of_ble_eq_true rfl) ⟨Nat.le_of_ble_eq_true rfl, Nat.le_of_ble_eq_true rfl⟩ dX9_crayon_19) hS (fun q4 hq4 H locs hP hS => ?_)
    have hf := bnd_go hq4 hf
    have hok := bnd_goP hq4 hok
    refine lv_aload_n hx hb dX9_crayon_22 rfl (lv_at hl 0 rfl) ?_
    refine gg_9_1 X hP ab_0 kf_X9_20 dX9_crayon_23 ?_
    refine gg_6_0 (j := 3) rfl X hP ab_2 kf_X9_62 dX9_crayon_26 ?_
    refine lv_ldcf hx hb hown (hts _ kc_X9_66) dX9_crayon_29 ?_
    refine lv_iload_n hx hb dX9_crayon_31 rfl (lv_at hl 1 rfl) ?_
    refine lv_i2f hx hb dX9_crayon_32 ?_
    have hs5 := hok.1
    have hok := hok.2
    refine lv_fmul hx hb dX9_crayon_33 hs5 ?_
    have hs6 := hok
    refine g_cI (g_runV (i := 3) (As := [.float (FP.fmul (1036831949 : UInt32) (FP.i2f x1))]) (rest := []) X (c_X2_addCrayon l G hG q4 3 ab_3 (FP.fmul (1036831949 : UInt32) (FP.i2f x1)) hs6) ca_X2_addCrayon km_X9_67 rfl rfl ⟨Nat.le_of_ble_eq_true rfl, Nat.le_of_ble_eq_true rfl⟩ hP hS (ty_lt ab_3) (cell_2 ab_3) rfl rfl rfl hl.1 rfl (Nat.le_of_ble_eq_true rfl) ⟨Nat.le_of_ble_eq_true rfl, Nat.le_of_ble_eq_true rfl⟩ dX9_crayon_34) hS (fun q7 hq7 H locs hP hS => ?_)
    have hf := bnd_go hq7 hf
    exact gx_iret X hr hlk hP hS hf (Nat.le_of_ble_eq_true rfl) (Nat.le_of_ble_eq_true rfl) dX9_crayon_37
def f_X9_crayonOf (σ : St) (x1 : Int32) : Nat × St × UInt32 := (if (f_X2_hasCrayon σ 3 x1) = true then (bnd (f_X9_demand σ (0 : Int32)) (fun q3 => (if q3.1 = 0 then (0, q3.2, (q3.2.2.1 4 x1.toNatClampNeg)) else (q3.1, q3.2, 0)))) else (bnd (f_X9_demand σ (-1 : Int32)) (fun q1 => (if q1.1 = 0 then (0, q1.2, (q1.2.2.1 4 x1.toNatClampNeg)) else (q1.1, q1.2, 0)))))
def ok_X9_crayonOf (σ : St) (x1 : Int32) : Prop := (((f_X2_hasCrayon σ 3 x1) = true → (bndP (f_X9_demand σ (0 : Int32)) (fun q3 => q3.1 = 0 → vp_in x1 8))) ∧ ((f_X2_hasCrayon σ 3 x1) = false → (bndP (f_X9_demand σ (-1 : Int32)) (fun q1 => q1.1 = 0 → vp_in x1 8))))
abbrev rm_X9_crayonOf : Room := { frames := 7, cells := 1, slots := 6, locals := 120 }
set_option maxHeartbeats 4000000 in
set_option maxRecDepth 100000 in
theorem c_X9_crayonOf (l : Launch) (hfl : l.stackTraces = false) (G : GE) (hG : Gok G) (σ : St) (x1 : Int32) (hok : ok_X9_crayonOf σ x1) : XtF l G yX9_crayonOf cX9_crayonOf 2 rm_X9_crayonOf [.ref (G.2.1 0), .int x1] σ (f_X9_crayonOf σ x1) 1 6 := by
  generalize hf : f_X9_crayonOf σ x1 = fv
  rw [f_X9_crayonOf] at hf
  rw [ok_X9_crayonOf] at hok
  refine gx_start hG (by decide) (Nat.le_of_ble_eq_true rfl) ?_
  intro p e s m args below meth c X hr hlk hex ls hl H locs hP hS
  have X : Cx G p s m args c cX9_crayonOf 2 RX9 := X
  obtain ⟨hx, hb, hml, hown, hts, hK, hbs, hXW, -⟩ := id X
  have hl : lv_has ls 2 [(0, .ref (G.2.1 0)), (1, .int x1)] := hl
  refine lv_aload_n hx hb dX9_crayonOf_0 rfl (lv_at hl 0 rfl) ?_
  refine gg_9_1 X hP ab_0 kf_X9_20 dX9_crayonOf_1 ?_
  refine gg_6_0 (j := 3) rfl X hP ab_2 kf_X9_62 dX9_crayonOf_4 ?_
  refine lv_iload_n hx hb dX9_crayonOf_7 rfl (lv_at hl 1 rfl) ?_
  refine g_cZp (g_runV (i := 3) (As := [.int x1]) (rest := []) X (c_X2_hasCrayon l G hG σ 3 ab_3 x1) ca_X2_hasCrayon km_X9_73 rfl rfl ⟨Nat.le_of_ble_eq_true rfl, Nat.le_of_ble_eq_true rfl⟩ hP hS (ty_lt ab_3) (cell_2 ab_3) rfl rfl rfl hl.1 rfl (Nat.le_of_ble_eq_true rfl) ⟨Nat.le_of_ble_eq_true rfl, Nat.le_of_ble_eq_true rfl⟩ dX9_crayonOf_8) hS (fun H locs hP hS => ?_)
  refine g_ifeqZ (tgt := 18) X dX9_crayonOf_11 (by decide) (fun hc => ?_) (fun hc => ?_)
  · have hf := ite_z hc hf
    have hok := hok.2 hc
    refine lv_iconst (v := -1) hx hb dX9_crayonOf_18 (by decide) ?_
    refine gx_cV (gx_runS (As := [.int (-1 : Int32)]) (rest := []) X (c_X9_demand l hfl G hG σ (-1 : Int32)) ca_X9_demand km_X9_54 rfl rfl ⟨Nat.le_of_ble_eq_true rfl, Nat.le_of_ble_eq_true rfl⟩ hP hS rfl hl.1 rfl (Nat.le_of_ble_eq_true rfl) ⟨Nat.le_of_ble_eq_true rfl, Nat.le_of_ble_eq_true rfl⟩ dX9_crayonOf_19) hS (fun q1 hq1 hc H locs hP hS ce q9 hce hcv hcl => ?_) (fun q1 hq1 hc H locs hP hS => ?_)
    · have hf := bnd_go hq1 hf
      have hf := ite_f hc hf
      exact gx_out hex hlk hP hS hce hcv hcl ⟨hc, hf⟩ (Nat.le_of_ble_eq_true rfl) (Nat.le_of_ble_eq_true rfl)
    · have hf := bnd_go hq1 hf
      have hf := ite_t hc hf
      have hok := bnd_goP hq1 hok hc
      refine lv_aload_n hx hb dX9_crayonOf_22 rfl (lv_at hl 0 rfl) ?_
      refine gg_9_1 X hP ab_0 kf_X9_20 dX9_crayonOf_23 ?_
      refine gg_6_0 (j := 3) rfl X hP ab_2 kf_X9_62 dX9_crayonOf_26 ?_
      refine gg_2_0 (j := 4) rfl X hP ab_3 kf_X9_77 dX9_crayonOf_29 ?_
      refine lv_iload_n hx hb dX9_crayonOf_32 rfl (lv_at hl 1 rfl) ?_
      have hs2 := hok
      refine g_fald X hP ab_4 (by rw [al_4]; exact hs2) dX9_crayonOf_33 ?_
      exact gx_fret X hr hlk hP hS hf (Nat.le_of_ble_eq_true rfl) (Nat.le_of_ble_eq_true rfl) dX9_crayonOf_34
  · have hf := ite_t hc hf
    have hok := hok.1 hc
    refine lv_iconst (v := 0) hx hb dX9_crayonOf_14 (by decide) ?_
    refine lv_goto (tgt := 19) hx hb dX9_crayonOf_15 (by decide) ?_
    refine gx_cV (gx_runS (As := [.int (0 : Int32)]) (rest := []) X (c_X9_demand l hfl G hG σ (0 : Int32)) ca_X9_demand km_X9_54 rfl rfl ⟨Nat.le_of_ble_eq_true rfl, Nat.le_of_ble_eq_true rfl⟩ hP hS rfl hl.1 rfl (Nat.le_of_ble_eq_true rfl) ⟨Nat.le_of_ble_eq_true rfl, Nat.le_of_ble_eq_true rfl⟩ dX9_crayonOf_19) hS (fun q3 hq3 hc H locs hP hS ce q9 hce hcv hcl => ?_) (fun q3 hq3 hc H locs hP hS => ?_)
    · have hf := bnd_go hq3 hf
      have hf := ite_f hc hf
      exact gx_out hex hlk hP hS hce hcv hcl ⟨hc, hf⟩ (Nat.le_of_ble_eq_true rfl) (Nat.le_of_ble_eq_true rfl)
    · have hf := bnd_go hq3 hf
      have hf := ite_t hc hf
      have hok := bnd_goP hq3 hok hc
      refine lv_aload_n hx hb dX9_crayonOf_22 rfl (lv_at hl 0 rfl) ?_
      refine gg_9_1 X hP ab_0 kf_X9_20 dX9_crayonOf_23 ?_
      refine gg_6_0 (j := 3) rfl X hP ab_2 kf_X9_62 dX9_crayonOf_26 ?_
      refine gg_2_0 (j := 4) rfl X hP ab_3 kf_X9_77 dX9_crayonOf_29 ?_
      refine lv_iload_n hx hb dX9_crayonOf_32 rfl (lv_at hl 1 rfl) ?_
      have hs4 := hok
      refine g_fald X hP ab_4 (by rw [al_4]; exact hs4) dX9_crayonOf_33 ?_
      exact gx_fret X hr hlk hP hS hf (Nat.le_of_ble_eq_true rfl) (Nat.le_of_ble_eq_true rfl) dX9_crayonOf_34
def f_X9_letter (σ : St) (x1 : Int32) (x2 : Int32) (x3 : Int32) (x4 : Int32) : Nat × St × Int32 := (bnd (f_X1_mayWrite σ x1 x2 x3 x4) (fun q2 => (bnd (f_X9_demand q2.1 q2.2) (fun q3 => (if q3.1 = 0 then (bnd (f_X4_remember q3.2 2) (fun q5 => (bnd (f_X6_writeLetter q5 2 x1 x2 x3 x4) (fun q7 => (0, q7.1, q7.2))))) else (q3.1, q3.2, 0))))))
def ok_X9_letter (σ : St) (x1 : Int32) (x2 : Int32) (x3 : Int32) (x4 : Int32) : Prop := (ok_X1_mayWrite σ x1 x2 x3 x4 ∧ (bndP (f_X1_mayWrite σ x1 x2 x3 x4) (fun q2 => (bndP (f_X9_demand q2.1 q2.2) (fun q3 => q3.1 = 0 → (ok_X4_remember q3.2 2 ∧ (bndP (f_X4_remember q3.2 2) (fun q5 => ok_X6_writeLetter q5 2 x1 x2 x3 x4))))))))
abbrev rm_X9_letter : Room := { frames := 7, cells := 1, slots := 6, locals := 123 }
set_option maxHeartbeats 4000000 in
set_option maxRecDepth 100000 in
theorem c_X9_letter (l : Launch) (hfl : l.stackTraces = false) (G : GE) (hG : Gok G) (σ : St) (x1 : Int32) (x2 : Int32) (x3 : Int32) (x4 : Int32) (hok : ok_X9_letter σ x1 x2 x3 x4) : XtI l G yX9_letter cX9_letter 5 rm_X9_letter [.ref (G.2.1 0), .int x1, .int x2, .int x3, .int x4] σ (f_X9_letter σ x1 x2 x3 x4) 1 6 := by
  generalize hf : f_X9_letter σ x1 x2 x3 x4 = fv
  rw [f_X9_letter] at hf
  rw [ok_X9_letter] at hok
  refine gx_start hG (by decide) (Nat.le_of_ble_eq_true rfl) ?_
  intro p e s m args below meth c X hr hlk hex ls hl H locs hP hS
  have X : Cx G p s m args c cX9_letter 5 RX9 := X
  obtain ⟨hx, hb, hml, hown, hts, hK, hbs, hXW, -⟩ := id X
  have hl : lv_has ls 5 [(0, .ref (G.2.1 0)), (1, .int x1), (2, .int x2), (3, .int x3), (4, .int x4)] := hl
  refine lv_aload_n hx hb dX9_letter_0 rfl (lv_at hl 0 rfl) ?_
  refine gg_9_0 X hP ab_0 kf_X9_10 dX9_letter_1 ?_
  refine lv_iload_n hx hb dX9_letter_4 rfl (lv_at hl 1 rfl) ?_
  refine lv_iload_n hx hb dX9_letter_5 rfl (lv_at hl 2 rfl) ?_
  refine lv_iload_n hx hb dX9_letter_6 rfl (lv_at hl 3 rfl) ?_
  refine lv_iload hx hb dX9_letter_7 (lv_at hl 4 rfl) ?_
  have hs1 := hok.1
  have hok := hok.2
  refine g_cI (g_runV (i := 1) (As := [.int x1, .int x2, .int x3, .int x4]) (rest := []) X (c_X1_mayWrite l G hG σ x1 x2 x3 x4 hs1) ca_X1_mayWrite km_X9_80 rfl rfl ⟨Nat.le_of_ble_eq_true rfl, Nat.le_of_ble_eq_true rfl⟩ hP hS (ty_lt ab_1) (cell_1 ab_1) rfl rfl rfl hl.1 rfl (Nat.le_of_ble_eq_true rfl) ⟨Nat.le_of_ble_eq_true rfl, Nat.le_of_ble_eq_true rfl⟩ dX9_letter_9) hS (fun q2 hq2 H locs hP hS => ?_)
  have hf := bnd_go hq2 hf
  have hok := bnd_goP hq2 hok
  refine gx_cV (gx_runS (As := [.int q2.2]) (rest := []) X (c_X9_demand l hfl G hG q2.1 q2.2) ca_X9_demand km_X9_54 rfl rfl ⟨Nat.le_of_ble_eq_true rfl, Nat.le_of_ble_eq_true rfl⟩ hP hS rfl hl.1 rfl (Nat.le_of_ble_eq_true rfl) ⟨Nat.le_of_ble_eq_true rfl, Nat.le_of_ble_eq_true rfl⟩ dX9_letter_12) hS (fun q3 hq3 hc H locs hP hS ce q9 hce hcv hcl => ?_) (fun q3 hq3 hc H locs hP hS => ?_)
  · have hf := bnd_go hq3 hf
    have hf := ite_f hc hf
    exact gx_out hex hlk hP hS hce hcv hcl ⟨hc, hf⟩ (Nat.le_of_ble_eq_true rfl) (Nat.le_of_ble_eq_true rfl)
  · have hf := bnd_go hq3 hf
    have hf := ite_t hc hf
    have hok := bnd_goP hq3 hok hc
    refine lv_aload_n hx hb dX9_letter_15 rfl (lv_at hl 0 rfl) ?_
    refine gg_9_4 X hP ab_0 kf_X9_35 dX9_letter_16 ?_
    refine lv_aload_n hx hb dX9_letter_19 rfl (lv_at hl 0 rfl) ?_
    refine gg_9_1 X hP ab_0 kf_X9_20 dX9_letter_20 ?_
    have hs4 := hok.1
    have hok := hok.2
    refine g_cV (g_runV (i := 189) (As := [.ref (G.2.1 2)]) (rest := []) X (c_X4_remember l G hG q3.2 2 ab_2 hs4) ca_X4_remember km_X9_58 rfl rfl ⟨Nat.le_of_ble_eq_true rfl, Nat.le_of_ble_eq_true rfl⟩ hP hS (ty_lt ab_189) (cell_4 ab_189) rfl rfl rfl hl.1 rfl (Nat.le_of_ble_eq_true rfl) ⟨Nat.le_of_ble_eq_true rfl, Nat.le_of_ble_eq_true rfl⟩ dX9_letter_23) hS (fun q5 hq5 H locs hP hS => ?_)
    have hf := bnd_go hq5 hf
    have hok := bnd_goP hq5 hok
    refine lv_aload_n hx hb dX9_letter_26 rfl (lv_at hl 0 rfl) ?_
    refine gg_9_1 X hP ab_0 kf_X9_20 dX9_letter_27 ?_
    refine lv_iload_n hx hb dX9_letter_30 rfl (lv_at hl 1 rfl) ?_
    refine lv_iload_n hx hb dX9_letter_31 rfl (lv_at hl 2 rfl) ?_
    refine lv_iload_n hx hb dX9_letter_32 rfl (lv_at hl 3 rfl) ?_
    refine lv_iload hx hb dX9_letter_33 (lv_at hl 4 rfl) ?_
    have hs6 := hok
    refine g_cI (g_runV (i := 2) (As := [.int x1, .int x2, .int x3, .int x4]) (rest := []) X (c_X6_writeLetter l G hG q5 2 ab_2 x1 x2 x3 x4 hs6) ca_X6_writeLetter km_X9_84 rfl rfl ⟨Nat.le_of_ble_eq_true rfl, Nat.le_of_ble_eq_true rfl⟩ hP hS (ty_lt ab_2) (cell_6 ab_2) rfl rfl rfl hl.1 rfl (Nat.le_of_ble_eq_true rfl) ⟨Nat.le_of_ble_eq_true rfl, Nat.le_of_ble_eq_true rfl⟩ dX9_letter_35) hS (fun q7 hq7 H locs hP hS => ?_)
    have hf := bnd_go hq7 hf
    exact gx_iret X hr hlk hP hS hf (Nat.le_of_ble_eq_true rfl) (Nat.le_of_ble_eq_true rfl) dX9_letter_38
def f_X9_parcel (σ : St) (x1 : Int32) (x2 : Int32) (x3 : Int32) (x4 : Int32) (x5 : Int32) : Nat × St × Int32 := (bnd (f_X1_mayWrap σ x1 x2 x3 x4 x5) (fun q2 => (bnd (f_X9_demand q2.1 q2.2) (fun q3 => (if q3.1 = 0 then (bnd (f_X4_remember q3.2 2) (fun q5 => (bnd (f_X6_wrapParcel q5 2 x1 x2 x3 x4 x5) (fun q7 => (0, q7.1, q7.2))))) else (q3.1, q3.2, 0))))))
def ok_X9_parcel (σ : St) (x1 : Int32) (x2 : Int32) (x3 : Int32) (x4 : Int32) (x5 : Int32) : Prop := (ok_X1_mayWrap σ x1 x2 x3 x4 x5 ∧ (bndP (f_X1_mayWrap σ x1 x2 x3 x4 x5) (fun q2 => (bndP (f_X9_demand q2.1 q2.2) (fun q3 => q3.1 = 0 → (ok_X4_remember q3.2 2 ∧ (bndP (f_X4_remember q3.2 2) (fun q5 => ok_X6_wrapParcel q5 2 x1 x2 x3 x4 x5))))))))
abbrev rm_X9_parcel : Room := { frames := 7, cells := 1, slots := 6, locals := 123 }
set_option maxHeartbeats 4000000 in
set_option maxRecDepth 100000 in
theorem c_X9_parcel (l : Launch) (hfl : l.stackTraces = false) (G : GE) (hG : Gok G) (σ : St) (x1 : Int32) (x2 : Int32) (x3 : Int32) (x4 : Int32) (x5 : Int32) (hok : ok_X9_parcel σ x1 x2 x3 x4 x5) : XtI l G yX9_parcel cX9_parcel 6 rm_X9_parcel [.ref (G.2.1 0), .int x1, .int x2, .int x3, .int x4, .int x5] σ (f_X9_parcel σ x1 x2 x3 x4 x5) 1 6 := by
  generalize hf : f_X9_parcel σ x1 x2 x3 x4 x5 = fv
  rw [f_X9_parcel] at hf
  rw [ok_X9_parcel] at hok
  refine gx_start hG (by decide) (Nat.le_of_ble_eq_true rfl) ?_
  intro p e s m args below meth c X hr hlk hex ls hl H locs hP hS
  have X : Cx G p s m args c cX9_parcel 6 RX9 := X
  obtain ⟨hx, hb, hml, hown, hts, hK, hbs, hXW, -⟩ := id X
  have hl : lv_has ls 6 [(0, .ref (G.2.1 0)), (1, .int x1), (2, .int x2), (3, .int x3), (4, .int x4), (5, .int x5)] := hl
  refine lv_aload_n hx hb dX9_parcel_0 rfl (lv_at hl 0 rfl) ?_
  refine gg_9_0 X hP ab_0 kf_X9_10 dX9_parcel_1 ?_
  refine lv_iload_n hx hb dX9_parcel_4 rfl (lv_at hl 1 rfl) ?_
  refine lv_iload_n hx hb dX9_parcel_5 rfl (lv_at hl 2 rfl) ?_
  refine lv_iload_n hx hb dX9_parcel_6 rfl (lv_at hl 3 rfl) ?_
  refine lv_iload hx hb dX9_parcel_7 (lv_at hl 4 rfl) ?_
  refine lv_iload hx hb dX9_parcel_9 (lv_at hl 5 rfl) ?_
  have hs1 := hok.1
  have hok := hok.2
  refine g_cI (g_runV (i := 1) (As := [.int x1, .int x2, .int x3, .int x4, .int x5]) (rest := []) X (c_X1_mayWrap l G hG σ x1 x2 x3 x4 x5 hs1) ca_X1_mayWrap km_X9_87 rfl rfl ⟨Nat.le_of_ble_eq_true rfl, Nat.le_of_ble_eq_true rfl⟩ hP hS (ty_lt ab_1) (cell_1 ab_1) rfl rfl rfl hl.1 rfl (Nat.le_of_ble_eq_true rfl) ⟨Nat.le_of_ble_eq_true rfl, Nat.le_of_ble_eq_true rfl⟩ dX9_parcel_11) hS (fun q2 hq2 H locs hP hS => ?_)
  have hf := bnd_go hq2 hf
  have hok := bnd_goP hq2 hok
  refine gx_cV (gx_runS (As := [.int q2.2]) (rest := []) X (c_X9_demand l hfl G hG q2.1 q2.2) ca_X9_demand km_X9_54 rfl rfl ⟨Nat.le_of_ble_eq_true rfl, Nat.le_of_ble_eq_true rfl⟩ hP hS rfl hl.1 rfl (Nat.le_of_ble_eq_true rfl) ⟨Nat.le_of_ble_eq_true rfl, Nat.le_of_ble_eq_true rfl⟩ dX9_parcel_14) hS (fun q3 hq3 hc H locs hP hS ce q9 hce hcv hcl => ?_) (fun q3 hq3 hc H locs hP hS => ?_)
  · have hf := bnd_go hq3 hf
    have hf := ite_f hc hf
    exact gx_out hex hlk hP hS hce hcv hcl ⟨hc, hf⟩ (Nat.le_of_ble_eq_true rfl) (Nat.le_of_ble_eq_true rfl)
  · have hf := bnd_go hq3 hf
    have hf := ite_t hc hf
    have hok := bnd_goP hq3 hok hc
    refine lv_aload_n hx hb dX9_parcel_17 rfl (lv_at hl 0 rfl) ?_
    refine gg_9_4 X hP ab_0 kf_X9_35 dX9_parcel_18 ?_
    refine lv_aload_n hx hb dX9_parcel_21 rfl (lv_at hl 0 rfl) ?_
    refine gg_9_1 X hP ab_0 kf_X9_20 dX9_parcel_22 ?_
    have hs4 := hok.1
    have hok := hok.2
    refine g_cV (g_runV (i := 189) (As := [.ref (G.2.1 2)]) (rest := []) X (c_X4_remember l G hG q3.2 2 ab_2 hs4) ca_X4_remember km_X9_58 rfl rfl ⟨Nat.le_of_ble_eq_true rfl, Nat.le_of_ble_eq_true rfl⟩ hP hS (ty_lt ab_189) (cell_4 ab_189) rfl rfl rfl hl.1 rfl (Nat.le_of_ble_eq_true rfl) ⟨Nat.le_of_ble_eq_true rfl, Nat.le_of_ble_eq_true rfl⟩ dX9_parcel_25) hS (fun q5 hq5 H locs hP hS => ?_)
    have hf := bnd_go hq5 hf
    have hok := bnd_goP hq5 hok
    refine lv_aload_n hx hb dX9_parcel_28 rfl (lv_at hl 0 rfl) ?_
    refine gg_9_1 X hP ab_0 kf_X9_20 dX9_parcel_29 ?_
    refine lv_iload_n hx hb dX9_parcel_32 rfl (lv_at hl 1 rfl) ?_
    refine lv_iload_n hx hb dX9_parcel_33 rfl (lv_at hl 2 rfl) ?_
    refine lv_iload_n hx hb dX9_parcel_34 rfl (lv_at hl 3 rfl) ?_
    refine lv_iload hx hb dX9_parcel_35 (lv_at hl 4 rfl) ?_
    refine lv_iload hx hb dX9_parcel_37 (lv_at hl 5 rfl) ?_
    have hs6 := hok
    refine g_cI (g_runV (i := 2) (As := [.int x1, .int x2, .int x3, .int x4, .int x5]) (rest := []) X (c_X6_wrapParcel l G hG q5 2 ab_2 x1 x2 x3 x4 x5 hs6) ca_X6_wrapParcel km_X9_91 rfl rfl ⟨Nat.le_of_ble_eq_true rfl, Nat.le_of_ble_eq_true rfl⟩ hP hS (ty_lt ab_2) (cell_6 ab_2) rfl rfl rfl hl.1 rfl (Nat.le_of_ble_eq_true rfl) ⟨Nat.le_of_ble_eq_true rfl, Nat.le_of_ble_eq_true rfl⟩ dX9_parcel_39) hS (fun q7 hq7 H locs hP hS => ?_)
    have hf := bnd_go hq7 hf
    exact gx_iret X hr hlk hP hS hf (Nat.le_of_ble_eq_true rfl) (Nat.le_of_ble_eq_true rfl) dX9_parcel_42
def f_X9_itemOf (σ : St) (x1 : Int32) (x2 : Int32) : Nat × St × Int32 := (bnd (f_X9_demandItem σ x1) (fun q1 => (if q1.1 = 0 then (if (f_X9_inRange x2 (0 : Int32) (6 : Int32)) = true then (bnd (f_X9_demand q1.2 (0 : Int32)) (fun q4 => (if q4.1 = 0 then (0, q4.2, (f_X5_numberOf q4.2 6 x1 x2)) else (q4.1, q4.2, 0)))) else (bnd (f_X9_demand q1.2 (-2 : Int32)) (fun q2 => (if q2.1 = 0 then (0, q2.2, (f_X5_numberOf q2.2 6 x1 x2)) else (q2.1, q2.2, 0))))) else (q1.1, q1.2, 0))))
def ok_X9_itemOf (σ : St) (x1 : Int32) (x2 : Int32) : Prop := (bndP (f_X9_demandItem σ x1) (fun q1 => q1.1 = 0 → (((f_X9_inRange x2 (0 : Int32) (6 : Int32)) = true → (bndP (f_X9_demand q1.2 (0 : Int32)) (fun q4 => q4.1 = 0 → ok_X5_numberOf q4.2 6 x1 x2))) ∧ ((f_X9_inRange x2 (0 : Int32) (6 : Int32)) = false → (bndP (f_X9_demand q1.2 (-2 : Int32)) (fun q2 => q2.1 = 0 → ok_X5_numberOf q2.2 6 x1 x2))))))
abbrev rm_X9_itemOf : Room := { frames := 8, cells := 2, slots := 12, locals := 141 }
set_option maxHeartbeats 4000000 in
set_option maxRecDepth 100000 in
theorem c_X9_itemOf (l : Launch) (hfl : l.stackTraces = false) (G : GE) (hG : Gok G) (σ : St) (x1 : Int32) (x2 : Int32) (hok : ok_X9_itemOf σ x1 x2) : XtI l G yX9_itemOf cX9_itemOf 3 rm_X9_itemOf [.ref (G.2.1 0), .int x1, .int x2] σ (f_X9_itemOf σ x1 x2) 2 12 := by
  generalize hf : f_X9_itemOf σ x1 x2 = fv
  rw [f_X9_itemOf] at hf
  rw [ok_X9_itemOf] at hok
  refine gx_start hG (by decide) (Nat.le_of_ble_eq_true rfl) ?_
  intro p e s m args below meth c X hr hlk hex ls hl H locs hP hS
  have X : Cx G p s m args c cX9_itemOf 3 RX9 := X
  obtain ⟨hx, hb, hml, hown, hts, hK, hbs, hXW, -⟩ := id X
  have hl : lv_has ls 3 [(0, .ref (G.2.1 0)), (1, .int x1), (2, .int x2)] := hl
  refine lv_aload_n hx hb dX9_itemOf_0 rfl (lv_at hl 0 rfl) ?_
  refine lv_iload_n hx hb dX9_itemOf_1 rfl (lv_at hl 1 rfl) ?_
  refine gx_cV (gx_runV (i := 0) (As := [.int x1]) (rest := []) X (c_X9_demandItem l hfl G hG σ x1) ca_X9_demandItem km_X9_94 rfl rfl ⟨Nat.le_of_ble_eq_true rfl, Nat.le_of_ble_eq_true rfl⟩ hP hS (ty_lt ab_0) (cell_9 ab_0) rfl rfl rfl hl.1 rfl (Nat.le_of_ble_eq_true rfl) ⟨Nat.le_of_ble_eq_true rfl, Nat.le_of_ble_eq_true rfl⟩ dX9_itemOf_2) hS (fun q1 hq1 hc H locs hP hS ce q9 hce hcv hcl => ?_) (fun q1 hq1 hc H locs hP hS => ?_)
  · have hf := bnd_go hq1 hf
    have hf := ite_f hc hf
    exact gx_out hex hlk hP hS hce hcv hcl ⟨hc, hf⟩ (Nat.le_of_ble_eq_true rfl) (Nat.le_of_ble_eq_true rfl)
  · have hf := bnd_go hq1 hf
    have hf := ite_t hc hf
    have hok := bnd_goP hq1 hok hc
    refine lv_iload_n hx hb dX9_itemOf_5 rfl (lv_at hl 2 rfl) ?_
    refine lv_iconst (v := 0) hx hb dX9_itemOf_6 (by decide) ?_
    refine lv_bipush (v := 6) hx hb dX9_itemOf_7 (by decide) ?_
    refine g_cZp (g_runS (As := [.int x2, .int (0 : Int32), .int (6 : Int32)]) (rest := []) X (c_X9_inRange l G hG q1.2 x2 (0 : Int32) (6 : Int32)) ca_X9_inRange km_X9_97 rfl rfl ⟨Nat.le_of_ble_eq_true rfl, Nat.le_of_ble_eq_true rfl⟩ hP hS rfl hl.1 rfl (Nat.le_of_ble_eq_true rfl) ⟨Nat.le_of_ble_eq_true rfl, Nat.le_of_ble_eq_true rfl⟩ dX9_itemOf_9) hS (fun H locs hP hS => ?_)
    refine g_ifeqZ (tgt := 19) X dX9_itemOf_12 (by decide) (fun hc => ?_) (fun hc => ?_)
    · have hf := ite_z hc hf
      have hok := hok.2 hc
      refine lv_bipush (v := -2) hx hb dX9_itemOf_19 (by decide) ?_
      refine gx_cV (gx_runS (As := [.int (-2 : Int32)]) (rest := []) X (c_X9_demand l hfl G hG q1.2 (-2 : Int32)) ca_X9_demand km_X9_54 rfl rfl ⟨Nat.le_of_ble_eq_true rfl, Nat.le_of_ble_eq_true rfl⟩ hP hS rfl hl.1 rfl (Nat.le_of_ble_eq_true rfl) ⟨Nat.le_of_ble_eq_true rfl, Nat.le_of_ble_eq_true rfl⟩ dX9_itemOf_21) hS (fun q2 hq2 hc H locs hP hS ce q9 hce hcv hcl => ?_) (fun q2 hq2 hc H locs hP hS => ?_)
      · have hf := bnd_go hq2 hf
        have hf := ite_f hc hf
        exact gx_out hex hlk hP hS hce hcv hcl ⟨hc, hf⟩ (Nat.le_of_ble_eq_true rfl) (Nat.le_of_ble_eq_true rfl)
      · have hf := bnd_go hq2 hf
        have hf := ite_t hc hf
        have hok := bnd_goP hq2 hok hc
        refine lv_aload_n hx hb dX9_itemOf_24 rfl (lv_at hl 0 rfl) ?_
        refine gg_9_1 X hP ab_0 kf_X9_20 dX9_itemOf_25 ?_
        refine gg_6_1 (j := 6) rfl X hP ab_2 kf_X9_101 dX9_itemOf_28 ?_
        refine lv_iload_n hx hb dX9_itemOf_31 rfl (lv_at hl 1 rfl) ?_
        refine lv_iload_n hx hb dX9_itemOf_32 rfl (lv_at hl 2 rfl) ?_
        have hs3 := hok
        refine g_cIp (g_runV (i := 6) (As := [.int x1, .int x2]) (rest := []) X (c_X5_numberOf l G hG q2.2 6 ab_6 x1 x2 hs3) ca_X5_numberOf km_X9_105 rfl rfl ⟨Nat.le_of_ble_eq_true rfl, Nat.le_of_ble_eq_true rfl⟩ hP hS (ty_lt ab_6) (cell_5 ab_6) rfl rfl rfl hl.1 rfl (Nat.le_of_ble_eq_true rfl) ⟨Nat.le_of_ble_eq_true rfl, Nat.le_of_ble_eq_true rfl⟩ dX9_itemOf_33) hS (fun H locs hP hS => ?_)
        exact gx_iret X hr hlk hP hS hf (Nat.le_of_ble_eq_true rfl) (Nat.le_of_ble_eq_true rfl) dX9_itemOf_36
    · have hf := ite_t hc hf
      have hok := hok.1 hc
      refine lv_iconst (v := 0) hx hb dX9_itemOf_15 (by decide) ?_
      refine lv_goto (tgt := 21) hx hb dX9_itemOf_16 (by decide) ?_
      refine gx_cV (gx_runS (As := [.int (0 : Int32)]) (rest := []) X (c_X9_demand l hfl G hG q1.2 (0 : Int32)) ca_X9_demand km_X9_54 rfl rfl ⟨Nat.le_of_ble_eq_true rfl, Nat.le_of_ble_eq_true rfl⟩ hP hS rfl hl.1 rfl (Nat.le_of_ble_eq_true rfl) ⟨Nat.le_of_ble_eq_true rfl, Nat.le_of_ble_eq_true rfl⟩ dX9_itemOf_21) hS (fun q4 hq4 hc H locs hP hS ce q9 hce hcv hcl => ?_) (fun q4 hq4 hc H locs hP hS => ?_)
      · have hf := bnd_go hq4 hf
        have hf := ite_f hc hf
        exact gx_out hex hlk hP hS hce hcv hcl ⟨hc, hf⟩ (Nat.le_of_ble_eq_true rfl) (Nat.le_of_ble_eq_true rfl)
      · have hf := bnd_go hq4 hf
        have hf := ite_t hc hf
        have hok := bnd_goP hq4 hok hc
        refine lv_aload_n hx hb dX9_itemOf_24 rfl (lv_at hl 0 rfl) ?_
        refine gg_9_1 X hP ab_0 kf_X9_20 dX9_itemOf_25 ?_
        refine gg_6_1 (j := 6) rfl X hP ab_2 kf_X9_101 dX9_itemOf_28 ?_
        refine lv_iload_n hx hb dX9_itemOf_31 rfl (lv_at hl 1 rfl) ?_
        refine lv_iload_n hx hb dX9_itemOf_32 rfl (lv_at hl 2 rfl) ?_
        have hs5 := hok
        refine g_cIp (g_runV (i := 6) (As := [.int x1, .int x2]) (rest := []) X (c_X5_numberOf l G hG q4.2 6 ab_6 x1 x2 hs5) ca_X5_numberOf km_X9_105 rfl rfl ⟨Nat.le_of_ble_eq_true rfl, Nat.le_of_ble_eq_true rfl⟩ hP hS (ty_lt ab_6) (cell_5 ab_6) rfl rfl rfl hl.1 rfl (Nat.le_of_ble_eq_true rfl) ⟨Nat.le_of_ble_eq_true rfl, Nat.le_of_ble_eq_true rfl⟩ dX9_itemOf_33) hS (fun H locs hP hS => ?_)
        exact gx_iret X hr hlk hP hS hf (Nat.le_of_ble_eq_true rfl) (Nat.le_of_ble_eq_true rfl) dX9_itemOf_36
def f_X9_reads (σ : St) (x1 : Int32) : Nat × St × Int32 := (bnd (f_X9_demandItem σ x1) (fun q1 => (if q1.1 = 0 then (if (q1.2.1 7 x1.toNatClampNeg) = 0 then (bnd (f_X9_demandFound q1.2 true) (fun q6 => (if q6.1 = 0 then (0, q6.2, (f_X0_ofFloat (q6.2.2.1 14 x1.toNatClampNeg))) else (q6.1, q6.2, 0)))) else (bnd (f_X9_demandFound q1.2 false) (fun q3 => (if q3.1 = 0 then (0, q3.2, (f_X0_ofFloat (q3.2.2.1 14 x1.toNatClampNeg))) else (q3.1, q3.2, 0))))) else (q1.1, q1.2, 0))))
def ok_X9_reads (σ : St) (x1 : Int32) : Prop := (bndP (f_X9_demandItem σ x1) (fun q1 => q1.1 = 0 → (vp_in x1 20 ∧ (((q1.2.1 7 x1.toNatClampNeg) = 0 → (bndP (f_X9_demandFound q1.2 true) (fun q6 => q6.1 = 0 → (vp_in x1 20 ∧ ok_X0_ofFloat (q6.2.2.1 14 x1.toNatClampNeg))))) ∧ (¬ (q1.2.1 7 x1.toNatClampNeg) = 0 → (bndP (f_X9_demandFound q1.2 false) (fun q3 => q3.1 = 0 → (vp_in x1 20 ∧ ok_X0_ofFloat (q3.2.2.1 14 x1.toNatClampNeg)))))))))
abbrev rm_X9_reads : Room := { frames := 8, cells := 2, slots := 12, locals := 141 }
set_option maxHeartbeats 4000000 in
set_option maxRecDepth 100000 in
theorem c_X9_reads (l : Launch) (hfl : l.stackTraces = false) (G : GE) (hG : Gok G) (σ : St) (x1 : Int32) (hok : ok_X9_reads σ x1) : XtI l G yX9_reads cX9_reads 2 rm_X9_reads [.ref (G.2.1 0), .int x1] σ (f_X9_reads σ x1) 2 12 := by
  generalize hf : f_X9_reads σ x1 = fv
  rw [f_X9_reads] at hf
  rw [ok_X9_reads] at hok
  refine gx_start hG (by decide) (Nat.le_of_ble_eq_true rfl) ?_
  intro p e s m args below meth c X hr hlk hex ls hl H locs hP hS
  have X : Cx G p s m args c cX9_reads 2 RX9 := X
  obtain ⟨hx, hb, hml, hown, hts, hK, hbs, hXW, -⟩ := id X
  have hl : lv_has ls 2 [(0, .ref (G.2.1 0)), (1, .int x1)] := hl
  refine lv_aload_n hx hb dX9_reads_0 rfl (lv_at hl 0 rfl) ?_
  refine lv_iload_n hx hb dX9_reads_1 rfl (lv_at hl 1 rfl) ?_
  refine gx_cV (gx_runV (i := 0) (As := [.int x1]) (rest := []) X (c_X9_demandItem l hfl G hG σ x1) ca_X9_demandItem km_X9_94 rfl rfl ⟨Nat.le_of_ble_eq_true rfl, Nat.le_of_ble_eq_true rfl⟩ hP hS (ty_lt ab_0) (cell_9 ab_0) rfl rfl rfl hl.1 rfl (Nat.le_of_ble_eq_true rfl) ⟨Nat.le_of_ble_eq_true rfl, Nat.le_of_ble_eq_true rfl⟩ dX9_reads_2) hS (fun q1 hq1 hc H locs hP hS ce q9 hce hcv hcl => ?_) (fun q1 hq1 hc H locs hP hS => ?_)
  · have hf := bnd_go hq1 hf
    have hf := ite_f hc hf
    exact gx_out hex hlk hP hS hce hcv hcl ⟨hc, hf⟩ (Nat.le_of_ble_eq_true rfl) (Nat.le_of_ble_eq_true rfl)
  · have hf := bnd_go hq1 hf
    have hf := ite_t hc hf
    have hok := bnd_goP hq1 hok hc
    refine lv_aload_n hx hb dX9_reads_5 rfl (lv_at hl 0 rfl) ?_
    refine gg_9_1 X hP ab_0 kf_X9_20 dX9_reads_6 ?_
    refine gg_6_1 (j := 6) rfl X hP ab_2 kf_X9_101 dX9_reads_9 ?_
    refine gg_5_0 (j := 7) rfl X hP ab_6 kf_X9_111 dX9_reads_12 ?_
    refine lv_iload_n hx hb dX9_reads_15 rfl (lv_at hl 1 rfl) ?_
    have hs2 := hok.1
    have hok := hok.2
    refine g_iald X hP ab_7 (by rw [al_7]; exact hs2) dX9_reads_16 ?_
    refine lv_if_ne (tgt := 24) hx hb dX9_reads_17 (by decide) (fun hc => ?_) (fun hc => ?_)
    · have hf := ite_f hc hf
      have hok := hok.2 hc
      refine lv_iconst (v := 0) hx hb dX9_reads_24 (by decide) ?_
      refine gx_cV (gx_runS (As := [.int (bI false)]) (rest := []) X (c_X9_demandFound l hfl G hG q1.2 false) ca_X9_demandFound km_X9_115 rfl rfl ⟨Nat.le_of_ble_eq_true rfl, Nat.le_of_ble_eq_true rfl⟩ hP hS rfl hl.1 rfl (Nat.le_of_ble_eq_true rfl) ⟨Nat.le_of_ble_eq_true rfl, Nat.le_of_ble_eq_true rfl⟩ dX9_reads_25) hS (fun q3 hq3 hc H locs hP hS ce q9 hce hcv hcl => ?_) (fun q3 hq3 hc H locs hP hS => ?_)
      · have hf := bnd_go hq3 hf
        have hf := ite_f hc hf
        exact gx_out hex hlk hP hS hce hcv hcl ⟨hc, hf⟩ (Nat.le_of_ble_eq_true rfl) (Nat.le_of_ble_eq_true rfl)
      · have hf := bnd_go hq3 hf
        have hf := ite_t hc hf
        have hok := bnd_goP hq3 hok hc
        refine lv_aload_n hx hb dX9_reads_28 rfl (lv_at hl 0 rfl) ?_
        refine gg_9_1 X hP ab_0 kf_X9_20 dX9_reads_29 ?_
        refine gg_6_1 (j := 6) rfl X hP ab_2 kf_X9_101 dX9_reads_32 ?_
        refine gg_5_7 (j := 14) rfl X hP ab_6 kf_X9_119 dX9_reads_35 ?_
        refine lv_iload_n hx hb dX9_reads_38 rfl (lv_at hl 1 rfl) ?_
        have hs4 := hok.1
        have hok := hok.2
        refine g_fald X hP ab_14 (by rw [al_14]; exact hs4) dX9_reads_39 ?_
        have hs5 := hok
        refine g_cIp (g_runS (As := [.float (q3.2.2.1 14 x1.toNatClampNeg)]) (rest := []) X (c_X0_ofFloat l G hG q3.2 (q3.2.2.1 14 x1.toNatClampNeg) hs5) ca_X0_ofFloat km_X9_122 rfl rfl ⟨Nat.le_of_ble_eq_true rfl, Nat.le_of_ble_eq_true rfl⟩ hP hS rfl hl.1 rfl (Nat.le_of_ble_eq_true rfl) ⟨Nat.le_of_ble_eq_true rfl, Nat.le_of_ble_eq_true rfl⟩ dX9_reads_40) hS (fun H locs hP hS => ?_)
        exact gx_iret X hr hlk hP hS hf (Nat.le_of_ble_eq_true rfl) (Nat.le_of_ble_eq_true rfl) dX9_reads_43
    · have hf := ite_t hc hf
      have hok := hok.1 hc
      refine lv_iconst (v := 1) hx hb dX9_reads_20 (by decide) ?_
      refine lv_goto (tgt := 25) hx hb dX9_reads_21 (by decide) ?_
      refine gx_cV (gx_runS (As := [.int (bI true)]) (rest := []) X (c_X9_demandFound l hfl G hG q1.2 true) ca_X9_demandFound km_X9_115 rfl rfl ⟨Nat.le_of_ble_eq_true rfl, Nat.le_of_ble_eq_true rfl⟩ hP hS rfl hl.1 rfl (Nat.le_of_ble_eq_true rfl) ⟨Nat.le_of_ble_eq_true rfl, Nat.le_of_ble_eq_true rfl⟩ dX9_reads_25) hS (fun q6 hq6 hc H locs hP hS ce q9 hce hcv hcl => ?_) (fun q6 hq6 hc H locs hP hS => ?_)
      · have hf := bnd_go hq6 hf
        have hf := ite_f hc hf
        exact gx_out hex hlk hP hS hce hcv hcl ⟨hc, hf⟩ (Nat.le_of_ble_eq_true rfl) (Nat.le_of_ble_eq_true rfl)
      · have hf := bnd_go hq6 hf
        have hf := ite_t hc hf
        have hok := bnd_goP hq6 hok hc
        refine lv_aload_n hx hb dX9_reads_28 rfl (lv_at hl 0 rfl) ?_
        refine gg_9_1 X hP ab_0 kf_X9_20 dX9_reads_29 ?_
        refine gg_6_1 (j := 6) rfl X hP ab_2 kf_X9_101 dX9_reads_32 ?_
        refine gg_5_7 (j := 14) rfl X hP ab_6 kf_X9_119 dX9_reads_35 ?_
        refine lv_iload_n hx hb dX9_reads_38 rfl (lv_at hl 1 rfl) ?_
        have hs7 := hok.1
        have hok := hok.2
        refine g_fald X hP ab_14 (by rw [al_14]; exact hs7) dX9_reads_39 ?_
        have hs8 := hok
        refine g_cIp (g_runS (As := [.float (q6.2.2.1 14 x1.toNatClampNeg)]) (rest := []) X (c_X0_ofFloat l G hG q6.2 (q6.2.2.1 14 x1.toNatClampNeg) hs8) ca_X0_ofFloat km_X9_122 rfl rfl ⟨Nat.le_of_ble_eq_true rfl, Nat.le_of_ble_eq_true rfl⟩ hP hS rfl hl.1 rfl (Nat.le_of_ble_eq_true rfl) ⟨Nat.le_of_ble_eq_true rfl, Nat.le_of_ble_eq_true rfl⟩ dX9_reads_40) hS (fun H locs hP hS => ?_)
        exact gx_iret X hr hlk hP hS hf (Nat.le_of_ble_eq_true rfl) (Nat.le_of_ble_eq_true rfl) dX9_reads_43
def f_X9_string (σ : St) (x1 : Int32) : Nat × St × Int32 := (if (f_X9_inRange x1 (1 : Int32) (20 : Int32)) = true then (bnd (f_X9_demand σ (0 : Int32)) (fun q7 => (if q7.1 = 0 then (bnd (f_X4_remember q7.2 2) (fun q9 => (bnd (f_X2_addString q9 3 (FP.i2f x1)) (fun q11 => (0, q11, (f_X0_ofFloat (q11.2.1 3 4))))))) else (q7.1, q7.2, 0)))) else (bnd (f_X9_demand σ (-2 : Int32)) (fun q1 => (if q1.1 = 0 then (bnd (f_X4_remember q1.2 2) (fun q3 => (bnd (f_X2_addString q3 3 (FP.i2f x1)) (fun q5 => (0, q5, (f_X0_ofFloat (q5.2.1 3 4))))))) else (q1.1, q1.2, 0)))))
def ok_X9_string (σ : St) (x1 : Int32) : Prop := (((f_X9_inRange x1 (1 : Int32) (20 : Int32)) = true → (bndP (f_X9_demand σ (0 : Int32)) (fun q7 => q7.1 = 0 → (ok_X4_remember q7.2 2 ∧ (bndP (f_X4_remember q7.2 2) (fun q9 => (ok_X2_addString q9 3 (FP.i2f x1) ∧ (bndP (f_X2_addString q9 3 (FP.i2f x1)) (fun q11 => ok_X0_ofFloat (q11.2.1 3 4)))))))))) ∧ ((f_X9_inRange x1 (1 : Int32) (20 : Int32)) = false → (bndP (f_X9_demand σ (-2 : Int32)) (fun q1 => q1.1 = 0 → (ok_X4_remember q1.2 2 ∧ (bndP (f_X4_remember q1.2 2) (fun q3 => (ok_X2_addString q3 3 (FP.i2f x1) ∧ (bndP (f_X2_addString q3 3 (FP.i2f x1)) (fun q5 => ok_X0_ofFloat (q5.2.1 3 4)))))))))))
abbrev rm_X9_string : Room := { frames := 7, cells := 1, slots := 6, locals := 123 }
set_option maxHeartbeats 4000000 in
set_option maxRecDepth 100000 in
theorem c_X9_string (l : Launch) (hfl : l.stackTraces = false) (G : GE) (hG : Gok G) (σ : St) (x1 : Int32) (hok : ok_X9_string σ x1) : XtI l G yX9_string cX9_string 2 rm_X9_string [.ref (G.2.1 0), .int x1] σ (f_X9_string σ x1) 1 6 := by
  generalize hf : f_X9_string σ x1 = fv
  rw [f_X9_string] at hf
  rw [ok_X9_string] at hok
  refine gx_start hG (by decide) (Nat.le_of_ble_eq_true rfl) ?_
  intro p e s m args below meth c X hr hlk hex ls hl H locs hP hS
  have X : Cx G p s m args c cX9_string 2 RX9 := X
  obtain ⟨hx, hb, hml, hown, hts, hK, hbs, hXW, -⟩ := id X
  have hl : lv_has ls 2 [(0, .ref (G.2.1 0)), (1, .int x1)] := hl
  refine lv_iload_n hx hb dX9_string_0 rfl (lv_at hl 1 rfl) ?_
  refine lv_iconst (v := 1) hx hb dX9_string_1 (by decide) ?_
  refine lv_bipush (v := 20) hx hb dX9_string_2 (by decide) ?_
  refine g_cZp (g_runS (As := [.int x1, .int (1 : Int32), .int (20 : Int32)]) (rest := []) X (c_X9_inRange l G hG σ x1 (1 : Int32) (20 : Int32)) ca_X9_inRange km_X9_97 rfl rfl ⟨Nat.le_of_ble_eq_true rfl, Nat.le_of_ble_eq_true rfl⟩ hP hS rfl hl.1 rfl (Nat.le_of_ble_eq_true rfl) ⟨Nat.le_of_ble_eq_true rfl, Nat.le_of_ble_eq_true rfl⟩ dX9_string_4) hS (fun H locs hP hS => ?_)
  refine g_ifeqZ (tgt := 14) X dX9_string_7 (by decide) (fun hc => ?_) (fun hc => ?_)
  · have hf := ite_z hc hf
    have hok := hok.2 hc
    refine lv_bipush (v := -2) hx hb dX9_string_14 (by decide) ?_
    refine gx_cV (gx_runS (As := [.int (-2 : Int32)]) (rest := []) X (c_X9_demand l hfl G hG σ (-2 : Int32)) ca_X9_demand km_X9_54 rfl rfl ⟨Nat.le_of_ble_eq_true rfl, Nat.le_of_ble_eq_true rfl⟩ hP hS rfl hl.1 rfl (Nat.le_of_ble_eq_true rfl) ⟨Nat.le_of_ble_eq_true rfl, Nat.le_of_ble_eq_true rfl⟩ dX9_string_16) hS (fun q1 hq1 hc H locs hP hS ce q9 hce hcv hcl => ?_) (fun q1 hq1 hc H locs hP hS => ?_)
    · have hf := bnd_go hq1 hf
      have hf := ite_f hc hf
      exact gx_out hex hlk hP hS hce hcv hcl ⟨hc, hf⟩ (Nat.le_of_ble_eq_true rfl) (Nat.le_of_ble_eq_true rfl)
    · have hf := bnd_go hq1 hf
      have hf := ite_t hc hf
      have hok := bnd_goP hq1 hok hc
      refine lv_aload_n hx hb dX9_string_19 rfl (lv_at hl 0 rfl) ?_
      refine gg_9_4 X hP ab_0 kf_X9_35 dX9_string_20 ?_
      refine lv_aload_n hx hb dX9_string_23 rfl (lv_at hl 0 rfl) ?_
      refine gg_9_1 X hP ab_0 kf_X9_20 dX9_string_24 ?_
      have hs2 := hok.1
      have hok := hok.2
      refine g_cV (g_runV (i := 189) (As := [.ref (G.2.1 2)]) (rest := []) X (c_X4_remember l G hG q1.2 2 ab_2 hs2) ca_X4_remember km_X9_58 rfl rfl ⟨Nat.le_of_ble_eq_true rfl, Nat.le_of_ble_eq_true rfl⟩ hP hS (ty_lt ab_189) (cell_4 ab_189) rfl rfl rfl hl.1 rfl (Nat.le_of_ble_eq_true rfl) ⟨Nat.le_of_ble_eq_true rfl, Nat.le_of_ble_eq_true rfl⟩ dX9_string_27) hS (fun q3 hq3 H locs hP hS => ?_)
      have hf := bnd_go hq3 hf
      have hok := bnd_goP hq3 hok
      refine lv_aload_n hx hb dX9_string_30 rfl (lv_at hl 0 rfl) ?_
      refine gg_9_1 X hP ab_0 kf_X9_20 dX9_string_31 ?_
      refine gg_6_0 (j := 3) rfl X hP ab_2 kf_X9_62 dX9_string_34 ?_
      refine lv_iload_n hx hb dX9_string_37 rfl (lv_at hl 1 rfl) ?_
      refine lv_i2f hx hb dX9_string_38 ?_
      have hs4 := hok.1
      have hok := hok.2
      refine g_cV (g_runV (i := 3) (As := [.float (FP.i2f x1)]) (rest := []) X (c_X2_addString l G hG q3 3 ab_3 (FP.i2f x1) hs4) ca_X2_addString km_X9_134 rfl rfl ⟨Nat.le_of_ble_eq_true rfl, Nat.le_of_ble_eq_true rfl⟩ hP hS (ty_lt ab_3) (cell_2 ab_3) rfl rfl rfl hl.1 rfl (Nat.le_of_ble_eq_true rfl) ⟨Nat.le_of_ble_eq_true rfl, Nat.le_of_ble_eq_true rfl⟩ dX9_string_39) hS (fun q5 hq5 H locs hP hS => ?_)
      have hf := bnd_go hq5 hf
      have hok := bnd_goP hq5 hok
      refine lv_aload_n hx hb dX9_string_42 rfl (lv_at hl 0 rfl) ?_
      refine gg_9_1 X hP ab_0 kf_X9_20 dX9_string_43 ?_
      refine gg_6_0 (j := 3) rfl X hP ab_2 kf_X9_62 dX9_string_46 ?_
      refine gg_2_4 X hP ab_3 kf_X9_138 dX9_string_49 ?_
      have hs6 := hok
      refine g_cIp (g_runS (As := [.float (q5.2.1 3 4)]) (rest := []) X (c_X0_ofFloat l G hG q5 (q5.2.1 3 4) hs6) ca_X0_ofFloat km_X9_122 rfl rfl ⟨Nat.le_of_ble_eq_true rfl, Nat.le_of_ble_eq_true rfl⟩ hP hS rfl hl.1 rfl (Nat.le_of_ble_eq_true rfl) ⟨Nat.le_of_ble_eq_true rfl, Nat.le_of_ble_eq_true rfl⟩ dX9_string_52) hS (fun H locs hP hS => ?_)
      exact gx_iret X hr hlk hP hS hf (Nat.le_of_ble_eq_true rfl) (Nat.le_of_ble_eq_true rfl) dX9_string_55
  · have hf := ite_t hc hf
    have hok := hok.1 hc
    refine lv_iconst (v := 0) hx hb dX9_string_10 (by decide) ?_
    refine lv_goto (tgt := 16) hx hb dX9_string_11 (by decide) ?_
    refine gx_cV (gx_runS (As := [.int (0 : Int32)]) (rest := []) X (c_X9_demand l hfl G hG σ (0 : Int32)) ca_X9_demand km_X9_54 rfl rfl ⟨Nat.le_of_ble_eq_true rfl, Nat.le_of_ble_eq_true rfl⟩ hP hS rfl hl.1 rfl (Nat.le_of_ble_eq_true rfl) ⟨Nat.le_of_ble_eq_true rfl, Nat.le_of_ble_eq_true rfl⟩ dX9_string_16) hS (fun q7 hq7 hc H locs hP hS ce q9 hce hcv hcl => ?_) (fun q7 hq7 hc H locs hP hS => ?_)
    · have hf := bnd_go hq7 hf
      have hf := ite_f hc hf
      exact gx_out hex hlk hP hS hce hcv hcl ⟨hc, hf⟩ (Nat.le_of_ble_eq_true rfl) (Nat.le_of_ble_eq_true rfl)
    · have hf := bnd_go hq7 hf
      have hf := ite_t hc hf
      have hok := bnd_goP hq7 hok hc
      refine lv_aload_n hx hb dX9_string_19 rfl (lv_at hl 0 rfl) ?_
      refine gg_9_4 X hP ab_0 kf_X9_35 dX9_string_20 ?_
      refine lv_aload_n hx hb dX9_string_23 rfl (lv_at hl 0 rfl) ?_
      refine gg_9_1 X hP ab_0 kf_X9_20 dX9_string_24 ?_
      have hs8 := hok.1
      have hok := hok.2
      refine g_cV (g_runV (i := 189) (As := [.ref (G.2.1 2)]) (rest := []) X (c_X4_remember l G hG q7.2 2 ab_2 hs8) ca_X4_remember km_X9_58 rfl rfl ⟨Nat.le_of_ble_eq_true rfl, Nat.le_of_ble_eq_true rfl⟩ hP hS (ty_lt ab_189) (cell_4 ab_189) rfl rfl rfl hl.1 rfl (Nat.le_of_ble_eq_true rfl) ⟨Nat.le_of_ble_eq_true rfl, Nat.le_of_ble_eq_true rfl⟩ dX9_string_27) hS (fun q9 hq9 H locs hP hS => ?_)
      have hf := bnd_go hq9 hf
      have hok := bnd_goP hq9 hok
      refine lv_aload_n hx hb dX9_string_30 rfl (lv_at hl 0 rfl) ?_
      refine gg_9_1 X hP ab_0 kf_X9_20 dX9_string_31 ?_
      refine gg_6_0 (j := 3) rfl X hP ab_2 kf_X9_62 dX9_string_34 ?_
      refine lv_iload_n hx hb dX9_string_37 rfl (lv_at hl 1 rfl) ?_
      refine lv_i2f hx hb dX9_string_38 ?_
      have hs10 := hok.1
      have hok := hok.2
      refine g_cV (g_runV (i := 3) (As := [.float (FP.i2f x1)]) (rest := []) X (c_X2_addString l G hG q9 3 ab_3 (FP.i2f x1) hs10) ca_X2_addString km_X9_134 rfl rfl ⟨Nat.le_of_ble_eq_true rfl, Nat.le_of_ble_eq_true rfl⟩ hP hS (ty_lt ab_3) (cell_2 ab_3) rfl rfl rfl hl.1 rfl (Nat.le_of_ble_eq_true rfl) ⟨Nat.le_of_ble_eq_true rfl, Nat.le_of_ble_eq_true rfl⟩ dX9_string_39) hS (fun q11 hq11 H locs hP hS => ?_)
      have hf := bnd_go hq11 hf
      have hok := bnd_goP hq11 hok
      refine lv_aload_n hx hb dX9_string_42 rfl (lv_at hl 0 rfl) ?_
      refine gg_9_1 X hP ab_0 kf_X9_20 dX9_string_43 ?_
      refine gg_6_0 (j := 3) rfl X hP ab_2 kf_X9_62 dX9_string_46 ?_
      refine gg_2_4 X hP ab_3 kf_X9_138 dX9_string_49 ?_
      have hs12 := hok
      refine g_cIp (g_runS (As := [.float (q11.2.1 3 4)]) (rest := []) X (c_X0_ofFloat l G hG q11 (q11.2.1 3 4) hs12) ca_X0_ofFloat km_X9_122 rfl rfl ⟨Nat.le_of_ble_eq_true rfl, Nat.le_of_ble_eq_true rfl⟩ hP hS rfl hl.1 rfl (Nat.le_of_ble_eq_true rfl) ⟨Nat.le_of_ble_eq_true rfl, Nat.le_of_ble_eq_true rfl⟩ dX9_string_52) hS (fun H locs hP hS => ?_)
      exact gx_iret X hr hlk hP hS hf (Nat.le_of_ble_eq_true rfl) (Nat.le_of_ble_eq_true rfl) dX9_string_55
def fX9_lettersOf_L28 (σ : St) : Nat → Int32 → Int32 → UInt32 → UInt32 → Int32 → Nat × St × Int32
  | 0, _, _, _, _, _ => (0, σ, 0)
  | n28 + 1, x1, x2, x3, x4, x5 => (if (1000000 : Int32) ≤ x5 then (0, σ, x5) else (if (Op.cmpValue (FP.fcmp x4 x3) CmpOp.l) < 0 then (0, σ, x5) else (fX9_lettersOf_L28 σ n28 x1 x2 x3 (FP.fsub x4 x3) (x5 + (1 : Int32)))))
def okX9_lettersOf_L28 (σ : St) : Nat → Int32 → Int32 → UInt32 → UInt32 → Int32 → Prop
  | 0, _, _, _, _, _ => False
  | n28 + 1, x1, x2, x3, x4, x5 => (((1000000 : Int32) ≤ x5 → True) ∧ (¬ (1000000 : Int32) ≤ x5 → (((Op.cmpValue (FP.fcmp x4 x3) CmpOp.l) < 0 → True) ∧ (¬ (Op.cmpValue (FP.fcmp x4 x3) CmpOp.l) < 0 → (vf_n32 (FP.fsub x4 x3) ∧ (okX9_lettersOf_L28 σ n28 x1 x2 x3 (FP.fsub x4 x3) (x5 + (1 : Int32))))))))
def f_X9_lettersOf (σ : St) (x1 : Int32) (x2 : Int32) : Nat × St × Int32 := (bnd (f_X9_demandWriting σ x1 x2) (fun q1 => (if q1.1 = 0 then (fX9_lettersOf_L28 q1.2 2000 x1 x2 (f_X9_crayonNeeded x2) (q1.2.2.1 4 x1.toNatClampNeg) (0 : Int32)) else (q1.1, q1.2, 0))))
def ok_X9_lettersOf (σ : St) (x1 : Int32) (x2 : Int32) : Prop := (bndP (f_X9_demandWriting σ x1 x2) (fun q1 => q1.1 = 0 → (ok_X9_crayonNeeded x2 ∧ (vp_in x1 8 ∧ (okX9_lettersOf_L28 q1.2 2000 x1 x2 (f_X9_crayonNeeded x2) (q1.2.2.1 4 x1.toNatClampNeg) (0 : Int32))))))
abbrev rm_X9_lettersOf : Room := { frames := 8, cells := 2, slots := 12, locals := 142 }
set_option maxHeartbeats 4000000 in
set_option maxRecDepth 100000 in
theorem c_X9_lettersOf (l : Launch) (hfl : l.stackTraces = false) (G : GE) (hG : Gok G) (σ : St) (x1 : Int32) (x2 : Int32) (hok : ok_X9_lettersOf σ x1 x2) : XtI l G yX9_lettersOf cX9_lettersOf 6 rm_X9_lettersOf [.ref (G.2.1 0), .int x1, .int x2] σ (f_X9_lettersOf σ x1 x2) 2 12 := by
  generalize hf : f_X9_lettersOf σ x1 x2 = fv
  rw [f_X9_lettersOf] at hf
  rw [ok_X9_lettersOf] at hok
  refine gx_start hG (by decide) (Nat.le_of_ble_eq_true rfl) ?_
  intro p e s m args below meth c X hr hlk hex ls hl H locs hP hS
  have X : Cx G p s m args c cX9_lettersOf 6 RX9 := X
  obtain ⟨hx, hb, hml, hown, hts, hK, hbs, hXW, -⟩ := id X
  have hl : lv_has ls 6 [(0, .ref (G.2.1 0)), (1, .int x1), (2, .int x2)] := hl
  refine lv_aload_n hx hb dX9_lettersOf_0 rfl (lv_at hl 0 rfl) ?_
  refine lv_iload_n hx hb dX9_lettersOf_1 rfl (lv_at hl 1 rfl) ?_
  refine lv_iload_n hx hb dX9_lettersOf_2 rfl (lv_at hl 2 rfl) ?_
  refine gx_cV (gx_runV (i := 0) (As := [.int x1, .int x2]) (rest := []) X (c_X9_demandWriting l hfl G hG σ x1 x2) ca_X9_demandWriting km_X9_142 rfl rfl ⟨Nat.le_of_ble_eq_true rfl, Nat.le_of_ble_eq_true rfl⟩ hP hS (ty_lt ab_0) (cell_9 ab_0) rfl rfl rfl hl.1 rfl (Nat.le_of_ble_eq_true rfl) ⟨Nat.le_of_ble_eq_true rfl, Nat.le_of_ble_eq_true rfl⟩ dX9_lettersOf_3) hS (fun q1 hq1 hc H locs hP hS ce q9 hce hcv hcl => ?_) (fun q1 hq1 hc H locs hP hS => ?_)
  · have hf := bnd_go hq1 hf
    have hf := ite_f hc hf
    exact gx_out hex hlk hP hS hce hcv hcl ⟨hc, hf⟩ (Nat.le_of_ble_eq_true rfl) (Nat.le_of_ble_eq_true rfl)
  · have hf := bnd_go hq1 hf
    have hf := ite_t hc hf
    have hok := bnd_goP hq1 hok hc
    refine lv_iload_n hx hb dX9_lettersOf_6 rfl (lv_at hl 2 rfl) ?_
    have hs2 := hok.1
    have hok := hok.2
    refine g_cFp (g_runS (As := [.int x2]) (rest := []) X (c_X9_crayonNeeded l G hG q1.2 x2 hs2) ca_X9_crayonNeeded km_X9_146 rfl rfl ⟨Nat.le_of_ble_eq_true rfl, Nat.le_of_ble_eq_true rfl⟩ hP hS rfl hl.1 rfl (Nat.le_of_ble_eq_true rfl) ⟨Nat.le_of_ble_eq_true rfl, Nat.le_of_ble_eq_true rfl⟩ dX9_lettersOf_7) hS (fun H locs hP hS => ?_)
    refine lv_fstore_n (lv' := [(3, .float (f_X9_crayonNeeded x2)), (0, .ref (G.2.1 0)), (1, .int x1), (2, .int x2)]) hx hb dX9_lettersOf_10 rfl hl (by decide) rfl (fun ls hl => ?_)
    refine lv_aload_n hx hb dX9_lettersOf_11 rfl (lv_at hl 1 rfl) ?_
    refine gg_9_1 X hP ab_0 kf_X9_20 dX9_lettersOf_12 ?_
    refine gg_6_0 (j := 3) rfl X hP ab_2 kf_X9_62 dX9_lettersOf_15 ?_
    refine gg_2_0 (j := 4) rfl X hP ab_3 kf_X9_77 dX9_lettersOf_18 ?_
    refine lv_iload_n hx hb dX9_lettersOf_21 rfl (lv_at hl 2 rfl) ?_
    have hs3 := hok.1
    have hok := hok.2
    refine g_fald X hP ab_4 (by rw [al_4]; exact hs3) dX9_lettersOf_22 ?_
    refine lv_fstore (lv' := [(4, .float (q1.2.2.1 4 x1.toNatClampNeg)), (3, .float (f_X9_crayonNeeded x2)), (0, .ref (G.2.1 0)), (1, .int x1), (2, .int x2)]) hx hb dX9_lettersOf_23 hl (by decide) rfl (fun ls hl => ?_)
    refine lv_iconst (v := 0) hx hb dX9_lettersOf_25 (by decide) ?_
    refine lv_istore (lv' := [(5, .int (0 : Int32)), (4, .float (q1.2.2.1 4 x1.toNatClampNeg)), (3, .float (f_X9_crayonNeeded x2)), (0, .ref (G.2.1 0)), (1, .int x1), (2, .int x2)]) hx hb dX9_lettersOf_26 hl (by decide) rfl (fun ls hl => ?_)
    have K28 : ∀ (n28 : Nat) (σ : St) (x1 : Int32) (x2 : Int32) (x3 : UInt32) (x4 : UInt32) (x5 : Int32), okX9_lettersOf_L28 σ n28 x1 x2 x3 x4 x5 → fX9_lettersOf_L28 σ n28 x1 x2 x3 x4 x5 = fv → ∀ (H : Heap) (locs : List Loc), va_P G.1 vcl (wl G σ) H → va_S (GA G) s.heap H locs → ∀ (ls : Array Slot), lv_has ls 6 [(0, .ref (G.2.1 0)), (1, .int x1), (2, .int x2), (3, .float x3), (4, .float x4), (5, .int x5)] → W p l e rm_X9_lettersOf s m args below meth c H locs 2 12 (vx_MQ below (va_Qi (fun r u => (0, u, r) = fv) (PB G) (GA G)) (vx_X (pxI fv) (BX G) (GA G)) args s 2 12 (GA G)) (F0 m 28 ls []) := by
      intro n28
      induction n28 with
      | zero =>
        intro σ x1 x2 x3 x4 x5 hok
        exact hok.elim
      | succ n28 ih28 =>
        intro σ x1 x2 x3 x4 x5 hok hf H locs hP hS ls hl
        rw [okX9_lettersOf_L28] at hok
        rw [fX9_lettersOf_L28] at hf
        refine lv_iload hx hb dX9_lettersOf_28 (lv_at hl 5 rfl) ?_
        refine lv_ldc hx hb hown (hts _ kc_X9_150) dX9_lettersOf_30 ?_
        refine lv_icmp_ge (tgt := 54) hx hb dX9_lettersOf_32 (by decide) (fun hc => ?_) (fun hc => ?_)
        · have hf := ite_t hc hf
          refine lv_iload hx hb dX9_lettersOf_54 (lv_at hl 5 rfl) ?_
          exact gx_iret X hr hlk hP hS hf (Nat.le_of_ble_eq_true rfl) (Nat.le_of_ble_eq_true rfl) dX9_lettersOf_56
        · have hf := ite_f hc hf
          have hok := hok.2 hc
          refine lv_fload hx hb dX9_lettersOf_35 (lv_at hl 4 rfl) ?_
          refine lv_fload_n hx hb dX9_lettersOf_37 rfl (lv_at hl 3 rfl) ?_
          refine lv_fcmp hx hb dX9_lettersOf_38 ?_
          refine lv_if_lt (tgt := 54) hx hb dX9_lettersOf_39 (by decide) (fun hc => ?_) (fun hc => ?_)
          · have hf := ite_t hc hf
            refine lv_iload hx hb dX9_lettersOf_54 (lv_at hl 5 rfl) ?_
            exact gx_iret X hr hlk hP hS hf (Nat.le_of_ble_eq_true rfl) (Nat.le_of_ble_eq_true rfl) dX9_lettersOf_56
          · have hf := ite_f hc hf
            have hok := hok.2 hc
            refine lv_fload hx hb dX9_lettersOf_42 (lv_at hl 4 rfl) ?_
            refine lv_fload_n hx hb dX9_lettersOf_44 rfl (lv_at hl 3 rfl) ?_
            have hs4 := hok.1
            have hok := hok.2
            refine lv_fsub hx hb dX9_lettersOf_45 hs4 ?_
            refine lv_fstore (lv' := [(4, .float (FP.fsub x4 x3)), (0, .ref (G.2.1 0)), (1, .int x1), (2, .int x2), (3, .float x3), (5, .int x5)]) hx hb dX9_lettersOf_46 hl (by decide) rfl (fun ls hl => ?_)
            refine lv_iinc (v := (x5 + (1 : Int32))) (lv' := [(5, .int (x5 + (1 : Int32))), (4, .float (FP.fsub x4 x3)), (0, .ref (G.2.1 0)), (1, .int x1), (2, .int x2), (3, .float x3)]) hx hb dX9_lettersOf_48 hl (k := 5) rfl rfl (by decide) rfl (fun ls hl => ?_)
            refine lv_goto (tgt := 28) hx hb dX9_lettersOf_51 (by decide) ?_
            exact ih28 σ x1 x2 x3 (FP.fsub x4 x3) (x5 + (1 : Int32)) hok hf _ _ hP hS ls (lv_sub hl [2, 3, 4, 5, 1, 0] rfl)
    exact K28 2000 q1.2 x1 x2 (f_X9_crayonNeeded x2) (q1.2.2.1 4 x1.toNatClampNeg) (0 : Int32) hok hf _ _ hP hS ls (lv_sub hl [3, 4, 5, 2, 1, 0] rfl)
def fX9_lettersAgain_L32 : Nat → St → Int32 → Int32 → UInt32 → Int32 → Nat × St × Int32
  | 0, σ, _, _, _, _ => (0, σ, 0)
  | n32 + 1, σ, x1, x2, x3, x4 => (if (1000 : Int32) ≤ (x4 + (1 : Int32)) then (0, σ, x4) else (if (Op.cmpValue (FP.fcmp (σ.2.1 195 x4.toNatClampNeg) x3) CmpOp.l) < 0 then (0, σ, x4) else (bnd (setF σ 195 (x4 + (1 : Int32)).toNatClampNeg (FP.fsub (σ.2.1 195 x4.toNatClampNeg) x3)) (fun q9 => (fX9_lettersAgain_L32 n32 q9 x1 x2 x3 (x4 + (1 : Int32)))))))
def okX9_lettersAgain_L32 : Nat → St → Int32 → Int32 → UInt32 → Int32 → Prop
  | 0, _, _, _, _, _ => False
  | n32 + 1, σ, x1, x2, x3, x4 => (((1000 : Int32) ≤ (x4 + (1 : Int32)) → True) ∧ (¬ (1000 : Int32) ≤ (x4 + (1 : Int32)) → (vp_in x4 1000 ∧ (((Op.cmpValue (FP.fcmp (σ.2.1 195 x4.toNatClampNeg) x3) CmpOp.l) < 0 → True) ∧ (¬ (Op.cmpValue (FP.fcmp (σ.2.1 195 x4.toNatClampNeg) x3) CmpOp.l) < 0 → (vp_in x4 1000 ∧ (vf_n32 (FP.fsub (σ.2.1 195 x4.toNatClampNeg) x3) ∧ (vp_in (x4 + (1 : Int32)) 1000 ∧ (bndP (setF σ 195 (x4 + (1 : Int32)).toNatClampNeg (FP.fsub (σ.2.1 195 x4.toNatClampNeg) x3)) (fun q9 => (okX9_lettersAgain_L32 n32 q9 x1 x2 x3 (x4 + (1 : Int32)))))))))))))
def f_X9_lettersAgain (σ : St) (x1 : Int32) (x2 : Int32) : Nat × St × Int32 := (bnd (f_X9_demandWriting σ x1 x2) (fun q1 => (if q1.1 = 0 then (bnd (setF q1.2 195 (0 : Int32).toNatClampNeg (q1.2.2.1 4 x1.toNatClampNeg)) (fun q4 => (fX9_lettersAgain_L32 2000 q4 x1 x2 (f_X9_crayonNeeded x2) (0 : Int32)))) else (q1.1, q1.2, 0))))
def ok_X9_lettersAgain (σ : St) (x1 : Int32) (x2 : Int32) : Prop := (bndP (f_X9_demandWriting σ x1 x2) (fun q1 => q1.1 = 0 → (ok_X9_crayonNeeded x2 ∧ (vp_in x1 8 ∧ (bndP (setF q1.2 195 (0 : Int32).toNatClampNeg (q1.2.2.1 4 x1.toNatClampNeg)) (fun q4 => (okX9_lettersAgain_L32 2000 q4 x1 x2 (f_X9_crayonNeeded x2) (0 : Int32))))))))
abbrev rm_X9_lettersAgain : Room := { frames := 8, cells := 2, slots := 12, locals := 142 }
set_option maxHeartbeats 4000000 in
set_option maxRecDepth 100000 in
theorem c_X9_lettersAgain (l : Launch) (hfl : l.stackTraces = false) (G : GE) (hG : Gok G) (σ : St) (x1 : Int32) (x2 : Int32) (hok : ok_X9_lettersAgain σ x1 x2) : XtI l G yX9_lettersAgain cX9_lettersAgain 5 rm_X9_lettersAgain [.ref (G.2.1 0), .int x1, .int x2] σ (f_X9_lettersAgain σ x1 x2) 2 12 := by
  generalize hf : f_X9_lettersAgain σ x1 x2 = fv
  rw [f_X9_lettersAgain] at hf
  rw [ok_X9_lettersAgain] at hok
  refine gx_start hG (by decide) (Nat.le_of_ble_eq_true rfl) ?_
  intro p e s m args below meth c X hr hlk hex ls hl H locs hP hS
  have X : Cx G p s m args c cX9_lettersAgain 5 RX9 := X
  obtain ⟨hx, hb, hml, hown, hts, hK, hbs, hXW, -⟩ := id X
  have hl : lv_has ls 5 [(0, .ref (G.2.1 0)), (1, .int x1), (2, .int x2)] := hl
  refine lv_aload_n hx hb dX9_lettersAgain_0 rfl (lv_at hl 0 rfl) ?_
  refine lv_iload_n hx hb dX9_lettersAgain_1 rfl (lv_at hl 1 rfl) ?_
  refine lv_iload_n hx hb dX9_lettersAgain_2 rfl (lv_at hl 2 rfl) ?_
  refine gx_cV (gx_runV (i := 0) (As := [.int x1, .int x2]) (rest := []) X (c_X9_demandWriting l hfl G hG σ x1 x2) ca_X9_demandWriting km_X9_142 rfl rfl ⟨Nat.le_of_ble_eq_true rfl, Nat.le_of_ble_eq_true rfl⟩ hP hS (ty_lt ab_0) (cell_9 ab_0) rfl rfl rfl hl.1 rfl (Nat.le_of_ble_eq_true rfl) ⟨Nat.le_of_ble_eq_true rfl, Nat.le_of_ble_eq_true rfl⟩ dX9_lettersAgain_3) hS (fun q1 hq1 hc H locs hP hS ce q9 hce hcv hcl => ?_) (fun q1 hq1 hc H locs hP hS => ?_)
  · have hf := bnd_go hq1 hf
    have hf := ite_f hc hf
    exact gx_out hex hlk hP hS hce hcv hcl ⟨hc, hf⟩ (Nat.le_of_ble_eq_true rfl) (Nat.le_of_ble_eq_true rfl)
  · have hf := bnd_go hq1 hf
    have hf := ite_t hc hf
    have hok := bnd_goP hq1 hok hc
    refine lv_iload_n hx hb dX9_lettersAgain_6 rfl (lv_at hl 2 rfl) ?_
    have hs2 := hok.1
    have hok := hok.2
    refine g_cFp (g_runS (As := [.int x2]) (rest := []) X (c_X9_crayonNeeded l G hG q1.2 x2 hs2) ca_X9_crayonNeeded km_X9_146 rfl rfl ⟨Nat.le_of_ble_eq_true rfl, Nat.le_of_ble_eq_true rfl⟩ hP hS rfl hl.1 rfl (Nat.le_of_ble_eq_true rfl) ⟨Nat.le_of_ble_eq_true rfl, Nat.le_of_ble_eq_true rfl⟩ dX9_lettersAgain_7) hS (fun H locs hP hS => ?_)
    refine lv_fstore_n (lv' := [(3, .float (f_X9_crayonNeeded x2)), (0, .ref (G.2.1 0)), (1, .int x1), (2, .int x2)]) hx hb dX9_lettersAgain_10 rfl hl (by decide) rfl (fun ls hl => ?_)
    refine lv_aload_n hx hb dX9_lettersAgain_11 rfl (lv_at hl 1 rfl) ?_
    refine gg_9_6 X hP ab_0 kf_X9_46 dX9_lettersAgain_12 ?_
    refine lv_iconst (v := 0) hx hb dX9_lettersAgain_15 (by decide) ?_
    refine lv_aload_n hx hb dX9_lettersAgain_16 rfl (lv_at hl 1 rfl) ?_
    refine gg_9_1 X hP ab_0 kf_X9_20 dX9_lettersAgain_17 ?_
    refine gg_6_0 (j := 3) rfl X hP ab_2 kf_X9_62 dX9_lettersAgain_20 ?_
    refine gg_2_0 (j := 4) rfl X hP ab_3 kf_X9_77 dX9_lettersAgain_23 ?_
    refine lv_iload_n hx hb dX9_lettersAgain_26 rfl (lv_at hl 2 rfl) ?_
    have hs3 := hok.1
    have hok := hok.2
    refine g_fald X hP ab_4 (by rw [al_4]; exact hs3) dX9_lettersAgain_27 ?_
    refine g_fast X hP hS ab_195 (by rw [al_195]; unfold vp_in; decide) dX9_lettersAgain_28 (fun H locs hP hS => ?_)
    refine g_name hP (fun q4 hq4 hP => ?_)
    have hf := bnd_go hq4 hf
    have hok := bnd_goP hq4 hok
    refine lv_iconst (v := 0) hx hb dX9_lettersAgain_29 (by decide) ?_
    refine lv_istore (lv' := [(4, .int (0 : Int32)), (3, .float (f_X9_crayonNeeded x2)), (0, .ref (G.2.1 0)), (1, .int x1), (2, .int x2)]) hx hb dX9_lettersAgain_30 hl (by decide) rfl (fun ls hl => ?_)
    have K32 : ∀ (n32 : Nat) (σ : St) (x1 : Int32) (x2 : Int32) (x3 : UInt32) (x4 : Int32), okX9_lettersAgain_L32 n32 σ x1 x2 x3 x4 → fX9_lettersAgain_L32 n32 σ x1 x2 x3 x4 = fv → ∀ (H : Heap) (locs : List Loc), va_P G.1 vcl (wl G σ) H → va_S (GA G) s.heap H locs → ∀ (ls : Array Slot), lv_has ls 5 [(0, .ref (G.2.1 0)), (1, .int x1), (2, .int x2), (3, .float x3), (4, .int x4)] → W p l e rm_X9_lettersAgain s m args below meth c H locs 2 12 (vx_MQ below (va_Qi (fun r u => (0, u, r) = fv) (PB G) (GA G)) (vx_X (pxI fv) (BX G) (GA G)) args s 2 12 (GA G)) (F0 m 32 ls []) := by
      intro n32
      induction n32 with
      | zero =>
        intro σ x1 x2 x3 x4 hok
        exact hok.elim
      | succ n32 ih32 =>
        intro σ x1 x2 x3 x4 hok hf H locs hP hS ls hl
        rw [okX9_lettersAgain_L32] at hok
        rw [fX9_lettersAgain_L32] at hf
        refine lv_iload hx hb dX9_lettersAgain_32 (lv_at hl 4 rfl) ?_
        refine lv_iconst (v := 1) hx hb dX9_lettersAgain_34 (by decide) ?_
        refine lv_iadd hx hb dX9_lettersAgain_35 ?_
        refine lv_aload_n hx hb dX9_lettersAgain_36 rfl (lv_at hl 0 rfl) ?_
        refine gg_9_6 X hP ab_0 kf_X9_46 dX9_lettersAgain_37 ?_
        refine g_alen (t := 0) (t0 := 1) (v := 1000) X hP (ty_lt ab_195) (cell_21 ab_195) rfl (by show Int32.ofNat (lnOf 195) = _; rw [al_195]; rfl) dX9_lettersAgain_40 ?_
        refine lv_icmp_ge (tgt := 80) hx hb dX9_lettersAgain_41 (by decide) (fun hc => ?_) (fun hc => ?_)
        · have hf := ite_t hc hf
          refine lv_iload hx hb dX9_lettersAgain_80 (lv_at hl 4 rfl) ?_
          exact gx_iret X hr hlk hP hS hf (Nat.le_of_ble_eq_true rfl) (Nat.le_of_ble_eq_true rfl) dX9_lettersAgain_82
        · have hf := ite_f hc hf
          have hok := hok.2 hc
          refine lv_aload_n hx hb dX9_lettersAgain_44 rfl (lv_at hl 0 rfl) ?_
          refine gg_9_6 X hP ab_0 kf_X9_46 dX9_lettersAgain_45 ?_
          refine lv_iload hx hb dX9_lettersAgain_48 (lv_at hl 4 rfl) ?_
          have hs5 := hok.1
          have hok := hok.2
          refine g_fald X hP ab_195 (by rw [al_195]; exact hs5) dX9_lettersAgain_50 ?_
          refine lv_fload_n hx hb dX9_lettersAgain_51 rfl (lv_at hl 3 rfl) ?_
          refine lv_fcmp hx hb dX9_lettersAgain_52 ?_
          refine lv_if_lt (tgt := 80) hx hb dX9_lettersAgain_53 (by decide) (fun hc => ?_) (fun hc => ?_)
          · have hf := ite_t hc hf
            refine lv_iload hx hb dX9_lettersAgain_80 (lv_at hl 4 rfl) ?_
            exact gx_iret X hr hlk hP hS hf (Nat.le_of_ble_eq_true rfl) (Nat.le_of_ble_eq_true rfl) dX9_lettersAgain_82
          · have hf := ite_f hc hf
            have hok := hok.2 hc
            refine lv_aload_n hx hb dX9_lettersAgain_56 rfl (lv_at hl 0 rfl) ?_
            refine gg_9_6 X hP ab_0 kf_X9_46 dX9_lettersAgain_57 ?_
            refine lv_iload hx hb dX9_lettersAgain_60 (lv_at hl 4 rfl) ?_
            refine lv_iconst (v := 1) hx hb dX9_lettersAgain_62 (by decide) ?_
            refine lv_iadd hx hb dX9_lettersAgain_63 ?_
            refine lv_aload_n hx hb dX9_lettersAgain_64 rfl (lv_at hl 0 rfl) ?_
            refine gg_9_6 X hP ab_0 kf_X9_46 dX9_lettersAgain_65 ?_
            refine lv_iload hx hb dX9_lettersAgain_68 (lv_at hl 4 rfl) ?_
            have hs6 := hok.1
            have hok := hok.2
            refine g_fald X hP ab_195 (by rw [al_195]; exact hs6) dX9_lettersAgain_70 ?_
            refine lv_fload_n hx hb dX9_lettersAgain_71 rfl (lv_at hl 3 rfl) ?_
            have hs7 := hok.1
            have hok := hok.2
            refine lv_fsub hx hb dX9_lettersAgain_72 hs7 ?_
            have hs8 := hok.1
            have hok := hok.2
            refine g_fast X hP hS ab_195 (by rw [al_195]; exact hs8) dX9_lettersAgain_73 (fun H locs hP hS => ?_)
            refine g_name hP (fun q9 hq9 hP => ?_)
            have hf := bnd_go hq9 hf
            have hok := bnd_goP hq9 hok
            refine lv_iinc (v := (x4 + (1 : Int32))) (lv' := [(4, .int (x4 + (1 : Int32))), (0, .ref (G.2.1 0)), (1, .int x1), (2, .int x2), (3, .float x3)]) hx hb dX9_lettersAgain_74 hl (k := 4) rfl rfl (by decide) rfl (fun ls hl => ?_)
            refine lv_goto (tgt := 32) hx hb dX9_lettersAgain_77 (by decide) ?_
            exact ih32 q9 x1 x2 x3 (x4 + (1 : Int32)) hok hf _ _ hP hS ls (lv_sub hl [1, 2, 3, 4, 0] rfl)
    exact K32 2000 q4 x1 x2 (f_X9_crayonNeeded x2) (0 : Int32) hok hf _ _ hP hS ls (lv_sub hl [2, 3, 4, 1, 0] rfl)
def f_X9_ranked (σ : St) (x1 : Int32) : Nat × St × Int32 := (if (f_X5_letterAt σ 6 x1) = (-1 : Int32) then (bnd (f_X9_demandFound σ false) (fun q2 => (if q2.1 = 0 then (0, q2.2, (f_X5_letterAt σ 6 x1)) else (q2.1, q2.2, 0)))) else (bnd (f_X9_demandFound σ true) (fun q3 => (if q3.1 = 0 then (0, q3.2, (f_X5_letterAt σ 6 x1)) else (q3.1, q3.2, 0)))))
def ok_X9_ranked (σ : St) (x1 : Int32) : Prop := ok_X5_letterAt σ 6 x1
abbrev rm_X9_ranked : Room := { frames := 7, cells := 1, slots := 6, locals := 120 }
set_option maxHeartbeats 4000000 in
set_option maxRecDepth 100000 in
theorem c_X9_ranked (l : Launch) (hfl : l.stackTraces = false) (G : GE) (hG : Gok G) (σ : St) (x1 : Int32) (hok : ok_X9_ranked σ x1) : XtI l G yX9_ranked cX9_ranked 3 rm_X9_ranked [.ref (G.2.1 0), .int x1] σ (f_X9_ranked σ x1) 1 6 := by
  generalize hf : f_X9_ranked σ x1 = fv
  rw [f_X9_ranked] at hf
  rw [ok_X9_ranked] at hok
  refine gx_start hG (by decide) (Nat.le_of_ble_eq_true rfl) ?_
  intro p e s m args below meth c X hr hlk hex ls hl H locs hP hS
  have X : Cx G p s m args c cX9_ranked 3 RX9 := X
  obtain ⟨hx, hb, hml, hown, hts, hK, hbs, hXW, -⟩ := id X
  have hl : lv_has ls 3 [(0, .ref (G.2.1 0)), (1, .int x1)] := hl
  refine lv_aload_n hx hb dX9_ranked_0 rfl (lv_at hl 0 rfl) ?_
  refine gg_9_1 X hP ab_0 kf_X9_20 dX9_ranked_1 ?_
  refine gg_6_1 (j := 6) rfl X hP ab_2 kf_X9_101 dX9_ranked_4 ?_
  refine lv_iload_n hx hb dX9_ranked_7 rfl (lv_at hl 1 rfl) ?_
  have hs1 := hok
  refine g_cIp (g_runV (i := 6) (As := [.int x1]) (rest := []) X (c_X5_letterAt l G hG σ 6 ab_6 x1 hs1) ca_X5_letterAt km_X9_151 rfl rfl ⟨Nat.le_of_ble_eq_true rfl, Nat.le_of_ble_eq_true rfl⟩ hP hS (ty_lt ab_6) (cell_5 ab_6) rfl rfl rfl hl.1 rfl (Nat.le_of_ble_eq_true rfl) ⟨Nat.le_of_ble_eq_true rfl, Nat.le_of_ble_eq_true rfl⟩ dX9_ranked_8) hS (fun H locs hP hS => ?_)
  refine lv_istore_n (lv' := [(2, .int (f_X5_letterAt σ 6 x1)), (0, .ref (G.2.1 0)), (1, .int x1)]) hx hb dX9_ranked_11 rfl hl (by decide) rfl (fun ls hl => ?_)
  refine lv_iload_n hx hb dX9_ranked_12 rfl (lv_at hl 0 rfl) ?_
  refine lv_iconst (v := -1) hx hb dX9_ranked_13 (by decide) ?_
  refine lv_icmp_eq (tgt := 21) hx hb dX9_ranked_14 (by decide) (fun hc => ?_) (fun hc => ?_)
  · have hf := ite_t hc hf
    refine lv_iconst (v := 0) hx hb dX9_ranked_21 (by decide) ?_
    refine gx_cV (gx_runS (As := [.int (bI false)]) (rest := []) X (c_X9_demandFound l hfl G hG σ false) ca_X9_demandFound km_X9_115 rfl rfl ⟨Nat.le_of_ble_eq_true rfl, Nat.le_of_ble_eq_true rfl⟩ hP hS rfl hl.1 rfl (Nat.le_of_ble_eq_true rfl) ⟨Nat.le_of_ble_eq_true rfl, Nat.le_of_ble_eq_true rfl⟩ dX9_ranked_22) hS (fun q2 hq2 hc H locs hP hS ce q9 hce hcv hcl => ?_) (fun q2 hq2 hc H locs hP hS => ?_)
    · have hf := bnd_go hq2 hf
      have hf := ite_f hc hf
      exact gx_out hex hlk hP hS hce hcv hcl ⟨hc, hf⟩ (Nat.le_of_ble_eq_true rfl) (Nat.le_of_ble_eq_true rfl)
    · have hf := bnd_go hq2 hf
      have hf := ite_t hc hf
      refine lv_iload_n hx hb dX9_ranked_25 rfl (lv_at hl 0 rfl) ?_
      exact gx_iret X hr hlk hP hS hf (Nat.le_of_ble_eq_true rfl) (Nat.le_of_ble_eq_true rfl) dX9_ranked_26
  · have hf := ite_f hc hf
    refine lv_iconst (v := 1) hx hb dX9_ranked_17 (by decide) ?_
    refine lv_goto (tgt := 22) hx hb dX9_ranked_18 (by decide) ?_
    refine gx_cV (gx_runS (As := [.int (bI true)]) (rest := []) X (c_X9_demandFound l hfl G hG σ true) ca_X9_demandFound km_X9_115 rfl rfl ⟨Nat.le_of_ble_eq_true rfl, Nat.le_of_ble_eq_true rfl⟩ hP hS rfl hl.1 rfl (Nat.le_of_ble_eq_true rfl) ⟨Nat.le_of_ble_eq_true rfl, Nat.le_of_ble_eq_true rfl⟩ dX9_ranked_22) hS (fun q3 hq3 hc H locs hP hS ce q9 hce hcv hcl => ?_) (fun q3 hq3 hc H locs hP hS => ?_)
    · have hf := bnd_go hq3 hf
      have hf := ite_f hc hf
      exact gx_out hex hlk hP hS hce hcv hcl ⟨hc, hf⟩ (Nat.le_of_ble_eq_true rfl) (Nat.le_of_ble_eq_true rfl)
    · have hf := bnd_go hq3 hf
      have hf := ite_t hc hf
      refine lv_iload_n hx hb dX9_ranked_25 rfl (lv_at hl 0 rfl) ?_
      exact gx_iret X hr hlk hP hS hf (Nat.le_of_ble_eq_true rfl) (Nat.le_of_ble_eq_true rfl) dX9_ranked_26
def f_X9_potato (σ : St) : Nat × St × Int32 := (bnd (f_X1_mayCut σ) (fun q1 => (bnd (f_X9_demand q1.1 q1.2) (fun q2 => (if q2.1 = 0 then (bnd (f_X4_remember q2.2 2) (fun q4 => (bnd (f_X2_addPotato q4 3) (fun q6 => (0, q6.1, q6.2))))) else (q2.1, q2.2, 0))))))
def ok_X9_potato (σ : St) : Prop := (bndP (f_X1_mayCut σ) (fun q1 => (bndP (f_X9_demand q1.1 q1.2) (fun q2 => q2.1 = 0 → (ok_X4_remember q2.2 2 ∧ (bndP (f_X4_remember q2.2 2) (fun q4 => ok_X2_addPotato q4 3)))))))
abbrev rm_X9_potato : Room := { frames := 7, cells := 1, slots := 6, locals := 123 }
set_option maxHeartbeats 4000000 in
set_option maxRecDepth 100000 in
theorem c_X9_potato (l : Launch) (hfl : l.stackTraces = false) (G : GE) (hG : Gok G) (σ : St) (hok : ok_X9_potato σ) : XtI l G yX9_potato cX9_potato 1 rm_X9_potato [.ref (G.2.1 0)] σ (f_X9_potato σ) 1 6 := by
  generalize hf : f_X9_potato σ = fv
  rw [f_X9_potato] at hf
  rw [ok_X9_potato] at hok
  refine gx_start hG (by decide) (Nat.le_of_ble_eq_true rfl) ?_
  intro p e s m args below meth c X hr hlk hex ls hl H locs hP hS
  have X : Cx G p s m args c cX9_potato 1 RX9 := X
  obtain ⟨hx, hb, hml, hown, hts, hK, hbs, hXW, -⟩ := id X
  have hl : lv_has ls 1 [(0, .ref (G.2.1 0))] := hl
  refine lv_aload_n hx hb dX9_potato_0 rfl (lv_at hl 0 rfl) ?_
  refine gg_9_0 X hP ab_0 kf_X9_10 dX9_potato_1 ?_
  refine g_cI (g_runV (i := 1) (As := []) (rest := []) X (c_X1_mayCut l G hG σ) ca_X1_mayCut km_X9_154 rfl rfl ⟨Nat.le_of_ble_eq_true rfl, Nat.le_of_ble_eq_true rfl⟩ hP hS (ty_lt ab_1) (cell_1 ab_1) rfl rfl rfl hl.1 rfl (Nat.le_of_ble_eq_true rfl) ⟨Nat.le_of_ble_eq_true rfl, Nat.le_of_ble_eq_true rfl⟩ dX9_potato_4) hS (fun q1 hq1 H locs hP hS => ?_)
  have hf := bnd_go hq1 hf
  have hok := bnd_goP hq1 hok
  refine gx_cV (gx_runS (As := [.int q1.2]) (rest := []) X (c_X9_demand l hfl G hG q1.1 q1.2) ca_X9_demand km_X9_54 rfl rfl ⟨Nat.le_of_ble_eq_true rfl, Nat.le_of_ble_eq_true rfl⟩ hP hS rfl hl.1 rfl (Nat.le_of_ble_eq_true rfl) ⟨Nat.le_of_ble_eq_true rfl, Nat.le_of_ble_eq_true rfl⟩ dX9_potato_7) hS (fun q2 hq2 hc H locs hP hS ce q9 hce hcv hcl => ?_) (fun q2 hq2 hc H locs hP hS => ?_)
  · have hf := bnd_go hq2 hf
    have hf := ite_f hc hf
    exact gx_out hex hlk hP hS hce hcv hcl ⟨hc, hf⟩ (Nat.le_of_ble_eq_true rfl) (Nat.le_of_ble_eq_true rfl)
  · have hf := bnd_go hq2 hf
    have hf := ite_t hc hf
    have hok := bnd_goP hq2 hok hc
    refine lv_aload_n hx hb dX9_potato_10 rfl (lv_at hl 0 rfl) ?_
    refine gg_9_4 X hP ab_0 kf_X9_35 dX9_potato_11 ?_
    refine lv_aload_n hx hb dX9_potato_14 rfl (lv_at hl 0 rfl) ?_
    refine gg_9_1 X hP ab_0 kf_X9_20 dX9_potato_15 ?_
    have hs3 := hok.1
    have hok := hok.2
    refine g_cV (g_runV (i := 189) (As := [.ref (G.2.1 2)]) (rest := []) X (c_X4_remember l G hG q2.2 2 ab_2 hs3) ca_X4_remember km_X9_58 rfl rfl ⟨Nat.le_of_ble_eq_true rfl, Nat.le_of_ble_eq_true rfl⟩ hP hS (ty_lt ab_189) (cell_4 ab_189) rfl rfl rfl hl.1 rfl (Nat.le_of_ble_eq_true rfl) ⟨Nat.le_of_ble_eq_true rfl, Nat.le_of_ble_eq_true rfl⟩ dX9_potato_18) hS (fun q4 hq4 H locs hP hS => ?_)
    have hf := bnd_go hq4 hf
    have hok := bnd_goP hq4 hok
    refine lv_aload_n hx hb dX9_potato_21 rfl (lv_at hl 0 rfl) ?_
    refine gg_9_1 X hP ab_0 kf_X9_20 dX9_potato_22 ?_
    refine gg_6_0 (j := 3) rfl X hP ab_2 kf_X9_62 dX9_potato_25 ?_
    have hs5 := hok
    refine g_cI (g_runV (i := 3) (As := []) (rest := []) X (c_X2_addPotato l G hG q4 3 ab_3 hs5) ca_X2_addPotato km_X9_158 rfl rfl ⟨Nat.le_of_ble_eq_true rfl, Nat.le_of_ble_eq_true rfl⟩ hP hS (ty_lt ab_3) (cell_2 ab_3) rfl rfl rfl hl.1 rfl (Nat.le_of_ble_eq_true rfl) ⟨Nat.le_of_ble_eq_true rfl, Nat.le_of_ble_eq_true rfl⟩ dX9_potato_28) hS (fun q6 hq6 H locs hP hS => ?_)
    have hf := bnd_go hq6 hf
    exact gx_iret X hr hlk hP hS hf (Nat.le_of_ble_eq_true rfl) (Nat.le_of_ble_eq_true rfl) dX9_potato_31
def f_X9_firmness (σ : St) (x1 : Int32) : Nat × St × UInt32 := (bnd (f_X9_demandPotato σ x1) (fun q1 => (if q1.1 = 0 then (0, q1.2, (q1.2.2.1 5 x1.toNatClampNeg)) else (q1.1, q1.2, 0))))
def ok_X9_firmness (σ : St) (x1 : Int32) : Prop := (bndP (f_X9_demandPotato σ x1) (fun q1 => q1.1 = 0 → vp_in x1 5))
abbrev rm_X9_firmness : Room := { frames := 8, cells := 1, slots := 6, locals := 141 }
set_option maxHeartbeats 4000000 in
set_option maxRecDepth 100000 in
theorem c_X9_firmness (l : Launch) (hfl : l.stackTraces = false) (G : GE) (hG : Gok G) (σ : St) (x1 : Int32) (hok : ok_X9_firmness σ x1) : XtF l G yX9_firmness cX9_firmness 2 rm_X9_firmness [.ref (G.2.1 0), .int x1] σ (f_X9_firmness σ x1) 1 6 := by
  generalize hf : f_X9_firmness σ x1 = fv
  rw [f_X9_firmness] at hf
  rw [ok_X9_firmness] at hok
  refine gx_start hG (by decide) (Nat.le_of_ble_eq_true rfl) ?_
  intro p e s m args below meth c X hr hlk hex ls hl H locs hP hS
  have X : Cx G p s m args c cX9_firmness 2 RX9 := X
  obtain ⟨hx, hb, hml, hown, hts, hK, hbs, hXW, -⟩ := id X
  have hl : lv_has ls 2 [(0, .ref (G.2.1 0)), (1, .int x1)] := hl
  refine lv_aload_n hx hb dX9_firmness_0 rfl (lv_at hl 0 rfl) ?_
  refine lv_iload_n hx hb dX9_firmness_1 rfl (lv_at hl 1 rfl) ?_
  refine gx_cV (gx_runV (i := 0) (As := [.int x1]) (rest := []) X (c_X9_demandPotato l hfl G hG σ x1) ca_X9_demandPotato km_X9_161 rfl rfl ⟨Nat.le_of_ble_eq_true rfl, Nat.le_of_ble_eq_true rfl⟩ hP hS (ty_lt ab_0) (cell_9 ab_0) rfl rfl rfl hl.1 rfl (Nat.le_of_ble_eq_true rfl) ⟨Nat.le_of_ble_eq_true rfl, Nat.le_of_ble_eq_true rfl⟩ dX9_firmness_2) hS (fun q1 hq1 hc H locs hP hS ce q9 hce hcv hcl => ?_) (fun q1 hq1 hc H locs hP hS => ?_)
  · have hf := bnd_go hq1 hf
    have hf := ite_f hc hf
    exact gx_out hex hlk hP hS hce hcv hcl ⟨hc, hf⟩ (Nat.le_of_ble_eq_true rfl) (Nat.le_of_ble_eq_true rfl)
  · have hf := bnd_go hq1 hf
    have hf := ite_t hc hf
    have hok := bnd_goP hq1 hok hc
    refine lv_aload_n hx hb dX9_firmness_5 rfl (lv_at hl 0 rfl) ?_
    refine gg_9_1 X hP ab_0 kf_X9_20 dX9_firmness_6 ?_
    refine gg_6_0 (j := 3) rfl X hP ab_2 kf_X9_62 dX9_firmness_9 ?_
    refine gg_2_1 (j := 5) rfl X hP ab_3 kf_X9_164 dX9_firmness_12 ?_
    refine lv_iload_n hx hb dX9_firmness_15 rfl (lv_at hl 1 rfl) ?_
    have hs2 := hok
    refine g_fald X hP ab_5 (by rw [al_5]; exact hs2) dX9_firmness_16 ?_
    exact gx_fret X hr hlk hP hS hf (Nat.le_of_ble_eq_true rfl) (Nat.le_of_ble_eq_true rfl) dX9_firmness_17
def f_X9_ink (σ : St) (x1 : Int32) : Nat × St × Int32 := (if (f_X9_inRange x1 (1 : Int32) (50 : Int32)) = true then (bnd (f_X9_demand σ (0 : Int32)) (fun q8 => (if q8.1 = 0 then (bnd (f_X4_remember q8.2 2) (fun q10 => (bnd (f_X2_addInk q10 3 (FP.fmul (1036831949 : UInt32) (FP.i2f x1))) (fun q13 => (0, q13, (f_X0_ofFloat (q13.2.1 3 5))))))) else (q8.1, q8.2, 0)))) else (bnd (f_X9_demand σ (-2 : Int32)) (fun q1 => (if q1.1 = 0 then (bnd (f_X4_remember q1.2 2) (fun q3 => (bnd (f_X2_addInk q3 3 (FP.fmul (1036831949 : UInt32) (FP.i2f x1))) (fun q6 => (0, q6, (f_X0_ofFloat (q6.2.1 3 5))))))) else (q1.1, q1.2, 0)))))
def ok_X9_ink (σ : St) (x1 : Int32) : Prop := (((f_X9_inRange x1 (1 : Int32) (50 : Int32)) = true → (bndP (f_X9_demand σ (0 : Int32)) (fun q8 => q8.1 = 0 → (ok_X4_remember q8.2 2 ∧ (bndP (f_X4_remember q8.2 2) (fun q10 => (vf_n32 (FP.fmul (1036831949 : UInt32) (FP.i2f x1)) ∧ (ok_X2_addInk q10 3 (FP.fmul (1036831949 : UInt32) (FP.i2f x1)) ∧ (bndP (f_X2_addInk q10 3 (FP.fmul (1036831949 : UInt32) (FP.i2f x1))) (fun q13 => ok_X0_ofFloat (q13.2.1 3 5))))))))))) ∧ ((f_X9_inRange x1 (1 : Int32) (50 : Int32)) = false → (bndP (f_X9_demand σ (-2 : Int32)) (fun q1 => q1.1 = 0 → (ok_X4_remember q1.2 2 ∧ (bndP (f_X4_remember q1.2 2) (fun q3 => (vf_n32 (FP.fmul (1036831949 : UInt32) (FP.i2f x1)) ∧ (ok_X2_addInk q3 3 (FP.fmul (1036831949 : UInt32) (FP.i2f x1)) ∧ (bndP (f_X2_addInk q3 3 (FP.fmul (1036831949 : UInt32) (FP.i2f x1))) (fun q6 => ok_X0_ofFloat (q6.2.1 3 5))))))))))))
abbrev rm_X9_ink : Room := { frames := 7, cells := 1, slots := 6, locals := 123 }
set_option maxHeartbeats 4000000 in
set_option maxRecDepth 100000 in
theorem c_X9_ink (l : Launch) (hfl : l.stackTraces = false) (G : GE) (hG : Gok G) (σ : St) (x1 : Int32) (hok : ok_X9_ink σ x1) : XtI l G yX9_ink cX9_ink 2 rm_X9_ink [.ref (G.2.1 0), .int x1] σ (f_X9_ink σ x1) 1 6 := by
  generalize hf : f_X9_ink σ x1 = fv
  rw [f_X9_ink] at hf
  rw [ok_X9_ink] at hok
  refine gx_start hG (by decide) (Nat.le_of_ble_eq_true rfl) ?_
  intro p e s m args below meth c X hr hlk hex ls hl H locs hP hS
  have X : Cx G p s m args c cX9_ink 2 RX9 := X
  obtain ⟨hx, hb, hml, hown, hts, hK, hbs, hXW, -⟩ := id X
  have hl : lv_has ls 2 [(0, .ref (G.2.1 0)), (1, .int x1)] := hl
  refine lv_iload_n hx hb dX9_ink_0 rfl (lv_at hl 1 rfl) ?_
  refine lv_iconst (v := 1) hx hb dX9_ink_1 (by decide) ?_
  refine lv_bipush (v := 50) hx hb dX9_ink_2 (by decide) ?_
  refine g_cZp (g_runS (As := [.int x1, .int (1 : Int32), .int (50 : Int32)]) (rest := []) X (c_X9_inRange l G hG σ x1 (1 : Int32) (50 : Int32)) ca_X9_inRange km_X9_97 rfl rfl ⟨Nat.le_of_ble_eq_true rfl, Nat.le_of_ble_eq_true rfl⟩ hP hS rfl hl.1 rfl (Nat.le_of_ble_eq_true rfl) ⟨Nat.le_of_ble_eq_true rfl, Nat.le_of_ble_eq_true rfl⟩ dX9_ink_4) hS (fun H locs hP hS => ?_)
  refine g_ifeqZ (tgt := 14) X dX9_ink_7 (by decide) (fun hc => ?_) (fun hc => ?_)
  · have hf := ite_z hc hf
    have hok := hok.2 hc
    refine lv_bipush (v := -2) hx hb dX9_ink_14 (by decide) ?_
    refine gx_cV (gx_runS (As := [.int (-2 : Int32)]) (rest := []) X (c_X9_demand l hfl G hG σ (-2 : Int32)) ca_X9_demand km_X9_54 rfl rfl ⟨Nat.le_of_ble_eq_true rfl, Nat.le_of_ble_eq_true rfl⟩ hP hS rfl hl.1 rfl (Nat.le_of_ble_eq_true rfl) ⟨Nat.le_of_ble_eq_true rfl, Nat.le_of_ble_eq_true rfl⟩ dX9_ink_16) hS (fun q1 hq1 hc H locs hP hS ce q9 hce hcv hcl => ?_) (fun q1 hq1 hc H locs hP hS => ?_)
    · have hf := bnd_go hq1 hf
      have hf := ite_f hc hf
      exact gx_out hex hlk hP hS hce hcv hcl ⟨hc, hf⟩ (Nat.le_of_ble_eq_true rfl) (Nat.le_of_ble_eq_true rfl)
    · have hf := bnd_go hq1 hf
      have hf := ite_t hc hf
      have hok := bnd_goP hq1 hok hc
      refine lv_aload_n hx hb dX9_ink_19 rfl (lv_at hl 0 rfl) ?_
      refine gg_9_4 X hP ab_0 kf_X9_35 dX9_ink_20 ?_
      refine lv_aload_n hx hb dX9_ink_23 rfl (lv_at hl 0 rfl) ?_
      refine gg_9_1 X hP ab_0 kf_X9_20 dX9_ink_24 ?_
      have hs2 := hok.1
      have hok := hok.2
      refine g_cV (g_runV (i := 189) (As := [.ref (G.2.1 2)]) (rest := []) X (c_X4_remember l G hG q1.2 2 ab_2 hs2) ca_X4_remember km_X9_58 rfl rfl ⟨Nat.le_of_ble_eq_true rfl, Nat.le_of_ble_eq_true rfl⟩ hP hS (ty_lt ab_189) (cell_4 ab_189) rfl rfl rfl hl.1 rfl (Nat.le_of_ble_eq_true rfl) ⟨Nat.le_of_ble_eq_true rfl, Nat.le_of_ble_eq_true rfl⟩ dX9_ink_27) hS (fun q3 hq3 H locs hP hS => ?_)
      have hf := bnd_go hq3 hf
      have hok := bnd_goP hq3 hok
      refine lv_aload_n hx hb dX9_ink_30 rfl (lv_at hl 0 rfl) ?_
      refine gg_9_1 X hP ab_0 kf_X9_20 dX9_ink_31 ?_
      refine gg_6_0 (j := 3) rfl X hP ab_2 kf_X9_62 dX9_ink_34 ?_
      refine lv_ldcf hx hb hown (hts _ kc_X9_66) dX9_ink_37 ?_
      refine lv_iload_n hx hb dX9_ink_39 rfl (lv_at hl 1 rfl) ?_
      refine lv_i2f hx hb dX9_ink_40 ?_
      have hs4 := hok.1
      have hok := hok.2
      refine lv_fmul hx hb dX9_ink_41 hs4 ?_
      have hs5 := hok.1
      have hok := hok.2
      refine g_cV (g_runV (i := 3) (As := [.float (FP.fmul (1036831949 : UInt32) (FP.i2f x1))]) (rest := []) X (c_X2_addInk l G hG q3 3 ab_3 (FP.fmul (1036831949 : UInt32) (FP.i2f x1)) hs5) ca_X2_addInk km_X9_191 rfl rfl ⟨Nat.le_of_ble_eq_true rfl, Nat.le_of_ble_eq_true rfl⟩ hP hS (ty_lt ab_3) (cell_2 ab_3) rfl rfl rfl hl.1 rfl (Nat.le_of_ble_eq_true rfl) ⟨Nat.le_of_ble_eq_true rfl, Nat.le_of_ble_eq_true rfl⟩ dX9_ink_42) hS (fun q6 hq6 H locs hP hS => ?_)
      have hf := bnd_go hq6 hf
      have hok := bnd_goP hq6 hok
      refine lv_aload_n hx hb dX9_ink_45 rfl (lv_at hl 0 rfl) ?_
      refine gg_9_1 X hP ab_0 kf_X9_20 dX9_ink_46 ?_
      refine gg_6_0 (j := 3) rfl X hP ab_2 kf_X9_62 dX9_ink_49 ?_
      refine gg_2_5 X hP ab_3 kf_X9_170 dX9_ink_52 ?_
      have hs7 := hok
      refine g_cIp (g_runS (As := [.float (q6.2.1 3 5)]) (rest := []) X (c_X0_ofFloat l G hG q6 (q6.2.1 3 5) hs7) ca_X0_ofFloat km_X9_122 rfl rfl ⟨Nat.le_of_ble_eq_true rfl, Nat.le_of_ble_eq_true rfl⟩ hP hS rfl hl.1 rfl (Nat.le_of_ble_eq_true rfl) ⟨Nat.le_of_ble_eq_true rfl, Nat.le_of_ble_eq_true rfl⟩ dX9_ink_55) hS (fun H locs hP hS => ?_)
      exact gx_iret X hr hlk hP hS hf (Nat.le_of_ble_eq_true rfl) (Nat.le_of_ble_eq_true rfl) dX9_ink_58
  · have hf := ite_t hc hf
    have hok := hok.1 hc
    refine lv_iconst (v := 0) hx hb dX9_ink_10 (by decide) ?_
    refine lv_goto (tgt := 16) hx hb dX9_ink_11 (by decide) ?_
    refine gx_cV (gx_runS (As := [.int (0 : Int32)]) (rest := []) X (c_X9_demand l hfl G hG σ (0 : Int32)) ca_X9_demand km_X9_54 rfl rfl ⟨Nat.le_of_ble_eq_true rfl, Nat.le_of_ble_eq_true rfl⟩ hP hS rfl hl.1 rfl (Nat.le_of_ble_eq_true rfl) ⟨Nat.le_of_ble_eq_true rfl, Nat.le_of_ble_eq_true rfl⟩ dX9_ink_16) hS (fun q8 hq8 hc H locs hP hS ce q9 hce hcv hcl => ?_) (fun q8 hq8 hc H locs hP hS => ?_)
    · have hf := bnd_go hq8 hf
      have hf := ite_f hc hf
      exact gx_out hex hlk hP hS hce hcv hcl ⟨hc, hf⟩ (Nat.le_of_ble_eq_true rfl) (Nat.le_of_ble_eq_true rfl)
    · have hf := bnd_go hq8 hf
      have hf := ite_t hc hf
      have hok := bnd_goP hq8 hok hc
      refine lv_aload_n hx hb dX9_ink_19 rfl (lv_at hl 0 rfl) ?_
      refine gg_9_4 X hP ab_0 kf_X9_35 dX9_ink_20 ?_
      refine lv_aload_n hx hb dX9_ink_23 rfl (lv_at hl 0 rfl) ?_
      refine gg_9_1 X hP ab_0 kf_X9_20 dX9_ink_24 ?_
      have hs9 := hok.1
      have hok := hok.2
      refine g_cV (g_runV (i := 189) (As := [.ref (G.2.1 2)]) (rest := []) X (c_X4_remember l G hG q8.2 2 ab_2 hs9) ca_X4_remember km_X9_58 rfl rfl ⟨Nat.le_of_ble_eq_true rfl, Nat.le_of_ble_eq_true rfl⟩ hP hS (ty_lt ab_189) (cell_4 ab_189) rfl rfl rfl hl.1 rfl (Nat.le_of_ble_eq_true rfl) ⟨Nat.le_of_ble_eq_true rfl, Nat.le_of_ble_eq_true rfl⟩ dX9_ink_27) hS (fun q10 hq10 H locs hP hS => ?_)
      have hf := bnd_go hq10 hf
      have hok := bnd_goP hq10 hok
      refine lv_aload_n hx hb dX9_ink_30 rfl (lv_at hl 0 rfl) ?_
      refine gg_9_1 X hP ab_0 kf_X9_20 dX9_ink_31 ?_
      refine gg_6_0 (j := 3) rfl X hP ab_2 kf_X9_62 dX9_ink_34 ?_
      refine lv_ldcf hx hb hown (hts _ kc_X9_66) dX9_ink_37 ?_
      refine lv_iload_n hx hb dX9_ink_39 rfl (lv_at hl 1 rfl) ?_
      refine lv_i2f hx hb dX9_ink_40 ?_
      have hs11 := hok.1
      have hok := hok.2
      refine lv_fmul hx hb dX9_ink_41 hs11 ?_
      have hs12 := hok.1
      have hok := hok.2
      refine g_cV (g_runV (i := 3) (As := [.float (FP.fmul (1036831949 : UInt32) (FP.i2f x1))]) (rest := []) X (c_X2_addInk l G hG q10 3 ab_3 (FP.fmul (1036831949 : UInt32) (FP.i2f x1)) hs12) ca_X2_addInk km_X9_191 rfl rfl ⟨Nat.le_of_ble_eq_true rfl, Nat.le_of_ble_eq_true rfl⟩ hP hS (ty_lt ab_3) (cell_2 ab_3) rfl rfl rfl hl.1 rfl (Nat.le_of_ble_eq_true rfl) ⟨Nat.le_of_ble_eq_true rfl, Nat.le_of_ble_eq_true rfl⟩ dX9_ink_42) hS (fun q13 hq13 H locs hP hS => ?_)
      have hf := bnd_go hq13 hf
      have hok := bnd_goP hq13 hok
      refine lv_aload_n hx hb dX9_ink_45 rfl (lv_at hl 0 rfl) ?_
      refine gg_9_1 X hP ab_0 kf_X9_20 dX9_ink_46 ?_
      refine gg_6_0 (j := 3) rfl X hP ab_2 kf_X9_62 dX9_ink_49 ?_
      refine gg_2_5 X hP ab_3 kf_X9_170 dX9_ink_52 ?_
      have hs14 := hok
      refine g_cIp (g_runS (As := [.float (q13.2.1 3 5)]) (rest := []) X (c_X0_ofFloat l G hG q13 (q13.2.1 3 5) hs14) ca_X0_ofFloat km_X9_122 rfl rfl ⟨Nat.le_of_ble_eq_true rfl, Nat.le_of_ble_eq_true rfl⟩ hP hS rfl hl.1 rfl (Nat.le_of_ble_eq_true rfl) ⟨Nat.le_of_ble_eq_true rfl, Nat.le_of_ble_eq_true rfl⟩ dX9_ink_55) hS (fun H locs hP hS => ?_)
      exact gx_iret X hr hlk hP hS hf (Nat.le_of_ble_eq_true rfl) (Nat.le_of_ble_eq_true rfl) dX9_ink_58
def f_X9_inkNow (σ : St) : UInt32 := (σ.2.1 3 5)
abbrev rm_X9_inkNow : Room := { frames := 0, cells := 0, slots := 0, locals := 0 }
set_option maxHeartbeats 4000000 in
set_option maxRecDepth 100000 in
theorem c_X9_inkNow (l : Launch) (G : GE) (hG : Gok G) (σ : St) : MtF l G yX9_inkNow cX9_inkNow 1 rm_X9_inkNow [.ref (G.2.1 0)] σ (σ, f_X9_inkNow σ) := by
  generalize hf : f_X9_inkNow σ = fv
  rw [f_X9_inkNow] at hf
  refine g_start hG (plainFor_of_name (by decide)) (Nat.le_of_ble_eq_true rfl) ?_
  intro p e s m args below meth c X hr hlk ls hl H locs hP hS
  have X : Cx G p s m args c cX9_inkNow 1 RX9 := X
  obtain ⟨hx, hb, hml, hown, hts, hK, hbs, hXW, -⟩ := id X
  have hl : lv_has ls 1 [(0, .ref (G.2.1 0))] := hl
  refine lv_aload_n hx hb dX9_inkNow_0 rfl (lv_at hl 0 rfl) ?_
  refine gg_9_1 X hP ab_0 kf_X9_20 dX9_inkNow_1 ?_
  refine gg_6_0 (j := 3) rfl X hP ab_2 kf_X9_62 dX9_inkNow_4 ?_
  refine gg_2_5 X hP ab_3 kf_X9_170 dX9_inkNow_7 ?_
  exact g_fret X hr hlk hP hS (congrArg (Prod.mk σ) hf) dX9_inkNow_10
def f_X9_stamp (σ : St) (x1 : Int32) (x2 : Int32) : Nat × St × Int32 := (bnd (f_X1_mayStamp σ x1 x2) (fun q2 => (bnd (f_X9_demand q2.1 q2.2) (fun q3 => (if q3.1 = 0 then (bnd (f_X4_remember q3.2 2) (fun q5 => (bnd (f_X6_stampItem q5 2 x1 x2) (fun q7 => (0, q7.1, (f_X0_ofFloat q7.2)))))) else (q3.1, q3.2, 0))))))
def ok_X9_stamp (σ : St) (x1 : Int32) (x2 : Int32) : Prop := (ok_X1_mayStamp σ x1 x2 ∧ (bndP (f_X1_mayStamp σ x1 x2) (fun q2 => (bndP (f_X9_demand q2.1 q2.2) (fun q3 => q3.1 = 0 → (ok_X4_remember q3.2 2 ∧ (bndP (f_X4_remember q3.2 2) (fun q5 => (ok_X6_stampItem q5 2 x1 x2 ∧ (bndP (f_X6_stampItem q5 2 x1 x2) (fun q7 => ok_X0_ofFloat q7.2)))))))))))
abbrev rm_X9_stamp : Room := { frames := 7, cells := 1, slots := 6, locals := 123 }
set_option maxHeartbeats 4000000 in
set_option maxRecDepth 100000 in
theorem c_X9_stamp (l : Launch) (hfl : l.stackTraces = false) (G : GE) (hG : Gok G) (σ : St) (x1 : Int32) (x2 : Int32) (hok : ok_X9_stamp σ x1 x2) : XtI l G yX9_stamp cX9_stamp 3 rm_X9_stamp [.ref (G.2.1 0), .int x1, .int x2] σ (f_X9_stamp σ x1 x2) 1 6 := by
  generalize hf : f_X9_stamp σ x1 x2 = fv
  rw [f_X9_stamp] at hf
  rw [ok_X9_stamp] at hok
  refine gx_start hG (by decide) (Nat.le_of_ble_eq_true rfl) ?_
  intro p e s m args below meth c X hr hlk hex ls hl H locs hP hS
  have X : Cx G p s m args c cX9_stamp 3 RX9 := X
  obtain ⟨hx, hb, hml, hown, hts, hK, hbs, hXW, -⟩ := id X
  have hl : lv_has ls 3 [(0, .ref (G.2.1 0)), (1, .int x1), (2, .int x2)] := hl
  refine lv_aload_n hx hb dX9_stamp_0 rfl (lv_at hl 0 rfl) ?_
  refine gg_9_0 X hP ab_0 kf_X9_10 dX9_stamp_1 ?_
  refine lv_iload_n hx hb dX9_stamp_4 rfl (lv_at hl 1 rfl) ?_
  refine lv_iload_n hx hb dX9_stamp_5 rfl (lv_at hl 2 rfl) ?_
  have hs1 := hok.1
  have hok := hok.2
  refine g_cI (g_runV (i := 1) (As := [.int x1, .int x2]) (rest := []) X (c_X1_mayStamp l G hG σ x1 x2 hs1) ca_X1_mayStamp km_X9_194 rfl rfl ⟨Nat.le_of_ble_eq_true rfl, Nat.le_of_ble_eq_true rfl⟩ hP hS (ty_lt ab_1) (cell_1 ab_1) rfl rfl rfl hl.1 rfl (Nat.le_of_ble_eq_true rfl) ⟨Nat.le_of_ble_eq_true rfl, Nat.le_of_ble_eq_true rfl⟩ dX9_stamp_6) hS (fun q2 hq2 H locs hP hS => ?_)
  have hf := bnd_go hq2 hf
  have hok := bnd_goP hq2 hok
  refine gx_cV (gx_runS (As := [.int q2.2]) (rest := []) X (c_X9_demand l hfl G hG q2.1 q2.2) ca_X9_demand km_X9_54 rfl rfl ⟨Nat.le_of_ble_eq_true rfl, Nat.le_of_ble_eq_true rfl⟩ hP hS rfl hl.1 rfl (Nat.le_of_ble_eq_true rfl) ⟨Nat.le_of_ble_eq_true rfl, Nat.le_of_ble_eq_true rfl⟩ dX9_stamp_9) hS (fun q3 hq3 hc H locs hP hS ce q9 hce hcv hcl => ?_) (fun q3 hq3 hc H locs hP hS => ?_)
  · have hf := bnd_go hq3 hf
    have hf := ite_f hc hf
    exact gx_out hex hlk hP hS hce hcv hcl ⟨hc, hf⟩ (Nat.le_of_ble_eq_true rfl) (Nat.le_of_ble_eq_true rfl)
  · have hf := bnd_go hq3 hf
    have hf := ite_t hc hf
    have hok := bnd_goP hq3 hok hc
    refine lv_aload_n hx hb dX9_stamp_12 rfl (lv_at hl 0 rfl) ?_
    refine gg_9_4 X hP ab_0 kf_X9_35 dX9_stamp_13 ?_
    refine lv_aload_n hx hb dX9_stamp_16 rfl (lv_at hl 0 rfl) ?_
    refine gg_9_1 X hP ab_0 kf_X9_20 dX9_stamp_17 ?_
    have hs4 := hok.1
    have hok := hok.2
    refine g_cV (g_runV (i := 189) (As := [.ref (G.2.1 2)]) (rest := []) X (c_X4_remember l G hG q3.2 2 ab_2 hs4) ca_X4_remember km_X9_58 rfl rfl ⟨Nat.le_of_ble_eq_true rfl, Nat.le_of_ble_eq_true rfl⟩ hP hS (ty_lt ab_189) (cell_4 ab_189) rfl rfl rfl hl.1 rfl (Nat.le_of_ble_eq_true rfl) ⟨Nat.le_of_ble_eq_true rfl, Nat.le_of_ble_eq_true rfl⟩ dX9_stamp_20) hS (fun q5 hq5 H locs hP hS => ?_)
    have hf := bnd_go hq5 hf
    have hok := bnd_goP hq5 hok
    refine lv_aload_n hx hb dX9_stamp_23 rfl (lv_at hl 0 rfl) ?_
    refine gg_9_1 X hP ab_0 kf_X9_20 dX9_stamp_24 ?_
    refine lv_iload_n hx hb dX9_stamp_27 rfl (lv_at hl 1 rfl) ?_
    refine lv_iload_n hx hb dX9_stamp_28 rfl (lv_at hl 2 rfl) ?_
    have hs6 := hok.1
    have hok := hok.2
    refine g_cF (g_runV (i := 2) (As := [.int x1, .int x2]) (rest := []) X (c_X6_stampItem l G hG q5 2 ab_2 x1 x2 hs6) ca_X6_stampItem km_X9_197 rfl rfl ⟨Nat.le_of_ble_eq_true rfl, Nat.le_of_ble_eq_true rfl⟩ hP hS (ty_lt ab_2) (cell_6 ab_2) rfl rfl rfl hl.1 rfl (Nat.le_of_ble_eq_true rfl) ⟨Nat.le_of_ble_eq_true rfl, Nat.le_of_ble_eq_true rfl⟩ dX9_stamp_29) hS (fun q7 hq7 H locs hP hS => ?_)
    have hf := bnd_go hq7 hf
    have hok := bnd_goP hq7 hok
    have hs8 := hok
    refine g_cIp (g_runS (As := [.float q7.2]) (rest := []) X (c_X0_ofFloat l G hG q7.1 q7.2 hs8) ca_X0_ofFloat km_X9_122 rfl rfl ⟨Nat.le_of_ble_eq_true rfl, Nat.le_of_ble_eq_true rfl⟩ hP hS rfl hl.1 rfl (Nat.le_of_ble_eq_true rfl) ⟨Nat.le_of_ble_eq_true rfl, Nat.le_of_ble_eq_true rfl⟩ dX9_stamp_32) hS (fun H locs hP hS => ?_)
    exact gx_iret X hr hlk hP hS hf (Nat.le_of_ble_eq_true rfl) (Nat.le_of_ble_eq_true rfl) dX9_stamp_35
