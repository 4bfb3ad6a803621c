def f_X6_copyFrom (σ : St) (o0 : Nat) (o1 : Nat) : St := (bnd (f_X2_copyFrom σ (o0 + 1) (o1 + 1)) (fun q1 => (bnd (f_X5_copyFrom q1 (o0 + 4) (o1 + 4)) (fun q2 => (bnd (f_X8_copyFrom q2 (o0 + 13) (o1 + 13)) (fun q3 => (bnd (f_X3_copyFrom q3 (o0 + 16) (o1 + 16)) (fun q4 => q4))))))))
abbrev rm_X6_copyFrom : Room := { frames := 2, cells := 0, slots := 0, locals := 81 }
set_option maxHeartbeats 4000000 in
set_option maxRecDepth 100000 in
theorem c_X6_copyFrom (l : Launch) (G : GE) (hG : Gok G) (σ : St) (o0 : Nat) (ho0 : tyOf o0 = 6) (o1 : Nat) (ho1 : tyOf o1 = 6) : MtV l G yX6_copyFrom cX6_copyFrom 2 rm_X6_copyFrom [.ref (G.2.1 o0), .ref (G.2.1 o1)] σ (f_X6_copyFrom σ o0 o1) := by
  generalize hf : f_X6_copyFrom σ o0 o1 = fv
  rw [f_X6_copyFrom] at hf
  refine g_start hG (plainFor_of_name (by decide)) (Nat.le_of_ble_eq_true rfl) ?_
  intro p e s m args below meth c X hr hlk ls hl H locs hP hS
  have X : Cx G p s m args c cX6_copyFrom 2 RX6 := X
  obtain ⟨hx, hb, hml, hown, hts, hK, hbs, hXW, -⟩ := id X
  have hl : lv_has ls 2 [(0, .ref (G.2.1 o0)), (1, .ref (G.2.1 o1))] := hl
  refine lv_aload_n hx hb dX6_copyFrom_0 rfl (lv_at hl 0 rfl) ?_
  refine gg_6_0 (j := o0 + 1) rfl X hP ho0 kf_X6_12 dX6_copyFrom_1 ?_
  refine lv_aload_n hx hb dX6_copyFrom_4 rfl (lv_at hl 1 rfl) ?_
  refine gg_6_0 (j := o1 + 1) rfl X hP ho1 kf_X6_12 dX6_copyFrom_5 ?_
  refine g_cV (g_runV (i := (o0 + 1)) (As := [.ref (G.2.1 (o1 + 1))]) (rest := []) X (c_X2_copyFrom l G hG σ (o0 + 1) (tc_6_0 ho0) (o1 + 1) (tc_6_0 ho1)) ca_X2_copyFrom km_X6_39 rfl rfl ⟨Nat.le_of_ble_eq_true rfl, Nat.le_of_ble_eq_true rfl⟩ hP hS (ty_lt (tc_6_0 ho0)) (cell_2 (tc_6_0 ho0)) rfl rfl rfl hl.1 rfl (Nat.le_of_ble_eq_true rfl) ⟨Nat.le_of_ble_eq_true rfl, Nat.le_of_ble_eq_true rfl⟩ dX6_copyFrom_8) hS (fun q1 hq1 H locs hP hS => ?_)
  have hf := bnd_go hq1 hf
  refine lv_aload_n hx hb dX6_copyFrom_11 rfl (lv_at hl 0 rfl) ?_
  refine gg_6_1 (j := o0 + 4) rfl X hP ho0 kf_X6_21 dX6_copyFrom_12 ?_
  refine lv_aload_n hx hb dX6_copyFrom_15 rfl (lv_at hl 1 rfl) ?_
  refine gg_6_1 (j := o1 + 4) rfl X hP ho1 kf_X6_21 dX6_copyFrom_16 ?_
  refine g_cV (g_runV (i := (o0 + 4)) (As := [.ref (G.2.1 (o1 + 4))]) (rest := []) X (c_X5_copyFrom l G hG q1 (o0 + 4) (tc_6_1 ho0) (o1 + 4) (tc_6_1 ho1)) ca_X5_copyFrom km_X6_43 rfl rfl ⟨Nat.le_of_ble_eq_true rfl, Nat.le_of_ble_eq_true rfl⟩ hP hS (ty_lt (tc_6_1 ho0)) (cell_5 (tc_6_1 ho0)) rfl rfl rfl hl.1 rfl (Nat.le_of_ble_eq_true rfl) ⟨Nat.le_of_ble_eq_true rfl, Nat.le_of_ble_eq_true rfl⟩ dX6_copyFrom_19) hS (fun q2 hq2 H locs hP hS => ?_)
  have hf := bnd_go hq2 hf
  refine lv_aload_n hx hb dX6_copyFrom_22 rfl (lv_at hl 0 rfl) ?_
  refine gg_6_2 (j := o0 + 13) rfl X hP ho0 kf_X6_28 dX6_copyFrom_23 ?_
  refine lv_aload_n hx hb dX6_copyFrom_26 rfl (lv_at hl 1 rfl) ?_
  refine gg_6_2 (j := o1 + 13) rfl X hP ho1 kf_X6_28 dX6_copyFrom_27 ?_
  refine g_cV (g_runV (i := (o0 + 13)) (As := [.ref (G.2.1 (o1 + 13))]) (rest := []) X (c_X8_copyFrom l G hG q2 (o0 + 13) (tc_6_2 ho0) (o1 + 13) (tc_6_2 ho1)) ca_X8_copyFrom km_X6_46 rfl rfl ⟨Nat.le_of_ble_eq_true rfl, Nat.le_of_ble_eq_true rfl⟩ hP hS (ty_lt (tc_6_2 ho0)) (cell_8 (tc_6_2 ho0)) rfl rfl rfl hl.1 rfl (Nat.le_of_ble_eq_true rfl) ⟨Nat.le_of_ble_eq_true rfl, Nat.le_of_ble_eq_true rfl⟩ dX6_copyFrom_30) hS (fun q3 hq3 H locs hP hS => ?_)
  have hf := bnd_go hq3 hf
  refine lv_aload_n hx hb dX6_copyFrom_33 rfl (lv_at hl 0 rfl) ?_
  refine gg_6_3 (j := o0 + 16) rfl X hP ho0 kf_X6_35 dX6_copyFrom_34 ?_
  refine lv_aload_n hx hb dX6_copyFrom_37 rfl (lv_at hl 1 rfl) ?_
  refine gg_6_3 (j := o1 + 16) rfl X hP ho1 kf_X6_35 dX6_copyFrom_38 ?_
  refine g_cV (g_runV (i := (o0 + 16)) (As := [.ref (G.2.1 (o1 + 16))]) (rest := []) X (c_X3_copyFrom l G hG q3 (o0 + 16) (tc_6_3 ho0) (o1 + 16) (tc_6_3 ho1)) ca_X3_copyFrom km_X6_49 rfl rfl ⟨Nat.le_of_ble_eq_true rfl, Nat.le_of_ble_eq_true rfl⟩ hP hS (ty_lt (tc_6_3 ho0)) (cell_3 (tc_6_3 ho0)) rfl rfl rfl hl.1 rfl (Nat.le_of_ble_eq_true rfl) ⟨Nat.le_of_ble_eq_true rfl, Nat.le_of_ble_eq_true rfl⟩ dX6_copyFrom_41) hS (fun q4 hq4 H locs hP hS => ?_)
  have hf := bnd_go hq4 hf
  exact g_vret X hr hlk hP hS hf dX6_copyFrom_44
def f_X6_writeLetter (σ : St) (o0 : Nat) (x1 : Int32) (x2 : Int32) (x3 : Int32) (x4 : Int32) : St × Int32 := (bnd (setF σ ((o0 + 1) + 1) x4.toNatClampNeg (FP.fsub (σ.2.1 ((o0 + 1) + 1) x4.toNatClampNeg) (f_X9_crayonNeeded x3))) (fun q5 => (bnd (f_X5_add q5 (o0 + 4) (0 : Int32) x1 x2 x3) (fun q7 => (bnd (setF q7.1 ((o0 + 4) + 8) q7.2.toNatClampNeg (FP.fdiv (FP.fadd (FP.fsub (σ.2.1 ((o0 + 1) + 1) x4.toNatClampNeg) (f_X9_crayonNeeded x3)) FP.fconst1) (FP.fadd (FP.fadd (FP.fsub (σ.2.1 ((o0 + 1) + 1) x4.toNatClampNeg) (f_X9_crayonNeeded x3)) FP.fconst1) (FP.fmul (1036831949 : UInt32) (FP.i2f x3))))) (fun q14 => (q14, q7.2)))))))
def ok_X6_writeLetter (σ : St) (o0 : Nat) (x1 : Int32) (x2 : Int32) (x3 : Int32) (x4 : Int32) : Prop := (vp_in x4 8 ∧ (ok_X9_crayonNeeded x3 ∧ (vf_n32 (FP.fsub (σ.2.1 ((o0 + 1) + 1) x4.toNatClampNeg) (f_X9_crayonNeeded x3)) ∧ (vp_in x4 8 ∧ (bndP (setF σ ((o0 + 1) + 1) x4.toNatClampNeg (FP.fsub (σ.2.1 ((o0 + 1) + 1) x4.toNatClampNeg) (f_X9_crayonNeeded x3))) (fun q5 => (ok_X5_add q5 (o0 + 4) (0 : Int32) x1 x2 x3 ∧ (bndP (f_X5_add q5 (o0 + 4) (0 : Int32) x1 x2 x3) (fun q7 => (vf_n32 (FP.fadd (FP.fsub (σ.2.1 ((o0 + 1) + 1) x4.toNatClampNeg) (f_X9_crayonNeeded x3)) FP.fconst1) ∧ (vf_n32 (FP.fadd (FP.fsub (σ.2.1 ((o0 + 1) + 1) x4.toNatClampNeg) (f_X9_crayonNeeded x3)) FP.fconst1) ∧ (vf_n32 (FP.fmul (1036831949 : UInt32) (FP.i2f x3)) ∧ (vf_n32 (FP.fadd (FP.fadd (FP.fsub (σ.2.1 ((o0 + 1) + 1) x4.toNatClampNeg) (f_X9_crayonNeeded x3)) FP.fconst1) (FP.fmul (1036831949 : UInt32) (FP.i2f x3))) ∧ (vf_n32 (FP.fdiv (FP.fadd (FP.fsub (σ.2.1 ((o0 + 1) + 1) x4.toNatClampNeg) (f_X9_crayonNeeded x3)) FP.fconst1) (FP.fadd (FP.fadd (FP.fsub (σ.2.1 ((o0 + 1) + 1) x4.toNatClampNeg) (f_X9_crayonNeeded x3)) FP.fconst1) (FP.fmul (1036831949 : UInt32) (FP.i2f x3)))) ∧ vp_in q7.2 20))))))))))))))
abbrev rm_X6_writeLetter : Room := { frames := 1, cells := 0, slots := 0, locals := 25 }
set_option maxHeartbeats 4000000 in
set_option maxRecDepth 100000 in
theorem c_X6_writeLetter (l : Launch) (G : GE) (hG : Gok G) (σ : St) (o0 : Nat) (ho0 : tyOf o0 = 6) (x1 : Int32) (x2 : Int32) (x3 : Int32) (x4 : Int32) (hok : ok_X6_writeLetter σ o0 x1 x2 x3 x4) : MtI l G yX6_writeLetter cX6_writeLetter 7 rm_X6_writeLetter [.ref (G.2.1 o0), .int x1, .int x2, .int x3, .int x4] σ (f_X6_writeLetter σ o0 x1 x2 x3 x4) := by
  generalize hf : f_X6_writeLetter σ o0 x1 x2 x3 x4 = fv
  rw [f_X6_writeLetter] at hf
  rw [ok_X6_writeLetter] at hok
  refine g_start hG (plainFor_of_name (by decide)) (Nat.le_of_ble_eq_true rfl) ?_
  intro p e s m args below meth c X hr hlk ls hl H locs hP hS
  have X : Cx G p s m args c cX6_writeLetter 7 RX6 := X
  obtain ⟨hx, hb, hml, hown, hts, hK, hbs, hXW, -⟩ := id X
  have hl : lv_has ls 7 [(0, .ref (G.2.1 o0)), (1, .int x1), (2, .int x2), (3, .int x3), (4, .int x4)] := hl
  refine lv_aload_n hx hb dX6_writeLetter_0 rfl (lv_at hl 0 rfl) ?_
  refine gg_6_0 (j := o0 + 1) rfl X hP ho0 kf_X6_12 dX6_writeLetter_1 ?_
  refine gg_2_0 (j := (o0 + 1) + 1) rfl X hP (tc_6_0 ho0) kf_X6_52 dX6_writeLetter_4 ?_
  refine lv_iload hx hb dX6_writeLetter_7 (lv_at hl 4 rfl) ?_
  have hs1 := hok.1
  have hok := hok.2
  refine g_fald X hP (tc_2_0 (tc_6_0 ho0)) (by rw [(lc_2_0 (tc_6_0 ho0))]; exact hs1) dX6_writeLetter_9 ?_
  refine lv_iload_n hx hb dX6_writeLetter_10 rfl (lv_at hl 3 rfl) ?_
  have hs2 := hok.1
  have hok := hok.2
  refine g_cFp (g_runSN (As := [.int x3]) (rest := [.float (σ.2.1 ((o0 + 1) + 1) x4.toNatClampNeg)]) X (c_X9_crayonNeeded l G hG σ x3 hs2) ca_X9_crayonNeeded km_X6_56 rfl rfl ⟨Nat.le_of_ble_eq_true rfl, Nat.le_of_ble_eq_true rfl⟩ hP hS rfl hl.1 rfl (Nat.le_of_ble_eq_true rfl) ⟨Nat.le_of_ble_eq_true rfl, Nat.le_of_ble_eq_true rfl⟩ dX6_writeLetter_11) hS (fun H locs hP hS => ?_)
  have hs3 := hok.1
  have hok := hok.2
  refine lv_fsub hx hb dX6_writeLetter_14 hs3 ?_
  refine lv_fstore (lv' := [(5, .float (FP.fsub (σ.2.1 ((o0 + 1) + 1) x4.toNatClampNeg) (f_X9_crayonNeeded x3))), (0, .ref (G.2.1 o0)), (1, .int x1), (2, .int x2), (3, .int x3), (4, .int x4)]) hx hb dX6_writeLetter_15 hl (by decide) rfl (fun ls hl => ?_)
  refine lv_aload_n hx hb dX6_writeLetter_17 rfl (lv_at hl 1 rfl) ?_
  refine gg_6_0 (j := o0 + 1) rfl X hP ho0 kf_X6_12 dX6_writeLetter_18 ?_
  refine gg_2_0 (j := (o0 + 1) + 1) rfl X hP (tc_6_0 ho0) kf_X6_52 dX6_writeLetter_21 ?_
  refine lv_iload hx hb dX6_writeLetter_24 (lv_at hl 5 rfl) ?_
  refine lv_fload hx hb dX6_writeLetter_26 (lv_at hl 0 rfl) ?_
  have hs4 := hok.1
  have hok := hok.2
  refine g_fast X hP hS (tc_2_0 (tc_6_0 ho0)) (by rw [(lc_2_0 (tc_6_0 ho0))]; exact hs4) dX6_writeLetter_28 (fun H locs hP hS => ?_)
  refine g_name hP (fun q5 hq5 hP => ?_)
  have hf := bnd_go hq5 hf
  have hok := bnd_goP hq5 hok
  refine lv_aload_n hx hb dX6_writeLetter_29 rfl (lv_at hl 1 rfl) ?_
  refine gg_6_1 (j := o0 + 4) rfl X hP ho0 kf_X6_21 dX6_writeLetter_30 ?_
  refine lv_iconst (v := 0) hx hb dX6_writeLetter_33 (by decide) ?_
  refine lv_iload_n hx hb dX6_writeLetter_34 rfl (lv_at hl 2 rfl) ?_
  refine lv_iload_n hx hb dX6_writeLetter_35 rfl (lv_at hl 3 rfl) ?_
  refine lv_iload_n hx hb dX6_writeLetter_36 rfl (lv_at hl 4 rfl) ?_
  have hs6 := hok.1
  have hok := hok.2
  refine g_cI (g_runV (i := (o0 + 4)) (As := [.int (0 : Int32), .int x1, .int x2, .int x3]) (rest := []) X (c_X5_add l G hG q5 (o0 + 4) (tc_6_1 ho0) (0 : Int32) x1 x2 x3 hs6) ca_X5_add km_X6_60 rfl rfl ⟨Nat.le_of_ble_eq_true rfl, Nat.le_of_ble_eq_true rfl⟩ hP hS (ty_lt (tc_6_1 ho0)) (cell_5 (tc_6_1 ho0)) rfl rfl rfl hl.1 rfl (Nat.le_of_ble_eq_true rfl) ⟨Nat.le_of_ble_eq_true rfl, Nat.le_of_ble_eq_true rfl⟩ dX6_writeLetter_37) hS (fun q7 hq7 H locs hP hS => ?_)
  have hf := bnd_go hq7 hf
  have hok := bnd_goP hq7 hok
  refine lv_istore (lv' := [(6, .int q7.2), (5, .float (FP.fsub (σ.2.1 ((o0 + 1) + 1) x4.toNatClampNeg) (f_X9_crayonNeeded x3))), (0, .ref (G.2.1 o0)), (1, .int x1), (2, .int x2), (3, .int x3), (4, .int x4)]) hx hb dX6_writeLetter_40 hl (by decide) rfl (fun ls hl => ?_)
  refine lv_aload_n hx hb dX6_writeLetter_42 rfl (lv_at hl 2 rfl) ?_
  refine gg_6_1 (j := o0 + 4) rfl X hP ho0 kf_X6_21 dX6_writeLetter_43 ?_
  refine gg_5_7 (j := (o0 + 4) + 8) rfl X hP (tc_6_1 ho0) kf_X6_64 dX6_writeLetter_46 ?_
  refine lv_iload hx hb dX6_writeLetter_49 (lv_at hl 0 rfl) ?_
  refine lv_fload hx hb dX6_writeLetter_51 (lv_at hl 1 rfl) ?_
  refine lv_fconst1 hx hb dX6_writeLetter_53 ?_
  have hs8 := hok.1
  have hok := hok.2
  refine lv_fadd hx hb dX6_writeLetter_54 hs8 ?_
  refine lv_fload hx hb dX6_writeLetter_55 (lv_at hl 1 rfl) ?_
  refine lv_fconst1 hx hb dX6_writeLetter_57 ?_
  have hs9 := hok.1
  have hok := hok.2
  refine lv_fadd hx hb dX6_writeLetter_58 hs9 ?_
  refine lv_ldcf hx hb hown (hts _ kc_X6_67) dX6_writeLetter_59 ?_
  refine lv_iload_n hx hb dX6_writeLetter_61 rfl (lv_at hl 5 rfl) ?_
  refine lv_i2f hx hb dX6_writeLetter_62 ?_
  have hs10 := hok.1
  have hok := hok.2
  refine lv_fmul hx hb dX6_writeLetter_63 hs10 ?_
  have hs11 := hok.1
  have hok := hok.2
  refine lv_fadd hx hb dX6_writeLetter_64 hs11 ?_
  have hs12 := hok.1
  have hok := hok.2
  refine lv_fdiv hx hb dX6_writeLetter_65 hs12 ?_
  have hs13 := hok
  refine g_fast X hP hS (tc_5_7 (tc_6_1 ho0)) (by rw [(lc_5_7 (tc_6_1 ho0))]; exact hs13) dX6_writeLetter_66 (fun H locs hP hS => ?_)
  refine g_name hP (fun q14 hq14 hP => ?_)
  have hf := bnd_go hq14 hf
  refine lv_iload hx hb dX6_writeLetter_67 (lv_at hl 0 rfl) ?_
  exact g_iret X hr hlk hP hS hf dX6_writeLetter_69
def f_X6_wrapParcel (σ : St) (o0 : Nat) (x1 : Int32) (x2 : Int32) (x3 : Int32) (x4 : Int32) (x5 : Int32) : St × Int32 := (bnd (setF σ (o0 + 1) 4 (FP.fsub (σ.2.1 (o0 + 1) 4) (f_X9_stringNeeded x3 x4 x5))) (fun q3 => (bnd (f_X5_add q3 (o0 + 4) (1 : Int32) x1 x2 ((x3 + x4) + x5)) (fun q5 => (q5.1, q5.2)))))
def ok_X6_wrapParcel (σ : St) (o0 : Nat) (x1 : Int32) (x2 : Int32) (x3 : Int32) (x4 : Int32) (x5 : Int32) : Prop := (ok_X9_stringNeeded x3 x4 x5 ∧ (vf_n32 (FP.fsub (σ.2.1 (o0 + 1) 4) (f_X9_stringNeeded x3 x4 x5)) ∧ (bndP (setF σ (o0 + 1) 4 (FP.fsub (σ.2.1 (o0 + 1) 4) (f_X9_stringNeeded x3 x4 x5))) (fun q3 => ok_X5_add q3 (o0 + 4) (1 : Int32) x1 x2 ((x3 + x4) + x5)))))
abbrev rm_X6_wrapParcel : Room := { frames := 1, cells := 0, slots := 0, locals := 25 }
set_option maxHeartbeats 4000000 in
set_option maxRecDepth 100000 in
theorem c_X6_wrapParcel (l : Launch) (G : GE) (hG : Gok G) (σ : St) (o0 : Nat) (ho0 : tyOf o0 = 6) (x1 : Int32) (x2 : Int32) (x3 : Int32) (x4 : Int32) (x5 : Int32) (hok : ok_X6_wrapParcel σ o0 x1 x2 x3 x4 x5) : MtI l G yX6_wrapParcel cX6_wrapParcel 6 rm_X6_wrapParcel [.ref (G.2.1 o0), .int x1, .int x2, .int x3, .int x4, .int x5] σ (f_X6_wrapParcel σ o0 x1 x2 x3 x4 x5) := by
  generalize hf : f_X6_wrapParcel σ o0 x1 x2 x3 x4 x5 = fv
  rw [f_X6_wrapParcel] at hf
  rw [ok_X6_wrapParcel] at hok
  refine g_start hG (plainFor_of_name (by decide)) (Nat.le_of_ble_eq_true rfl) ?_
  intro p e s m args below meth c X hr hlk ls hl H locs hP hS
  have X : Cx G p s m args c cX6_wrapParcel 6 RX6 := X
  obtain ⟨hx, hb, hml, hown, hts, hK, hbs, hXW, -⟩ := id X
  have hl : lv_has ls 6 [(0, .ref (G.2.1 o0)), (1, .int x1), (2, .int x2), (3, .int x3), (4, .int x4), (5, .int x5)] := hl
  refine lv_aload_n hx hb dX6_wrapParcel_0 rfl (lv_at hl 0 rfl) ?_
  refine gg_6_0 (j := o0 + 1) rfl X hP ho0 kf_X6_12 dX6_wrapParcel_1 ?_
  refine lv_aload_n hx hb dX6_wrapParcel_4 rfl (lv_at hl 0 rfl) ?_
  refine gg_6_0 (j := o0 + 1) rfl X hP ho0 kf_X6_12 dX6_wrapParcel_5 ?_
  refine gg_2_4 X hP (tc_6_0 ho0) kf_X6_68 dX6_wrapParcel_8 ?_
  refine lv_iload_n hx hb dX6_wrapParcel_11 rfl (lv_at hl 3 rfl) ?_
  refine lv_iload hx hb dX6_wrapParcel_12 (lv_at hl 4 rfl) ?_
  refine lv_iload hx hb dX6_wrapParcel_14 (lv_at hl 5 rfl) ?_
  have hs1 := hok.1
  have hok := hok.2
  refine g_cFp (g_runSN (As := [.int x3, .int x4, .int x5]) (rest := [.float (σ.2.1 (o0 + 1) 4), .ref (G.2.1 (o0 + 1))]) X (c_X9_stringNeeded l G hG σ x3 x4 x5 hs1) ca_X9_stringNeeded km_X6_72 rfl rfl ⟨Nat.le_of_ble_eq_true rfl, Nat.le_of_ble_eq_true rfl⟩ hP hS rfl hl.1 rfl (Nat.le_of_ble_eq_true rfl) ⟨Nat.le_of_ble_eq_true rfl, Nat.le_of_ble_eq_true rfl⟩ dX6_wrapParcel_16) hS (fun H locs hP hS => ?_)
  have hs2 := hok.1
  have hok := hok.2
  refine lv_fsub hx hb dX6_wrapParcel_19 hs2 ?_
  refine gp_2_4 X hP hS (tc_6_0 ho0) kf_X6_68 dX6_wrapParcel_20 (fun H locs hP hS => ?_)
  refine g_name hP (fun q3 hq3 hP => ?_)
  have hf := bnd_go hq3 hf
  have hok := bnd_goP hq3 hok
  refine lv_aload_n hx hb dX6_wrapParcel_23 rfl (lv_at hl 0 rfl) ?_
  refine gg_6_1 (j := o0 + 4) rfl X hP ho0 kf_X6_21 dX6_wrapParcel_24 ?_
  refine lv_iconst (v := 1) hx hb dX6_wrapParcel_27 (by decide) ?_
  refine lv_iload_n hx hb dX6_wrapParcel_28 rfl (lv_at hl 1 rfl) ?_
  refine lv_iload_n hx hb dX6_wrapParcel_29 rfl (lv_at hl 2 rfl) ?_
  refine lv_iload_n hx hb dX6_wrapParcel_30 rfl (lv_at hl 3 rfl) ?_
  refine lv_iload hx hb dX6_wrapParcel_31 (lv_at hl 4 rfl) ?_
  refine lv_iadd hx hb dX6_wrapParcel_33 ?_
  refine lv_iload hx hb dX6_wrapParcel_34 (lv_at hl 5 rfl) ?_
  refine lv_iadd hx hb dX6_wrapParcel_36 ?_
  have hs4 := hok
  refine g_cI (g_runV (i := (o0 + 4)) (As := [.int (1 : Int32), .int x1, .int x2, .int ((x3 + x4) + x5)]) (rest := []) X (c_X5_add l G hG q3 (o0 + 4) (tc_6_1 ho0) (1 : Int32) x1 x2 ((x3 + x4) + x5) hs4) ca_X5_add km_X6_60 rfl rfl ⟨Nat.le_of_ble_eq_true rfl, Nat.le_of_ble_eq_true rfl⟩ hP hS (ty_lt (tc_6_1 ho0)) (cell_5 (tc_6_1 ho0)) rfl rfl rfl hl.1 rfl (Nat.le_of_ble_eq_true rfl) ⟨Nat.le_of_ble_eq_true rfl, Nat.le_of_ble_eq_true rfl⟩ dX6_wrapParcel_37) hS (fun q5 hq5 H locs hP hS => ?_)
  have hf := bnd_go hq5 hf
  exact g_iret X hr hlk hP hS hf dX6_wrapParcel_40
def f_X6_stampItem (σ : St) (o0 : Nat) (x1 : Int32) (x2 : Int32) : St × UInt32 := (bnd (setF σ ((o0 + 1) + 2) x2.toNatClampNeg (f_X9_softer (σ.2.1 ((o0 + 1) + 2) x2.toNatClampNeg))) (fun q5 => (bnd (setF q5 (o0 + 1) 5 (f_X9_drier (q5.2.1 (o0 + 1) 5))) (fun q7 => (bnd (setI q7 ((o0 + 4) + 5) x1.toNatClampNeg (1 : Int32)) (fun q9 => (bnd (setI q9 ((o0 + 4) + 7) x1.toNatClampNeg x2) (fun q11 => (q11, (f_X2_printNow σ (o0 + 1) x2))))))))))
def ok_X6_stampItem (σ : St) (o0 : Nat) (x1 : Int32) (x2 : Int32) : Prop := (ok_X2_printNow σ (o0 + 1) x2 ∧ (vp_in x2 5 ∧ (ok_X9_softer (σ.2.1 ((o0 + 1) + 2) x2.toNatClampNeg) ∧ (vp_in x2 5 ∧ (bndP (setF σ ((o0 + 1) + 2) x2.toNatClampNeg (f_X9_softer (σ.2.1 ((o0 + 1) + 2) x2.toNatClampNeg))) (fun q5 => (ok_X9_drier (q5.2.1 (o0 + 1) 5) ∧ (vp_in x1 20 ∧ vp_in x1 20))))))))
abbrev rm_X6_stampItem : Room := { frames := 2, cells := 0, slots := 0, locals := 42 }
set_option maxHeartbeats 4000000 in
set_option maxRecDepth 100000 in
theorem c_X6_stampItem (l : Launch) (G : GE) (hG : Gok G) (σ : St) (o0 : Nat) (ho0 : tyOf o0 = 6) (x1 : Int32) (x2 : Int32) (hok : ok_X6_stampItem σ o0 x1 x2) : MtF l G yX6_stampItem cX6_stampItem 4 rm_X6_stampItem [.ref (G.2.1 o0), .int x1, .int x2] σ (f_X6_stampItem σ o0 x1 x2) := by
  generalize hf : f_X6_stampItem σ o0 x1 x2 = fv
  rw [f_X6_stampItem] at hf
  rw [ok_X6_stampItem] at hok
  refine g_start hG (plainFor_of_name (by decide)) (Nat.le_of_ble_eq_true rfl) ?_
  intro p e s m args below meth c X hr hlk ls hl H locs hP hS
  have X : Cx G p s m args c cX6_stampItem 4 RX6 := X
  obtain ⟨hx, hb, hml, hown, hts, hK, hbs, hXW, -⟩ := id X
  have hl : lv_has ls 4 [(0, .ref (G.2.1 o0)), (1, .int x1), (2, .int x2)] := hl
  refine lv_aload_n hx hb dX6_stampItem_0 rfl (lv_at hl 0 rfl) ?_
  refine gg_6_0 (j := o0 + 1) rfl X hP ho0 kf_X6_12 dX6_stampItem_1 ?_
  refine lv_iload_n hx hb dX6_stampItem_4 rfl (lv_at hl 2 rfl) ?_
  have hs1 := hok.1
  have hok := hok.2
  refine g_cFp (g_runV (i := (o0 + 1)) (As := [.int x2]) (rest := []) X (c_X2_printNow l G hG σ (o0 + 1) (tc_6_0 ho0) x2 hs1) ca_X2_printNow km_X6_76 rfl rfl ⟨Nat.le_of_ble_eq_true rfl, Nat.le_of_ble_eq_true rfl⟩ hP hS (ty_lt (tc_6_0 ho0)) (cell_2 (tc_6_0 ho0)) rfl rfl rfl hl.1 rfl (Nat.le_of_ble_eq_true rfl) ⟨Nat.le_of_ble_eq_true rfl, Nat.le_of_ble_eq_true rfl⟩ dX6_stampItem_5) hS (fun H locs hP hS => ?_)
  refine lv_fstore_n (lv' := [(3, .float (f_X2_printNow σ (o0 + 1) x2)), (0, .ref (G.2.1 o0)), (1, .int x1), (2, .int x2)]) hx hb dX6_stampItem_8 rfl hl (by decide) rfl (fun ls hl => ?_)
  refine lv_aload_n hx hb dX6_stampItem_9 rfl (lv_at hl 1 rfl) ?_
  refine gg_6_0 (j := o0 + 1) rfl X hP ho0 kf_X6_12 dX6_stampItem_10 ?_
  refine gg_2_1 (j := (o0 + 1) + 2) rfl X hP (tc_6_0 ho0) kf_X6_79 dX6_stampItem_13 ?_
  refine lv_iload_n hx hb dX6_stampItem_16 rfl (lv_at hl 3 rfl) ?_
  refine lv_aload_n hx hb dX6_stampItem_17 rfl (lv_at hl 1 rfl) ?_
  refine gg_6_0 (j := o0 + 1) rfl X hP ho0 kf_X6_12 dX6_stampItem_18 ?_
  refine gg_2_1 (j := (o0 + 1) + 2) rfl X hP (tc_6_0 ho0) kf_X6_79 dX6_stampItem_21 ?_
  refine lv_iload_n hx hb dX6_stampItem_24 rfl (lv_at hl 3 rfl) ?_
  have hs2 := hok.1
  have hok := hok.2
  refine g_fald X hP (tc_2_1 (tc_6_0 ho0)) (by rw [(lc_2_1 (tc_6_0 ho0))]; exact hs2) dX6_stampItem_25 ?_
  have hs3 := hok.1
  have hok := hok.2
  refine g_cFp (g_runSN (As := [.float (σ.2.1 ((o0 + 1) + 2) x2.toNatClampNeg)]) (rest := [.int x2, .ref (G.2.1 ((o0 + 1) + 2))]) X (c_X9_softer l G hG σ (σ.2.1 ((o0 + 1) + 2) x2.toNatClampNeg) hs3) ca_X9_softer km_X6_82 rfl rfl ⟨Nat.le_of_ble_eq_true rfl, Nat.le_of_ble_eq_true rfl⟩ hP hS rfl hl.1 rfl (Nat.le_of_ble_eq_true rfl) ⟨Nat.le_of_ble_eq_true rfl, Nat.le_of_ble_eq_true rfl⟩ dX6_stampItem_26) hS (fun H locs hP hS => ?_)
  have hs4 := hok.1
  have hok := hok.2
  refine g_fast X hP hS (tc_2_1 (tc_6_0 ho0)) (by rw [(lc_2_1 (tc_6_0 ho0))]; exact hs4) dX6_stampItem_29 (fun H locs hP hS => ?_)
  refine g_name hP (fun q5 hq5 hP => ?_)
  have hf := bnd_go hq5 hf
  have hok := bnd_goP hq5 hok
  refine lv_aload_n hx hb dX6_stampItem_30 rfl (lv_at hl 1 rfl) ?_
  refine gg_6_0 (j := o0 + 1) rfl X hP ho0 kf_X6_12 dX6_stampItem_31 ?_
  refine lv_aload_n hx hb dX6_stampItem_34 rfl (lv_at hl 1 rfl) ?_
  refine gg_6_0 (j := o0 + 1) rfl X hP ho0 kf_X6_12 dX6_stampItem_35 ?_
  refine gg_2_5 X hP (tc_6_0 ho0) kf_X6_86 dX6_stampItem_38 ?_
  have hs6 := hok.1
  have hok := hok.2
  refine g_cFp (g_runSN (As := [.float (q5.2.1 (o0 + 1) 5)]) (rest := [.ref (G.2.1 (o0 + 1))]) X (c_X9_drier l G hG q5 (q5.2.1 (o0 + 1) 5) hs6) ca_X9_drier km_X6_89 rfl rfl ⟨Nat.le_of_ble_eq_true rfl, Nat.le_of_ble_eq_true rfl⟩ hP hS rfl hl.1 rfl (Nat.le_of_ble_eq_true rfl) ⟨Nat.le_of_ble_eq_true rfl, Nat.le_of_ble_eq_true rfl⟩ dX6_stampItem_41) hS (fun H locs hP hS => ?_)
  refine gp_2_5 X hP hS (tc_6_0 ho0) kf_X6_86 dX6_stampItem_44 (fun H locs hP hS => ?_)
  refine g_name hP (fun q7 hq7 hP => ?_)
  have hf := bnd_go hq7 hf
  refine lv_aload_n hx hb dX6_stampItem_47 rfl (lv_at hl 1 rfl) ?_
  refine gg_6_1 (j := o0 + 4) rfl X hP ho0 kf_X6_21 dX6_stampItem_48 ?_
  refine gg_5_4 (j := (o0 + 4) + 5) rfl X hP (tc_6_1 ho0) kf_X6_92 dX6_stampItem_51 ?_
  refine lv_iload_n hx hb dX6_stampItem_54 rfl (lv_at hl 2 rfl) ?_
  refine lv_iconst (v := 1) hx hb dX6_stampItem_55 (by decide) ?_
  have hs8 := hok.1
  have hok := hok.2
  refine g_iast X hP hS (tc_5_4 (tc_6_1 ho0)) (by rw [(lc_5_4 (tc_6_1 ho0))]; exact hs8) dX6_stampItem_56 (fun H locs hP hS => ?_)
  refine g_name hP (fun q9 hq9 hP => ?_)
  have hf := bnd_go hq9 hf
  refine lv_aload_n hx hb dX6_stampItem_57 rfl (lv_at hl 1 rfl) ?_
  refine gg_6_1 (j := o0 + 4) rfl X hP ho0 kf_X6_21 dX6_stampItem_58 ?_
  refine gg_5_6 (j := (o0 + 4) + 7) rfl X hP (tc_6_1 ho0) kf_X6_96 dX6_stampItem_61 ?_
  refine lv_iload_n hx hb dX6_stampItem_64 rfl (lv_at hl 2 rfl) ?_
  refine lv_iload_n hx hb dX6_stampItem_65 rfl (lv_at hl 3 rfl) ?_
  have hs10 := hok
  refine g_iast X hP hS (tc_5_6 (tc_6_1 ho0)) (by rw [(lc_5_6 (tc_6_1 ho0))]; exact hs10) dX6_stampItem_66 (fun H locs hP hS => ?_)
  refine g_name hP (fun q11 hq11 hP => ?_)
  have hf := bnd_go hq11 hf
  refine lv_fload_n hx hb dX6_stampItem_67 rfl (lv_at hl 0 rfl) ?_
  exact g_fret X hr hlk hP hS hf dX6_stampItem_68
def f_X6_shelveItem (σ : St) (o0 : Nat) (x1 : Int32) (x2 : Int32) : St × Int32 := (if (f_X8_lowestFree σ (o0 + 13) (σ.1 ((o0 + 4) + 3) x1.toNatClampNeg) x2) = (-1 : Int32) then (σ, (f_X8_lowestFree σ (o0 + 13) (σ.1 ((o0 + 4) + 3) x1.toNatClampNeg) x2)) else (bnd (f_X8_put σ (o0 + 13) (σ.1 ((o0 + 4) + 3) x1.toNatClampNeg) x2 (f_X8_lowestFree σ (o0 + 13) (σ.1 ((o0 + 4) + 3) x1.toNatClampNeg) x2) x1) (fun q4 => (bnd (setI q4 ((o0 + 4) + 5) x1.toNatClampNeg (2 : Int32)) (fun q6 => (bnd (setI q6 ((o0 + 4) + 6) x1.toNatClampNeg (f_X8_lowestFree σ (o0 + 13) (σ.1 ((o0 + 4) + 3) x1.toNatClampNeg) x2)) (fun q8 => (q8, (f_X8_lowestFree σ (o0 + 13) (σ.1 ((o0 + 4) + 3) x1.toNatClampNeg) x2)))))))))
def ok_X6_shelveItem (σ : St) (o0 : Nat) (x1 : Int32) (x2 : Int32) : Prop := (vp_in x1 20 ∧ (ok_X8_lowestFree σ (o0 + 13) (σ.1 ((o0 + 4) + 3) x1.toNatClampNeg) x2 ∧ (((f_X8_lowestFree σ (o0 + 13) (σ.1 ((o0 + 4) + 3) x1.toNatClampNeg) x2) = (-1 : Int32) → True) ∧ (¬ (f_X8_lowestFree σ (o0 + 13) (σ.1 ((o0 + 4) + 3) x1.toNatClampNeg) x2) = (-1 : Int32) → (ok_X8_put σ (o0 + 13) (σ.1 ((o0 + 4) + 3) x1.toNatClampNeg) x2 (f_X8_lowestFree σ (o0 + 13) (σ.1 ((o0 + 4) + 3) x1.toNatClampNeg) x2) x1 ∧ (vp_in x1 20 ∧ vp_in x1 20))))))
abbrev rm_X6_shelveItem : Room := { frames := 3, cells := 0, slots := 0, locals := 68 }
set_option maxHeartbeats 4000000 in
set_option maxRecDepth 100000 in
theorem c_X6_shelveItem (l : Launch) (G : GE) (hG : Gok G) (σ : St) (o0 : Nat) (ho0 : tyOf o0 = 6) (x1 : Int32) (x2 : Int32) (hok : ok_X6_shelveItem σ o0 x1 x2) : MtI l G yX6_shelveItem cX6_shelveItem 5 rm_X6_shelveItem [.ref (G.2.1 o0), .int x1, .int x2] σ (f_X6_shelveItem σ o0 x1 x2) := by
  generalize hf : f_X6_shelveItem σ o0 x1 x2 = fv
  rw [f_X6_shelveItem] at hf
  rw [ok_X6_shelveItem] at hok
  refine g_start hG (plainFor_of_name (by decide)) (Nat.le_of_ble_eq_true rfl) ?_
  intro p e s m args below meth c X hr hlk ls hl H locs hP hS
  have X : Cx G p s m args c cX6_shelveItem 5 RX6 := X
  obtain ⟨hx, hb, hml, hown, hts, hK, hbs, hXW, -⟩ := id X
  have hl : lv_has ls 5 [(0, .ref (G.2.1 o0)), (1, .int x1), (2, .int x2)] := hl
  refine lv_aload_n hx hb dX6_shelveItem_0 rfl (lv_at hl 0 rfl) ?_
  refine gg_6_1 (j := o0 + 4) rfl X hP ho0 kf_X6_21 dX6_shelveItem_1 ?_
  refine gg_5_2 (j := (o0 + 4) + 3) rfl X hP (tc_6_1 ho0) kf_X6_99 dX6_shelveItem_4 ?_
  refine lv_iload_n hx hb dX6_shelveItem_7 rfl (lv_at hl 1 rfl) ?_
  have hs1 := hok.1
  have hok := hok.2
  refine g_iald X hP (tc_5_2 (tc_6_1 ho0)) (by rw [(lc_5_2 (tc_6_1 ho0))]; exact hs1) dX6_shelveItem_8 ?_
  refine lv_istore_n (lv' := [(3, .int (σ.1 ((o0 + 4) + 3) x1.toNatClampNeg)), (0, .ref (G.2.1 o0)), (1, .int x1), (2, .int x2)]) hx hb dX6_shelveItem_9 rfl hl (by decide) rfl (fun ls hl => ?_)
  refine lv_aload_n hx hb dX6_shelveItem_10 rfl (lv_at hl 1 rfl) ?_
  refine gg_6_2 (j := o0 + 13) rfl X hP ho0 kf_X6_28 dX6_shelveItem_11 ?_
  refine lv_iload_n hx hb dX6_shelveItem_14 rfl (lv_at hl 0 rfl) ?_
  refine lv_iload_n hx hb dX6_shelveItem_15 rfl (lv_at hl 3 rfl) ?_
  have hs2 := hok.1
  have hok := hok.2
  refine g_cIp (g_runV (i := (o0 + 13)) (As := [.int (σ.1 ((o0 + 4) + 3) x1.toNatClampNeg), .int x2]) (rest := []) X (c_X8_lowestFree l G hG σ (o0 + 13) (tc_6_2 ho0) (σ.1 ((o0 + 4) + 3) x1.toNatClampNeg) x2 hs2) ca_X8_lowestFree km_X6_102 rfl rfl ⟨Nat.le_of_ble_eq_true rfl, Nat.le_of_ble_eq_true rfl⟩ hP hS (ty_lt (tc_6_2 ho0)) (cell_8 (tc_6_2 ho0)) rfl rfl rfl hl.1 rfl (Nat.le_of_ble_eq_true rfl) ⟨Nat.le_of_ble_eq_true rfl, Nat.le_of_ble_eq_true rfl⟩ dX6_shelveItem_16) hS (fun H locs hP hS => ?_)
  refine lv_istore (lv' := [(4, .int (f_X8_lowestFree σ (o0 + 13) (σ.1 ((o0 + 4) + 3) x1.toNatClampNeg) x2)), (3, .int (σ.1 ((o0 + 4) + 3) x1.toNatClampNeg)), (0, .ref (G.2.1 o0)), (1, .int x1), (2, .int x2)]) hx hb dX6_shelveItem_19 hl (by decide) rfl (fun ls hl => ?_)
  refine lv_iload hx hb dX6_shelveItem_21 (lv_at hl 0 rfl) ?_
  refine lv_iconst (v := -1) hx hb dX6_shelveItem_23 (by decide) ?_
  refine lv_icmp_eq (tgt := 60) hx hb dX6_shelveItem_24 (by decide) (fun hc => ?_) (fun hc => ?_)
  · have hf := ite_t hc hf
    refine lv_iload hx hb dX6_shelveItem_60 (lv_at hl 0 rfl) ?_
    exact g_iret X hr hlk hP hS hf dX6_shelveItem_62
  · have hf := ite_f hc hf
    have hok := hok.2 hc
    refine lv_aload_n hx hb dX6_shelveItem_27 rfl (lv_at hl 2 rfl) ?_
    refine gg_6_2 (j := o0 + 13) rfl X hP ho0 kf_X6_28 dX6_shelveItem_28 ?_
    refine lv_iload_n hx hb dX6_shelveItem_31 rfl (lv_at hl 1 rfl) ?_
    refine lv_iload_n hx hb dX6_shelveItem_32 rfl (lv_at hl 4 rfl) ?_
    refine lv_iload hx hb dX6_shelveItem_33 (lv_at hl 0 rfl) ?_
    refine lv_iload_n hx hb dX6_shelveItem_35 rfl (lv_at hl 3 rfl) ?_
    have hs3 := hok.1
    have hok := hok.2
    refine g_cV (g_runV (i := (o0 + 13)) (As := [.int (σ.1 ((o0 + 4) + 3) x1.toNatClampNeg), .int x2, .int (f_X8_lowestFree σ (o0 + 13) (σ.1 ((o0 + 4) + 3) x1.toNatClampNeg) x2), .int x1]) (rest := []) X (c_X8_put l G hG σ (o0 + 13) (tc_6_2 ho0) (σ.1 ((o0 + 4) + 3) x1.toNatClampNeg) x2 (f_X8_lowestFree σ (o0 + 13) (σ.1 ((o0 + 4) + 3) x1.toNatClampNeg) x2) x1 hs3) ca_X8_put km_X6_106 rfl rfl ⟨Nat.le_of_ble_eq_true rfl, Nat.le_of_ble_eq_true rfl⟩ hP hS (ty_lt (tc_6_2 ho0)) (cell_8 (tc_6_2 ho0)) rfl rfl rfl hl.1 rfl (Nat.le_of_ble_eq_true rfl) ⟨Nat.le_of_ble_eq_true rfl, Nat.le_of_ble_eq_true rfl⟩ dX6_shelveItem_36) hS (fun q4 hq4 H locs hP hS => ?_)
    have hf := bnd_go hq4 hf
    refine lv_aload_n hx hb dX6_shelveItem_39 rfl (lv_at hl 2 rfl) ?_
    refine gg_6_1 (j := o0 + 4) rfl X hP ho0 kf_X6_21 dX6_shelveItem_40 ?_
    refine gg_5_4 (j := (o0 + 4) + 5) rfl X hP (tc_6_1 ho0) kf_X6_92 dX6_shelveItem_43 ?_
    refine lv_iload_n hx hb dX6_shelveItem_46 rfl (lv_at hl 3 rfl) ?_
    refine lv_iconst (v := 2) hx hb dX6_shelveItem_47 (by decide) ?_
    have hs5 := hok.1
    have hok := hok.2
    refine g_iast X hP hS (tc_5_4 (tc_6_1 ho0)) (by rw [(lc_5_4 (tc_6_1 ho0))]; exact hs5) dX6_shelveItem_48 (fun H locs hP hS => ?_)
    refine g_name hP (fun q6 hq6 hP => ?_)
    have hf := bnd_go hq6 hf
    refine lv_aload_n hx hb dX6_shelveItem_49 rfl (lv_at hl 2 rfl) ?_
    refine gg_6_1 (j := o0 + 4) rfl X hP ho0 kf_X6_21 dX6_shelveItem_50 ?_
    refine gg_5_5 (j := (o0 + 4) + 6) rfl X hP (tc_6_1 ho0) kf_X6_110 dX6_shelveItem_53 ?_
    refine lv_iload_n hx hb dX6_shelveItem_56 rfl (lv_at hl 3 rfl) ?_
    refine lv_iload hx hb dX6_shelveItem_57 (lv_at hl 0 rfl) ?_
    have hs7 := hok
    refine g_iast X hP hS (tc_5_5 (tc_6_1 ho0)) (by rw [(lc_5_5 (tc_6_1 ho0))]; exact hs7) dX6_shelveItem_59 (fun H locs hP hS => ?_)
    refine g_name hP (fun q8 hq8 hP => ?_)
    have hf := bnd_go hq8 hf
    refine lv_iload hx hb dX6_shelveItem_60 (lv_at hl 0 rfl) ?_
    exact g_iret X hr hlk hP hS hf dX6_shelveItem_62
def f_X6_takeFrom (σ : St) (o0 : Nat) (x1 : Int32) (x2 : Int32) (x3 : Int32) : St × Bool := (if (f_X8_itemAt σ (o0 + 13) x1 x2 x3) = (-1 : Int32) then (σ, false) else (bnd (f_X8_put σ (o0 + 13) x1 x2 x3 (-1 : Int32)) (fun q3 => (bnd (f_X5_leaveShelf q3 (o0 + 4) (f_X8_itemAt σ (o0 + 13) x1 x2 x3) (3 : Int32)) (fun q5 => (if x2 = 0 then (bnd (setI q5 ((o0 + 13) + 2) x1.toNatClampNeg ((q5.1 ((o0 + 13) + 2) x1.toNatClampNeg) + (1 : Int32))) (fun q8 => (q8, true))) else (q5, true)))))))
def ok_X6_takeFrom (σ : St) (o0 : Nat) (x1 : Int32) (x2 : Int32) (x3 : Int32) : Prop := (ok_X8_itemAt σ (o0 + 13) x1 x2 x3 ∧ (((f_X8_itemAt σ (o0 + 13) x1 x2 x3) = (-1 : Int32) → True) ∧ (¬ (f_X8_itemAt σ (o0 + 13) x1 x2 x3) = (-1 : Int32) → (ok_X8_put σ (o0 + 13) x1 x2 x3 (-1 : Int32) ∧ (bndP (f_X8_put σ (o0 + 13) x1 x2 x3 (-1 : Int32)) (fun q3 => (ok_X5_leaveShelf q3 (o0 + 4) (f_X8_itemAt σ (o0 + 13) x1 x2 x3) (3 : Int32) ∧ ((x2 = 0 → (vp_in x1 6 ∧ vp_in x1 6)) ∧ (¬ x2 = 0 → True)))))))))
abbrev rm_X6_takeFrom : Room := { frames := 2, cells := 0, slots := 0, locals := 46 }
set_option maxHeartbeats 4000000 in
set_option maxRecDepth 100000 in
theorem c_X6_takeFrom (l : Launch) (G : GE) (hG : Gok G) (σ : St) (o0 : Nat) (ho0 : tyOf o0 = 6) (x1 : Int32) (x2 : Int32) (x3 : Int32) (hok : ok_X6_takeFrom σ o0 x1 x2 x3) : MtZ l G yX6_takeFrom cX6_takeFrom 5 rm_X6_takeFrom [.ref (G.2.1 o0), .int x1, .int x2, .int x3] σ (f_X6_takeFrom σ o0 x1 x2 x3) := by
  generalize hf : f_X6_takeFrom σ o0 x1 x2 x3 = fv
  rw [f_X6_takeFrom] at hf
  rw [ok_X6_takeFrom] at hok
  refine g_start hG (plainFor_of_name (by decide)) (Nat.le_of_ble_eq_true rfl) ?_
  intro p e s m args below meth c X hr hlk ls hl H locs hP hS
  have X : Cx G p s m args c cX6_takeFrom 5 RX6 := X
  obtain ⟨hx, hb, hml, hown, hts, hK, hbs, hXW, -⟩ := id X
  have hl : lv_has ls 5 [(0, .ref (G.2.1 o0)), (1, .int x1), (2, .int x2), (3, .int x3)] := hl
  refine lv_aload_n hx hb dX6_takeFrom_0 rfl (lv_at hl 0 rfl) ?_
  refine gg_6_2 (j := o0 + 13) rfl X hP ho0 kf_X6_28 dX6_takeFrom_1 ?_
  refine lv_iload_n hx hb dX6_takeFrom_4 rfl (lv_at hl 1 rfl) ?_
  refine lv_iload_n hx hb dX6_takeFrom_5 rfl (lv_at hl 2 rfl) ?_
  refine lv_iload_n hx hb dX6_takeFrom_6 rfl (lv_at hl 3 rfl) ?_
  have hs1 := hok.1
  have hok := hok.2
  refine g_cIp (g_runV (i := (o0 + 13)) (As := [.int x1, .int x2, .int x3]) (rest := []) X (c_X8_itemAt l G hG σ (o0 + 13) (tc_6_2 ho0) x1 x2 x3 hs1) ca_X8_itemAt km_X6_121 rfl rfl ⟨Nat.le_of_ble_eq_true rfl, Nat.le_of_ble_eq_true rfl⟩ hP hS (ty_lt (tc_6_2 ho0)) (cell_8 (tc_6_2 ho0)) rfl rfl rfl hl.1 rfl (Nat.le_of_ble_eq_true rfl) ⟨Nat.le_of_ble_eq_true rfl, Nat.le_of_ble_eq_true rfl⟩ dX6_takeFrom_7) hS (fun H locs hP hS => ?_)
  refine lv_istore (lv' := [(4, .int (f_X8_itemAt σ (o0 + 13) x1 x2 x3)), (0, .ref (G.2.1 o0)), (1, .int x1), (2, .int x2), (3, .int x3)]) hx hb dX6_takeFrom_10 hl (by decide) rfl (fun ls hl => ?_)
  refine lv_iload hx hb dX6_takeFrom_12 (lv_at hl 0 rfl) ?_
  refine lv_iconst (v := -1) hx hb dX6_takeFrom_14 (by decide) ?_
  refine lv_icmp_ne (tgt := 20) hx hb dX6_takeFrom_15 (by decide) (fun hc => ?_) (fun hc => ?_)
  · have hf := ite_f hc hf
    have hok := hok.2 hc
    refine lv_aload_n hx hb dX6_takeFrom_20 rfl (lv_at hl 1 rfl) ?_
    refine gg_6_2 (j := o0 + 13) rfl X hP ho0 kf_X6_28 dX6_takeFrom_21 ?_
    refine lv_iload_n hx hb dX6_takeFrom_24 rfl (lv_at hl 2 rfl) ?_
    refine lv_iload_n hx hb dX6_takeFrom_25 rfl (lv_at hl 3 rfl) ?_
    refine lv_iload_n hx hb dX6_takeFrom_26 rfl (lv_at hl 4 rfl) ?_
    refine lv_iconst (v := -1) hx hb dX6_takeFrom_27 (by decide) ?_
    have hs2 := hok.1
    have hok := hok.2
    refine g_cV (g_runV (i := (o0 + 13)) (As := [.int x1, .int x2, .int x3, .int (-1 : Int32)]) (rest := []) X (c_X8_put l G hG σ (o0 + 13) (tc_6_2 ho0) x1 x2 x3 (-1 : Int32) hs2) ca_X8_put km_X6_106 rfl rfl ⟨Nat.le_of_ble_eq_true rfl, Nat.le_of_ble_eq_true rfl⟩ hP hS (ty_lt (tc_6_2 ho0)) (cell_8 (tc_6_2 ho0)) rfl rfl rfl hl.1 rfl (Nat.le_of_ble_eq_true rfl) ⟨Nat.le_of_ble_eq_true rfl, Nat.le_of_ble_eq_true rfl⟩ dX6_takeFrom_28) hS (fun q3 hq3 H locs hP hS => ?_)
    have hf := bnd_go hq3 hf
    have hok := bnd_goP hq3 hok
    refine lv_aload_n hx hb dX6_takeFrom_31 rfl (lv_at hl 1 rfl) ?_
    refine gg_6_1 (j := o0 + 4) rfl X hP ho0 kf_X6_21 dX6_takeFrom_32 ?_
    refine lv_iload hx hb dX6_takeFrom_35 (lv_at hl 0 rfl) ?_
    refine lv_iconst (v := 3) hx hb dX6_takeFrom_37 (by decide) ?_
    have hs4 := hok.1
    have hok := hok.2
    refine g_cV (g_runV (i := (o0 + 4)) (As := [.int (f_X8_itemAt σ (o0 + 13) x1 x2 x3), .int (3 : Int32)]) (rest := []) X (c_X5_leaveShelf l G hG q3 (o0 + 4) (tc_6_1 ho0) (f_X8_itemAt σ (o0 + 13) x1 x2 x3) (3 : Int32) hs4) ca_X5_leaveShelf km_X6_125 rfl rfl ⟨Nat.le_of_ble_eq_true rfl, Nat.le_of_ble_eq_true rfl⟩ hP hS (ty_lt (tc_6_1 ho0)) (cell_5 (tc_6_1 ho0)) rfl rfl rfl hl.1 rfl (Nat.le_of_ble_eq_true rfl) ⟨Nat.le_of_ble_eq_true rfl, Nat.le_of_ble_eq_true rfl⟩ dX6_takeFrom_38) hS (fun q5 hq5 H locs hP hS => ?_)
    have hf := bnd_go hq5 hf
    refine lv_iload_n hx hb dX6_takeFrom_41 rfl (lv_at hl 3 rfl) ?_
    refine lv_if_ne (tgt := 58) hx hb dX6_takeFrom_42 (by decide) (fun hc => ?_) (fun hc => ?_)
    · have hf := ite_f hc hf
      refine lv_iconst (v := 1) hx hb dX6_takeFrom_58 (by decide) ?_
      exact g_zret (b := true) X hr hlk rfl hP hS hf dX6_takeFrom_59
    · have hf := ite_t hc hf
      have hok := hok.1 hc
      refine lv_aload_n hx hb dX6_takeFrom_45 rfl (lv_at hl 1 rfl) ?_
      refine gg_6_2 (j := o0 + 13) rfl X hP ho0 kf_X6_28 dX6_takeFrom_46 ?_
      refine gg_8_1 (j := (o0 + 13) + 2) rfl X hP (tc_6_2 ho0) kf_X6_129 dX6_takeFrom_49 ?_
      refine lv_iload_n hx hb dX6_takeFrom_52 rfl (lv_at hl 2 rfl) ?_
      refine lv_dup2_11 hx hb dX6_takeFrom_53 rfl rfl ?_
      have hs6 := hok.1
      have hok := hok.2
      refine g_iald X hP (tc_8_1 (tc_6_2 ho0)) (by rw [(lc_8_1 (tc_6_2 ho0))]; exact hs6) dX6_takeFrom_54 ?_
      refine lv_iconst (v := 1) hx hb dX6_takeFrom_55 (by decide) ?_
      refine lv_iadd hx hb dX6_takeFrom_56 ?_
      have hs7 := hok
      refine g_iast X hP hS (tc_8_1 (tc_6_2 ho0)) (by rw [(lc_8_1 (tc_6_2 ho0))]; exact hs7) dX6_takeFrom_57 (fun H locs hP hS => ?_)
      refine g_name hP (fun q8 hq8 hP => ?_)
      have hf := bnd_go hq8 hf
      refine lv_iconst (v := 1) hx hb dX6_takeFrom_58 (by decide) ?_
      exact g_zret (b := true) X hr hlk rfl hP hS hf dX6_takeFrom_59
  · have hf := ite_t hc hf
    refine lv_iconst (v := 0) hx hb dX6_takeFrom_18 (by decide) ?_
    exact g_zret (b := false) X hr hlk rfl hP hS hf dX6_takeFrom_19
def fX6_takeAll_L12 (o0 : Nat) (k4 : St → Int32 → Int32 → Int32 → St × Int32) : Nat → St → Int32 → Int32 → Int32 → Int32 → St × Int32
  | 0, σ, _, _, _, _ => (σ, 0)
  | n12 + 1, σ, x1, x2, x3, x4 => (if (f_X8_holesIn x3) ≤ x4 then (k4 σ x1 x2 (x3 + (1 : Int32))) else (bnd (f_X6_takeFrom σ o0 x1 x3 x4) (fun q2 => (if q2.2 = true then (fX6_takeAll_L12 o0 k4 n12 q2.1 x1 (x2 + (1 : Int32)) x3 (x4 + (1 : Int32))) else (fX6_takeAll_L12 o0 k4 n12 q2.1 x1 x2 x3 (x4 + (1 : Int32)))))))
def okX6_takeAll_L12 (o0 : Nat) (k4 : St → Int32 → Int32 → Int32 → Prop) : Nat → St → Int32 → Int32 → Int32 → Int32 → Prop
  | 0, _, _, _, _, _ => False
  | n12 + 1, σ, x1, x2, x3, x4 => (((f_X8_holesIn x3) ≤ x4 → (k4 σ x1 x2 (x3 + (1 : Int32)))) ∧ (¬ (f_X8_holesIn x3) ≤ x4 → (ok_X6_takeFrom σ o0 x1 x3 x4 ∧ (bndP (f_X6_takeFrom σ o0 x1 x3 x4) (fun q2 => ((q2.2 = true → (okX6_takeAll_L12 o0 k4 n12 q2.1 x1 (x2 + (1 : Int32)) x3 (x4 + (1 : Int32)))) ∧ (q2.2 = false → (okX6_takeAll_L12 o0 k4 n12 q2.1 x1 x2 x3 (x4 + (1 : Int32))))))))))
def fX6_takeAll_L4 (o0 : Nat) : Nat → St → Int32 → Int32 → Int32 → St × Int32
  | 0, σ, _, _, _ => (σ, 0)
  | n4 + 1, σ, x1, x2, x3 => (if (1 : Int32) < x3 then (σ, x2) else (fX6_takeAll_L12 o0 (fun σ x1 x2 x3 => fX6_takeAll_L4 o0 n4 σ x1 x2 x3) 2000 σ x1 x2 x3 (0 : Int32)))
def okX6_takeAll_L4 (o0 : Nat) : Nat → St → Int32 → Int32 → Int32 → Prop
  | 0, _, _, _, _ => False
  | n4 + 1, σ, x1, x2, x3 => (((1 : Int32) < x3 → True) ∧ (¬ (1 : Int32) < x3 → (okX6_takeAll_L12 o0 (fun σ x1 x2 x3 => okX6_takeAll_L4 o0 n4 σ x1 x2 x3) 2000 σ x1 x2 x3 (0 : Int32))))
def f_X6_takeAll (σ : St) (o0 : Nat) (x1 : Int32) : St × Int32 := (fX6_takeAll_L4 o0 2000 σ x1 (0 : Int32) (0 : Int32))
def ok_X6_takeAll (σ : St) (o0 : Nat) (x1 : Int32) : Prop := (okX6_takeAll_L4 o0 2000 σ x1 (0 : Int32) (0 : Int32))
abbrev rm_X6_takeAll : Room := { frames := 3, cells := 0, slots := 0, locals := 70 }
set_option maxHeartbeats 4000000 in
set_option maxRecDepth 100000 in
theorem c_X6_takeAll (l : Launch) (G : GE) (hG : Gok G) (σ : St) (o0 : Nat) (ho0 : tyOf o0 = 6) (x1 : Int32) (hok : ok_X6_takeAll σ o0 x1) : MtI l G yX6_takeAll cX6_takeAll 5 rm_X6_takeAll [.ref (G.2.1 o0), .int x1] σ (f_X6_takeAll σ o0 x1) := by
  generalize hf : f_X6_takeAll σ o0 x1 = fv
  rw [f_X6_takeAll] at hf
  rw [ok_X6_takeAll] at hok
  refine g_start hG (plainFor_of_name (by decide)) (Nat.le_of_ble_eq_true rfl) ?_
  intro p e s m args below meth c X hr hlk ls hl H locs hP hS
  have X : Cx G p s m args c cX6_takeAll 5 RX6 := X
  obtain ⟨hx, hb, hml, hown, hts, hK, hbs, hXW, -⟩ := id X
  have hl : lv_has ls 5 [(0, .ref (G.2.1 o0)), (1, .int x1)] := hl
  refine lv_iconst (v := 0) hx hb dX6_takeAll_0 (by decide) ?_
  refine lv_istore_n (lv' := [(2, .int (0 : Int32)), (0, .ref (G.2.1 o0)), (1, .int x1)]) hx hb dX6_takeAll_1 rfl hl (by decide) rfl (fun ls hl => ?_)
  refine lv_iconst (v := 0) hx hb dX6_takeAll_2 (by decide) ?_
  refine lv_istore_n (lv' := [(3, .int (0 : Int32)), (2, .int (0 : Int32)), (0, .ref (G.2.1 o0)), (1, .int x1)]) hx hb dX6_takeAll_3 rfl hl (by decide) rfl (fun ls hl => ?_)
  have K4 : ∀ (n4 : Nat) (σ : St) (x1 : Int32) (x2 : Int32) (x3 : Int32), okX6_takeAll_L4 o0 n4 σ x1 x2 x3 → fX6_takeAll_L4 o0 n4 σ x1 x2 x3 = fv → ∀ (H : Heap) (locs : List Loc), va_P G.1 vcl (wl G σ) H → va_S (GA G) s.heap H locs → ∀ (ls : Array Slot), lv_has ls 5 [(0, .ref (G.2.1 o0)), (1, .int x1), (2, .int x2), (3, .int x3)] → W p l e rm_X6_takeAll s m args below meth c H locs 0 0 (MQ below (va_Qi (fun r u => (u, r) = fv) (PB G) (GA G)) args s 0 0 (GA G)) (F0 m 4 ls []) := by
    intro n4
    induction n4 with
    | zero =>
      intro σ x1 x2 x3 hok
      exact hok.elim
    | succ n4 ih4 =>
      intro σ x1 x2 x3 hok hf H locs hP hS ls hl
      rw [okX6_takeAll_L4] at hok
      rw [fX6_takeAll_L4] at hf
      refine lv_iload_n hx hb dX6_takeAll_4 rfl (lv_at hl 3 rfl) ?_
      refine lv_iconst (v := 1) hx hb dX6_takeAll_5 (by decide) ?_
      refine lv_icmp_gt (tgt := 47) hx hb dX6_takeAll_6 (by decide) (fun hc => ?_) (fun hc => ?_)
      · have hf := ite_t hc hf
        refine lv_iload_n hx hb dX6_takeAll_47 rfl (lv_at hl 2 rfl) ?_
        exact g_iret X hr hlk hP hS hf dX6_takeAll_48
      · have hf := ite_f hc hf
        have hok := hok.2 hc
        refine lv_iconst (v := 0) hx hb dX6_takeAll_9 (by decide) ?_
        refine lv_istore (lv' := [(4, .int (0 : Int32)), (0, .ref (G.2.1 o0)), (1, .int x1), (2, .int x2), (3, .int x3)]) hx hb dX6_takeAll_10 hl (by decide) rfl (fun ls hl => ?_)
        have K12 : ∀ (n12 : Nat) (σ : St) (x1 : Int32) (x2 : Int32) (x3 : Int32) (x4 : Int32), okX6_takeAll_L12 o0 (fun σ x1 x2 x3 => okX6_takeAll_L4 o0 n4 σ x1 x2 x3) n12 σ x1 x2 x3 x4 → fX6_takeAll_L12 o0 (fun σ x1 x2 x3 => fX6_takeAll_L4 o0 n4 σ x1 x2 x3) n12 σ x1 x2 x3 x4 = fv → ∀ (H : Heap) (locs : List Loc), va_P G.1 vcl (wl G σ) H → va_S (GA G) s.heap H locs → ∀ (ls : Array Slot), lv_has ls 5 [(0, .ref (G.2.1 o0)), (1, .int x1), (2, .int x2), (3, .int x3), (4, .int x4)] → W p l e rm_X6_takeAll s m args below meth c H locs 0 0 (MQ below (va_Qi (fun r u => (u, r) = fv) (PB G) (GA G)) args s 0 0 (GA G)) (F0 m 12 ls []) := by
          intro n12
          induction n12 with
          | zero =>
            intro σ x1 x2 x3 x4 hok
            exact hok.elim
          | succ n12 ih12 =>
            intro σ x1 x2 x3 x4 hok hf H locs hP hS ls hl
            rw [okX6_takeAll_L12] at hok
            rw [fX6_takeAll_L12] at hf
            refine lv_iload hx hb dX6_takeAll_12 (lv_at hl 4 rfl) ?_
            refine lv_iload_n hx hb dX6_takeAll_14 rfl (lv_at hl 3 rfl) ?_
            refine g_cIp (g_runS (As := [.int x3]) (rest := [.int x4]) X (c_X8_holesIn l G hG σ x3) ca_X8_holesIn km_X6_113 rfl rfl ⟨Nat.le_of_ble_eq_true rfl, Nat.le_of_ble_eq_true rfl⟩ hP hS rfl hl.1 rfl (Nat.le_of_ble_eq_true rfl) ⟨Nat.le_of_ble_eq_true rfl, Nat.le_of_ble_eq_true rfl⟩ dX6_takeAll_15) hS (fun H locs hP hS => ?_)
            refine lv_icmp_ge (tgt := 41) hx hb dX6_takeAll_18 (by decide) (fun hc => ?_) (fun hc => ?_)
            · have hf := ite_t hc hf
              have hok := hok.1 hc
              refine lv_iinc (v := (x3 + (1 : Int32))) (lv' := [(3, .int (x3 + (1 : Int32))), (0, .ref (G.2.1 o0)), (1, .int x1), (2, .int x2), (4, .int x4)]) hx hb dX6_takeAll_41 hl (k := 3) rfl rfl (by decide) rfl (fun ls hl => ?_)
              refine lv_goto (tgt := 4) hx hb dX6_takeAll_44 (by decide) ?_
              exact ih4 σ x1 x2 (x3 + (1 : Int32)) hok hf _ _ hP hS ls (lv_sub hl [1, 2, 3, 0] rfl)
            · have hf := ite_f hc hf
              have hok := hok.2 hc
              refine lv_aload_n hx hb dX6_takeAll_21 rfl (lv_at hl 0 rfl) ?_
              refine lv_iload_n hx hb dX6_takeAll_22 rfl (lv_at hl 1 rfl) ?_
              refine lv_iload_n hx hb dX6_takeAll_23 rfl (lv_at hl 3 rfl) ?_
              refine lv_iload hx hb dX6_takeAll_24 (lv_at hl 4 rfl) ?_
              have hs1 := hok.1
              have hok := hok.2
              refine g_cZ (g_runV (i := o0) (As := [.int x1, .int x3, .int x4]) (rest := []) X (c_X6_takeFrom l G hG σ o0 ho0 x1 x3 x4 hs1) ca_X6_takeFrom km_X6_117 rfl rfl ⟨Nat.le_of_ble_eq_true rfl, Nat.le_of_ble_eq_true rfl⟩ hP hS (ty_lt ho0) (cell_6 ho0) rfl rfl rfl hl.1 rfl (Nat.le_of_ble_eq_true rfl) ⟨Nat.le_of_ble_eq_true rfl, Nat.le_of_ble_eq_true rfl⟩ dX6_takeAll_26) hS (fun q2 hq2 H locs hP hS => ?_)
              have hf := bnd_go hq2 hf
              have hok := bnd_goP hq2 hok
              refine g_ifeqZ (tgt := 35) X dX6_takeAll_29 (by decide) (fun hc => ?_) (fun hc => ?_)
              · have hf := ite_z hc hf
                have hok := hok.2 hc
                refine lv_iinc (v := (x4 + (1 : Int32))) (lv' := [(4, .int (x4 + (1 : Int32))), (0, .ref (G.2.1 o0)), (1, .int x1), (2, .int x2), (3, .int x3)]) hx hb dX6_takeAll_35 hl (k := 4) rfl rfl (by decide) rfl (fun ls hl => ?_)
                refine lv_goto (tgt := 12) hx hb dX6_takeAll_38 (by decide) ?_
                exact ih12 q2.1 x1 x2 x3 (x4 + (1 : Int32)) hok hf _ _ hP hS ls (lv_sub hl [1, 2, 3, 4, 0] rfl)
              · have hf := ite_t hc hf
                have hok := hok.1 hc
                refine lv_iinc (v := (x2 + (1 : Int32))) (lv' := [(2, .int (x2 + (1 : Int32))), (0, .ref (G.2.1 o0)), (1, .int x1), (3, .int x3), (4, .int x4)]) hx hb dX6_takeAll_32 hl (k := 2) rfl rfl (by decide) rfl (fun ls hl => ?_)
                refine lv_iinc (v := (x4 + (1 : Int32))) (lv' := [(4, .int (x4 + (1 : Int32))), (2, .int (x2 + (1 : Int32))), (0, .ref (G.2.1 o0)), (1, .int x1), (3, .int x3)]) hx hb dX6_takeAll_35 hl (k := 4) rfl rfl (by decide) rfl (fun ls hl => ?_)
                refine lv_goto (tgt := 12) hx hb dX6_takeAll_38 (by decide) ?_
                exact ih12 q2.1 x1 (x2 + (1 : Int32)) x3 (x4 + (1 : Int32)) hok hf _ _ hP hS ls (lv_sub hl [2, 3, 1, 4, 0] rfl)
        exact K12 2000 σ x1 x2 x3 (0 : Int32) hok hf _ _ hP hS ls (lv_sub hl [1, 2, 3, 4, 0] rfl)
  exact K4 2000 σ x1 (0 : Int32) (0 : Int32) hok hf _ _ hP hS ls (lv_sub hl [2, 3, 1, 0] rfl)
def f_X6_eatLetter (σ : St) (o0 : Nat) : St × Bool := (if (f_X5_worstOnShelf σ (o0 + 4)) = (-1 : Int32) then (σ, false) else (bnd (f_X8_put σ (o0 + 13) (σ.1 ((o0 + 4) + 3) (f_X5_worstOnShelf σ (o0 + 4)).toNatClampNeg) (0 : Int32) (σ.1 ((o0 + 4) + 6) (f_X5_worstOnShelf σ (o0 + 4)).toNatClampNeg) (-1 : Int32)) (fun q5 => (bnd (f_X5_leaveShelf q5 (o0 + 4) (f_X5_worstOnShelf σ (o0 + 4)) (4 : Int32)) (fun q7 => (bnd (setF q7 (o0 + 16) 0 (FP.fsub (q7.2.1 (o0 + 16) 0) (1084227584 : UInt32))) (fun q9 => (q9, true))))))))
def ok_X6_eatLetter (σ : St) (o0 : Nat) : Prop := (ok_X5_worstOnShelf σ (o0 + 4) ∧ (((f_X5_worstOnShelf σ (o0 + 4)) = (-1 : Int32) → True) ∧ (¬ (f_X5_worstOnShelf σ (o0 + 4)) = (-1 : Int32) → (vp_in (f_X5_worstOnShelf σ (o0 + 4)) 20 ∧ (vp_in (f_X5_worstOnShelf σ (o0 + 4)) 20 ∧ (ok_X8_put σ (o0 + 13) (σ.1 ((o0 + 4) + 3) (f_X5_worstOnShelf σ (o0 + 4)).toNatClampNeg) (0 : Int32) (σ.1 ((o0 + 4) + 6) (f_X5_worstOnShelf σ (o0 + 4)).toNatClampNeg) (-1 : Int32) ∧ (bndP (f_X8_put σ (o0 + 13) (σ.1 ((o0 + 4) + 3) (f_X5_worstOnShelf σ (o0 + 4)).toNatClampNeg) (0 : Int32) (σ.1 ((o0 + 4) + 6) (f_X5_worstOnShelf σ (o0 + 4)).toNatClampNeg) (-1 : Int32)) (fun q5 => (ok_X5_leaveShelf q5 (o0 + 4) (f_X5_worstOnShelf σ (o0 + 4)) (4 : Int32) ∧ (bndP (f_X5_leaveShelf q5 (o0 + 4) (f_X5_worstOnShelf σ (o0 + 4)) (4 : Int32)) (fun q7 => vf_n32 (FP.fsub (q7.2.1 (o0 + 16) 0) (1084227584 : UInt32)))))))))))))
abbrev rm_X6_eatLetter : Room := { frames := 2, cells := 0, slots := 0, locals := 46 }
set_option maxHeartbeats 4000000 in
set_option maxRecDepth 100000 in
theorem c_X6_eatLetter (l : Launch) (G : GE) (hG : Gok G) (σ : St) (o0 : Nat) (ho0 : tyOf o0 = 6) (hok : ok_X6_eatLetter σ o0) : MtZ l G yX6_eatLetter cX6_eatLetter 2 rm_X6_eatLetter [.ref (G.2.1 o0)] σ (f_X6_eatLetter σ o0) := by
  generalize hf : f_X6_eatLetter σ o0 = fv
  rw [f_X6_eatLetter] at hf
  rw [ok_X6_eatLetter] at hok
  refine g_start hG (plainFor_of_name (by decide)) (Nat.le_of_ble_eq_true rfl) ?_
  intro p e s m args below meth c X hr hlk ls hl H locs hP hS
  have X : Cx G p s m args c cX6_eatLetter 2 RX6 := X
  obtain ⟨hx, hb, hml, hown, hts, hK, hbs, hXW, -⟩ := id X
  have hl : lv_has ls 2 [(0, .ref (G.2.1 o0))] := hl
  refine lv_aload_n hx hb dX6_eatLetter_0 rfl (lv_at hl 0 rfl) ?_
  refine gg_6_1 (j := o0 + 4) rfl X hP ho0 kf_X6_21 dX6_eatLetter_1 ?_
  have hs1 := hok.1
  have hok := hok.2
  refine g_cIp (g_runV (i := (o0 + 4)) (As := []) (rest := []) X (c_X5_worstOnShelf l G hG σ (o0 + 4) (tc_6_1 ho0) hs1) ca_X5_worstOnShelf km_X6_150 rfl rfl ⟨Nat.le_of_ble_eq_true rfl, Nat.le_of_ble_eq_true rfl⟩ hP hS (ty_lt (tc_6_1 ho0)) (cell_5 (tc_6_1 ho0)) rfl rfl rfl hl.1 rfl (Nat.le_of_ble_eq_true rfl) ⟨Nat.le_of_ble_eq_true rfl, Nat.le_of_ble_eq_true rfl⟩ dX6_eatLetter_4) hS (fun H locs hP hS => ?_)
  refine lv_istore_n (lv' := [(1, .int (f_X5_worstOnShelf σ (o0 + 4))), (0, .ref (G.2.1 o0))]) hx hb dX6_eatLetter_7 rfl hl (by decide) rfl (fun ls hl => ?_)
  refine lv_iload_n hx hb dX6_eatLetter_8 rfl (lv_at hl 0 rfl) ?_
  refine lv_iconst (v := -1) hx hb dX6_eatLetter_9 (by decide) ?_
  refine lv_icmp_ne (tgt := 15) hx hb dX6_eatLetter_10 (by decide) (fun hc => ?_) (fun hc => ?_)
  · have hf := ite_f hc hf
    have hok := hok.2 hc
    refine lv_aload_n hx hb dX6_eatLetter_15 rfl (lv_at hl 1 rfl) ?_
    refine gg_6_2 (j := o0 + 13) rfl X hP ho0 kf_X6_28 dX6_eatLetter_16 ?_
    refine lv_aload_n hx hb dX6_eatLetter_19 rfl (lv_at hl 1 rfl) ?_
    refine gg_6_1 (j := o0 + 4) rfl X hP ho0 kf_X6_21 dX6_eatLetter_20 ?_
    refine gg_5_2 (j := (o0 + 4) + 3) rfl X hP (tc_6_1 ho0) kf_X6_99 dX6_eatLetter_23 ?_
    refine lv_iload_n hx hb dX6_eatLetter_26 rfl (lv_at hl 0 rfl) ?_
    have hs2 := hok.1
    have hok := hok.2
    refine g_iald X hP (tc_5_2 (tc_6_1 ho0)) (by rw [(lc_5_2 (tc_6_1 ho0))]; exact hs2) dX6_eatLetter_27 ?_
    refine lv_iconst (v := 0) hx hb dX6_eatLetter_28 (by decide) ?_
    refine lv_aload_n hx hb dX6_eatLetter_29 rfl (lv_at hl 1 rfl) ?_
    refine gg_6_1 (j := o0 + 4) rfl X hP ho0 kf_X6_21 dX6_eatLetter_30 ?_
    refine gg_5_5 (j := (o0 + 4) + 6) rfl X hP (tc_6_1 ho0) kf_X6_110 dX6_eatLetter_33 ?_
    refine lv_iload_n hx hb dX6_eatLetter_36 rfl (lv_at hl 0 rfl) ?_
    have hs3 := hok.1
    have hok := hok.2
    refine g_iald X hP (tc_5_5 (tc_6_1 ho0)) (by rw [(lc_5_5 (tc_6_1 ho0))]; exact hs3) dX6_eatLetter_37 ?_
    refine lv_iconst (v := -1) hx hb dX6_eatLetter_38 (by decide) ?_
    have hs4 := hok.1
    have hok := hok.2
    refine g_cV (g_runV (i := (o0 + 13)) (As := [.int (σ.1 ((o0 + 4) + 3) (f_X5_worstOnShelf σ (o0 + 4)).toNatClampNeg), .int (0 : Int32), .int (σ.1 ((o0 + 4) + 6) (f_X5_worstOnShelf σ (o0 + 4)).toNatClampNeg), .int (-1 : Int32)]) (rest := []) X (c_X8_put l G hG σ (o0 + 13) (tc_6_2 ho0) (σ.1 ((o0 + 4) + 3) (f_X5_worstOnShelf σ (o0 + 4)).toNatClampNeg) (0 : Int32) (σ.1 ((o0 + 4) + 6) (f_X5_worstOnShelf σ (o0 + 4)).toNatClampNeg) (-1 : Int32) hs4) ca_X8_put km_X6_106 rfl rfl ⟨Nat.le_of_ble_eq_true rfl, Nat.le_of_ble_eq_true rfl⟩ hP hS (ty_lt (tc_6_2 ho0)) (cell_8 (tc_6_2 ho0)) rfl rfl rfl hl.1 rfl (Nat.le_of_ble_eq_true rfl) ⟨Nat.le_of_ble_eq_true rfl, Nat.le_of_ble_eq_true rfl⟩ dX6_eatLetter_39) hS (fun q5 hq5 H locs hP hS => ?_)
    have hf := bnd_go hq5 hf
    have hok := bnd_goP hq5 hok
    refine lv_aload_n hx hb dX6_eatLetter_42 rfl (lv_at hl 1 rfl) ?_
    refine gg_6_1 (j := o0 + 4) rfl X hP ho0 kf_X6_21 dX6_eatLetter_43 ?_
    refine lv_iload_n hx hb dX6_eatLetter_46 rfl (lv_at hl 0 rfl) ?_
    refine lv_iconst (v := 4) hx hb dX6_eatLetter_47 (by decide) ?_
    have hs6 := hok.1
    have hok := hok.2
    refine g_cV (g_runV (i := (o0 + 4)) (As := [.int (f_X5_worstOnShelf σ (o0 + 4)), .int (4 : Int32)]) (rest := []) X (c_X5_leaveShelf l G hG q5 (o0 + 4) (tc_6_1 ho0) (f_X5_worstOnShelf σ (o0 + 4)) (4 : Int32) hs6) ca_X5_leaveShelf km_X6_125 rfl rfl ⟨Nat.le_of_ble_eq_true rfl, Nat.le_of_ble_eq_true rfl⟩ hP hS (ty_lt (tc_6_1 ho0)) (cell_5 (tc_6_1 ho0)) rfl rfl rfl hl.1 rfl (Nat.le_of_ble_eq_true rfl) ⟨Nat.le_of_ble_eq_true rfl, Nat.le_of_ble_eq_true rfl⟩ dX6_eatLetter_48) hS (fun q7 hq7 H locs hP hS => ?_)
    have hf := bnd_go hq7 hf
    have hok := bnd_goP hq7 hok
    refine lv_aload_n hx hb dX6_eatLetter_51 rfl (lv_at hl 1 rfl) ?_
    refine gg_6_3 (j := o0 + 16) rfl X hP ho0 kf_X6_35 dX6_eatLetter_52 ?_
    refine lv_aload_n hx hb dX6_eatLetter_55 rfl (lv_at hl 1 rfl) ?_
    refine gg_6_3 (j := o0 + 16) rfl X hP ho0 kf_X6_35 dX6_eatLetter_56 ?_
    refine gg_3_0 X hP (tc_6_3 ho0) kf_X6_132 dX6_eatLetter_59 ?_
    refine lv_ldcf hx hb hown (hts _ kc_X6_154) dX6_eatLetter_62 ?_
    have hs8 := hok
    refine lv_fsub hx hb dX6_eatLetter_64 hs8 ?_
    refine gp_3_0 X hP hS (tc_6_3 ho0) kf_X6_132 dX6_eatLetter_65 (fun H locs hP hS => ?_)
    refine g_name hP (fun q9 hq9 hP => ?_)
    have hf := bnd_go hq9 hf
    refine lv_iconst (v := 1) hx hb dX6_eatLetter_68 (by decide) ?_
    exact g_zret (b := true) X hr hlk rfl hP hS hf dX6_eatLetter_69
  · have hf := ite_t hc hf
    refine lv_iconst (v := 0) hx hb dX6_eatLetter_13 (by decide) ?_
    exact g_zret (b := false) X hr hlk rfl hP hS hf dX6_eatLetter_14
def fX6_passHours_L4 (o0 : Nat) : Nat → St → Int32 → Int32 → Int32 → St × Int32
  | 0, σ, _, _, _ => (σ, 0)
  | n4 + 1, σ, x1, x2, x3 => (if x1 ≤ x3 then (σ, x2) else (bnd (setF σ (o0 + 16) 0 (f_X9_hungrier (σ.2.1 (o0 + 16) 0))) (fun q2 => (if (f_X9_isHungry (q2.2.1 (o0 + 16) 0)) = true then (bnd (f_X6_eatLetter q2 o0) (fun q5 => (if q5.2 = true then (bnd (setI q5.1 (o0 + 16) 3 ((q5.1.1 (o0 + 16) 3) + (1 : Int32))) (fun q7 => (fX6_passHours_L4 o0 n4 q7 x1 (x2 + (1 : Int32)) (x3 + (1 : Int32))))) else (bnd (setI q5.1 (o0 + 16) 3 ((q5.1.1 (o0 + 16) 3) + (1 : Int32))) (fun q6 => (fX6_passHours_L4 o0 n4 q6 x1 x2 (x3 + (1 : Int32)))))))) else (bnd (setI q2 (o0 + 16) 3 ((q2.1 (o0 + 16) 3) + (1 : Int32))) (fun q3 => (fX6_passHours_L4 o0 n4 q3 x1 x2 (x3 + (1 : Int32)))))))))
def okX6_passHours_L4 (o0 : Nat) : Nat → St → Int32 → Int32 → Int32 → Prop
  | 0, _, _, _, _ => False
  | n4 + 1, σ, x1, x2, x3 => ((x1 ≤ x3 → True) ∧ (¬ x1 ≤ x3 → (ok_X9_hungrier (σ.2.1 (o0 + 16) 0) ∧ (bndP (setF σ (o0 + 16) 0 (f_X9_hungrier (σ.2.1 (o0 + 16) 0))) (fun q2 => (((f_X9_isHungry (q2.2.1 (o0 + 16) 0)) = true → (ok_X6_eatLetter q2 o0 ∧ (bndP (f_X6_eatLetter q2 o0) (fun q5 => ((q5.2 = true → (bndP (setI q5.1 (o0 + 16) 3 ((q5.1.1 (o0 + 16) 3) + (1 : Int32))) (fun q7 => (okX6_passHours_L4 o0 n4 q7 x1 (x2 + (1 : Int32)) (x3 + (1 : Int32)))))) ∧ (q5.2 = false → (bndP (setI q5.1 (o0 + 16) 3 ((q5.1.1 (o0 + 16) 3) + (1 : Int32))) (fun q6 => (okX6_passHours_L4 o0 n4 q6 x1 x2 (x3 + (1 : Int32))))))))))) ∧ ((f_X9_isHungry (q2.2.1 (o0 + 16) 0)) = false → (bndP (setI q2 (o0 + 16) 3 ((q2.1 (o0 + 16) 3) + (1 : Int32))) (fun q3 => (okX6_passHours_L4 o0 n4 q3 x1 x2 (x3 + (1 : Int32))))))))))))
def f_X6_passHours (σ : St) (o0 : Nat) (x1 : Int32) : St × Int32 := (fX6_passHours_L4 o0 2000 σ x1 (0 : Int32) (0 : Int32))
def ok_X6_passHours (σ : St) (o0 : Nat) (x1 : Int32) : Prop := (okX6_passHours_L4 o0 2000 σ x1 (0 : Int32) (0 : Int32))
abbrev rm_X6_passHours : Room := { frames := 3, cells := 0, slots := 0, locals := 67 }
set_option maxHeartbeats 4000000 in
set_option maxRecDepth 100000 in
theorem c_X6_passHours (l : Launch) (G : GE) (hG : Gok G) (σ : St) (o0 : Nat) (ho0 : tyOf o0 = 6) (x1 : Int32) (hok : ok_X6_passHours σ o0 x1) : MtI l G yX6_passHours cX6_passHours 4 rm_X6_passHours [.ref (G.2.1 o0), .int x1] σ (f_X6_passHours σ o0 x1) := by
  generalize hf : f_X6_passHours σ o0 x1 = fv
  rw [f_X6_passHours] at hf
  rw [ok_X6_passHours] at hok
  refine g_start hG (plainFor_of_name (by decide)) (Nat.le_of_ble_eq_true rfl) ?_
  intro p e s m args below meth c X hr hlk ls hl H locs hP hS
  have X : Cx G p s m args c cX6_passHours 4 RX6 := X
  obtain ⟨hx, hb, hml, hown, hts, hK, hbs, hXW, -⟩ := id X
  have hl : lv_has ls 4 [(0, .ref (G.2.1 o0)), (1, .int x1)] := hl
  refine lv_iconst (v := 0) hx hb dX6_passHours_0 (by decide) ?_
  refine lv_istore_n (lv' := [(2, .int (0 : Int32)), (0, .ref (G.2.1 o0)), (1, .int x1)]) hx hb dX6_passHours_1 rfl hl (by decide) rfl (fun ls hl => ?_)
  refine lv_iconst (v := 0) hx hb dX6_passHours_2 (by decide) ?_
  refine lv_istore_n (lv' := [(3, .int (0 : Int32)), (2, .int (0 : Int32)), (0, .ref (G.2.1 o0)), (1, .int x1)]) hx hb dX6_passHours_3 rfl hl (by decide) rfl (fun ls hl => ?_)
  have K4 : ∀ (n4 : Nat) (σ : St) (x1 : Int32) (x2 : Int32) (x3 : Int32), okX6_passHours_L4 o0 n4 σ x1 x2 x3 → fX6_passHours_L4 o0 n4 σ x1 x2 x3 = fv → ∀ (H : Heap) (locs : List Loc), va_P G.1 vcl (wl G σ) H → va_S (GA G) s.heap H locs → ∀ (ls : Array Slot), lv_has ls 4 [(0, .ref (G.2.1 o0)), (1, .int x1), (2, .int x2), (3, .int x3)] → W p l e rm_X6_passHours s m args below meth c H locs 0 0 (MQ below (va_Qi (fun r u => (u, r) = fv) (PB G) (GA G)) args s 0 0 (GA G)) (F0 m 4 ls []) := by
    intro n4
    induction n4 with
    | zero =>
      intro σ x1 x2 x3 hok
      exact hok.elim
    | succ n4 ih4 =>
      intro σ x1 x2 x3 hok hf H locs hP hS ls hl
      rw [okX6_passHours_L4] at hok
      rw [fX6_passHours_L4] at hf
      refine lv_iload_n hx hb dX6_passHours_4 rfl (lv_at hl 3 rfl) ?_
      refine lv_iload_n hx hb dX6_passHours_5 rfl (lv_at hl 1 rfl) ?_
      refine lv_icmp_ge (tgt := 68) hx hb dX6_passHours_6 (by decide) (fun hc => ?_) (fun hc => ?_)
      · have hf := ite_t hc hf
        refine lv_iload_n hx hb dX6_passHours_68 rfl (lv_at hl 2 rfl) ?_
        exact g_iret X hr hlk hP hS hf dX6_passHours_69
      · have hf := ite_f hc hf
        have hok := hok.2 hc
        refine lv_aload_n hx hb dX6_passHours_9 rfl (lv_at hl 0 rfl) ?_
        refine gg_6_3 (j := o0 + 16) rfl X hP ho0 kf_X6_35 dX6_passHours_10 ?_
        refine lv_aload_n hx hb dX6_passHours_13 rfl (lv_at hl 0 rfl) ?_
        refine gg_6_3 (j := o0 + 16) rfl X hP ho0 kf_X6_35 dX6_passHours_14 ?_
        refine gg_3_0 X hP (tc_6_3 ho0) kf_X6_132 dX6_passHours_17 ?_
        have hs1 := hok.1
        have hok := hok.2
        refine g_cFp (g_runSN (As := [.float (σ.2.1 (o0 + 16) 0)]) (rest := [.ref (G.2.1 (o0 + 16))]) X (c_X9_hungrier l G hG σ (σ.2.1 (o0 + 16) 0) hs1) ca_X9_hungrier km_X6_135 rfl rfl ⟨Nat.le_of_ble_eq_true rfl, Nat.le_of_ble_eq_true rfl⟩ hP hS rfl hl.1 rfl (Nat.le_of_ble_eq_true rfl) ⟨Nat.le_of_ble_eq_true rfl, Nat.le_of_ble_eq_true rfl⟩ dX6_passHours_20) hS (fun H locs hP hS => ?_)
        refine gp_3_0 X hP hS (tc_6_3 ho0) kf_X6_132 dX6_passHours_23 (fun H locs hP hS => ?_)
        refine g_name hP (fun q2 hq2 hP => ?_)
        have hf := bnd_go hq2 hf
        have hok := bnd_goP hq2 hok
        refine lv_aload_n hx hb dX6_passHours_26 rfl (lv_at hl 0 rfl) ?_
        refine gg_6_3 (j := o0 + 16) rfl X hP ho0 kf_X6_35 dX6_passHours_27 ?_
        refine gg_3_0 X hP (tc_6_3 ho0) kf_X6_132 dX6_passHours_30 ?_
        refine g_cZp (g_runSN (As := [.float (q2.2.1 (o0 + 16) 0)]) (rest := []) X (c_X9_isHungry l G hG q2 (q2.2.1 (o0 + 16) 0)) ca_X9_isHungry km_X6_138 rfl rfl ⟨Nat.le_of_ble_eq_true rfl, Nat.le_of_ble_eq_true rfl⟩ hP hS rfl hl.1 rfl (Nat.le_of_ble_eq_true rfl) ⟨Nat.le_of_ble_eq_true rfl, Nat.le_of_ble_eq_true rfl⟩ dX6_passHours_33) hS (fun H locs hP hS => ?_)
        refine g_ifeqZ (tgt := 49) X dX6_passHours_36 (by decide) (fun hc => ?_) (fun hc => ?_)
        · have hf := ite_z hc hf
          have hok := hok.2 hc
          refine lv_aload_n hx hb dX6_passHours_49 rfl (lv_at hl 0 rfl) ?_
          refine gg_6_3 (j := o0 + 16) rfl X hP ho0 kf_X6_35 dX6_passHours_50 ?_
          refine lv_dup hx hb dX6_passHours_53 rfl ?_
          refine gg_3_3 X hP (tc_6_3 ho0) kf_X6_146 dX6_passHours_54 ?_
          refine lv_iconst (v := 1) hx hb dX6_passHours_57 (by decide) ?_
          refine lv_iadd hx hb dX6_passHours_58 ?_
          refine gp_3_3 X hP hS (tc_6_3 ho0) kf_X6_146 dX6_passHours_59 (fun H locs hP hS => ?_)
          refine g_name hP (fun q3 hq3 hP => ?_)
          have hf := bnd_go hq3 hf
          have hok := bnd_goP hq3 hok
          refine lv_iinc (v := (x3 + (1 : Int32))) (lv' := [(3, .int (x3 + (1 : Int32))), (0, .ref (G.2.1 o0)), (1, .int x1), (2, .int x2)]) hx hb dX6_passHours_62 hl (k := 3) rfl rfl (by decide) rfl (fun ls hl => ?_)
          refine lv_goto (tgt := 4) hx hb dX6_passHours_65 (by decide) ?_
          exact ih4 q3 x1 x2 (x3 + (1 : Int32)) hok hf _ _ hP hS ls (lv_sub hl [1, 2, 3, 0] rfl)
        · have hf := ite_t hc hf
          have hok := hok.1 hc
          refine lv_aload_n hx hb dX6_passHours_39 rfl (lv_at hl 0 rfl) ?_
          have hs4 := hok.1
          have hok := hok.2
          refine g_cZ (g_runV (i := o0) (As := []) (rest := []) X (c_X6_eatLetter l G hG q2 o0 ho0 hs4) ca_X6_eatLetter km_X6_142 rfl rfl ⟨Nat.le_of_ble_eq_true rfl, Nat.le_of_ble_eq_true rfl⟩ hP hS (ty_lt ho0) (cell_6 ho0) rfl rfl rfl hl.1 rfl (Nat.le_of_ble_eq_true rfl) ⟨Nat.le_of_ble_eq_true rfl, Nat.le_of_ble_eq_true rfl⟩ dX6_passHours_40) hS (fun q5 hq5 H locs hP hS => ?_)
          have hf := bnd_go hq5 hf
          have hok := bnd_goP hq5 hok
          refine g_ifeqZ (tgt := 49) X dX6_passHours_43 (by decide) (fun hc => ?_) (fun hc => ?_)
          · have hf := ite_z hc hf
            have hok := hok.2 hc
            refine lv_aload_n hx hb dX6_passHours_49 rfl (lv_at hl 0 rfl) ?_
            refine gg_6_3 (j := o0 + 16) rfl X hP ho0 kf_X6_35 dX6_passHours_50 ?_
            refine lv_dup hx hb dX6_passHours_53 rfl ?_
            refine gg_3_3 X hP (tc_6_3 ho0) kf_X6_146 dX6_passHours_54 ?_
            refine lv_iconst (v := 1) hx hb dX6_passHours_57 (by decide) ?_
            refine lv_iadd hx hb dX6_passHours_58 ?_
            refine gp_3_3 X hP hS (tc_6_3 ho0) kf_X6_146 dX6_passHours_59 (fun H locs hP hS => ?_)
            refine g_name hP (fun q6 hq6 hP => ?_)
            have hf := bnd_go hq6 hf
            have hok := bnd_goP hq6 hok
            refine lv_iinc (v := (x3 + (1 : Int32))) (lv' := [(3, .int (x3 + (1 : Int32))), (0, .ref (G.2.1 o0)), (1, .int x1), (2, .int x2)]) hx hb dX6_passHours_62 hl (k := 3) rfl rfl (by decide) rfl (fun ls hl => ?_)
            refine lv_goto (tgt := 4) hx hb dX6_passHours_65 (by decide) ?_
            exact ih4 q6 x1 x2 (x3 + (1 : Int32)) hok hf _ _ hP hS ls (lv_sub hl [1, 2, 3, 0] rfl)
          · have hf := ite_t hc hf
            have hok := hok.1 hc
            refine lv_iinc (v := (x2 + (1 : Int32))) (lv' := [(2, .int (x2 + (1 : Int32))), (0, .ref (G.2.1 o0)), (1, .int x1), (3, .int x3)]) hx hb dX6_passHours_46 hl (k := 2) rfl rfl (by decide) rfl (fun ls hl => ?_)
            refine lv_aload_n hx hb dX6_passHours_49 rfl (lv_at hl 1 rfl) ?_
            refine gg_6_3 (j := o0 + 16) rfl X hP ho0 kf_X6_35 dX6_passHours_50 ?_
            refine lv_dup hx hb dX6_passHours_53 rfl ?_
            refine gg_3_3 X hP (tc_6_3 ho0) kf_X6_146 dX6_passHours_54 ?_
            refine lv_iconst (v := 1) hx hb dX6_passHours_57 (by decide) ?_
            refine lv_iadd hx hb dX6_passHours_58 ?_
            refine gp_3_3 X hP hS (tc_6_3 ho0) kf_X6_146 dX6_passHours_59 (fun H locs hP hS => ?_)
            refine g_name hP (fun q7 hq7 hP => ?_)
            have hf := bnd_go hq7 hf
            have hok := bnd_goP hq7 hok
            refine lv_iinc (v := (x3 + (1 : Int32))) (lv' := [(3, .int (x3 + (1 : Int32))), (2, .int (x2 + (1 : Int32))), (0, .ref (G.2.1 o0)), (1, .int x1)]) hx hb dX6_passHours_62 hl (k := 3) rfl rfl (by decide) rfl (fun ls hl => ?_)
            refine lv_goto (tgt := 4) hx hb dX6_passHours_65 (by decide) ?_
            exact ih4 q7 x1 (x2 + (1 : Int32)) (x3 + (1 : Int32)) hok hf _ _ hP hS ls (lv_sub hl [2, 3, 1, 0] rfl)
  exact K4 2000 σ x1 (0 : Int32) (0 : Int32) hok hf _ _ hP hS ls (lv_sub hl [2, 3, 1, 0] rfl)
def f_X6_isInItsHole (σ : St) (o0 : Nat) (x1 : Int32) : Bool := (if (f_X8_isHole (σ.1 ((o0 + 4) + 3) x1.toNatClampNeg) (σ.1 ((o0 + 4) + 1) x1.toNatClampNeg) (σ.1 ((o0 + 4) + 6) x1.toNatClampNeg)) = true then (if (f_X8_itemAt σ (o0 + 13) (σ.1 ((o0 + 4) + 3) x1.toNatClampNeg) (σ.1 ((o0 + 4) + 1) x1.toNatClampNeg) (σ.1 ((o0 + 4) + 6) x1.toNatClampNeg)) = x1 then true else false) else false)
def ok_X6_isInItsHole (σ : St) (o0 : Nat) (x1 : Int32) : Prop := (vp_in x1 20 ∧ (vp_in x1 20 ∧ (vp_in x1 20 ∧ (((f_X8_isHole (σ.1 ((o0 + 4) + 3) x1.toNatClampNeg) (σ.1 ((o0 + 4) + 1) x1.toNatClampNeg) (σ.1 ((o0 + 4) + 6) x1.toNatClampNeg)) = true → ok_X8_itemAt σ (o0 + 13) (σ.1 ((o0 + 4) + 3) x1.toNatClampNeg) (σ.1 ((o0 + 4) + 1) x1.toNatClampNeg) (σ.1 ((o0 + 4) + 6) x1.toNatClampNeg)) ∧ ((f_X8_isHole (σ.1 ((o0 + 4) + 3) x1.toNatClampNeg) (σ.1 ((o0 + 4) + 1) x1.toNatClampNeg) (σ.1 ((o0 + 4) + 6) x1.toNatClampNeg)) = false → True)))))
abbrev rm_X6_isInItsHole : Room := { frames := 3, cells := 0, slots := 0, locals := 64 }
set_option maxHeartbeats 4000000 in
set_option maxRecDepth 100000 in
theorem c_X6_isInItsHole (l : Launch) (G : GE) (hG : Gok G) (σ : St) (o0 : Nat) (ho0 : tyOf o0 = 6) (x1 : Int32) (hok : ok_X6_isInItsHole σ o0 x1) : MtZ l G yX6_isInItsHole cX6_isInItsHole 5 rm_X6_isInItsHole [.ref (G.2.1 o0), .int x1] σ (σ, f_X6_isInItsHole σ o0 x1) := by
  generalize hf : f_X6_isInItsHole σ o0 x1 = fv
  rw [f_X6_isInItsHole] at hf
  rw [ok_X6_isInItsHole] at hok
  refine g_start hG (plainFor_of_name (by decide)) (Nat.le_of_ble_eq_true rfl) ?_
  intro p e s m args below meth c X hr hlk ls hl H locs hP hS
  have X : Cx G p s m args c cX6_isInItsHole 5 RX6 := X
  obtain ⟨hx, hb, hml, hown, hts, hK, hbs, hXW, -⟩ := id X
  have hl : lv_has ls 5 [(0, .ref (G.2.1 o0)), (1, .int x1)] := hl
  refine lv_aload_n hx hb dX6_isInItsHole_0 rfl (lv_at hl 0 rfl) ?_
  refine gg_6_1 (j := o0 + 4) rfl X hP ho0 kf_X6_21 dX6_isInItsHole_1 ?_
  refine gg_5_2 (j := (o0 + 4) + 3) rfl X hP (tc_6_1 ho0) kf_X6_99 dX6_isInItsHole_4 ?_
  refine lv_iload_n hx hb dX6_isInItsHole_7 rfl (lv_at hl 1 rfl) ?_
  have hs1 := hok.1
  have hok := hok.2
  refine g_iald X hP (tc_5_2 (tc_6_1 ho0)) (by rw [(lc_5_2 (tc_6_1 ho0))]; exact hs1) dX6_isInItsHole_8 ?_
  refine lv_istore_n (lv' := [(2, .int (σ.1 ((o0 + 4) + 3) x1.toNatClampNeg)), (0, .ref (G.2.1 o0)), (1, .int x1)]) hx hb dX6_isInItsHole_9 rfl hl (by decide) rfl (fun ls hl => ?_)
  refine lv_aload_n hx hb dX6_isInItsHole_10 rfl (lv_at hl 1 rfl) ?_
  refine gg_6_1 (j := o0 + 4) rfl X hP ho0 kf_X6_21 dX6_isInItsHole_11 ?_
  refine gg_5_0 (j := (o0 + 4) + 1) rfl X hP (tc_6_1 ho0) kf_X6_162 dX6_isInItsHole_14 ?_
  refine lv_iload_n hx hb dX6_isInItsHole_17 rfl (lv_at hl 2 rfl) ?_
  have hs2 := hok.1
  have hok := hok.2
  refine g_iald X hP (tc_5_0 (tc_6_1 ho0)) (by rw [(lc_5_0 (tc_6_1 ho0))]; exact hs2) dX6_isInItsHole_18 ?_
  refine lv_istore_n (lv' := [(3, .int (σ.1 ((o0 + 4) + 1) x1.toNatClampNeg)), (2, .int (σ.1 ((o0 + 4) + 3) x1.toNatClampNeg)), (0, .ref (G.2.1 o0)), (1, .int x1)]) hx hb dX6_isInItsHole_19 rfl hl (by decide) rfl (fun ls hl => ?_)
  refine lv_aload_n hx hb dX6_isInItsHole_20 rfl (lv_at hl 2 rfl) ?_
  refine gg_6_1 (j := o0 + 4) rfl X hP ho0 kf_X6_21 dX6_isInItsHole_21 ?_
  refine gg_5_5 (j := (o0 + 4) + 6) rfl X hP (tc_6_1 ho0) kf_X6_110 dX6_isInItsHole_24 ?_
  refine lv_iload_n hx hb dX6_isInItsHole_27 rfl (lv_at hl 3 rfl) ?_
  have hs3 := hok.1
  have hok := hok.2
  refine g_iald X hP (tc_5_5 (tc_6_1 ho0)) (by rw [(lc_5_5 (tc_6_1 ho0))]; exact hs3) dX6_isInItsHole_28 ?_
  refine lv_istore (lv' := [(4, .int (σ.1 ((o0 + 4) + 6) x1.toNatClampNeg)), (3, .int (σ.1 ((o0 + 4) + 1) x1.toNatClampNeg)), (2, .int (σ.1 ((o0 + 4) + 3) x1.toNatClampNeg)), (0, .ref (G.2.1 o0)), (1, .int x1)]) hx hb dX6_isInItsHole_29 hl (by decide) rfl (fun ls hl => ?_)
  refine lv_iload_n hx hb dX6_isInItsHole_31 rfl (lv_at hl 2 rfl) ?_
  refine lv_iload_n hx hb dX6_isInItsHole_32 rfl (lv_at hl 1 rfl) ?_
  refine lv_iload hx hb dX6_isInItsHole_33 (lv_at hl 0 rfl) ?_
  refine g_cZp (g_runS (As := [.int (σ.1 ((o0 + 4) + 3) x1.toNatClampNeg), .int (σ.1 ((o0 + 4) + 1) x1.toNatClampNeg), .int (σ.1 ((o0 + 4) + 6) x1.toNatClampNeg)]) (rest := []) X (c_X8_isHole l G hG σ (σ.1 ((o0 + 4) + 3) x1.toNatClampNeg) (σ.1 ((o0 + 4) + 1) x1.toNatClampNeg) (σ.1 ((o0 + 4) + 6) x1.toNatClampNeg)) ca_X8_isHole km_X6_165 rfl rfl ⟨Nat.le_of_ble_eq_true rfl, Nat.le_of_ble_eq_true rfl⟩ hP hS rfl hl.1 rfl (Nat.le_of_ble_eq_true rfl) ⟨Nat.le_of_ble_eq_true rfl, Nat.le_of_ble_eq_true rfl⟩ dX6_isInItsHole_35) hS (fun H locs hP hS => ?_)
  refine g_ifeqZ (tgt := 60) X dX6_isInItsHole_38 (by decide) (fun hc => ?_) (fun hc => ?_)
  · have hf := ite_z hc hf
    refine lv_iconst (v := 0) hx hb dX6_isInItsHole_60 (by decide) ?_
    exact g_zret (b := false) X hr hlk rfl hP hS (congrArg (Prod.mk σ) hf) dX6_isInItsHole_61
  · have hf := ite_t hc hf
    have hok := hok.1 hc
    refine lv_aload_n hx hb dX6_isInItsHole_41 rfl (lv_at hl 3 rfl) ?_
    refine gg_6_2 (j := o0 + 13) rfl X hP ho0 kf_X6_28 dX6_isInItsHole_42 ?_
    refine lv_iload_n hx hb dX6_isInItsHole_45 rfl (lv_at hl 2 rfl) ?_
    refine lv_iload_n hx hb dX6_isInItsHole_46 rfl (lv_at hl 1 rfl) ?_
    refine lv_iload hx hb dX6_isInItsHole_47 (lv_at hl 0 rfl) ?_
    have hs4 := hok
    refine g_cIp (g_runV (i := (o0 + 13)) (As := [.int (σ.1 ((o0 + 4) + 3) x1.toNatClampNeg), .int (σ.1 ((o0 + 4) + 1) x1.toNatClampNeg), .int (σ.1 ((o0 + 4) + 6) x1.toNatClampNeg)]) (rest := []) X (c_X8_itemAt l G hG σ (o0 + 13) (tc_6_2 ho0) (σ.1 ((o0 + 4) + 3) x1.toNatClampNeg) (σ.1 ((o0 + 4) + 1) x1.toNatClampNeg) (σ.1 ((o0 + 4) + 6) x1.toNatClampNeg) hs4) ca_X8_itemAt km_X6_121 rfl rfl ⟨Nat.le_of_ble_eq_true rfl, Nat.le_of_ble_eq_true rfl⟩ hP hS (ty_lt (tc_6_2 ho0)) (cell_8 (tc_6_2 ho0)) rfl rfl rfl hl.1 rfl (Nat.le_of_ble_eq_true rfl) ⟨Nat.le_of_ble_eq_true rfl, Nat.le_of_ble_eq_true rfl⟩ dX6_isInItsHole_49) hS (fun H locs hP hS => ?_)
    refine lv_iload_n hx hb dX6_isInItsHole_52 rfl (lv_at hl 4 rfl) ?_
    refine lv_icmp_ne (tgt := 60) hx hb dX6_isInItsHole_53 (by decide) (fun hc => ?_) (fun hc => ?_)
    · have hf := ite_f hc hf
      refine lv_iconst (v := 0) hx hb dX6_isInItsHole_60 (by decide) ?_
      exact g_zret (b := false) X hr hlk rfl hP hS (congrArg (Prod.mk σ) hf) dX6_isInItsHole_61
    · have hf := ite_t hc hf
      refine lv_iconst (v := 1) hx hb dX6_isInItsHole_56 (by decide) ?_
      refine lv_goto (tgt := 61) hx hb dX6_isInItsHole_57 (by decide) ?_
      exact g_zret (b := true) X hr hlk rfl hP hS (congrArg (Prod.mk σ) hf) dX6_isInItsHole_61
def fX6_areItemsWell_L2 (σ : St) (o0 : Nat) : Nat → Int32 → Bool
  | 0, _ => false
  | n2 + 1, x1 => (if (σ.1 (o0 + 4) 8) ≤ x1 then true else (if (σ.1 ((o0 + 4) + 5) x1.toNatClampNeg) = (2 : Int32) then (if (f_X6_isInItsHole σ o0 x1) = true then (if (σ.1 ((o0 + 4) + 5) x1.toNatClampNeg) = (4 : Int32) then (if (σ.1 ((o0 + 4) + 1) x1.toNatClampNeg) = 0 then (fX6_areItemsWell_L2 σ o0 n2 (x1 + (1 : Int32))) else false) else (fX6_areItemsWell_L2 σ o0 n2 (x1 + (1 : Int32)))) else false) else (if (σ.1 ((o0 + 4) + 5) x1.toNatClampNeg) = (4 : Int32) then (if (σ.1 ((o0 + 4) + 1) x1.toNatClampNeg) = 0 then (fX6_areItemsWell_L2 σ o0 n2 (x1 + (1 : Int32))) else false) else (fX6_areItemsWell_L2 σ o0 n2 (x1 + (1 : Int32))))))
def okX6_areItemsWell_L2 (σ : St) (o0 : Nat) : Nat → Int32 → Prop
  | 0, _ => False
  | n2 + 1, x1 => (((σ.1 (o0 + 4) 8) ≤ x1 → True) ∧ (¬ (σ.1 (o0 + 4) 8) ≤ x1 → (vp_in x1 20 ∧ (((σ.1 ((o0 + 4) + 5) x1.toNatClampNeg) = (2 : Int32) → (ok_X6_isInItsHole σ o0 x1 ∧ (((f_X6_isInItsHole σ o0 x1) = true → (vp_in x1 20 ∧ (((σ.1 ((o0 + 4) + 5) x1.toNatClampNeg) = (4 : Int32) → (vp_in x1 20 ∧ (((σ.1 ((o0 + 4) + 1) x1.toNatClampNeg) = 0 → (okX6_areItemsWell_L2 σ o0 n2 (x1 + (1 : Int32)))) ∧ (¬ (σ.1 ((o0 + 4) + 1) x1.toNatClampNeg) = 0 → True)))) ∧ (¬ (σ.1 ((o0 + 4) + 5) x1.toNatClampNeg) = (4 : Int32) → (okX6_areItemsWell_L2 σ o0 n2 (x1 + (1 : Int32))))))) ∧ ((f_X6_isInItsHole σ o0 x1) = false → True)))) ∧ (¬ (σ.1 ((o0 + 4) + 5) x1.toNatClampNeg) = (2 : Int32) → (vp_in x1 20 ∧ (((σ.1 ((o0 + 4) + 5) x1.toNatClampNeg) = (4 : Int32) → (vp_in x1 20 ∧ (((σ.1 ((o0 + 4) + 1) x1.toNatClampNeg) = 0 → (okX6_areItemsWell_L2 σ o0 n2 (x1 + (1 : Int32)))) ∧ (¬ (σ.1 ((o0 + 4) + 1) x1.toNatClampNeg) = 0 → True)))) ∧ (¬ (σ.1 ((o0 + 4) + 5) x1.toNatClampNeg) = (4 : Int32) → (okX6_areItemsWell_L2 σ o0 n2 (x1 + (1 : Int32)))))))))))
def f_X6_areItemsWell (σ : St) (o0 : Nat) : Bool := (fX6_areItemsWell_L2 σ o0 2000 (0 : Int32))
def ok_X6_areItemsWell (σ : St) (o0 : Nat) : Prop := (okX6_areItemsWell_L2 σ o0 2000 (0 : Int32))
abbrev rm_X6_areItemsWell : Room := { frames := 4, cells := 0, slots := 0, locals := 88 }
set_option maxHeartbeats 4000000 in
set_option maxRecDepth 100000 in
theorem c_X6_areItemsWell (l : Launch) (G : GE) (hG : Gok G) (σ : St) (o0 : Nat) (ho0 : tyOf o0 = 6) (hok : ok_X6_areItemsWell σ o0) : MtZ l G yX6_areItemsWell cX6_areItemsWell 2 rm_X6_areItemsWell [.ref (G.2.1 o0)] σ (σ, f_X6_areItemsWell σ o0) := by
  generalize hf : f_X6_areItemsWell σ o0 = fv
  rw [f_X6_areItemsWell] at hf
  rw [ok_X6_areItemsWell] at hok
  refine g_start hG (plainFor_of_name (by decide)) (Nat.le_of_ble_eq_true rfl) ?_
  intro p e s m args below meth c X hr hlk ls hl H locs hP hS
  have X : Cx G p s m args c cX6_areItemsWell 2 RX6 := X
  obtain ⟨hx, hb, hml, hown, hts, hK, hbs, hXW, -⟩ := id X
  have hl : lv_has ls 2 [(0, .ref (G.2.1 o0))] := hl
  refine lv_iconst (v := 0) hx hb dX6_areItemsWell_0 (by decide) ?_
  refine lv_istore_n (lv' := [(1, .int (0 : Int32)), (0, .ref (G.2.1 o0))]) hx hb dX6_areItemsWell_1 rfl hl (by decide) rfl (fun ls hl => ?_)
  have K2 : ∀ (n2 : Nat) (x1 : Int32), okX6_areItemsWell_L2 σ o0 n2 x1 → fX6_areItemsWell_L2 σ o0 n2 x1 = fv → ∀ (H : Heap) (locs : List Loc), va_P G.1 vcl (wl G σ) H → va_S (GA G) s.heap H locs → ∀ (ls : Array Slot), lv_has ls 2 [(0, .ref (G.2.1 o0)), (1, .int x1)] → W p l e rm_X6_areItemsWell s m args below meth c H locs 0 0 (MQ below (va_Qi (fun r u => (u, r) = (((σ, fv) : St × Bool).1, bI ((σ, fv) : St × Bool).2)) (PB G) (GA G)) args s 0 0 (GA G)) (F0 m 2 ls []) := by
    intro n2
    induction n2 with
    | zero =>
      intro x1 hok
      exact hok.elim
    | succ n2 ih2 =>
      intro x1 hok hf H locs hP hS ls hl
      rw [okX6_areItemsWell_L2] at hok
      rw [fX6_areItemsWell_L2] at hf
      refine lv_iload_n hx hb dX6_areItemsWell_2 rfl (lv_at hl 1 rfl) ?_
      refine lv_aload_n hx hb dX6_areItemsWell_3 rfl (lv_at hl 0 rfl) ?_
      refine gg_6_1 (j := o0 + 4) rfl X hP ho0 kf_X6_21 dX6_areItemsWell_4 ?_
      refine gg_5_8 X hP (tc_6_1 ho0) kf_X6_155 dX6_areItemsWell_7 ?_
      refine lv_icmp_ge (tgt := 69) hx hb dX6_areItemsWell_10 (by decide) (fun hc => ?_) (fun hc => ?_)
      · have hf := ite_t hc hf
        refine lv_iconst (v := 1) hx hb dX6_areItemsWell_69 (by decide) ?_
        exact g_zret (b := true) X hr hlk rfl hP hS (congrArg (Prod.mk σ) hf) dX6_areItemsWell_70
      · have hf := ite_f hc hf
        have hok := hok.2 hc
        refine lv_aload_n hx hb dX6_areItemsWell_13 rfl (lv_at hl 0 rfl) ?_
        refine gg_6_1 (j := o0 + 4) rfl X hP ho0 kf_X6_21 dX6_areItemsWell_14 ?_
        refine gg_5_4 (j := (o0 + 4) + 5) rfl X hP (tc_6_1 ho0) kf_X6_92 dX6_areItemsWell_17 ?_
        refine lv_iload_n hx hb dX6_areItemsWell_20 rfl (lv_at hl 1 rfl) ?_
        have hs1 := hok.1
        have hok := hok.2
        refine g_iald X hP (tc_5_4 (tc_6_1 ho0)) (by rw [(lc_5_4 (tc_6_1 ho0))]; exact hs1) dX6_areItemsWell_21 ?_
        refine lv_iconst (v := 2) hx hb dX6_areItemsWell_22 (by decide) ?_
        refine lv_icmp_ne (tgt := 36) hx hb dX6_areItemsWell_23 (by decide) (fun hc => ?_) (fun hc => ?_)
        · have hf := ite_f hc hf
          have hok := hok.2 hc
          refine lv_aload_n hx hb dX6_areItemsWell_36 rfl (lv_at hl 0 rfl) ?_
          refine gg_6_1 (j := o0 + 4) rfl X hP ho0 kf_X6_21 dX6_areItemsWell_37 ?_
          refine gg_5_4 (j := (o0 + 4) + 5) rfl X hP (tc_6_1 ho0) kf_X6_92 dX6_areItemsWell_40 ?_
          refine lv_iload_n hx hb dX6_areItemsWell_43 rfl (lv_at hl 1 rfl) ?_
          have hs2 := hok.1
          have hok := hok.2
          refine g_iald X hP (tc_5_4 (tc_6_1 ho0)) (by rw [(lc_5_4 (tc_6_1 ho0))]; exact hs2) dX6_areItemsWell_44 ?_
          refine lv_iconst (v := 4) hx hb dX6_areItemsWell_45 (by decide) ?_
          refine lv_icmp_ne (tgt := 63) hx hb dX6_areItemsWell_46 (by decide) (fun hc => ?_) (fun hc => ?_)
          · have hf := ite_f hc hf
            have hok := hok.2 hc
            refine lv_iinc (v := (x1 + (1 : Int32))) (lv' := [(1, .int (x1 + (1 : Int32))), (0, .ref (G.2.1 o0))]) hx hb dX6_areItemsWell_63 hl (k := 1) rfl rfl (by decide) rfl (fun ls hl => ?_)
            refine lv_goto (tgt := 2) hx hb dX6_areItemsWell_66 (by decide) ?_
            exact ih2 (x1 + (1 : Int32)) hok hf _ _ hP hS ls (lv_sub hl [1, 0] rfl)
          · have hf := ite_t hc hf
            have hok := hok.1 hc
            refine lv_aload_n hx hb dX6_areItemsWell_49 rfl (lv_at hl 0 rfl) ?_
            refine gg_6_1 (j := o0 + 4) rfl X hP ho0 kf_X6_21 dX6_areItemsWell_50 ?_
            refine gg_5_0 (j := (o0 + 4) + 1) rfl X hP (tc_6_1 ho0) kf_X6_162 dX6_areItemsWell_53 ?_
            refine lv_iload_n hx hb dX6_areItemsWell_56 rfl (lv_at hl 1 rfl) ?_
            have hs3 := hok.1
            have hok := hok.2
            refine g_iald X hP (tc_5_0 (tc_6_1 ho0)) (by rw [(lc_5_0 (tc_6_1 ho0))]; exact hs3) dX6_areItemsWell_57 ?_
            refine lv_if_eq (tgt := 63) hx hb dX6_areItemsWell_58 (by decide) (fun hc => ?_) (fun hc => ?_)
            · have hf := ite_t hc hf
              have hok := hok.1 hc
              refine lv_iinc (v := (x1 + (1 : Int32))) (lv' := [(1, .int (x1 + (1 : Int32))), (0, .ref (G.2.1 o0))]) hx hb dX6_areItemsWell_63 hl (k := 1) rfl rfl (by decide) rfl (fun ls hl => ?_)
              refine lv_goto (tgt := 2) hx hb dX6_areItemsWell_66 (by decide) ?_
              exact ih2 (x1 + (1 : Int32)) hok hf _ _ hP hS ls (lv_sub hl [1, 0] rfl)
            · have hf := ite_f hc hf
              refine lv_iconst (v := 0) hx hb dX6_areItemsWell_61 (by decide) ?_
              exact g_zret (b := false) X hr hlk rfl hP hS (congrArg (Prod.mk σ) hf) dX6_areItemsWell_62
        · have hf := ite_t hc hf
          have hok := hok.1 hc
          refine lv_aload_n hx hb dX6_areItemsWell_26 rfl (lv_at hl 0 rfl) ?_
          refine lv_iload_n hx hb dX6_areItemsWell_27 rfl (lv_at hl 1 rfl) ?_
          have hs4 := hok.1
          have hok := hok.2
          refine g_cZp (g_runV (i := o0) (As := [.int x1]) (rest := []) X (c_X6_isInItsHole l G hG σ o0 ho0 x1 hs4) ca_X6_isInItsHole km_X6_158 rfl rfl ⟨Nat.le_of_ble_eq_true rfl, Nat.le_of_ble_eq_true rfl⟩ hP hS (ty_lt ho0) (cell_6 ho0) rfl rfl rfl hl.1 rfl (Nat.le_of_ble_eq_true rfl) ⟨Nat.le_of_ble_eq_true rfl, Nat.le_of_ble_eq_true rfl⟩ dX6_areItemsWell_28) hS (fun H locs hP hS => ?_)
          refine g_ifneZ (tgt := 36) X dX6_areItemsWell_31 (by decide) (fun hc => ?_) (fun hc => ?_)
          · have hf := ite_t hc hf
            have hok := hok.1 hc
            refine lv_aload_n hx hb dX6_areItemsWell_36 rfl (lv_at hl 0 rfl) ?_
            refine gg_6_1 (j := o0 + 4) rfl X hP ho0 kf_X6_21 dX6_areItemsWell_37 ?_
            refine gg_5_4 (j := (o0 + 4) + 5) rfl X hP (tc_6_1 ho0) kf_X6_92 dX6_areItemsWell_40 ?_
            refine lv_iload_n hx hb dX6_areItemsWell_43 rfl (lv_at hl 1 rfl) ?_
            have hs5 := hok.1
            have hok := hok.2
            refine g_iald X hP (tc_5_4 (tc_6_1 ho0)) (by rw [(lc_5_4 (tc_6_1 ho0))]; exact hs5) dX6_areItemsWell_44 ?_
            refine lv_iconst (v := 4) hx hb dX6_areItemsWell_45 (by decide) ?_
            refine lv_icmp_ne (tgt := 63) hx hb dX6_areItemsWell_46 (by decide) (fun hc => ?_) (fun hc => ?_)
            · have hf := ite_f hc hf
              have hok := hok.2 hc
              refine lv_iinc (v := (x1 + (1 : Int32))) (lv' := [(1, .int (x1 + (1 : Int32))), (0, .ref (G.2.1 o0))]) hx hb dX6_areItemsWell_63 hl (k := 1) rfl rfl (by decide) rfl (fun ls hl => ?_)
              refine lv_goto (tgt := 2) hx hb dX6_areItemsWell_66 (by decide) ?_
              exact ih2 (x1 + (1 : Int32)) hok hf _ _ hP hS ls (lv_sub hl [1, 0] rfl)
            · have hf := ite_t hc hf
              have hok := hok.1 hc
              refine lv_aload_n hx hb dX6_areItemsWell_49 rfl (lv_at hl 0 rfl) ?_
              refine gg_6_1 (j := o0 + 4) rfl X hP ho0 kf_X6_21 dX6_areItemsWell_50 ?_
              refine gg_5_0 (j := (o0 + 4) + 1) rfl X hP (tc_6_1 ho0) kf_X6_162 dX6_areItemsWell_53 ?_
              refine lv_iload_n hx hb dX6_areItemsWell_56 rfl (lv_at hl 1 rfl) ?_
              have hs6 := hok.1
              have hok := hok.2
              refine g_iald X hP (tc_5_0 (tc_6_1 ho0)) (by rw [(lc_5_0 (tc_6_1 ho0))]; exact hs6) dX6_areItemsWell_57 ?_
              refine lv_if_eq (tgt := 63) hx hb dX6_areItemsWell_58 (by decide) (fun hc => ?_) (fun hc => ?_)
              · have hf := ite_t hc hf
                have hok := hok.1 hc
                refine lv_iinc (v := (x1 + (1 : Int32))) (lv' := [(1, .int (x1 + (1 : Int32))), (0, .ref (G.2.1 o0))]) hx hb dX6_areItemsWell_63 hl (k := 1) rfl rfl (by decide) rfl (fun ls hl => ?_)
                refine lv_goto (tgt := 2) hx hb dX6_areItemsWell_66 (by decide) ?_
                exact ih2 (x1 + (1 : Int32)) hok hf _ _ hP hS ls (lv_sub hl [1, 0] rfl)
              · have hf := ite_f hc hf
                refine lv_iconst (v := 0) hx hb dX6_areItemsWell_61 (by decide) ?_
                exact g_zret (b := false) X hr hlk rfl hP hS (congrArg (Prod.mk σ) hf) dX6_areItemsWell_62
          · have hf := ite_z hc hf
            refine lv_iconst (v := 0) hx hb dX6_areItemsWell_34 (by decide) ?_
            exact g_zret (b := false) X hr hlk rfl hP hS (congrArg (Prod.mk σ) hf) dX6_areItemsWell_35
  exact K2 2000 (0 : Int32) hok hf _ _ hP hS ls (lv_sub hl [1, 0] rfl)
def fX6_areHolesWell_L4 (σ : St) (o0 : Nat) : Nat → Int32 → Int32 → Bool
  | 0, _, _ => false
  | n4 + 1, x1, x2 => (if (30 : Int32) ≤ x2 then (if x1 = (f_X5_inState σ (o0 + 4) (2 : Int32)) then true else false) else (if (σ.1 ((o0 + 13) + 1) x2.toNatClampNeg) = (-1 : Int32) then (fX6_areHolesWell_L4 σ o0 n4 x1 (x2 + (1 : Int32))) else (fX6_areHolesWell_L4 σ o0 n4 (x1 + (1 : Int32)) (x2 + (1 : Int32)))))
def okX6_areHolesWell_L4 (σ : St) (o0 : Nat) : Nat → Int32 → Int32 → Prop
  | 0, _, _ => False
  | n4 + 1, x1, x2 => (((30 : Int32) ≤ x2 → ok_X5_inState σ (o0 + 4) (2 : Int32)) ∧ (¬ (30 : Int32) ≤ x2 → (vp_in x2 30 ∧ (((σ.1 ((o0 + 13) + 1) x2.toNatClampNeg) = (-1 : Int32) → (okX6_areHolesWell_L4 σ o0 n4 x1 (x2 + (1 : Int32)))) ∧ (¬ (σ.1 ((o0 + 13) + 1) x2.toNatClampNeg) = (-1 : Int32) → (okX6_areHolesWell_L4 σ o0 n4 (x1 + (1 : Int32)) (x2 + (1 : Int32))))))))
def f_X6_areHolesWell (σ : St) (o0 : Nat) : Bool := (fX6_areHolesWell_L4 σ o0 2000 (0 : Int32) (0 : Int32))
def ok_X6_areHolesWell (σ : St) (o0 : Nat) : Prop := (okX6_areHolesWell_L4 σ o0 2000 (0 : Int32) (0 : Int32))
abbrev rm_X6_areHolesWell : Room := { frames := 1, cells := 0, slots := 0, locals := 23 }
set_option maxHeartbeats 4000000 in
set_option maxRecDepth 100000 in
theorem c_X6_areHolesWell (l : Launch) (G : GE) (hG : Gok G) (σ : St) (o0 : Nat) (ho0 : tyOf o0 = 6) (hok : ok_X6_areHolesWell σ o0) : MtZ l G yX6_areHolesWell cX6_areHolesWell 3 rm_X6_areHolesWell [.ref (G.2.1 o0)] σ (σ, f_X6_areHolesWell σ o0) := by
  generalize hf : f_X6_areHolesWell σ o0 = fv
  rw [f_X6_areHolesWell] at hf
  rw [ok_X6_areHolesWell] at hok
  refine g_start hG (plainFor_of_name (by decide)) (Nat.le_of_ble_eq_true rfl) ?_
  intro p e s m args below meth c X hr hlk ls hl H locs hP hS
  have X : Cx G p s m args c cX6_areHolesWell 3 RX6 := X
  obtain ⟨hx, hb, hml, hown, hts, hK, hbs, hXW, -⟩ := id X
  have hl : lv_has ls 3 [(0, .ref (G.2.1 o0))] := hl
  refine lv_iconst (v := 0) hx hb dX6_areHolesWell_0 (by decide) ?_
  refine lv_istore_n (lv' := [(1, .int (0 : Int32)), (0, .ref (G.2.1 o0))]) hx hb dX6_areHolesWell_1 rfl hl (by decide) rfl (fun ls hl => ?_)
  refine lv_iconst (v := 0) hx hb dX6_areHolesWell_2 (by decide) ?_
  refine lv_istore_n (lv' := [(2, .int (0 : Int32)), (1, .int (0 : Int32)), (0, .ref (G.2.1 o0))]) hx hb dX6_areHolesWell_3 rfl hl (by decide) rfl (fun ls hl => ?_)
  have K4 : ∀ (n4 : Nat) (x1 : Int32) (x2 : Int32), okX6_areHolesWell_L4 σ o0 n4 x1 x2 → fX6_areHolesWell_L4 σ o0 n4 x1 x2 = fv → ∀ (H : Heap) (locs : List Loc), va_P G.1 vcl (wl G σ) H → va_S (GA G) s.heap H locs → ∀ (ls : Array Slot), lv_has ls 3 [(0, .ref (G.2.1 o0)), (1, .int x1), (2, .int x2)] → W p l e rm_X6_areHolesWell s m args below meth c H locs 0 0 (MQ below (va_Qi (fun r u => (u, r) = (((σ, fv) : St × Bool).1, bI ((σ, fv) : St × Bool).2)) (PB G) (GA G)) args s 0 0 (GA G)) (F0 m 4 ls []) := by
    intro n4
    induction n4 with
    | zero =>
      intro x1 x2 hok
      exact hok.elim
    | succ n4 ih4 =>
      intro x1 x2 hok hf H locs hP hS ls hl
      rw [okX6_areHolesWell_L4] at hok
      rw [fX6_areHolesWell_L4] at hf
      refine lv_iload_n hx hb dX6_areHolesWell_4 rfl (lv_at hl 2 rfl) ?_
      refine lv_aload_n hx hb dX6_areHolesWell_5 rfl (lv_at hl 0 rfl) ?_
      refine gg_6_2 (j := o0 + 13) rfl X hP ho0 kf_X6_28 dX6_areHolesWell_6 ?_
      refine gg_8_0 (j := (o0 + 13) + 1) rfl X hP (tc_6_2 ho0) kf_X6_168 dX6_areHolesWell_9 ?_
      refine g_alen (t := 0) (t0 := 0) (v := 30) X hP (ty_lt (tc_8_0 (tc_6_2 ho0))) (cell_20 (tc_8_0 (tc_6_2 ho0))) rfl (by show Int32.ofNat (lnOf ((o0 + 13) + 1)) = _; rw [(lc_8_0 (tc_6_2 ho0))]; rfl) dX6_areHolesWell_12 ?_
      refine lv_icmp_ge (tgt := 38) hx hb dX6_areHolesWell_13 (by decide) (fun hc => ?_) (fun hc => ?_)
      · have hf := ite_t hc hf
        have hok := hok.1 hc
        refine lv_iload_n hx hb dX6_areHolesWell_38 rfl (lv_at hl 1 rfl) ?_
        refine lv_aload_n hx hb dX6_areHolesWell_39 rfl (lv_at hl 0 rfl) ?_
        refine gg_6_1 (j := o0 + 4) rfl X hP ho0 kf_X6_21 dX6_areHolesWell_40 ?_
        refine lv_iconst (v := 2) hx hb dX6_areHolesWell_43 (by decide) ?_
        have hs1 := hok
        refine g_cIp (g_runV (i := (o0 + 4)) (As := [.int (2 : Int32)]) (rest := [.int x1]) X (c_X5_inState l G hG σ (o0 + 4) (tc_6_1 ho0) (2 : Int32) hs1) ca_X5_inState km_X6_171 rfl rfl ⟨Nat.le_of_ble_eq_true rfl, Nat.le_of_ble_eq_true rfl⟩ hP hS (ty_lt (tc_6_1 ho0)) (cell_5 (tc_6_1 ho0)) rfl rfl rfl hl.1 rfl (Nat.le_of_ble_eq_true rfl) ⟨Nat.le_of_ble_eq_true rfl, Nat.le_of_ble_eq_true rfl⟩ dX6_areHolesWell_44) hS (fun H locs hP hS => ?_)
        refine lv_icmp_ne (tgt := 54) hx hb dX6_areHolesWell_47 (by decide) (fun hc => ?_) (fun hc => ?_)
        · have hf := ite_f hc hf
          refine lv_iconst (v := 0) hx hb dX6_areHolesWell_54 (by decide) ?_
          exact g_zret (b := false) X hr hlk rfl hP hS (congrArg (Prod.mk σ) hf) dX6_areHolesWell_55
        · have hf := ite_t hc hf
          refine lv_iconst (v := 1) hx hb dX6_areHolesWell_50 (by decide) ?_
          refine lv_goto (tgt := 55) hx hb dX6_areHolesWell_51 (by decide) ?_
          exact g_zret (b := true) X hr hlk rfl hP hS (congrArg (Prod.mk σ) hf) dX6_areHolesWell_55
      · have hf := ite_f hc hf
        have hok := hok.2 hc
        refine lv_aload_n hx hb dX6_areHolesWell_16 rfl (lv_at hl 0 rfl) ?_
        refine gg_6_2 (j := o0 + 13) rfl X hP ho0 kf_X6_28 dX6_areHolesWell_17 ?_
        refine gg_8_0 (j := (o0 + 13) + 1) rfl X hP (tc_6_2 ho0) kf_X6_168 dX6_areHolesWell_20 ?_
        refine lv_iload_n hx hb dX6_areHolesWell_23 rfl (lv_at hl 2 rfl) ?_
        have hs2 := hok.1
        have hok := hok.2
        refine g_iald X hP (tc_8_0 (tc_6_2 ho0)) (by rw [(lc_8_0 (tc_6_2 ho0))]; exact hs2) dX6_areHolesWell_24 ?_
        refine lv_iconst (v := -1) hx hb dX6_areHolesWell_25 (by decide) ?_
        refine lv_icmp_eq (tgt := 32) hx hb dX6_areHolesWell_26 (by decide) (fun hc => ?_) (fun hc => ?_)
        · have hf := ite_t hc hf
          have hok := hok.1 hc
          refine lv_iinc (v := (x2 + (1 : Int32))) (lv' := [(2, .int (x2 + (1 : Int32))), (0, .ref (G.2.1 o0)), (1, .int x1)]) hx hb dX6_areHolesWell_32 hl (k := 2) rfl rfl (by decide) rfl (fun ls hl => ?_)
          refine lv_goto (tgt := 4) hx hb dX6_areHolesWell_35 (by decide) ?_
          exact ih4 x1 (x2 + (1 : Int32)) hok hf _ _ hP hS ls (lv_sub hl [1, 2, 0] rfl)
        · have hf := ite_f hc hf
          have hok := hok.2 hc
          refine lv_iinc (v := (x1 + (1 : Int32))) (lv' := [(1, .int (x1 + (1 : Int32))), (0, .ref (G.2.1 o0)), (2, .int x2)]) hx hb dX6_areHolesWell_29 hl (k := 1) rfl rfl (by decide) rfl (fun ls hl => ?_)
          refine lv_iinc (v := (x2 + (1 : Int32))) (lv' := [(2, .int (x2 + (1 : Int32))), (1, .int (x1 + (1 : Int32))), (0, .ref (G.2.1 o0))]) hx hb dX6_areHolesWell_32 hl (k := 2) rfl rfl (by decide) rfl (fun ls hl => ?_)
          refine lv_goto (tgt := 4) hx hb dX6_areHolesWell_35 (by decide) ?_
          exact ih4 (x1 + (1 : Int32)) (x2 + (1 : Int32)) hok hf _ _ hP hS ls (lv_sub hl [2, 1, 0] rfl)
  exact K4 2000 (0 : Int32) (0 : Int32) hok hf _ _ hP hS ls (lv_sub hl [2, 1, 0] rfl)
def fX6_areReadersWell_L2 (σ : St) (o0 : Nat) : Nat → Int32 → Bool
  | 0, _ => false
  | n2 + 1, x1 => (if (6 : Int32) ≤ x1 then true else (if (σ.1 ((o0 + 13) + 2) x1.toNatClampNeg) = (f_X5_takenLettersTo σ (o0 + 4) x1) then (fX6_areReadersWell_L2 σ o0 n2 (x1 + (1 : Int32))) else false))
def okX6_areReadersWell_L2 (σ : St) (o0 : Nat) : Nat → Int32 → Prop
  | 0, _ => False
  | n2 + 1, x1 => (((6 : Int32) ≤ x1 → True) ∧ (¬ (6 : Int32) ≤ x1 → (vp_in x1 6 ∧ (ok_X5_takenLettersTo σ (o0 + 4) x1 ∧ (((σ.1 ((o0 + 13) + 2) x1.toNatClampNeg) = (f_X5_takenLettersTo σ (o0 + 4) x1) → (okX6_areReadersWell_L2 σ o0 n2 (x1 + (1 : Int32)))) ∧ (¬ (σ.1 ((o0 + 13) + 2) x1.toNatClampNeg) = (f_X5_takenLettersTo σ (o0 + 4) x1) → True))))))
def f_X6_areReadersWell (σ : St) (o0 : Nat) : Bool := (fX6_areReadersWell_L2 σ o0 2000 (0 : Int32))
def ok_X6_areReadersWell (σ : St) (o0 : Nat) : Prop := (okX6_areReadersWell_L2 σ o0 2000 (0 : Int32))
abbrev rm_X6_areReadersWell : Room := { frames := 1, cells := 0, slots := 0, locals := 23 }
set_option maxHeartbeats 4000000 in
set_option maxRecDepth 100000 in
theorem c_X6_areReadersWell (l : Launch) (G : GE) (hG : Gok G) (σ : St) (o0 : Nat) (ho0 : tyOf o0 = 6) (hok : ok_X6_areReadersWell σ o0) : MtZ l G yX6_areReadersWell cX6_areReadersWell 2 rm_X6_areReadersWell [.ref (G.2.1 o0)] σ (σ, f_X6_areReadersWell σ o0) := by
  generalize hf : f_X6_areReadersWell σ o0 = fv
  rw [f_X6_areReadersWell] at hf
  rw [ok_X6_areReadersWell] at hok
  refine g_start hG (plainFor_of_name (by decide)) (Nat.le_of_ble_eq_true rfl) ?_
  intro p e s m args below meth c X hr hlk ls hl H locs hP hS
  have X : Cx G p s m args c cX6_areReadersWell 2 RX6 := X
  obtain ⟨hx, hb, hml, hown, hts, hK, hbs, hXW, -⟩ := id X
  have hl : lv_has ls 2 [(0, .ref (G.2.1 o0))] := hl
  refine lv_iconst (v := 0) hx hb dX6_areReadersWell_0 (by decide) ?_
  refine lv_istore_n (lv' := [(1, .int (0 : Int32)), (0, .ref (G.2.1 o0))]) hx hb dX6_areReadersWell_1 rfl hl (by decide) rfl (fun ls hl => ?_)
  have K2 : ∀ (n2 : Nat) (x1 : Int32), okX6_areReadersWell_L2 σ o0 n2 x1 → fX6_areReadersWell_L2 σ o0 n2 x1 = fv → ∀ (H : Heap) (locs : List Loc), va_P G.1 vcl (wl G σ) H → va_S (GA G) s.heap H locs → ∀ (ls : Array Slot), lv_has ls 2 [(0, .ref (G.2.1 o0)), (1, .int x1)] → W p l e rm_X6_areReadersWell s m args below meth c H locs 0 0 (MQ below (va_Qi (fun r u => (u, r) = (((σ, fv) : St × Bool).1, bI ((σ, fv) : St × Bool).2)) (PB G) (GA G)) args s 0 0 (GA G)) (F0 m 2 ls []) := by
    intro n2
    induction n2 with
    | zero =>
      intro x1 hok
      exact hok.elim
    | succ n2 ih2 =>
      intro x1 hok hf H locs hP hS ls hl
      rw [okX6_areReadersWell_L2] at hok
      rw [fX6_areReadersWell_L2] at hf
      refine lv_iload_n hx hb dX6_areReadersWell_2 rfl (lv_at hl 1 rfl) ?_
      refine lv_bipush (v := 6) hx hb dX6_areReadersWell_3 (by decide) ?_
      refine lv_icmp_ge (tgt := 36) hx hb dX6_areReadersWell_5 (by decide) (fun hc => ?_) (fun hc => ?_)
      · have hf := ite_t hc hf
        refine lv_iconst (v := 1) hx hb dX6_areReadersWell_36 (by decide) ?_
        exact g_zret (b := true) X hr hlk rfl hP hS (congrArg (Prod.mk σ) hf) dX6_areReadersWell_37
      · have hf := ite_f hc hf
        have hok := hok.2 hc
        refine lv_aload_n hx hb dX6_areReadersWell_8 rfl (lv_at hl 0 rfl) ?_
        refine gg_6_2 (j := o0 + 13) rfl X hP ho0 kf_X6_28 dX6_areReadersWell_9 ?_
        refine gg_8_1 (j := (o0 + 13) + 2) rfl X hP (tc_6_2 ho0) kf_X6_129 dX6_areReadersWell_12 ?_
        refine lv_iload_n hx hb dX6_areReadersWell_15 rfl (lv_at hl 1 rfl) ?_
        have hs1 := hok.1
        have hok := hok.2
        refine g_iald X hP (tc_8_1 (tc_6_2 ho0)) (by rw [(lc_8_1 (tc_6_2 ho0))]; exact hs1) dX6_areReadersWell_16 ?_
        refine lv_aload_n hx hb dX6_areReadersWell_17 rfl (lv_at hl 0 rfl) ?_
        refine gg_6_1 (j := o0 + 4) rfl X hP ho0 kf_X6_21 dX6_areReadersWell_18 ?_
        refine lv_iload_n hx hb dX6_areReadersWell_21 rfl (lv_at hl 1 rfl) ?_
        have hs2 := hok.1
        have hok := hok.2
        refine g_cIp (g_runV (i := (o0 + 4)) (As := [.int x1]) (rest := [.int (σ.1 ((o0 + 13) + 2) x1.toNatClampNeg)]) X (c_X5_takenLettersTo l G hG σ (o0 + 4) (tc_6_1 ho0) x1 hs2) ca_X5_takenLettersTo km_X6_174 rfl rfl ⟨Nat.le_of_ble_eq_true rfl, Nat.le_of_ble_eq_true rfl⟩ hP hS (ty_lt (tc_6_1 ho0)) (cell_5 (tc_6_1 ho0)) rfl rfl rfl hl.1 rfl (Nat.le_of_ble_eq_true rfl) ⟨Nat.le_of_ble_eq_true rfl, Nat.le_of_ble_eq_true rfl⟩ dX6_areReadersWell_22) hS (fun H locs hP hS => ?_)
        refine lv_icmp_eq (tgt := 30) hx hb dX6_areReadersWell_25 (by decide) (fun hc => ?_) (fun hc => ?_)
        · have hf := ite_t hc hf
          have hok := hok.1 hc
          refine lv_iinc (v := (x1 + (1 : Int32))) (lv' := [(1, .int (x1 + (1 : Int32))), (0, .ref (G.2.1 o0))]) hx hb dX6_areReadersWell_30 hl (k := 1) rfl rfl (by decide) rfl (fun ls hl => ?_)
          refine lv_goto (tgt := 2) hx hb dX6_areReadersWell_33 (by decide) ?_
          exact ih2 (x1 + (1 : Int32)) hok hf _ _ hP hS ls (lv_sub hl [1, 0] rfl)
        · have hf := ite_f hc hf
          refine lv_iconst (v := 0) hx hb dX6_areReadersWell_28 (by decide) ?_
          exact g_zret (b := false) X hr hlk rfl hP hS (congrArg (Prod.mk σ) hf) dX6_areReadersWell_29
  exact K2 2000 (0 : Int32) hok hf _ _ hP hS ls (lv_sub hl [1, 0] rfl)
