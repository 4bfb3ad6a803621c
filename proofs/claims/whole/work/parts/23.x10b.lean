def f_X10_reads (σ : St) (x1 : Int32) : St × Int32 := (bnd (setI σ 196 0 (0 : Int32)) (fun q1 => (if (f_X10_isItem q1 x1) = true then (if (f_X10_isLetter q1 x1) = true then (q1, (f_Jxf58ca_floatToIntBits_5c35a (q1.2.1 201 ((16 : Int32) + x1).toNatClampNeg))) else (bnd (f_X10_fails q1 (2 : Int32)) (fun q3 => (q3.1, q3.2)))) else (bnd (f_X10_fails q1 (1 : Int32)) (fun q5 => (q5.1, q5.2))))))
def ok_X10_reads (σ : St) (x1 : Int32) : Prop := (bndP (setI σ 196 0 (0 : Int32)) (fun q1 => (((f_X10_isItem q1 x1) = true → (ok_X10_isLetter q1 x1 ∧ (((f_X10_isLetter q1 x1) = true → vp_in ((16 : Int32) + x1) 36) ∧ ((f_X10_isLetter q1 x1) = false → True)))) ∧ ((f_X10_isItem q1 x1) = false → True))))
abbrev rm_X10_reads : Room := { frames := 2, cells := 0, slots := 0, locals := 80 }
set_option maxHeartbeats 4000000 in
set_option maxRecDepth 100000 in
theorem c_X10_reads (l : Launch) (G : GE) (hG : Gok G) (σ : St) (x1 : Int32) (hok : ok_X10_reads σ x1) : MtI l G yX10_reads cX10_reads 2 rm_X10_reads [.ref (G.2.1 196), .int x1] σ (f_X10_reads σ x1) := by
  generalize hf : f_X10_reads σ x1 = fv
  rw [f_X10_reads] at hf
  rw [ok_X10_reads] at hok
  refine g_start hG (plainFor_of_name (by decide)) (Nat.le_of_ble_eq_true rfl) ?_
  intro p e s m args below meth c X hr hlk ls hl H locs hP hS
  have X : Cx G p s m args c cX10_reads 2 RX10 := X
  obtain ⟨hx, hb, hml, hown, hts, hK, hbs, hXW, -⟩ := id X
  have hl : lv_has ls 2 [(0, .ref (G.2.1 196)), (1, .int x1)] := hl
  refine lv_aload_n hx hb dX10_reads_0 rfl (lv_at hl 0 rfl) ?_
  refine lv_iconst (v := 0) hx hb dX10_reads_1 (by decide) ?_
  refine gp_10_0 X hP hS ab_196 kf_X10_50 dX10_reads_2 (fun H locs hP hS => ?_)
  refine g_name hP (fun q1 hq1 hP => ?_)
  have hf := bnd_go hq1 hf
  have hok := bnd_goP hq1 hok
  refine lv_aload_n hx hb dX10_reads_5 rfl (lv_at hl 0 rfl) ?_
  refine lv_iload_n hx hb dX10_reads_6 rfl (lv_at hl 1 rfl) ?_
  refine g_cZp (g_runV (i := 196) (As := [.int x1]) (rest := []) X (c_X10_isItem l G hG q1 x1) ca_X10_isItem km_X10_136 rfl rfl ⟨Nat.le_of_ble_eq_true rfl, Nat.le_of_ble_eq_true rfl⟩ hP hS (ty_lt ab_196) (cell_10 ab_196) rfl rfl rfl hl.1 rfl (Nat.le_of_ble_eq_true rfl) ⟨Nat.le_of_ble_eq_true rfl, Nat.le_of_ble_eq_true rfl⟩ dX10_reads_7) hS (fun H locs hP hS => ?_)
  refine g_ifneZ (tgt := 19) X dX10_reads_10 (by decide) (fun hc => ?_) (fun hc => ?_)
  · have hf := ite_t hc hf
    have hok := hok.1 hc
    refine lv_aload_n hx hb dX10_reads_19 rfl (lv_at hl 0 rfl) ?_
    refine lv_iload_n hx hb dX10_reads_20 rfl (lv_at hl 1 rfl) ?_
    have hs2 := hok.1
    have hok := hok.2
    refine g_cZp (g_runV (i := 196) (As := [.int x1]) (rest := []) X (c_X10_isLetter l G hG q1 x1 hs2) ca_X10_isLetter km_X10_139 rfl rfl ⟨Nat.le_of_ble_eq_true rfl, Nat.le_of_ble_eq_true rfl⟩ hP hS (ty_lt ab_196) (cell_10 ab_196) rfl rfl rfl hl.1 rfl (Nat.le_of_ble_eq_true rfl) ⟨Nat.le_of_ble_eq_true rfl, Nat.le_of_ble_eq_true rfl⟩ dX10_reads_21) hS (fun H locs hP hS => ?_)
    refine g_ifeqZ (tgt := 42) X dX10_reads_24 (by decide) (fun hc => ?_) (fun hc => ?_)
    · have hf := ite_z hc hf
      refine lv_aload_n hx hb dX10_reads_42 rfl (lv_at hl 0 rfl) ?_
      refine lv_iconst (v := 2) hx hb dX10_reads_43 (by decide) ?_
      refine g_cI (g_runV (i := 196) (As := [.int (2 : Int32)]) (rest := []) X (c_X10_fails l G hG q1 (2 : Int32)) ca_X10_fails km_X10_59 rfl rfl ⟨Nat.le_of_ble_eq_true rfl, Nat.le_of_ble_eq_true rfl⟩ hP hS (ty_lt ab_196) (cell_10 ab_196) rfl rfl rfl hl.1 rfl (Nat.le_of_ble_eq_true rfl) ⟨Nat.le_of_ble_eq_true rfl, Nat.le_of_ble_eq_true rfl⟩ dX10_reads_44) hS (fun q3 hq3 H locs hP hS => ?_)
      have hf := bnd_go hq3 hf
      exact g_iret X hr hlk hP hS hf dX10_reads_47
    · have hf := ite_t hc hf
      have hok := hok.1 hc
      refine lv_aload_n hx hb dX10_reads_27 rfl (lv_at hl 0 rfl) ?_
      refine gg_10_9 X hP ab_196 kf_X10_22 dX10_reads_28 ?_
      refine lv_bipush (v := 16) hx hb dX10_reads_31 (by decide) ?_
      refine lv_iload_n hx hb dX10_reads_33 rfl (lv_at hl 1 rfl) ?_
      refine lv_iadd hx hb dX10_reads_34 ?_
      have hs4 := hok
      refine g_fald X hP ab_201 (by rw [al_201]; exact hs4) dX10_reads_35 ?_
      refine g_cIp (g_runS (As := [.float (q1.2.1 201 ((16 : Int32) + x1).toNatClampNeg)]) (rest := []) X (c_Jxf58ca_floatToIntBits_5c35a l G hG q1 (q1.2.1 201 ((16 : Int32) + x1).toNatClampNeg)) ca_Jxf58ca_floatToIntBits_5c35a km_X10_142 rfl rfl ⟨Nat.le_of_ble_eq_true rfl, Nat.le_of_ble_eq_true rfl⟩ hP hS rfl hl.1 rfl (Nat.le_of_ble_eq_true rfl) ⟨Nat.le_of_ble_eq_true rfl, Nat.le_of_ble_eq_true rfl⟩ dX10_reads_36) hS (fun H locs hP hS => ?_)
      refine lv_goto (tgt := 47) hx hb dX10_reads_39 (by decide) ?_
      exact g_iret X hr hlk hP hS hf dX10_reads_47
  · have hf := ite_z hc hf
    refine lv_aload_n hx hb dX10_reads_13 rfl (lv_at hl 0 rfl) ?_
    refine lv_iconst (v := 1) hx hb dX10_reads_14 (by decide) ?_
    refine g_cI (g_runV (i := 196) (As := [.int (1 : Int32)]) (rest := []) X (c_X10_fails l G hG q1 (1 : Int32)) ca_X10_fails km_X10_59 rfl rfl ⟨Nat.le_of_ble_eq_true rfl, Nat.le_of_ble_eq_true rfl⟩ hP hS (ty_lt ab_196) (cell_10 ab_196) rfl rfl rfl hl.1 rfl (Nat.le_of_ble_eq_true rfl) ⟨Nat.le_of_ble_eq_true rfl, Nat.le_of_ble_eq_true rfl⟩ dX10_reads_15) hS (fun q5 hq5 H locs hP hS => ?_)
    have hf := bnd_go hq5 hf
    exact g_iret X hr hlk hP hS hf dX10_reads_18
def f_X10_stringFor (σ : St) (x1 : Int32) (x2 : Int32) (x3 : Int32) : St × Int32 := (bnd (setI σ 196 0 (0 : Int32)) (fun q1 => (if (f_X10_areSides x1 x2 x3) = true then (q1, (f_Jxf58ca_floatToIntBits_5c35a (f_X10_stringOf x1 x2 x3))) else (bnd (f_X10_fails q1 (1 : Int32)) (fun q2 => (q2.1, q2.2))))))
def ok_X10_stringFor (σ : St) (x1 : Int32) (x2 : Int32) (x3 : Int32) : Prop := (((f_X10_areSides x1 x2 x3) = true → ok_X10_stringOf x1 x2 x3) ∧ ((f_X10_areSides x1 x2 x3) = false → True))
abbrev rm_X10_stringFor : Room := { frames := 2, cells := 0, slots := 0, locals := 80 }
set_option maxHeartbeats 4000000 in
set_option maxRecDepth 100000 in
theorem c_X10_stringFor (l : Launch) (G : GE) (hG : Gok G) (σ : St) (x1 : Int32) (x2 : Int32) (x3 : Int32) (hok : ok_X10_stringFor σ x1 x2 x3) : MtI l G yX10_stringFor cX10_stringFor 4 rm_X10_stringFor [.ref (G.2.1 196), .int x1, .int x2, .int x3] σ (f_X10_stringFor σ x1 x2 x3) := by
  generalize hf : f_X10_stringFor σ x1 x2 x3 = fv
  rw [f_X10_stringFor] at hf
  rw [ok_X10_stringFor] at hok
  refine g_start hG (plainFor_of_name (by decide)) (Nat.le_of_ble_eq_true rfl) ?_
  intro p e s m args below meth c X hr hlk ls hl H locs hP hS
  have X : Cx G p s m args c cX10_stringFor 4 RX10 := X
  obtain ⟨hx, hb, hml, hown, hts, hK, hbs, hXW, -⟩ := id X
  have hl : lv_has ls 4 [(0, .ref (G.2.1 196)), (1, .int x1), (2, .int x2), (3, .int x3)] := hl
  refine lv_aload_n hx hb dX10_stringFor_0 rfl (lv_at hl 0 rfl) ?_
  refine lv_iconst (v := 0) hx hb dX10_stringFor_1 (by decide) ?_
  refine gp_10_0 X hP hS ab_196 kf_X10_50 dX10_stringFor_2 (fun H locs hP hS => ?_)
  refine g_name hP (fun q1 hq1 hP => ?_)
  have hf := bnd_go hq1 hf
  refine lv_iload_n hx hb dX10_stringFor_5 rfl (lv_at hl 1 rfl) ?_
  refine lv_iload_n hx hb dX10_stringFor_6 rfl (lv_at hl 2 rfl) ?_
  refine lv_iload_n hx hb dX10_stringFor_7 rfl (lv_at hl 3 rfl) ?_
  refine g_cZp (g_runS (As := [.int x1, .int x2, .int x3]) (rest := []) X (c_X10_areSides l G hG q1 x1 x2 x3) ca_X10_areSides km_X10_125 rfl rfl ⟨Nat.le_of_ble_eq_true rfl, Nat.le_of_ble_eq_true rfl⟩ hP hS rfl hl.1 rfl (Nat.le_of_ble_eq_true rfl) ⟨Nat.le_of_ble_eq_true rfl, Nat.le_of_ble_eq_true rfl⟩ dX10_stringFor_8) hS (fun H locs hP hS => ?_)
  refine g_ifeqZ (tgt := 26) X dX10_stringFor_11 (by decide) (fun hc => ?_) (fun hc => ?_)
  · have hf := ite_z hc hf
    refine lv_aload_n hx hb dX10_stringFor_26 rfl (lv_at hl 0 rfl) ?_
    refine lv_iconst (v := 1) hx hb dX10_stringFor_27 (by decide) ?_
    refine g_cI (g_runV (i := 196) (As := [.int (1 : Int32)]) (rest := []) X (c_X10_fails l G hG q1 (1 : Int32)) ca_X10_fails km_X10_59 rfl rfl ⟨Nat.le_of_ble_eq_true rfl, Nat.le_of_ble_eq_true rfl⟩ hP hS (ty_lt ab_196) (cell_10 ab_196) rfl rfl rfl hl.1 rfl (Nat.le_of_ble_eq_true rfl) ⟨Nat.le_of_ble_eq_true rfl, Nat.le_of_ble_eq_true rfl⟩ dX10_stringFor_28) hS (fun q2 hq2 H locs hP hS => ?_)
    have hf := bnd_go hq2 hf
    exact g_iret X hr hlk hP hS hf dX10_stringFor_31
  · have hf := ite_t hc hf
    have hok := hok.1 hc
    refine lv_iload_n hx hb dX10_stringFor_14 rfl (lv_at hl 1 rfl) ?_
    refine lv_iload_n hx hb dX10_stringFor_15 rfl (lv_at hl 2 rfl) ?_
    refine lv_iload_n hx hb dX10_stringFor_16 rfl (lv_at hl 3 rfl) ?_
    have hs3 := hok
    refine g_cFp (g_runS (As := [.int x1, .int x2, .int x3]) (rest := []) X (c_X10_stringOf l G hG q1 x1 x2 x3 hs3) ca_X10_stringOf km_X10_128 rfl rfl ⟨Nat.le_of_ble_eq_true rfl, Nat.le_of_ble_eq_true rfl⟩ hP hS rfl hl.1 rfl (Nat.le_of_ble_eq_true rfl) ⟨Nat.le_of_ble_eq_true rfl, Nat.le_of_ble_eq_true rfl⟩ dX10_stringFor_17) hS (fun H locs hP hS => ?_)
    refine g_cIp (g_runS (As := [.float (f_X10_stringOf x1 x2 x3)]) (rest := []) X (c_Jxf58ca_floatToIntBits_5c35a l G hG q1 (f_X10_stringOf x1 x2 x3)) ca_Jxf58ca_floatToIntBits_5c35a km_X10_142 rfl rfl ⟨Nat.le_of_ble_eq_true rfl, Nat.le_of_ble_eq_true rfl⟩ hP hS rfl hl.1 rfl (Nat.le_of_ble_eq_true rfl) ⟨Nat.le_of_ble_eq_true rfl, Nat.le_of_ble_eq_true rfl⟩ dX10_stringFor_20) hS (fun H locs hP hS => ?_)
    refine lv_goto (tgt := 31) hx hb dX10_stringFor_23 (by decide) ?_
    exact g_iret X hr hlk hP hS hf dX10_stringFor_31
def f_X10_string (σ : St) (x1 : Int32) : St × Int32 := (bnd (setI σ 196 0 (0 : Int32)) (fun q1 => (if (f_X10_isBetween x1 (1 : Int32) (20 : Int32)) = true then (bnd (f_X10_remembers q1) (fun q3 => (bnd (setF q3 201 (13 : Int32).toNatClampNeg (FP.fadd (q3.2.1 201 (13 : Int32).toNatClampNeg) (FP.i2f x1))) (fun q5 => (if (Op.cmpValue (FP.fcmp (q5.2.1 201 (13 : Int32).toNatClampNeg) (1120272384 : UInt32)) CmpOp.l) ≤ 0 then (q5, (f_Jxf58ca_floatToIntBits_5c35a (q5.2.1 201 (13 : Int32).toNatClampNeg))) else (bnd (setF q5 201 (13 : Int32).toNatClampNeg (1120272384 : UInt32)) (fun q6 => (q6, (f_Jxf58ca_floatToIntBits_5c35a (q6.2.1 201 (13 : Int32).toNatClampNeg)))))))))) else (bnd (f_X10_fails q1 (1 : Int32)) (fun q7 => (q7.1, q7.2))))))
def ok_X10_string (σ : St) (x1 : Int32) : Prop := (bndP (setI σ 196 0 (0 : Int32)) (fun q1 => (((f_X10_isBetween x1 (1 : Int32) (20 : Int32)) = true → (ok_X10_remembers q1 ∧ (bndP (f_X10_remembers q1) (fun q3 => vf_n32 (FP.fadd (q3.2.1 201 (13 : Int32).toNatClampNeg) (FP.i2f x1)))))) ∧ ((f_X10_isBetween x1 (1 : Int32) (20 : Int32)) = false → True))))
abbrev rm_X10_string : Room := { frames := 2, cells := 0, slots := 0, locals := 80 }
set_option maxHeartbeats 4000000 in
set_option maxRecDepth 100000 in
theorem c_X10_string (l : Launch) (G : GE) (hG : Gok G) (σ : St) (x1 : Int32) (hok : ok_X10_string σ x1) : MtI l G yX10_string cX10_string 2 rm_X10_string [.ref (G.2.1 196), .int x1] σ (f_X10_string σ x1) := by
  generalize hf : f_X10_string σ x1 = fv
  rw [f_X10_string] at hf
  rw [ok_X10_string] at hok
  refine g_start hG (plainFor_of_name (by decide)) (Nat.le_of_ble_eq_true rfl) ?_
  intro p e s m args below meth c X hr hlk ls hl H locs hP hS
  have X : Cx G p s m args c cX10_string 2 RX10 := X
  obtain ⟨hx, hb, hml, hown, hts, hK, hbs, hXW, -⟩ := id X
  have hl : lv_has ls 2 [(0, .ref (G.2.1 196)), (1, .int x1)] := hl
  refine lv_aload_n hx hb dX10_string_0 rfl (lv_at hl 0 rfl) ?_
  refine lv_iconst (v := 0) hx hb dX10_string_1 (by decide) ?_
  refine gp_10_0 X hP hS ab_196 kf_X10_50 dX10_string_2 (fun H locs hP hS => ?_)
  refine g_name hP (fun q1 hq1 hP => ?_)
  have hf := bnd_go hq1 hf
  have hok := bnd_goP hq1 hok
  refine lv_iload_n hx hb dX10_string_5 rfl (lv_at hl 1 rfl) ?_
  refine lv_iconst (v := 1) hx hb dX10_string_6 (by decide) ?_
  refine lv_bipush (v := 20) hx hb dX10_string_7 (by decide) ?_
  refine g_cZp (g_runS (As := [.int x1, .int (1 : Int32), .int (20 : Int32)]) (rest := []) X (c_X10_isBetween l G hG q1 x1 (1 : Int32) (20 : Int32)) ca_X10_isBetween km_X10_81 rfl rfl ⟨Nat.le_of_ble_eq_true rfl, Nat.le_of_ble_eq_true rfl⟩ hP hS rfl hl.1 rfl (Nat.le_of_ble_eq_true rfl) ⟨Nat.le_of_ble_eq_true rfl, Nat.le_of_ble_eq_true rfl⟩ dX10_string_9) hS (fun H locs hP hS => ?_)
  refine g_ifneZ (tgt := 21) X dX10_string_12 (by decide) (fun hc => ?_) (fun hc => ?_)
  · have hf := ite_t hc hf
    have hok := hok.1 hc
    refine lv_aload_n hx hb dX10_string_21 rfl (lv_at hl 0 rfl) ?_
    have hs2 := hok.1
    have hok := hok.2
    refine g_cV (g_runV (i := 196) (As := []) (rest := []) X (c_X10_remembers l G hG q1 hs2) ca_X10_remembers km_X10_95 rfl rfl ⟨Nat.le_of_ble_eq_true rfl, Nat.le_of_ble_eq_true rfl⟩ hP hS (ty_lt ab_196) (cell_10 ab_196) rfl rfl rfl hl.1 rfl (Nat.le_of_ble_eq_true rfl) ⟨Nat.le_of_ble_eq_true rfl, Nat.le_of_ble_eq_true rfl⟩ dX10_string_22) hS (fun q3 hq3 H locs hP hS => ?_)
    have hf := bnd_go hq3 hf
    have hok := bnd_goP hq3 hok
    refine lv_aload_n hx hb dX10_string_25 rfl (lv_at hl 0 rfl) ?_
    refine gg_10_9 X hP ab_196 kf_X10_22 dX10_string_26 ?_
    refine lv_bipush (v := 13) hx hb dX10_string_29 (by decide) ?_
    refine lv_aload_n hx hb dX10_string_31 rfl (lv_at hl 0 rfl) ?_
    refine gg_10_9 X hP ab_196 kf_X10_22 dX10_string_32 ?_
    refine lv_bipush (v := 13) hx hb dX10_string_35 (by decide) ?_
    refine g_fald X hP ab_201 (by rw [al_201]; unfold vp_in; decide) dX10_string_37 ?_
    refine lv_iload_n hx hb dX10_string_38 rfl (lv_at hl 1 rfl) ?_
    refine lv_i2f hx hb dX10_string_39 ?_
    have hs4 := hok
    refine lv_fadd hx hb dX10_string_40 hs4 ?_
    refine g_fast X hP hS ab_201 (by rw [al_201]; unfold vp_in; decide) dX10_string_41 (fun H locs hP hS => ?_)
    refine g_name hP (fun q5 hq5 hP => ?_)
    have hf := bnd_go hq5 hf
    refine lv_aload_n hx hb dX10_string_42 rfl (lv_at hl 0 rfl) ?_
    refine gg_10_9 X hP ab_196 kf_X10_22 dX10_string_43 ?_
    refine lv_bipush (v := 13) hx hb dX10_string_46 (by decide) ?_
    refine g_fald X hP ab_201 (by rw [al_201]; unfold vp_in; decide) dX10_string_48 ?_
    refine lv_ldcf hx hb hown (hts _ kc_X10_148) dX10_string_49 ?_
    refine lv_fcmp hx hb dX10_string_51 ?_
    refine lv_if_le (tgt := 64) hx hb dX10_string_52 (by decide) (fun hc => ?_) (fun hc => ?_)
    · have hf := ite_t hc hf
      refine lv_aload_n hx hb dX10_string_64 rfl (lv_at hl 0 rfl) ?_
      refine gg_10_9 X hP ab_196 kf_X10_22 dX10_string_65 ?_
      refine lv_bipush (v := 13) hx hb dX10_string_68 (by decide) ?_
      refine g_fald X hP ab_201 (by rw [al_201]; unfold vp_in; decide) dX10_string_70 ?_
      refine g_cIp (g_runS (As := [.float (q5.2.1 201 (13 : Int32).toNatClampNeg)]) (rest := []) X (c_Jxf58ca_floatToIntBits_5c35a l G hG q5 (q5.2.1 201 (13 : Int32).toNatClampNeg)) ca_Jxf58ca_floatToIntBits_5c35a km_X10_142 rfl rfl ⟨Nat.le_of_ble_eq_true rfl, Nat.le_of_ble_eq_true rfl⟩ hP hS rfl hl.1 rfl (Nat.le_of_ble_eq_true rfl) ⟨Nat.le_of_ble_eq_true rfl, Nat.le_of_ble_eq_true rfl⟩ dX10_string_71) hS (fun H locs hP hS => ?_)
      exact g_iret X hr hlk hP hS hf dX10_string_74
    · have hf := ite_f hc hf
      refine lv_aload_n hx hb dX10_string_55 rfl (lv_at hl 0 rfl) ?_
      refine gg_10_9 X hP ab_196 kf_X10_22 dX10_string_56 ?_
      refine lv_bipush (v := 13) hx hb dX10_string_59 (by decide) ?_
      refine lv_ldcf hx hb hown (hts _ kc_X10_148) dX10_string_61 ?_
      refine g_fast X hP hS ab_201 (by rw [al_201]; unfold vp_in; decide) dX10_string_63 (fun H locs hP hS => ?_)
      refine g_name hP (fun q6 hq6 hP => ?_)
      have hf := bnd_go hq6 hf
      refine lv_aload_n hx hb dX10_string_64 rfl (lv_at hl 0 rfl) ?_
      refine gg_10_9 X hP ab_196 kf_X10_22 dX10_string_65 ?_
      refine lv_bipush (v := 13) hx hb dX10_string_68 (by decide) ?_
      refine g_fald X hP ab_201 (by rw [al_201]; unfold vp_in; decide) dX10_string_70 ?_
      refine g_cIp (g_runS (As := [.float (q6.2.1 201 (13 : Int32).toNatClampNeg)]) (rest := []) X (c_Jxf58ca_floatToIntBits_5c35a l G hG q6 (q6.2.1 201 (13 : Int32).toNatClampNeg)) ca_Jxf58ca_floatToIntBits_5c35a km_X10_142 rfl rfl ⟨Nat.le_of_ble_eq_true rfl, Nat.le_of_ble_eq_true rfl⟩ hP hS rfl hl.1 rfl (Nat.le_of_ble_eq_true rfl) ⟨Nat.le_of_ble_eq_true rfl, Nat.le_of_ble_eq_true rfl⟩ dX10_string_71) hS (fun H locs hP hS => ?_)
      exact g_iret X hr hlk hP hS hf dX10_string_74
  · have hf := ite_z hc hf
    refine lv_aload_n hx hb dX10_string_15 rfl (lv_at hl 0 rfl) ?_
    refine lv_iconst (v := 1) hx hb dX10_string_16 (by decide) ?_
    refine g_cI (g_runV (i := 196) (As := [.int (1 : Int32)]) (rest := []) X (c_X10_fails l G hG q1 (1 : Int32)) ca_X10_fails km_X10_59 rfl rfl ⟨Nat.le_of_ble_eq_true rfl, Nat.le_of_ble_eq_true rfl⟩ hP hS (ty_lt ab_196) (cell_10 ab_196) rfl rfl rfl hl.1 rfl (Nat.le_of_ble_eq_true rfl) ⟨Nat.le_of_ble_eq_true rfl, Nat.le_of_ble_eq_true rfl⟩ dX10_string_17) hS (fun q7 hq7 H locs hP hS => ?_)
    have hf := bnd_go hq7 hf
    exact g_iret X hr hlk hP hS hf dX10_string_20
def fX10_lettersBy_L10 (σ : St) : Nat → Int32 → Int32 → UInt32 → Int32 → Int32
  | 0, _, _, _, _ => 0
  | n10 + 1, x1, x2, x3, x4 => (if (Op.cmpValue (FP.fcmp x3 (f_X10_wears x2)) CmpOp.l) < 0 then x4 else (fX10_lettersBy_L10 σ n10 x1 x2 (FP.fsub x3 (f_X10_wears x2)) (x4 + (1 : Int32))))
def okX10_lettersBy_L10 (σ : St) : Nat → Int32 → Int32 → UInt32 → Int32 → Prop
  | 0, _, _, _, _ => False
  | n10 + 1, x1, x2, x3, x4 => (ok_X10_wears x2 ∧ (((Op.cmpValue (FP.fcmp x3 (f_X10_wears x2)) CmpOp.l) < 0 → True) ∧ (¬ (Op.cmpValue (FP.fcmp x3 (f_X10_wears x2)) CmpOp.l) < 0 → (ok_X10_wears x2 ∧ (vf_n32 (FP.fsub x3 (f_X10_wears x2)) ∧ (okX10_lettersBy_L10 σ n10 x1 x2 (FP.fsub x3 (f_X10_wears x2)) (x4 + (1 : Int32))))))))
def f_X10_lettersBy (σ : St) (x1 : Int32) (x2 : Int32) : Int32 := (fX10_lettersBy_L10 σ 2000 x1 x2 (σ.2.1 201 x1.toNatClampNeg) (0 : Int32))
def ok_X10_lettersBy (σ : St) (x1 : Int32) (x2 : Int32) : Prop := (vp_in x1 36 ∧ (okX10_lettersBy_L10 σ 2000 x1 x2 (σ.2.1 201 x1.toNatClampNeg) (0 : Int32)))
abbrev rm_X10_lettersBy : Room := { frames := 1, cells := 0, slots := 0, locals := 20 }
set_option maxHeartbeats 4000000 in
set_option maxRecDepth 100000 in
theorem c_X10_lettersBy (l : Launch) (G : GE) (hG : Gok G) (σ : St) (x1 : Int32) (x2 : Int32) (hok : ok_X10_lettersBy σ x1 x2) : MtI l G yX10_lettersBy cX10_lettersBy 5 rm_X10_lettersBy [.ref (G.2.1 196), .int x1, .int x2] σ (σ, f_X10_lettersBy σ x1 x2) := by
  generalize hf : f_X10_lettersBy σ x1 x2 = fv
  rw [f_X10_lettersBy] at hf
  rw [ok_X10_lettersBy] at hok
  refine g_start hG (plainFor_of_name (by decide)) (Nat.le_of_ble_eq_true rfl) ?_
  intro p e s m args below meth c X hr hlk ls hl H locs hP hS
  have X : Cx G p s m args c cX10_lettersBy 5 RX10 := X
  obtain ⟨hx, hb, hml, hown, hts, hK, hbs, hXW, -⟩ := id X
  have hl : lv_has ls 5 [(0, .ref (G.2.1 196)), (1, .int x1), (2, .int x2)] := hl
  refine lv_aload_n hx hb dX10_lettersBy_0 rfl (lv_at hl 0 rfl) ?_
  refine gg_10_9 X hP ab_196 kf_X10_22 dX10_lettersBy_1 ?_
  refine lv_iload_n hx hb dX10_lettersBy_4 rfl (lv_at hl 1 rfl) ?_
  have hs1 := hok.1
  have hok := hok.2
  refine g_fald X hP ab_201 (by rw [al_201]; exact hs1) dX10_lettersBy_5 ?_
  refine lv_fstore_n (lv' := [(3, .float (σ.2.1 201 x1.toNatClampNeg)), (0, .ref (G.2.1 196)), (1, .int x1), (2, .int x2)]) hx hb dX10_lettersBy_6 rfl hl (by decide) rfl (fun ls hl => ?_)
  refine lv_iconst (v := 0) hx hb dX10_lettersBy_7 (by decide) ?_
  refine lv_istore (lv' := [(4, .int (0 : Int32)), (3, .float (σ.2.1 201 x1.toNatClampNeg)), (0, .ref (G.2.1 196)), (1, .int x1), (2, .int x2)]) hx hb dX10_lettersBy_8 hl (by decide) rfl (fun ls hl => ?_)
  have K10 : ∀ (n10 : Nat) (x1 : Int32) (x2 : Int32) (x3 : UInt32) (x4 : Int32), okX10_lettersBy_L10 σ n10 x1 x2 x3 x4 → fX10_lettersBy_L10 σ n10 x1 x2 x3 x4 = fv → ∀ (H : Heap) (locs : List Loc), va_P G.1 vcl (wl G σ) H → va_S (GA G) s.heap H locs → ∀ (ls : Array Slot), lv_has ls 5 [(0, .ref (G.2.1 196)), (1, .int x1), (2, .int x2), (3, .float x3), (4, .int x4)] → W p l e rm_X10_lettersBy s m args below meth c H locs 0 0 (MQ below (va_Qi (fun r u => (u, r) = (σ, fv)) (PB G) (GA G)) args s 0 0 (GA G)) (F0 m 10 ls []) := by
    intro n10
    induction n10 with
    | zero =>
      intro x1 x2 x3 x4 hok
      exact hok.elim
    | succ n10 ih10 =>
      intro x1 x2 x3 x4 hok hf H locs hP hS ls hl
      rw [okX10_lettersBy_L10] at hok
      rw [fX10_lettersBy_L10] at hf
      refine lv_fload_n hx hb dX10_lettersBy_10 rfl (lv_at hl 3 rfl) ?_
      refine lv_iload_n hx hb dX10_lettersBy_11 rfl (lv_at hl 2 rfl) ?_
      have hs2 := hok.1
      have hok := hok.2
      refine g_cFp (g_runS (As := [.int x2]) (rest := [.float x3]) X (c_X10_wears l G hG σ x2 hs2) ca_X10_wears km_X10_111 rfl rfl ⟨Nat.le_of_ble_eq_true rfl, Nat.le_of_ble_eq_true rfl⟩ hP hS rfl hl.1 rfl (Nat.le_of_ble_eq_true rfl) ⟨Nat.le_of_ble_eq_true rfl, Nat.le_of_ble_eq_true rfl⟩ dX10_lettersBy_12) hS (fun H locs hP hS => ?_)
      refine lv_fcmp hx hb dX10_lettersBy_15 ?_
      refine lv_if_lt (tgt := 32) hx hb dX10_lettersBy_16 (by decide) (fun hc => ?_) (fun hc => ?_)
      · have hf := ite_t hc hf
        refine lv_iload hx hb dX10_lettersBy_32 (lv_at hl 4 rfl) ?_
        exact g_iret X hr hlk hP hS (congrArg (Prod.mk σ) hf) dX10_lettersBy_34
      · have hf := ite_f hc hf
        have hok := hok.2 hc
        refine lv_fload_n hx hb dX10_lettersBy_19 rfl (lv_at hl 3 rfl) ?_
        refine lv_iload_n hx hb dX10_lettersBy_20 rfl (lv_at hl 2 rfl) ?_
        have hs3 := hok.1
        have hok := hok.2
        refine g_cFp (g_runS (As := [.int x2]) (rest := [.float x3]) X (c_X10_wears l G hG σ x2 hs3) ca_X10_wears km_X10_111 rfl rfl ⟨Nat.le_of_ble_eq_true rfl, Nat.le_of_ble_eq_true rfl⟩ hP hS rfl hl.1 rfl (Nat.le_of_ble_eq_true rfl) ⟨Nat.le_of_ble_eq_true rfl, Nat.le_of_ble_eq_true rfl⟩ dX10_lettersBy_21) hS (fun H locs hP hS => ?_)
        have hs4 := hok.1
        have hok := hok.2
        refine lv_fsub hx hb dX10_lettersBy_24 hs4 ?_
        refine lv_fstore_n (lv' := [(3, .float (FP.fsub x3 (f_X10_wears x2))), (0, .ref (G.2.1 196)), (1, .int x1), (2, .int x2), (4, .int x4)]) hx hb dX10_lettersBy_25 rfl hl (by decide) rfl (fun ls hl => ?_)
        refine lv_iinc (v := (x4 + (1 : Int32))) (lv' := [(4, .int (x4 + (1 : Int32))), (3, .float (FP.fsub x3 (f_X10_wears x2))), (0, .ref (G.2.1 196)), (1, .int x1), (2, .int x2)]) hx hb dX10_lettersBy_26 hl (k := 4) rfl rfl (by decide) rfl (fun ls hl => ?_)
        refine lv_goto (tgt := 10) hx hb dX10_lettersBy_29 (by decide) ?_
        exact ih10 x1 x2 (FP.fsub x3 (f_X10_wears x2)) (x4 + (1 : Int32)) hok hf _ _ hP hS ls (lv_sub hl [2, 3, 4, 1, 0] rfl)
  exact K10 2000 x1 x2 (σ.2.1 201 x1.toNatClampNeg) (0 : Int32) hok hf _ _ hP hS ls (lv_sub hl [2, 3, 4, 1, 0] rfl)
def f_X10_lettersOf (σ : St) (x1 : Int32) (x2 : Int32) : St × Int32 := (bnd (setI σ 196 0 (0 : Int32)) (fun q1 => (if (f_X10_isCrayon q1 x1) = true then (if (f_X10_isBetween x2 (1 : Int32) (40 : Int32)) = true then (q1, (f_X10_lettersBy q1 x1 x2)) else (bnd (f_X10_fails q1 (2 : Int32)) (fun q2 => (q2.1, q2.2)))) else (bnd (f_X10_fails q1 (1 : Int32)) (fun q4 => (q4.1, q4.2))))))
def ok_X10_lettersOf (σ : St) (x1 : Int32) (x2 : Int32) : Prop := (bndP (setI σ 196 0 (0 : Int32)) (fun q1 => (((f_X10_isCrayon q1 x1) = true → (((f_X10_isBetween x2 (1 : Int32) (40 : Int32)) = true → ok_X10_lettersBy q1 x1 x2) ∧ ((f_X10_isBetween x2 (1 : Int32) (40 : Int32)) = false → True))) ∧ ((f_X10_isCrayon q1 x1) = false → True))))
abbrev rm_X10_lettersOf : Room := { frames := 2, cells := 0, slots := 0, locals := 44 }
set_option maxHeartbeats 4000000 in
set_option maxRecDepth 100000 in
theorem c_X10_lettersOf (l : Launch) (G : GE) (hG : Gok G) (σ : St) (x1 : Int32) (x2 : Int32) (hok : ok_X10_lettersOf σ x1 x2) : MtI l G yX10_lettersOf cX10_lettersOf 3 rm_X10_lettersOf [.ref (G.2.1 196), .int x1, .int x2] σ (f_X10_lettersOf σ x1 x2) := by
  generalize hf : f_X10_lettersOf σ x1 x2 = fv
  rw [f_X10_lettersOf] at hf
  rw [ok_X10_lettersOf] at hok
  refine g_start hG (plainFor_of_name (by decide)) (Nat.le_of_ble_eq_true rfl) ?_
  intro p e s m args below meth c X hr hlk ls hl H locs hP hS
  have X : Cx G p s m args c cX10_lettersOf 3 RX10 := X
  obtain ⟨hx, hb, hml, hown, hts, hK, hbs, hXW, -⟩ := id X
  have hl : lv_has ls 3 [(0, .ref (G.2.1 196)), (1, .int x1), (2, .int x2)] := hl
  refine lv_aload_n hx hb dX10_lettersOf_0 rfl (lv_at hl 0 rfl) ?_
  refine lv_iconst (v := 0) hx hb dX10_lettersOf_1 (by decide) ?_
  refine gp_10_0 X hP hS ab_196 kf_X10_50 dX10_lettersOf_2 (fun H locs hP hS => ?_)
  refine g_name hP (fun q1 hq1 hP => ?_)
  have hf := bnd_go hq1 hf
  have hok := bnd_goP hq1 hok
  refine lv_aload_n hx hb dX10_lettersOf_5 rfl (lv_at hl 0 rfl) ?_
  refine lv_iload_n hx hb dX10_lettersOf_6 rfl (lv_at hl 1 rfl) ?_
  refine g_cZp (g_runV (i := 196) (As := [.int x1]) (rest := []) X (c_X10_isCrayon l G hG q1 x1) ca_X10_isCrayon km_X10_99 rfl rfl ⟨Nat.le_of_ble_eq_true rfl, Nat.le_of_ble_eq_true rfl⟩ hP hS (ty_lt ab_196) (cell_10 ab_196) rfl rfl rfl hl.1 rfl (Nat.le_of_ble_eq_true rfl) ⟨Nat.le_of_ble_eq_true rfl, Nat.le_of_ble_eq_true rfl⟩ dX10_lettersOf_7) hS (fun H locs hP hS => ?_)
  refine g_ifneZ (tgt := 19) X dX10_lettersOf_10 (by decide) (fun hc => ?_) (fun hc => ?_)
  · have hf := ite_t hc hf
    have hok := hok.1 hc
    refine lv_iload_n hx hb dX10_lettersOf_19 rfl (lv_at hl 2 rfl) ?_
    refine lv_iconst (v := 1) hx hb dX10_lettersOf_20 (by decide) ?_
    refine lv_bipush (v := 40) hx hb dX10_lettersOf_21 (by decide) ?_
    refine g_cZp (g_runS (As := [.int x2, .int (1 : Int32), .int (40 : Int32)]) (rest := []) X (c_X10_isBetween l G hG q1 x2 (1 : Int32) (40 : Int32)) ca_X10_isBetween km_X10_81 rfl rfl ⟨Nat.le_of_ble_eq_true rfl, Nat.le_of_ble_eq_true rfl⟩ hP hS rfl hl.1 rfl (Nat.le_of_ble_eq_true rfl) ⟨Nat.le_of_ble_eq_true rfl, Nat.le_of_ble_eq_true rfl⟩ dX10_lettersOf_23) hS (fun H locs hP hS => ?_)
    refine g_ifeqZ (tgt := 38) X dX10_lettersOf_26 (by decide) (fun hc => ?_) (fun hc => ?_)
    · have hf := ite_z hc hf
      refine lv_aload_n hx hb dX10_lettersOf_38 rfl (lv_at hl 0 rfl) ?_
      refine lv_iconst (v := 2) hx hb dX10_lettersOf_39 (by decide) ?_
      refine g_cI (g_runV (i := 196) (As := [.int (2 : Int32)]) (rest := []) X (c_X10_fails l G hG q1 (2 : Int32)) ca_X10_fails km_X10_59 rfl rfl ⟨Nat.le_of_ble_eq_true rfl, Nat.le_of_ble_eq_true rfl⟩ hP hS (ty_lt ab_196) (cell_10 ab_196) rfl rfl rfl hl.1 rfl (Nat.le_of_ble_eq_true rfl) ⟨Nat.le_of_ble_eq_true rfl, Nat.le_of_ble_eq_true rfl⟩ dX10_lettersOf_40) hS (fun q2 hq2 H locs hP hS => ?_)
      have hf := bnd_go hq2 hf
      exact g_iret X hr hlk hP hS hf dX10_lettersOf_43
    · have hf := ite_t hc hf
      have hok := hok.1 hc
      refine lv_aload_n hx hb dX10_lettersOf_29 rfl (lv_at hl 0 rfl) ?_
      refine lv_iload_n hx hb dX10_lettersOf_30 rfl (lv_at hl 1 rfl) ?_
      refine lv_iload_n hx hb dX10_lettersOf_31 rfl (lv_at hl 2 rfl) ?_
      have hs3 := hok
      refine g_cIp (g_runV (i := 196) (As := [.int x1, .int x2]) (rest := []) X (c_X10_lettersBy l G hG q1 x1 x2 hs3) ca_X10_lettersBy km_X10_149 rfl rfl ⟨Nat.le_of_ble_eq_true rfl, Nat.le_of_ble_eq_true rfl⟩ hP hS (ty_lt ab_196) (cell_10 ab_196) rfl rfl rfl hl.1 rfl (Nat.le_of_ble_eq_true rfl) ⟨Nat.le_of_ble_eq_true rfl, Nat.le_of_ble_eq_true rfl⟩ dX10_lettersOf_32) hS (fun H locs hP hS => ?_)
      refine lv_goto (tgt := 43) hx hb dX10_lettersOf_35 (by decide) ?_
      exact g_iret X hr hlk hP hS hf dX10_lettersOf_43
  · have hf := ite_z hc hf
    refine lv_aload_n hx hb dX10_lettersOf_13 rfl (lv_at hl 0 rfl) ?_
    refine lv_iconst (v := 1) hx hb dX10_lettersOf_14 (by decide) ?_
    refine g_cI (g_runV (i := 196) (As := [.int (1 : Int32)]) (rest := []) X (c_X10_fails l G hG q1 (1 : Int32)) ca_X10_fails km_X10_59 rfl rfl ⟨Nat.le_of_ble_eq_true rfl, Nat.le_of_ble_eq_true rfl⟩ hP hS (ty_lt ab_196) (cell_10 ab_196) rfl rfl rfl hl.1 rfl (Nat.le_of_ble_eq_true rfl) ⟨Nat.le_of_ble_eq_true rfl, Nat.le_of_ble_eq_true rfl⟩ dX10_lettersOf_15) hS (fun q4 hq4 H locs hP hS => ?_)
    have hf := bnd_go hq4 hf
    exact g_iret X hr hlk hP hS hf dX10_lettersOf_18
def fX10_lettersAgain_L83 (σ : St) : Nat → Int32 → Int32 → Int32 → St × Int32
  | 0, _, _, _ => (σ, 0)
  | n83 + 1, x1, x2, x3 => (if (Op.cmpValue (FP.fcmp (σ.2.1 205 x3.toNatClampNeg) (f_X10_wears x2)) CmpOp.l) < 0 then (σ, x3) else (fX10_lettersAgain_L83 σ n83 x1 x2 (x3 + (1 : Int32))))
def okX10_lettersAgain_L83 (σ : St) : Nat → Int32 → Int32 → Int32 → Prop
  | 0, _, _, _ => False
  | n83 + 1, x1, x2, x3 => (vp_in x3 400 ∧ (ok_X10_wears x2 ∧ (((Op.cmpValue (FP.fcmp (σ.2.1 205 x3.toNatClampNeg) (f_X10_wears x2)) CmpOp.l) < 0 → True) ∧ (¬ (Op.cmpValue (FP.fcmp (σ.2.1 205 x3.toNatClampNeg) (f_X10_wears x2)) CmpOp.l) < 0 → (okX10_lettersAgain_L83 σ n83 x1 x2 (x3 + (1 : Int32)))))))
def fX10_lettersAgain_L49 : Nat → St → Int32 → Int32 → Int32 → St × Int32
  | 0, σ, _, _, _ => (σ, 0)
  | n49 + 1, σ, x1, x2, x3 => (if (400 : Int32) ≤ x3 then (fX10_lettersAgain_L83 σ 2000 x1 x2 (0 : Int32)) else (bnd (setF σ 205 x3.toNatClampNeg (FP.fsub (σ.2.1 205 (x3 - (1 : Int32)).toNatClampNeg) (f_X10_wears x2))) (fun q10 => (fX10_lettersAgain_L49 n49 q10 x1 x2 (x3 + (1 : Int32))))))
def okX10_lettersAgain_L49 : Nat → St → Int32 → Int32 → Int32 → Prop
  | 0, _, _, _, _ => False
  | n49 + 1, σ, x1, x2, x3 => (((400 : Int32) ≤ x3 → (okX10_lettersAgain_L83 σ 2000 x1 x2 (0 : Int32))) ∧ (¬ (400 : Int32) ≤ x3 → (vp_in (x3 - (1 : Int32)) 400 ∧ (ok_X10_wears x2 ∧ (vf_n32 (FP.fsub (σ.2.1 205 (x3 - (1 : Int32)).toNatClampNeg) (f_X10_wears x2)) ∧ (vp_in x3 400 ∧ (bndP (setF σ 205 x3.toNatClampNeg (FP.fsub (σ.2.1 205 (x3 - (1 : Int32)).toNatClampNeg) (f_X10_wears x2))) (fun q10 => (okX10_lettersAgain_L49 n49 q10 x1 x2 (x3 + (1 : Int32)))))))))))
def f_X10_lettersAgain (σ : St) (x1 : Int32) (x2 : Int32) : St × Int32 := (bnd (setI σ 196 0 (0 : Int32)) (fun q1 => (if (f_X10_isCrayon q1 x1) = true then (if (f_X10_isBetween x2 (1 : Int32) (40 : Int32)) = true then (bnd (setF q1 205 (0 : Int32).toNatClampNeg (q1.2.1 201 x1.toNatClampNeg)) (fun q3 => (fX10_lettersAgain_L49 2000 q3 x1 x2 (1 : Int32)))) else (bnd (f_X10_fails q1 (2 : Int32)) (fun q11 => (q11.1, q11.2)))) else (bnd (f_X10_fails q1 (1 : Int32)) (fun q12 => (q12.1, q12.2))))))
def ok_X10_lettersAgain (σ : St) (x1 : Int32) (x2 : Int32) : Prop := (bndP (setI σ 196 0 (0 : Int32)) (fun q1 => (((f_X10_isCrayon q1 x1) = true → (((f_X10_isBetween x2 (1 : Int32) (40 : Int32)) = true → (vp_in x1 36 ∧ (bndP (setF q1 205 (0 : Int32).toNatClampNeg (q1.2.1 201 x1.toNatClampNeg)) (fun q3 => (okX10_lettersAgain_L49 2000 q3 x1 x2 (1 : Int32)))))) ∧ ((f_X10_isBetween x2 (1 : Int32) (40 : Int32)) = false → True))) ∧ ((f_X10_isCrayon q1 x1) = false → True))))
abbrev rm_X10_lettersAgain : Room := { frames := 2, cells := 0, slots := 0, locals := 43 }
set_option maxHeartbeats 4000000 in
set_option maxRecDepth 100000 in
theorem c_X10_lettersAgain (l : Launch) (G : GE) (hG : Gok G) (σ : St) (x1 : Int32) (x2 : Int32) (hok : ok_X10_lettersAgain σ x1 x2) : MtI l G yX10_lettersAgain cX10_lettersAgain 4 rm_X10_lettersAgain [.ref (G.2.1 196), .int x1, .int x2] σ (f_X10_lettersAgain σ x1 x2) := by
  generalize hf : f_X10_lettersAgain σ x1 x2 = fv
  rw [f_X10_lettersAgain] at hf
  rw [ok_X10_lettersAgain] at hok
  refine g_start hG (plainFor_of_name (by decide)) (Nat.le_of_ble_eq_true rfl) ?_
  intro p e s m args below meth c X hr hlk ls hl H locs hP hS
  have X : Cx G p s m args c cX10_lettersAgain 4 RX10 := X
  obtain ⟨hx, hb, hml, hown, hts, hK, hbs, hXW, -⟩ := id X
  have hl : lv_has ls 4 [(0, .ref (G.2.1 196)), (1, .int x1), (2, .int x2)] := hl
  refine lv_aload_n hx hb dX10_lettersAgain_0 rfl (lv_at hl 0 rfl) ?_
  refine lv_iconst (v := 0) hx hb dX10_lettersAgain_1 (by decide) ?_
  refine gp_10_0 X hP hS ab_196 kf_X10_50 dX10_lettersAgain_2 (fun H locs hP hS => ?_)
  refine g_name hP (fun q1 hq1 hP => ?_)
  have hf := bnd_go hq1 hf
  have hok := bnd_goP hq1 hok
  refine lv_aload_n hx hb dX10_lettersAgain_5 rfl (lv_at hl 0 rfl) ?_
  refine lv_iload_n hx hb dX10_lettersAgain_6 rfl (lv_at hl 1 rfl) ?_
  refine g_cZp (g_runV (i := 196) (As := [.int x1]) (rest := []) X (c_X10_isCrayon l G hG q1 x1) ca_X10_isCrayon km_X10_99 rfl rfl ⟨Nat.le_of_ble_eq_true rfl, Nat.le_of_ble_eq_true rfl⟩ hP hS (ty_lt ab_196) (cell_10 ab_196) rfl rfl rfl hl.1 rfl (Nat.le_of_ble_eq_true rfl) ⟨Nat.le_of_ble_eq_true rfl, Nat.le_of_ble_eq_true rfl⟩ dX10_lettersAgain_7) hS (fun H locs hP hS => ?_)
  refine g_ifneZ (tgt := 19) X dX10_lettersAgain_10 (by decide) (fun hc => ?_) (fun hc => ?_)
  · have hf := ite_t hc hf
    have hok := hok.1 hc
    refine lv_iload_n hx hb dX10_lettersAgain_19 rfl (lv_at hl 2 rfl) ?_
    refine lv_iconst (v := 1) hx hb dX10_lettersAgain_20 (by decide) ?_
    refine lv_bipush (v := 40) hx hb dX10_lettersAgain_21 (by decide) ?_
    refine g_cZp (g_runS (As := [.int x2, .int (1 : Int32), .int (40 : Int32)]) (rest := []) X (c_X10_isBetween l G hG q1 x2 (1 : Int32) (40 : Int32)) ca_X10_isBetween km_X10_81 rfl rfl ⟨Nat.le_of_ble_eq_true rfl, Nat.le_of_ble_eq_true rfl⟩ hP hS rfl hl.1 rfl (Nat.le_of_ble_eq_true rfl) ⟨Nat.le_of_ble_eq_true rfl, Nat.le_of_ble_eq_true rfl⟩ dX10_lettersAgain_23) hS (fun H locs hP hS => ?_)
    refine g_ifneZ (tgt := 35) X dX10_lettersAgain_26 (by decide) (fun hc => ?_) (fun hc => ?_)
    · have hf := ite_t hc hf
      have hok := hok.1 hc
      refine lv_aload_n hx hb dX10_lettersAgain_35 rfl (lv_at hl 0 rfl) ?_
      refine gg_10_16 X hP ab_196 kf_X10_35 dX10_lettersAgain_36 ?_
      refine lv_iconst (v := 0) hx hb dX10_lettersAgain_39 (by decide) ?_
      refine lv_aload_n hx hb dX10_lettersAgain_40 rfl (lv_at hl 0 rfl) ?_
      refine gg_10_9 X hP ab_196 kf_X10_22 dX10_lettersAgain_41 ?_
      refine lv_iload_n hx hb dX10_lettersAgain_44 rfl (lv_at hl 1 rfl) ?_
      have hs2 := hok.1
      have hok := hok.2
      refine g_fald X hP ab_201 (by rw [al_201]; exact hs2) dX10_lettersAgain_45 ?_
      refine g_fast X hP hS ab_205 (by rw [al_205]; unfold vp_in; decide) dX10_lettersAgain_46 (fun H locs hP hS => ?_)
      refine g_name hP (fun q3 hq3 hP => ?_)
      have hf := bnd_go hq3 hf
      have hok := bnd_goP hq3 hok
      refine lv_iconst (v := 1) hx hb dX10_lettersAgain_47 (by decide) ?_
      refine lv_istore_n (lv' := [(3, .int (1 : Int32)), (0, .ref (G.2.1 196)), (1, .int x1), (2, .int x2)]) hx hb dX10_lettersAgain_48 rfl hl (by decide) rfl (fun ls hl => ?_)
      have K49 : ∀ (n49 : Nat) (σ : St) (x1 : Int32) (x2 : Int32) (x3 : Int32), okX10_lettersAgain_L49 n49 σ x1 x2 x3 → fX10_lettersAgain_L49 n49 σ x1 x2 x3 = fv → ∀ (H : Heap) (locs : List Loc), va_P G.1 vcl (wl G σ) H → va_S (GA G) s.heap H locs → ∀ (ls : Array Slot), lv_has ls 4 [(0, .ref (G.2.1 196)), (1, .int x1), (2, .int x2), (3, .int x3)] → W p l e rm_X10_lettersAgain s m args below meth c H locs 0 0 (MQ below (va_Qi (fun r u => (u, r) = fv) (PB G) (GA G)) args s 0 0 (GA G)) (F0 m 49 ls []) := by
        intro n49
        induction n49 with
        | zero =>
          intro σ x1 x2 x3 hok
          exact hok.elim
        | succ n49 ih49 =>
          intro σ x1 x2 x3 hok hf H locs hP hS ls hl
          rw [okX10_lettersAgain_L49] at hok
          rw [fX10_lettersAgain_L49] at hf
          refine lv_iload_n hx hb dX10_lettersAgain_49 rfl (lv_at hl 3 rfl) ?_
          refine lv_sipush (v := 400) hx hb dX10_lettersAgain_50 (by decide) ?_
          refine lv_icmp_ge (tgt := 81) hx hb dX10_lettersAgain_53 (by decide) (fun hc => ?_) (fun hc => ?_)
          · have hf := ite_t hc hf
            have hok := hok.1 hc
            refine lv_iconst (v := 0) hx hb dX10_lettersAgain_81 (by decide) ?_
            refine lv_istore_n (lv' := [(3, .int (0 : Int32)), (0, .ref (G.2.1 196)), (1, .int x1), (2, .int x2)]) hx hb dX10_lettersAgain_82 rfl hl (by decide) rfl (fun ls hl => ?_)
            have K83 : ∀ (n83 : Nat) (σ : St) (x1 : Int32) (x2 : Int32) (x3 : Int32), okX10_lettersAgain_L83 σ n83 x1 x2 x3 → fX10_lettersAgain_L83 σ n83 x1 x2 x3 = fv → ∀ (H : Heap) (locs : List Loc), va_P G.1 vcl (wl G σ) H → va_S (GA G) s.heap H locs → ∀ (ls : Array Slot), lv_has ls 4 [(0, .ref (G.2.1 196)), (1, .int x1), (2, .int x2), (3, .int x3)] → W p l e rm_X10_lettersAgain s m args below meth c H locs 0 0 (MQ below (va_Qi (fun r u => (u, r) = fv) (PB G) (GA G)) args s 0 0 (GA G)) (F0 m 83 ls []) := by
              intro n83
              induction n83 with
              | zero =>
                intro σ x1 x2 x3 hok
                exact hok.elim
              | succ n83 ih83 =>
                intro σ x1 x2 x3 hok hf H locs hP hS ls hl
                rw [okX10_lettersAgain_L83] at hok
                rw [fX10_lettersAgain_L83] at hf
                refine lv_aload_n hx hb dX10_lettersAgain_83 rfl (lv_at hl 0 rfl) ?_
                refine gg_10_16 X hP ab_196 kf_X10_35 dX10_lettersAgain_84 ?_
                refine lv_iload_n hx hb dX10_lettersAgain_87 rfl (lv_at hl 3 rfl) ?_
                have hs4 := hok.1
                have hok := hok.2
                refine g_fald X hP ab_205 (by rw [al_205]; exact hs4) dX10_lettersAgain_88 ?_
                refine lv_iload_n hx hb dX10_lettersAgain_89 rfl (lv_at hl 2 rfl) ?_
                have hs5 := hok.1
                have hok := hok.2
                refine g_cFp (g_runS (As := [.int x2]) (rest := [.float (σ.2.1 205 x3.toNatClampNeg)]) X (c_X10_wears l G hG σ x2 hs5) ca_X10_wears km_X10_111 rfl rfl ⟨Nat.le_of_ble_eq_true rfl, Nat.le_of_ble_eq_true rfl⟩ hP hS rfl hl.1 rfl (Nat.le_of_ble_eq_true rfl) ⟨Nat.le_of_ble_eq_true rfl, Nat.le_of_ble_eq_true rfl⟩ dX10_lettersAgain_90) hS (fun H locs hP hS => ?_)
                refine lv_fcmp hx hb dX10_lettersAgain_93 ?_
                refine lv_if_lt (tgt := 103) hx hb dX10_lettersAgain_94 (by decide) (fun hc => ?_) (fun hc => ?_)
                · have hf := ite_t hc hf
                  refine lv_iload_n hx hb dX10_lettersAgain_103 rfl (lv_at hl 3 rfl) ?_
                  exact g_iret X hr hlk hP hS hf dX10_lettersAgain_104
                · have hf := ite_f hc hf
                  have hok := hok.2 hc
                  refine lv_iinc (v := (x3 + (1 : Int32))) (lv' := [(3, .int (x3 + (1 : Int32))), (0, .ref (G.2.1 196)), (1, .int x1), (2, .int x2)]) hx hb dX10_lettersAgain_97 hl (k := 3) rfl rfl (by decide) rfl (fun ls hl => ?_)
                  refine lv_goto (tgt := 83) hx hb dX10_lettersAgain_100 (by decide) ?_
                  exact ih83 σ x1 x2 (x3 + (1 : Int32)) hok hf _ _ hP hS ls (lv_sub hl [1, 2, 3, 0] rfl)
            exact K83 2000 σ x1 x2 (0 : Int32) hok hf _ _ hP hS ls (lv_sub hl [1, 2, 3, 0] rfl)
          · have hf := ite_f hc hf
            have hok := hok.2 hc
            refine lv_aload_n hx hb dX10_lettersAgain_56 rfl (lv_at hl 0 rfl) ?_
            refine gg_10_16 X hP ab_196 kf_X10_35 dX10_lettersAgain_57 ?_
            refine lv_iload_n hx hb dX10_lettersAgain_60 rfl (lv_at hl 3 rfl) ?_
            refine lv_aload_n hx hb dX10_lettersAgain_61 rfl (lv_at hl 0 rfl) ?_
            refine gg_10_16 X hP ab_196 kf_X10_35 dX10_lettersAgain_62 ?_
            refine lv_iload_n hx hb dX10_lettersAgain_65 rfl (lv_at hl 3 rfl) ?_
            refine lv_iconst (v := 1) hx hb dX10_lettersAgain_66 (by decide) ?_
            refine lv_isub hx hb dX10_lettersAgain_67 ?_
            have hs6 := hok.1
            have hok := hok.2
            refine g_fald X hP ab_205 (by rw [al_205]; exact hs6) dX10_lettersAgain_68 ?_
            refine lv_iload_n hx hb dX10_lettersAgain_69 rfl (lv_at hl 2 rfl) ?_
            have hs7 := hok.1
            have hok := hok.2
            refine g_cFp (g_runS (As := [.int x2]) (rest := [.float (σ.2.1 205 (x3 - (1 : Int32)).toNatClampNeg), .int x3, .ref (G.2.1 205)]) X (c_X10_wears l G hG σ x2 hs7) ca_X10_wears km_X10_111 rfl rfl ⟨Nat.le_of_ble_eq_true rfl, Nat.le_of_ble_eq_true rfl⟩ hP hS rfl hl.1 rfl (Nat.le_of_ble_eq_true rfl) ⟨Nat.le_of_ble_eq_true rfl, Nat.le_of_ble_eq_true rfl⟩ dX10_lettersAgain_70) hS (fun H locs hP hS => ?_)
            have hs8 := hok.1
            have hok := hok.2
            refine lv_fsub hx hb dX10_lettersAgain_73 hs8 ?_
            have hs9 := hok.1
            have hok := hok.2
            refine g_fast X hP hS ab_205 (by rw [al_205]; exact hs9) dX10_lettersAgain_74 (fun H locs hP hS => ?_)
            refine g_name hP (fun q10 hq10 hP => ?_)
            have hf := bnd_go hq10 hf
            have hok := bnd_goP hq10 hok
            refine lv_iinc (v := (x3 + (1 : Int32))) (lv' := [(3, .int (x3 + (1 : Int32))), (0, .ref (G.2.1 196)), (1, .int x1), (2, .int x2)]) hx hb dX10_lettersAgain_75 hl (k := 3) rfl rfl (by decide) rfl (fun ls hl => ?_)
            refine lv_goto (tgt := 49) hx hb dX10_lettersAgain_78 (by decide) ?_
            exact ih49 q10 x1 x2 (x3 + (1 : Int32)) hok hf _ _ hP hS ls (lv_sub hl [1, 2, 3, 0] rfl)
      exact K49 2000 q3 x1 x2 (1 : Int32) hok hf _ _ hP hS ls (lv_sub hl [1, 2, 3, 0] rfl)
    · have hf := ite_z hc hf
      refine lv_aload_n hx hb dX10_lettersAgain_29 rfl (lv_at hl 0 rfl) ?_
      refine lv_iconst (v := 2) hx hb dX10_lettersAgain_30 (by decide) ?_
      refine g_cI (g_runV (i := 196) (As := [.int (2 : Int32)]) (rest := []) X (c_X10_fails l G hG q1 (2 : Int32)) ca_X10_fails km_X10_59 rfl rfl ⟨Nat.le_of_ble_eq_true rfl, Nat.le_of_ble_eq_true rfl⟩ hP hS (ty_lt ab_196) (cell_10 ab_196) rfl rfl rfl hl.1 rfl (Nat.le_of_ble_eq_true rfl) ⟨Nat.le_of_ble_eq_true rfl, Nat.le_of_ble_eq_true rfl⟩ dX10_lettersAgain_31) hS (fun q11 hq11 H locs hP hS => ?_)
      have hf := bnd_go hq11 hf
      exact g_iret X hr hlk hP hS hf dX10_lettersAgain_34
  · have hf := ite_z hc hf
    refine lv_aload_n hx hb dX10_lettersAgain_13 rfl (lv_at hl 0 rfl) ?_
    refine lv_iconst (v := 1) hx hb dX10_lettersAgain_14 (by decide) ?_
    refine g_cI (g_runV (i := 196) (As := [.int (1 : Int32)]) (rest := []) X (c_X10_fails l G hG q1 (1 : Int32)) ca_X10_fails km_X10_59 rfl rfl ⟨Nat.le_of_ble_eq_true rfl, Nat.le_of_ble_eq_true rfl⟩ hP hS (ty_lt ab_196) (cell_10 ab_196) rfl rfl rfl hl.1 rfl (Nat.le_of_ble_eq_true rfl) ⟨Nat.le_of_ble_eq_true rfl, Nat.le_of_ble_eq_true rfl⟩ dX10_lettersAgain_15) hS (fun q12 hq12 H locs hP hS => ?_)
    have hf := bnd_go hq12 hf
    exact g_iret X hr hlk hP hS hf dX10_lettersAgain_18
def fX10_ranked_L33 (σ : St) (k7 : Int32 → Int32 → St × Int32) : Nat → Int32 → Int32 → Int32 → Int32 → St × Int32
  | 0, _, _, _, _ => (σ, 0)
  | n33 + 1, x1, x2, x3, x4 => (if (σ.1 197 (2 : Int32).toNatClampNeg) ≤ x4 then (if x3 = x1 then (σ, x2) else (k7 x1 (x2 + (1 : Int32)))) else (if (f_X10_isLetter σ x4) = true then (if 0 < (Op.cmpValue (FP.fcmp (σ.2.1 201 ((16 : Int32) + x4).toNatClampNeg) (σ.2.1 201 ((16 : Int32) + x2).toNatClampNeg)) CmpOp.l) then (fX10_ranked_L33 σ k7 n33 x1 x2 (x3 + (1 : Int32)) (x4 + (1 : Int32))) else (if (Op.cmpValue (FP.fcmp (σ.2.1 201 ((16 : Int32) + x4).toNatClampNeg) (σ.2.1 201 ((16 : Int32) + x2).toNatClampNeg)) CmpOp.l) = 0 then (if x2 ≤ x4 then (fX10_ranked_L33 σ k7 n33 x1 x2 (x3 + (0 : Int32)) (x4 + (1 : Int32))) else (fX10_ranked_L33 σ k7 n33 x1 x2 (x3 + (1 : Int32)) (x4 + (1 : Int32)))) else (fX10_ranked_L33 σ k7 n33 x1 x2 (x3 + (0 : Int32)) (x4 + (1 : Int32))))) else (fX10_ranked_L33 σ k7 n33 x1 x2 (x3 + (0 : Int32)) (x4 + (1 : Int32)))))
def okX10_ranked_L33 (σ : St) (k7 : Int32 → Int32 → Prop) : Nat → Int32 → Int32 → Int32 → Int32 → Prop
  | 0, _, _, _, _ => False
  | n33 + 1, x1, x2, x3, x4 => (((σ.1 197 (2 : Int32).toNatClampNeg) ≤ x4 → ((x3 = x1 → True) ∧ (¬ x3 = x1 → (k7 x1 (x2 + (1 : Int32)))))) ∧ (¬ (σ.1 197 (2 : Int32).toNatClampNeg) ≤ x4 → (ok_X10_isLetter σ x4 ∧ (((f_X10_isLetter σ x4) = true → (vp_in ((16 : Int32) + x4) 36 ∧ (vp_in ((16 : Int32) + x2) 36 ∧ ((0 < (Op.cmpValue (FP.fcmp (σ.2.1 201 ((16 : Int32) + x4).toNatClampNeg) (σ.2.1 201 ((16 : Int32) + x2).toNatClampNeg)) CmpOp.l) → (okX10_ranked_L33 σ k7 n33 x1 x2 (x3 + (1 : Int32)) (x4 + (1 : Int32)))) ∧ (¬ 0 < (Op.cmpValue (FP.fcmp (σ.2.1 201 ((16 : Int32) + x4).toNatClampNeg) (σ.2.1 201 ((16 : Int32) + x2).toNatClampNeg)) CmpOp.l) → (vp_in ((16 : Int32) + x4) 36 ∧ (vp_in ((16 : Int32) + x2) 36 ∧ (((Op.cmpValue (FP.fcmp (σ.2.1 201 ((16 : Int32) + x4).toNatClampNeg) (σ.2.1 201 ((16 : Int32) + x2).toNatClampNeg)) CmpOp.l) = 0 → ((x2 ≤ x4 → (okX10_ranked_L33 σ k7 n33 x1 x2 (x3 + (0 : Int32)) (x4 + (1 : Int32)))) ∧ (¬ x2 ≤ x4 → (okX10_ranked_L33 σ k7 n33 x1 x2 (x3 + (1 : Int32)) (x4 + (1 : Int32)))))) ∧ (¬ (Op.cmpValue (FP.fcmp (σ.2.1 201 ((16 : Int32) + x4).toNatClampNeg) (σ.2.1 201 ((16 : Int32) + x2).toNatClampNeg)) CmpOp.l) = 0 → (okX10_ranked_L33 σ k7 n33 x1 x2 (x3 + (0 : Int32)) (x4 + (1 : Int32)))))))))))) ∧ ((f_X10_isLetter σ x4) = false → (okX10_ranked_L33 σ k7 n33 x1 x2 (x3 + (0 : Int32)) (x4 + (1 : Int32))))))))
def fX10_ranked_L7 (σ : St) : Nat → Int32 → Int32 → St × Int32
  | 0, _, _ => (σ, 0)
  | n7 + 1, x1, x2 => (if (σ.1 197 (2 : Int32).toNatClampNeg) ≤ x2 then (bnd (f_X10_fails σ (1 : Int32)) (fun q2 => (q2.1, q2.2))) else (if (f_X10_isLetter σ x2) = true then (fX10_ranked_L33 σ (fun x1 x2 => fX10_ranked_L7 σ n7 x1 x2) 2000 x1 x2 (0 : Int32) (0 : Int32)) else (fX10_ranked_L7 σ n7 x1 (x2 + (1 : Int32)))))
def okX10_ranked_L7 (σ : St) : Nat → Int32 → Int32 → Prop
  | 0, _, _ => False
  | n7 + 1, x1, x2 => (((σ.1 197 (2 : Int32).toNatClampNeg) ≤ x2 → True) ∧ (¬ (σ.1 197 (2 : Int32).toNatClampNeg) ≤ x2 → (ok_X10_isLetter σ x2 ∧ (((f_X10_isLetter σ x2) = true → (okX10_ranked_L33 σ (fun x1 x2 => okX10_ranked_L7 σ n7 x1 x2) 2000 x1 x2 (0 : Int32) (0 : Int32))) ∧ ((f_X10_isLetter σ x2) = false → (okX10_ranked_L7 σ n7 x1 (x2 + (1 : Int32))))))))
def f_X10_ranked (σ : St) (x1 : Int32) : St × Int32 := (bnd (setI σ 196 0 (0 : Int32)) (fun q1 => (fX10_ranked_L7 q1 2000 x1 (0 : Int32))))
def ok_X10_ranked (σ : St) (x1 : Int32) : Prop := (bndP (setI σ 196 0 (0 : Int32)) (fun q1 => (okX10_ranked_L7 q1 2000 x1 (0 : Int32))))
abbrev rm_X10_ranked : Room := { frames := 2, cells := 0, slots := 0, locals := 43 }
set_option maxHeartbeats 4000000 in
set_option maxRecDepth 100000 in
theorem c_X10_ranked (l : Launch) (G : GE) (hG : Gok G) (σ : St) (x1 : Int32) (hok : ok_X10_ranked σ x1) : MtI l G yX10_ranked cX10_ranked 5 rm_X10_ranked [.ref (G.2.1 196), .int x1] σ (f_X10_ranked σ x1) := by
  generalize hf : f_X10_ranked σ x1 = fv
  rw [f_X10_ranked] at hf
  rw [ok_X10_ranked] at hok
  refine g_start hG (plainFor_of_name (by decide)) (Nat.le_of_ble_eq_true rfl) ?_
  intro p e s m args below meth c X hr hlk ls hl H locs hP hS
  have X : Cx G p s m args c cX10_ranked 5 RX10 := X
  obtain ⟨hx, hb, hml, hown, hts, hK, hbs, hXW, -⟩ := id X
  have hl : lv_has ls 5 [(0, .ref (G.2.1 196)), (1, .int x1)] := hl
  refine lv_aload_n hx hb dX10_ranked_0 rfl (lv_at hl 0 rfl) ?_
  refine lv_iconst (v := 0) hx hb dX10_ranked_1 (by decide) ?_
  refine gp_10_0 X hP hS ab_196 kf_X10_50 dX10_ranked_2 (fun H locs hP hS => ?_)
  refine g_name hP (fun q1 hq1 hP => ?_)
  have hf := bnd_go hq1 hf
  have hok := bnd_goP hq1 hok
  refine lv_iconst (v := 0) hx hb dX10_ranked_5 (by decide) ?_
  refine lv_istore_n (lv' := [(2, .int (0 : Int32)), (0, .ref (G.2.1 196)), (1, .int x1)]) hx hb dX10_ranked_6 rfl hl (by decide) rfl (fun ls hl => ?_)
  have K7 : ∀ (n7 : Nat) (σ : St) (x1 : Int32) (x2 : Int32), okX10_ranked_L7 σ n7 x1 x2 → fX10_ranked_L7 σ n7 x1 x2 = fv → ∀ (H : Heap) (locs : List Loc), va_P G.1 vcl (wl G σ) H → va_S (GA G) s.heap H locs → ∀ (ls : Array Slot), lv_has ls 5 [(0, .ref (G.2.1 196)), (1, .int x1), (2, .int x2)] → W p l e rm_X10_ranked s m args below meth c H locs 0 0 (MQ below (va_Qi (fun r u => (u, r) = fv) (PB G) (GA G)) args s 0 0 (GA G)) (F0 m 7 ls []) := by
    intro n7
    induction n7 with
    | zero =>
      intro σ x1 x2 hok
      exact hok.elim
    | succ n7 ih7 =>
      intro σ x1 x2 hok hf H locs hP hS ls hl
      rw [okX10_ranked_L7] at hok
      rw [fX10_ranked_L7] at hf
      refine lv_iload_n hx hb dX10_ranked_7 rfl (lv_at hl 2 rfl) ?_
      refine lv_aload_n hx hb dX10_ranked_8 rfl (lv_at hl 0 rfl) ?_
      refine gg_10_5 X hP ab_196 kf_X10_7 dX10_ranked_9 ?_
      refine lv_iconst (v := 2) hx hb dX10_ranked_12 (by decide) ?_
      refine g_iald X hP ab_197 (by rw [al_197]; unfold vp_in; decide) dX10_ranked_13 ?_
      refine lv_icmp_ge (tgt := 132) hx hb dX10_ranked_14 (by decide) (fun hc => ?_) (fun hc => ?_)
      · have hf := ite_t hc hf
        refine lv_aload_n hx hb dX10_ranked_132 rfl (lv_at hl 0 rfl) ?_
        refine lv_iconst (v := 1) hx hb dX10_ranked_133 (by decide) ?_
        refine g_cI (g_runV (i := 196) (As := [.int (1 : Int32)]) (rest := []) X (c_X10_fails l G hG σ (1 : Int32)) ca_X10_fails km_X10_59 rfl rfl ⟨Nat.le_of_ble_eq_true rfl, Nat.le_of_ble_eq_true rfl⟩ hP hS (ty_lt ab_196) (cell_10 ab_196) rfl rfl rfl hl.1 rfl (Nat.le_of_ble_eq_true rfl) ⟨Nat.le_of_ble_eq_true rfl, Nat.le_of_ble_eq_true rfl⟩ dX10_ranked_134) hS (fun q2 hq2 H locs hP hS => ?_)
        have hf := bnd_go hq2 hf
        exact g_iret X hr hlk hP hS hf dX10_ranked_137
      · have hf := ite_f hc hf
        have hok := hok.2 hc
        refine lv_aload_n hx hb dX10_ranked_17 rfl (lv_at hl 0 rfl) ?_
        refine lv_iload_n hx hb dX10_ranked_18 rfl (lv_at hl 2 rfl) ?_
        have hs3 := hok.1
        have hok := hok.2
        refine g_cZp (g_runV (i := 196) (As := [.int x2]) (rest := []) X (c_X10_isLetter l G hG σ x2 hs3) ca_X10_isLetter km_X10_139 rfl rfl ⟨Nat.le_of_ble_eq_true rfl, Nat.le_of_ble_eq_true rfl⟩ hP hS (ty_lt ab_196) (cell_10 ab_196) rfl rfl rfl hl.1 rfl (Nat.le_of_ble_eq_true rfl) ⟨Nat.le_of_ble_eq_true rfl, Nat.le_of_ble_eq_true rfl⟩ dX10_ranked_19) hS (fun H locs hP hS => ?_)
        refine g_ifneZ (tgt := 28) X dX10_ranked_22 (by decide) (fun hc => ?_) (fun hc => ?_)
        · have hf := ite_t hc hf
          have hok := hok.1 hc
          refine lv_iconst (v := 0) hx hb dX10_ranked_28 (by decide) ?_
          refine lv_istore_n (lv' := [(3, .int (0 : Int32)), (0, .ref (G.2.1 196)), (1, .int x1), (2, .int x2)]) hx hb dX10_ranked_29 rfl hl (by decide) rfl (fun ls hl => ?_)
          refine lv_iconst (v := 0) hx hb dX10_ranked_30 (by decide) ?_
          refine lv_istore (lv' := [(4, .int (0 : Int32)), (3, .int (0 : Int32)), (0, .ref (G.2.1 196)), (1, .int x1), (2, .int x2)]) hx hb dX10_ranked_31 hl (by decide) rfl (fun ls hl => ?_)
          have K33 : ∀ (n33 : Nat) (σ : St) (x1 : Int32) (x2 : Int32) (x3 : Int32) (x4 : Int32), okX10_ranked_L33 σ (fun x1 x2 => okX10_ranked_L7 σ n7 x1 x2) n33 x1 x2 x3 x4 → fX10_ranked_L33 σ (fun x1 x2 => fX10_ranked_L7 σ n7 x1 x2) n33 x1 x2 x3 x4 = fv → ∀ (H : Heap) (locs : List Loc), va_P G.1 vcl (wl G σ) H → va_S (GA G) s.heap H locs → ∀ (ls : Array Slot), lv_has ls 5 [(0, .ref (G.2.1 196)), (1, .int x1), (2, .int x2), (3, .int x3), (4, .int x4)] → W p l e rm_X10_ranked s m args below meth c H locs 0 0 (MQ below (va_Qi (fun r u => (u, r) = fv) (PB G) (GA G)) args s 0 0 (GA G)) (F0 m 33 ls []) := by
            intro n33
            induction n33 with
            | zero =>
              intro σ x1 x2 x3 x4 hok
              exact hok.elim
            | succ n33 ih33 =>
              intro σ x1 x2 x3 x4 hok hf H locs hP hS ls hl
              rw [okX10_ranked_L33] at hok
              rw [fX10_ranked_L33] at hf
              refine lv_iload hx hb dX10_ranked_33 (lv_at hl 4 rfl) ?_
              refine lv_aload_n hx hb dX10_ranked_35 rfl (lv_at hl 0 rfl) ?_
              refine gg_10_5 X hP ab_196 kf_X10_7 dX10_ranked_36 ?_
              refine lv_iconst (v := 2) hx hb dX10_ranked_39 (by decide) ?_
              refine g_iald X hP ab_197 (by rw [al_197]; unfold vp_in; decide) dX10_ranked_40 ?_
              refine lv_icmp_ge (tgt := 119) hx hb dX10_ranked_41 (by decide) (fun hc => ?_) (fun hc => ?_)
              · have hf := ite_t hc hf
                have hok := hok.1 hc
                refine lv_iload_n hx hb dX10_ranked_119 rfl (lv_at hl 3 rfl) ?_
                refine lv_iload_n hx hb dX10_ranked_120 rfl (lv_at hl 1 rfl) ?_
                refine lv_icmp_ne (tgt := 126) hx hb dX10_ranked_121 (by decide) (fun hc => ?_) (fun hc => ?_)
                · have hf := ite_f hc hf
                  have hok := hok.2 hc
                  refine lv_iinc (v := (x2 + (1 : Int32))) (lv' := [(2, .int (x2 + (1 : Int32))), (0, .ref (G.2.1 196)), (1, .int x1), (3, .int x3), (4, .int x4)]) hx hb dX10_ranked_126 hl (k := 2) rfl rfl (by decide) rfl (fun ls hl => ?_)
                  refine lv_goto (tgt := 7) hx hb dX10_ranked_129 (by decide) ?_
                  exact ih7 σ x1 (x2 + (1 : Int32)) hok hf _ _ hP hS ls (lv_sub hl [1, 2, 0] rfl)
                · have hf := ite_t hc hf
                  refine lv_iload_n hx hb dX10_ranked_124 rfl (lv_at hl 2 rfl) ?_
                  exact g_iret X hr hlk hP hS hf dX10_ranked_125
              · have hf := ite_f hc hf
                have hok := hok.2 hc
                refine lv_iload_n hx hb dX10_ranked_44 rfl (lv_at hl 3 rfl) ?_
                refine lv_aload_n hx hb dX10_ranked_45 rfl (lv_at hl 0 rfl) ?_
                refine lv_iload hx hb dX10_ranked_46 (lv_at hl 4 rfl) ?_
                have hs4 := hok.1
                have hok := hok.2
                refine g_cZp (g_runV (i := 196) (As := [.int x4]) (rest := [.int x3]) X (c_X10_isLetter l G hG σ x4 hs4) ca_X10_isLetter km_X10_139 rfl rfl ⟨Nat.le_of_ble_eq_true rfl, Nat.le_of_ble_eq_true rfl⟩ hP hS (ty_lt ab_196) (cell_10 ab_196) rfl rfl rfl hl.1 rfl (Nat.le_of_ble_eq_true rfl) ⟨Nat.le_of_ble_eq_true rfl, Nat.le_of_ble_eq_true rfl⟩ dX10_ranked_48) hS (fun H locs hP hS => ?_)
                refine g_ifeqZ (tgt := 110) X dX10_ranked_51 (by decide) (fun hc => ?_) (fun hc => ?_)
                · have hf := ite_z hc hf
                  have hok := hok.2 hc
                  refine lv_iconst (v := 0) hx hb dX10_ranked_110 (by decide) ?_
                  refine lv_iadd hx hb dX10_ranked_111 ?_
                  refine lv_istore_n (lv' := [(3, .int (x3 + (0 : Int32))), (0, .ref (G.2.1 196)), (1, .int x1), (2, .int x2), (4, .int x4)]) hx hb dX10_ranked_112 rfl hl (by decide) rfl (fun ls hl => ?_)
                  refine lv_iinc (v := (x4 + (1 : Int32))) (lv' := [(4, .int (x4 + (1 : Int32))), (3, .int (x3 + (0 : Int32))), (0, .ref (G.2.1 196)), (1, .int x1), (2, .int x2)]) hx hb dX10_ranked_113 hl (k := 4) rfl rfl (by decide) rfl (fun ls hl => ?_)
                  refine lv_goto (tgt := 33) hx hb dX10_ranked_116 (by decide) ?_
                  exact ih33 σ x1 x2 (x3 + (0 : Int32)) (x4 + (1 : Int32)) hok hf _ _ hP hS ls (lv_sub hl [2, 3, 4, 1, 0] rfl)
                · have hf := ite_t hc hf
                  have hok := hok.1 hc
                  refine lv_aload_n hx hb dX10_ranked_54 rfl (lv_at hl 0 rfl) ?_
                  refine gg_10_9 X hP ab_196 kf_X10_22 dX10_ranked_55 ?_
                  refine lv_bipush (v := 16) hx hb dX10_ranked_58 (by decide) ?_
                  refine lv_iload hx hb dX10_ranked_60 (lv_at hl 4 rfl) ?_
                  refine lv_iadd hx hb dX10_ranked_62 ?_
                  have hs5 := hok.1
                  have hok := hok.2
                  refine g_fald X hP ab_201 (by rw [al_201]; exact hs5) dX10_ranked_63 ?_
                  refine lv_aload_n hx hb dX10_ranked_64 rfl (lv_at hl 0 rfl) ?_
                  refine gg_10_9 X hP ab_196 kf_X10_22 dX10_ranked_65 ?_
                  refine lv_bipush (v := 16) hx hb dX10_ranked_68 (by decide) ?_
                  refine lv_iload_n hx hb dX10_ranked_70 rfl (lv_at hl 2 rfl) ?_
                  refine lv_iadd hx hb dX10_ranked_71 ?_
                  have hs6 := hok.1
                  have hok := hok.2
                  refine g_fald X hP ab_201 (by rw [al_201]; exact hs6) dX10_ranked_72 ?_
                  refine lv_fcmp hx hb dX10_ranked_73 ?_
                  refine lv_if_gt (tgt := 106) hx hb dX10_ranked_74 (by decide) (fun hc => ?_) (fun hc => ?_)
                  · have hf := ite_t hc hf
                    have hok := hok.1 hc
                    refine lv_iconst (v := 1) hx hb dX10_ranked_106 (by decide) ?_
                    refine lv_goto (tgt := 111) hx hb dX10_ranked_107 (by decide) ?_
                    refine lv_iadd hx hb dX10_ranked_111 ?_
                    refine lv_istore_n (lv' := [(3, .int (x3 + (1 : Int32))), (0, .ref (G.2.1 196)), (1, .int x1), (2, .int x2), (4, .int x4)]) hx hb dX10_ranked_112 rfl hl (by decide) rfl (fun ls hl => ?_)
                    refine lv_iinc (v := (x4 + (1 : Int32))) (lv' := [(4, .int (x4 + (1 : Int32))), (3, .int (x3 + (1 : Int32))), (0, .ref (G.2.1 196)), (1, .int x1), (2, .int x2)]) hx hb dX10_ranked_113 hl (k := 4) rfl rfl (by decide) rfl (fun ls hl => ?_)
                    refine lv_goto (tgt := 33) hx hb dX10_ranked_116 (by decide) ?_
                    exact ih33 σ x1 x2 (x3 + (1 : Int32)) (x4 + (1 : Int32)) hok hf _ _ hP hS ls (lv_sub hl [2, 3, 4, 1, 0] rfl)
                  · have hf := ite_f hc hf
                    have hok := hok.2 hc
                    refine lv_aload_n hx hb dX10_ranked_77 rfl (lv_at hl 0 rfl) ?_
                    refine gg_10_9 X hP ab_196 kf_X10_22 dX10_ranked_78 ?_
                    refine lv_bipush (v := 16) hx hb dX10_ranked_81 (by decide) ?_
                    refine lv_iload hx hb dX10_ranked_83 (lv_at hl 4 rfl) ?_
                    refine lv_iadd hx hb dX10_ranked_85 ?_
                    have hs7 := hok.1
                    have hok := hok.2
                    refine g_fald X hP ab_201 (by rw [al_201]; exact hs7) dX10_ranked_86 ?_
                    refine lv_aload_n hx hb dX10_ranked_87 rfl (lv_at hl 0 rfl) ?_
                    refine gg_10_9 X hP ab_196 kf_X10_22 dX10_ranked_88 ?_
                    refine lv_bipush (v := 16) hx hb dX10_ranked_91 (by decide) ?_
                    refine lv_iload_n hx hb dX10_ranked_93 rfl (lv_at hl 2 rfl) ?_
                    refine lv_iadd hx hb dX10_ranked_94 ?_
                    have hs8 := hok.1
                    have hok := hok.2
                    refine g_fald X hP ab_201 (by rw [al_201]; exact hs8) dX10_ranked_95 ?_
                    refine lv_fcmp hx hb dX10_ranked_96 ?_
                    refine lv_if_ne (tgt := 110) hx hb dX10_ranked_97 (by decide) (fun hc => ?_) (fun hc => ?_)
                    · have hf := ite_f hc hf
                      have hok := hok.2 hc
                      refine lv_iconst (v := 0) hx hb dX10_ranked_110 (by decide) ?_
                      refine lv_iadd hx hb dX10_ranked_111 ?_
                      refine lv_istore_n (lv' := [(3, .int (x3 + (0 : Int32))), (0, .ref (G.2.1 196)), (1, .int x1), (2, .int x2), (4, .int x4)]) hx hb dX10_ranked_112 rfl hl (by decide) rfl (fun ls hl => ?_)
                      refine lv_iinc (v := (x4 + (1 : Int32))) (lv' := [(4, .int (x4 + (1 : Int32))), (3, .int (x3 + (0 : Int32))), (0, .ref (G.2.1 196)), (1, .int x1), (2, .int x2)]) hx hb dX10_ranked_113 hl (k := 4) rfl rfl (by decide) rfl (fun ls hl => ?_)
                      refine lv_goto (tgt := 33) hx hb dX10_ranked_116 (by decide) ?_
                      exact ih33 σ x1 x2 (x3 + (0 : Int32)) (x4 + (1 : Int32)) hok hf _ _ hP hS ls (lv_sub hl [2, 3, 4, 1, 0] rfl)
                    · have hf := ite_t hc hf
                      have hok := hok.1 hc
                      refine lv_iload hx hb dX10_ranked_100 (lv_at hl 4 rfl) ?_
                      refine lv_iload_n hx hb dX10_ranked_102 rfl (lv_at hl 2 rfl) ?_
                      refine lv_icmp_ge (tgt := 110) hx hb dX10_ranked_103 (by decide) (fun hc => ?_) (fun hc => ?_)
                      · have hf := ite_t hc hf
                        have hok := hok.1 hc
                        refine lv_iconst (v := 0) hx hb dX10_ranked_110 (by decide) ?_
                        refine lv_iadd hx hb dX10_ranked_111 ?_
                        refine lv_istore_n (lv' := [(3, .int (x3 + (0 : Int32))), (0, .ref (G.2.1 196)), (1, .int x1), (2, .int x2), (4, .int x4)]) hx hb dX10_ranked_112 rfl hl (by decide) rfl (fun ls hl => ?_)
                        refine lv_iinc (v := (x4 + (1 : Int32))) (lv' := [(4, .int (x4 + (1 : Int32))), (3, .int (x3 + (0 : Int32))), (0, .ref (G.2.1 196)), (1, .int x1), (2, .int x2)]) hx hb dX10_ranked_113 hl (k := 4) rfl rfl (by decide) rfl (fun ls hl => ?_)
                        refine lv_goto (tgt := 33) hx hb dX10_ranked_116 (by decide) ?_
                        exact ih33 σ x1 x2 (x3 + (0 : Int32)) (x4 + (1 : Int32)) hok hf _ _ hP hS ls (lv_sub hl [2, 3, 4, 1, 0] rfl)
                      · have hf := ite_f hc hf
                        have hok := hok.2 hc
                        refine lv_iconst (v := 1) hx hb dX10_ranked_106 (by decide) ?_
                        refine lv_goto (tgt := 111) hx hb dX10_ranked_107 (by decide) ?_
                        refine lv_iadd hx hb dX10_ranked_111 ?_
                        refine lv_istore_n (lv' := [(3, .int (x3 + (1 : Int32))), (0, .ref (G.2.1 196)), (1, .int x1), (2, .int x2), (4, .int x4)]) hx hb dX10_ranked_112 rfl hl (by decide) rfl (fun ls hl => ?_)
                        refine lv_iinc (v := (x4 + (1 : Int32))) (lv' := [(4, .int (x4 + (1 : Int32))), (3, .int (x3 + (1 : Int32))), (0, .ref (G.2.1 196)), (1, .int x1), (2, .int x2)]) hx hb dX10_ranked_113 hl (k := 4) rfl rfl (by decide) rfl (fun ls hl => ?_)
                        refine lv_goto (tgt := 33) hx hb dX10_ranked_116 (by decide) ?_
                        exact ih33 σ x1 x2 (x3 + (1 : Int32)) (x4 + (1 : Int32)) hok hf _ _ hP hS ls (lv_sub hl [2, 3, 4, 1, 0] rfl)
          exact K33 2000 σ x1 x2 (0 : Int32) (0 : Int32) hok hf _ _ hP hS ls (lv_sub hl [2, 3, 4, 1, 0] rfl)
        · have hf := ite_z hc hf
          have hok := hok.2 hc
          refine lv_goto (tgt := 126) hx hb dX10_ranked_25 (by decide) ?_
          refine lv_iinc (v := (x2 + (1 : Int32))) (lv' := [(2, .int (x2 + (1 : Int32))), (0, .ref (G.2.1 196)), (1, .int x1)]) hx hb dX10_ranked_126 hl (k := 2) rfl rfl (by decide) rfl (fun ls hl => ?_)
          refine lv_goto (tgt := 7) hx hb dX10_ranked_129 (by decide) ?_
          exact ih7 σ x1 (x2 + (1 : Int32)) hok hf _ _ hP hS ls (lv_sub hl [1, 2, 0] rfl)
  exact K7 2000 q1 x1 (0 : Int32) hok hf _ _ hP hS ls (lv_sub hl [1, 2, 0] rfl)
def f_X10_potato (σ : St) : St × Int32 := (bnd (setI σ 196 0 (0 : Int32)) (fun q1 => (if (q1.1 197 (3 : Int32).toNatClampNeg) = (5 : Int32) then (bnd (f_X10_isNot q1 (1 : Int32) (5 : Int32)) (fun q7 => (bnd (f_X10_refuses q7.1 q7.2 (1 : Int32)) (fun q8 => (q8.1, q8.2))))) else (bnd (f_X10_remembers q1) (fun q3 => (bnd (setI q3 197 (3 : Int32).toNatClampNeg ((q3.1 197 (3 : Int32).toNatClampNeg) + (1 : Int32))) (fun q4 => (bnd (setF q4 201 ((8 : Int32) + (q3.1 197 (3 : Int32).toNatClampNeg)).toNatClampNeg FP.fconst1) (fun q6 => (q6, (q3.1 197 (3 : Int32).toNatClampNeg)))))))))))
def ok_X10_potato (σ : St) : Prop := (bndP (setI σ 196 0 (0 : Int32)) (fun q1 => (((q1.1 197 (3 : Int32).toNatClampNeg) = (5 : Int32) → True) ∧ (¬ (q1.1 197 (3 : Int32).toNatClampNeg) = (5 : Int32) → (ok_X10_remembers q1 ∧ (bndP (f_X10_remembers q1) (fun q3 => vp_in ((8 : Int32) + (q3.1 197 (3 : Int32).toNatClampNeg)) 36)))))))
abbrev rm_X10_potato : Room := { frames := 2, cells := 0, slots := 0, locals := 43 }
set_option maxHeartbeats 4000000 in
set_option maxRecDepth 100000 in
theorem c_X10_potato (l : Launch) (G : GE) (hG : Gok G) (σ : St) (hok : ok_X10_potato σ) : MtI l G yX10_potato cX10_potato 2 rm_X10_potato [.ref (G.2.1 196)] σ (f_X10_potato σ) := by
  generalize hf : f_X10_potato σ = fv
  rw [f_X10_potato] at hf
  rw [ok_X10_potato] at hok
  refine g_start hG (plainFor_of_name (by decide)) (Nat.le_of_ble_eq_true rfl) ?_
  intro p e s m args below meth c X hr hlk ls hl H locs hP hS
  have X : Cx G p s m args c cX10_potato 2 RX10 := X
  obtain ⟨hx, hb, hml, hown, hts, hK, hbs, hXW, -⟩ := id X
  have hl : lv_has ls 2 [(0, .ref (G.2.1 196))] := hl
  refine lv_aload_n hx hb dX10_potato_0 rfl (lv_at hl 0 rfl) ?_
  refine lv_iconst (v := 0) hx hb dX10_potato_1 (by decide) ?_
  refine gp_10_0 X hP hS ab_196 kf_X10_50 dX10_potato_2 (fun H locs hP hS => ?_)
  refine g_name hP (fun q1 hq1 hP => ?_)
  have hf := bnd_go hq1 hf
  have hok := bnd_goP hq1 hok
  refine lv_aload_n hx hb dX10_potato_5 rfl (lv_at hl 0 rfl) ?_
  refine gg_10_5 X hP ab_196 kf_X10_7 dX10_potato_6 ?_
  refine lv_iconst (v := 3) hx hb dX10_potato_9 (by decide) ?_
  refine g_iald X hP ab_197 (by rw [al_197]; unfold vp_in; decide) dX10_potato_10 ?_
  refine lv_iconst (v := 5) hx hb dX10_potato_11 (by decide) ?_
  refine lv_icmp_ne (tgt := 27) hx hb dX10_potato_12 (by decide) (fun hc => ?_) (fun hc => ?_)
  · have hf := ite_f hc hf
    have hok := hok.2 hc
    refine lv_aload_n hx hb dX10_potato_27 rfl (lv_at hl 0 rfl) ?_
    have hs2 := hok.1
    have hok := hok.2
    refine g_cV (g_runV (i := 196) (As := []) (rest := []) X (c_X10_remembers l G hG q1 hs2) ca_X10_remembers km_X10_95 rfl rfl ⟨Nat.le_of_ble_eq_true rfl, Nat.le_of_ble_eq_true rfl⟩ hP hS (ty_lt ab_196) (cell_10 ab_196) rfl rfl rfl hl.1 rfl (Nat.le_of_ble_eq_true rfl) ⟨Nat.le_of_ble_eq_true rfl, Nat.le_of_ble_eq_true rfl⟩ dX10_potato_28) hS (fun q3 hq3 H locs hP hS => ?_)
    have hf := bnd_go hq3 hf
    have hok := bnd_goP hq3 hok
    refine lv_aload_n hx hb dX10_potato_31 rfl (lv_at hl 0 rfl) ?_
    refine gg_10_5 X hP ab_196 kf_X10_7 dX10_potato_32 ?_
    refine lv_iconst (v := 3) hx hb dX10_potato_35 (by decide) ?_
    refine g_iald X hP ab_197 (by rw [al_197]; unfold vp_in; decide) dX10_potato_36 ?_
    refine lv_istore_n (lv' := [(1, .int (q3.1 197 (3 : Int32).toNatClampNeg)), (0, .ref (G.2.1 196))]) hx hb dX10_potato_37 rfl hl (by decide) rfl (fun ls hl => ?_)
    refine lv_aload_n hx hb dX10_potato_38 rfl (lv_at hl 1 rfl) ?_
    refine gg_10_5 X hP ab_196 kf_X10_7 dX10_potato_39 ?_
    refine lv_iconst (v := 3) hx hb dX10_potato_42 (by decide) ?_
    refine lv_dup2_11 hx hb dX10_potato_43 rfl rfl ?_
    refine g_iald X hP ab_197 (by rw [al_197]; unfold vp_in; decide) dX10_potato_44 ?_
    refine lv_iconst (v := 1) hx hb dX10_potato_45 (by decide) ?_
    refine lv_iadd hx hb dX10_potato_46 ?_
    refine g_iast X hP hS ab_197 (by rw [al_197]; unfold vp_in; decide) dX10_potato_47 (fun H locs hP hS => ?_)
    refine g_name hP (fun q4 hq4 hP => ?_)
    have hf := bnd_go hq4 hf
    refine lv_aload_n hx hb dX10_potato_48 rfl (lv_at hl 1 rfl) ?_
    refine gg_10_9 X hP ab_196 kf_X10_22 dX10_potato_49 ?_
    refine lv_bipush (v := 8) hx hb dX10_potato_52 (by decide) ?_
    refine lv_iload_n hx hb dX10_potato_54 rfl (lv_at hl 0 rfl) ?_
    refine lv_iadd hx hb dX10_potato_55 ?_
    refine lv_fconst1 hx hb dX10_potato_56 ?_
    have hs5 := hok
    refine g_fast X hP hS ab_201 (by rw [al_201]; exact hs5) dX10_potato_57 (fun H locs hP hS => ?_)
    refine g_name hP (fun q6 hq6 hP => ?_)
    have hf := bnd_go hq6 hf
    refine lv_iload_n hx hb dX10_potato_58 rfl (lv_at hl 0 rfl) ?_
    exact g_iret X hr hlk hP hS hf dX10_potato_59
  · have hf := ite_t hc hf
    refine lv_aload_n hx hb dX10_potato_15 rfl (lv_at hl 0 rfl) ?_
    refine lv_aload_n hx hb dX10_potato_16 rfl (lv_at hl 0 rfl) ?_
    refine lv_iconst (v := 1) hx hb dX10_potato_17 (by decide) ?_
    refine lv_iconst (v := 5) hx hb dX10_potato_18 (by decide) ?_
    refine g_cI (g_runV (i := 196) (As := [.int (1 : Int32), .int (5 : Int32)]) (rest := [.ref (G.2.1 196)]) X (c_X10_isNot l G hG q1 (1 : Int32) (5 : Int32)) ca_X10_isNot km_X10_89 rfl rfl ⟨Nat.le_of_ble_eq_true rfl, Nat.le_of_ble_eq_true rfl⟩ hP hS (ty_lt ab_196) (cell_10 ab_196) rfl rfl rfl hl.1 rfl (Nat.le_of_ble_eq_true rfl) ⟨Nat.le_of_ble_eq_true rfl, Nat.le_of_ble_eq_true rfl⟩ dX10_potato_19) hS (fun q7 hq7 H locs hP hS => ?_)
    have hf := bnd_go hq7 hf
    refine lv_iconst (v := 1) hx hb dX10_potato_22 (by decide) ?_
    refine g_cI (g_runV (i := 196) (As := [.int q7.2, .int (1 : Int32)]) (rest := []) X (c_X10_refuses l G hG q7.1 q7.2 (1 : Int32)) ca_X10_refuses km_X10_92 rfl rfl ⟨Nat.le_of_ble_eq_true rfl, Nat.le_of_ble_eq_true rfl⟩ hP hS (ty_lt ab_196) (cell_10 ab_196) rfl rfl rfl hl.1 rfl (Nat.le_of_ble_eq_true rfl) ⟨Nat.le_of_ble_eq_true rfl, Nat.le_of_ble_eq_true rfl⟩ dX10_potato_23) hS (fun q8 hq8 H locs hP hS => ?_)
    have hf := bnd_go hq8 hf
    exact g_iret X hr hlk hP hS hf dX10_potato_26
def f_X10_firmness (σ : St) (x1 : Int32) : St × UInt32 := (bnd (setI σ 196 0 (0 : Int32)) (fun q1 => (if (f_X10_isPotato q1 x1) = true then (q1, (q1.2.1 201 ((8 : Int32) + x1).toNatClampNeg)) else (bnd (f_X10_fails q1 (1 : Int32)) (fun q2 => (q2.1, (FP.i2f q2.2)))))))
def ok_X10_firmness (σ : St) (x1 : Int32) : Prop := (bndP (setI σ 196 0 (0 : Int32)) (fun q1 => (((f_X10_isPotato q1 x1) = true → vp_in ((8 : Int32) + x1) 36) ∧ ((f_X10_isPotato q1 x1) = false → True))))
abbrev rm_X10_firmness : Room := { frames := 2, cells := 0, slots := 0, locals := 43 }
set_option maxHeartbeats 4000000 in
set_option maxRecDepth 100000 in
theorem c_X10_firmness (l : Launch) (G : GE) (hG : Gok G) (σ : St) (x1 : Int32) (hok : ok_X10_firmness σ x1) : MtF l G yX10_firmness cX10_firmness 2 rm_X10_firmness [.ref (G.2.1 196), .int x1] σ (f_X10_firmness σ x1) := by
  generalize hf : f_X10_firmness σ x1 = fv
  rw [f_X10_firmness] at hf
  rw [ok_X10_firmness] at hok
  refine g_start hG (plainFor_of_name (by decide)) (Nat.le_of_ble_eq_true rfl) ?_
  intro p e s m args below meth c X hr hlk ls hl H locs hP hS
  have X : Cx G p s m args c cX10_firmness 2 RX10 := X
  obtain ⟨hx, hb, hml, hown, hts, hK, hbs, hXW, -⟩ := id X
  have hl : lv_has ls 2 [(0, .ref (G.2.1 196)), (1, .int x1)] := hl
  refine lv_aload_n hx hb dX10_firmness_0 rfl (lv_at hl 0 rfl) ?_
  refine lv_iconst (v := 0) hx hb dX10_firmness_1 (by decide) ?_
  refine gp_10_0 X hP hS ab_196 kf_X10_50 dX10_firmness_2 (fun H locs hP hS => ?_)
  refine g_name hP (fun q1 hq1 hP => ?_)
  have hf := bnd_go hq1 hf
  have hok := bnd_goP hq1 hok
  refine lv_aload_n hx hb dX10_firmness_5 rfl (lv_at hl 0 rfl) ?_
  refine lv_iload_n hx hb dX10_firmness_6 rfl (lv_at hl 1 rfl) ?_
  refine g_cZp (g_runV (i := 196) (As := [.int x1]) (rest := []) X (c_X10_isPotato l G hG q1 x1) ca_X10_isPotato km_X10_152 rfl rfl ⟨Nat.le_of_ble_eq_true rfl, Nat.le_of_ble_eq_true rfl⟩ hP hS (ty_lt ab_196) (cell_10 ab_196) rfl rfl rfl hl.1 rfl (Nat.le_of_ble_eq_true rfl) ⟨Nat.le_of_ble_eq_true rfl, Nat.le_of_ble_eq_true rfl⟩ dX10_firmness_7) hS (fun H locs hP hS => ?_)
  refine g_ifeqZ (tgt := 25) X dX10_firmness_10 (by decide) (fun hc => ?_) (fun hc => ?_)
  · have hf := ite_z hc hf
    refine lv_aload_n hx hb dX10_firmness_25 rfl (lv_at hl 0 rfl) ?_
    refine lv_iconst (v := 1) hx hb dX10_firmness_26 (by decide) ?_
    refine g_cI (g_runV (i := 196) (As := [.int (1 : Int32)]) (rest := []) X (c_X10_fails l G hG q1 (1 : Int32)) ca_X10_fails km_X10_59 rfl rfl ⟨Nat.le_of_ble_eq_true rfl, Nat.le_of_ble_eq_true rfl⟩ hP hS (ty_lt ab_196) (cell_10 ab_196) rfl rfl rfl hl.1 rfl (Nat.le_of_ble_eq_true rfl) ⟨Nat.le_of_ble_eq_true rfl, Nat.le_of_ble_eq_true rfl⟩ dX10_firmness_27) hS (fun q2 hq2 H locs hP hS => ?_)
    have hf := bnd_go hq2 hf
    refine lv_i2f hx hb dX10_firmness_30 ?_
    exact g_fret X hr hlk hP hS hf dX10_firmness_31
  · have hf := ite_t hc hf
    have hok := hok.1 hc
    refine lv_aload_n hx hb dX10_firmness_13 rfl (lv_at hl 0 rfl) ?_
    refine gg_10_9 X hP ab_196 kf_X10_22 dX10_firmness_14 ?_
    refine lv_bipush (v := 8) hx hb dX10_firmness_17 (by decide) ?_
    refine lv_iload_n hx hb dX10_firmness_19 rfl (lv_at hl 1 rfl) ?_
    refine lv_iadd hx hb dX10_firmness_20 ?_
    have hs3 := hok
    refine g_fald X hP ab_201 (by rw [al_201]; exact hs3) dX10_firmness_21 ?_
    refine lv_goto (tgt := 31) hx hb dX10_firmness_22 (by decide) ?_
    exact g_fret X hr hlk hP hS hf dX10_firmness_31
def f_X10_printBy (x0 : UInt32) (x1 : UInt32) : UInt32 := (FP.fmul x0 (FP.fdiv x1 (FP.fadd x1 (1056964608 : UInt32))))
def ok_X10_printBy (x0 : UInt32) (x1 : UInt32) : Prop := (vf_n32 (FP.fadd x1 (1056964608 : UInt32)) ∧ (vf_n32 (FP.fdiv x1 (FP.fadd x1 (1056964608 : UInt32))) ∧ vf_n32 (FP.fmul x0 (FP.fdiv x1 (FP.fadd x1 (1056964608 : UInt32))))))
abbrev rm_X10_printBy : Room := { frames := 0, cells := 0, slots := 0, locals := 0 }
set_option maxHeartbeats 4000000 in
set_option maxRecDepth 100000 in
theorem c_X10_printBy (l : Launch) (G : GE) (hG : Gok G) (σ : St) (x0 : UInt32) (x1 : UInt32) (hok : ok_X10_printBy x0 x1) : MtF l G yX10_printBy cX10_printBy 2 rm_X10_printBy [.float x0, .float x1] σ (σ, f_X10_printBy x0 x1) := by
  generalize hf : f_X10_printBy x0 x1 = fv
  rw [f_X10_printBy] at hf
  rw [ok_X10_printBy] at hok
  refine g_start hG (plainFor_of_name (by decide)) (Nat.le_of_ble_eq_true rfl) ?_
  intro p e s m args below meth c X hr hlk ls hl H locs hP hS
  have X : Cx G p s m args c cX10_printBy 2 RX10 := X
  obtain ⟨hx, hb, hml, hown, hts, hK, hbs, hXW, -⟩ := id X
  have hl : lv_has ls 2 [(0, .float x0), (1, .float x1)] := hl
  refine lv_fload_n hx hb dX10_printBy_0 rfl (lv_at hl 0 rfl) ?_
  refine lv_fload_n hx hb dX10_printBy_1 rfl (lv_at hl 1 rfl) ?_
  refine lv_fload_n hx hb dX10_printBy_2 rfl (lv_at hl 1 rfl) ?_
  refine lv_ldcf hx hb hown (hts _ kc_X10_155) dX10_printBy_3 ?_
  have hs1 := hok.1
  have hok := hok.2
  refine lv_fadd hx hb dX10_printBy_5 hs1 ?_
  have hs2 := hok.1
  have hok := hok.2
  refine lv_fdiv hx hb dX10_printBy_6 hs2 ?_
  have hs3 := hok
  refine lv_fmul hx hb dX10_printBy_7 hs3 ?_
  exact g_fret X hr hlk hP hS (congrArg (Prod.mk σ) hf) dX10_printBy_8
def f_X10_printNow (σ : St) (x1 : Int32) : UInt32 := (f_X10_printBy (σ.2.1 201 ((8 : Int32) + x1).toNatClampNeg) (σ.2.1 201 (14 : Int32).toNatClampNeg))
def ok_X10_printNow (σ : St) (x1 : Int32) : Prop := (vp_in ((8 : Int32) + x1) 36 ∧ ok_X10_printBy (σ.2.1 201 ((8 : Int32) + x1).toNatClampNeg) (σ.2.1 201 (14 : Int32).toNatClampNeg))
abbrev rm_X10_printNow : Room := { frames := 1, cells := 0, slots := 0, locals := 21 }
set_option maxHeartbeats 4000000 in
set_option maxRecDepth 100000 in
theorem c_X10_printNow (l : Launch) (G : GE) (hG : Gok G) (σ : St) (x1 : Int32) (hok : ok_X10_printNow σ x1) : MtF l G yX10_printNow cX10_printNow 2 rm_X10_printNow [.ref (G.2.1 196), .int x1] σ (σ, f_X10_printNow σ x1) := by
  generalize hf : f_X10_printNow σ x1 = fv
  rw [f_X10_printNow] at hf
  rw [ok_X10_printNow] at hok
  refine g_start hG (plainFor_of_name (by decide)) (Nat.le_of_ble_eq_true rfl) ?_
  intro p e s m args below meth c X hr hlk ls hl H locs hP hS
  have X : Cx G p s m args c cX10_printNow 2 RX10 := X
  obtain ⟨hx, hb, hml, hown, hts, hK, hbs, hXW, -⟩ := id X
  have hl : lv_has ls 2 [(0, .ref (G.2.1 196)), (1, .int x1)] := hl
  refine lv_aload_n hx hb dX10_printNow_0 rfl (lv_at hl 0 rfl) ?_
  refine gg_10_9 X hP ab_196 kf_X10_22 dX10_printNow_1 ?_
  refine lv_bipush (v := 8) hx hb dX10_printNow_4 (by decide) ?_
  refine lv_iload_n hx hb dX10_printNow_6 rfl (lv_at hl 1 rfl) ?_
  refine lv_iadd hx hb dX10_printNow_7 ?_
  have hs1 := hok.1
  have hok := hok.2
  refine g_fald X hP ab_201 (by rw [al_201]; exact hs1) dX10_printNow_8 ?_
  refine lv_aload_n hx hb dX10_printNow_9 rfl (lv_at hl 0 rfl) ?_
  refine gg_10_9 X hP ab_196 kf_X10_22 dX10_printNow_10 ?_
  refine lv_bipush (v := 14) hx hb dX10_printNow_13 (by decide) ?_
  refine g_fald X hP ab_201 (by rw [al_201]; unfold vp_in; decide) dX10_printNow_15 ?_
  have hs2 := hok
  refine g_cFp (g_runS (As := [.float (σ.2.1 201 ((8 : Int32) + x1).toNatClampNeg), .float (σ.2.1 201 (14 : Int32).toNatClampNeg)]) (rest := []) X (c_X10_printBy l G hG σ (σ.2.1 201 ((8 : Int32) + x1).toNatClampNeg) (σ.2.1 201 (14 : Int32).toNatClampNeg) hs2) ca_X10_printBy km_X10_156 rfl rfl ⟨Nat.le_of_ble_eq_true rfl, Nat.le_of_ble_eq_true rfl⟩ hP hS rfl hl.1 rfl (Nat.le_of_ble_eq_true rfl) ⟨Nat.le_of_ble_eq_true rfl, Nat.le_of_ble_eq_true rfl⟩ dX10_printNow_16) hS (fun H locs hP hS => ?_)
  exact g_fret X hr hlk hP hS (congrArg (Prod.mk σ) hf) dX10_printNow_19
def f_X10_print (σ : St) (x1 : Int32) : St × Int32 := (bnd (setI σ 196 0 (0 : Int32)) (fun q1 => (if (f_X10_isPotato q1 x1) = true then (q1, (f_Jxf58ca_floatToIntBits_5c35a (f_X10_printNow q1 x1))) else (bnd (f_X10_fails q1 (1 : Int32)) (fun q2 => (q2.1, q2.2))))))
def ok_X10_print (σ : St) (x1 : Int32) : Prop := (bndP (setI σ 196 0 (0 : Int32)) (fun q1 => (((f_X10_isPotato q1 x1) = true → ok_X10_printNow q1 x1) ∧ ((f_X10_isPotato q1 x1) = false → True))))
abbrev rm_X10_print : Room := { frames := 2, cells := 0, slots := 0, locals := 80 }
set_option maxHeartbeats 4000000 in
set_option maxRecDepth 100000 in
theorem c_X10_print (l : Launch) (G : GE) (hG : Gok G) (σ : St) (x1 : Int32) (hok : ok_X10_print σ x1) : MtI l G yX10_print cX10_print 2 rm_X10_print [.ref (G.2.1 196), .int x1] σ (f_X10_print σ x1) := by
  generalize hf : f_X10_print σ x1 = fv
  rw [f_X10_print] at hf
  rw [ok_X10_print] at hok
  refine g_start hG (plainFor_of_name (by decide)) (Nat.le_of_ble_eq_true rfl) ?_
  intro p e s m args below meth c X hr hlk ls hl H locs hP hS
  have X : Cx G p s m args c cX10_print 2 RX10 := X
  obtain ⟨hx, hb, hml, hown, hts, hK, hbs, hXW, -⟩ := id X
  have hl : lv_has ls 2 [(0, .ref (G.2.1 196)), (1, .int x1)] := hl
  refine lv_aload_n hx hb dX10_print_0 rfl (lv_at hl 0 rfl) ?_
  refine lv_iconst (v := 0) hx hb dX10_print_1 (by decide) ?_
  refine gp_10_0 X hP hS ab_196 kf_X10_50 dX10_print_2 (fun H locs hP hS => ?_)
  refine g_name hP (fun q1 hq1 hP => ?_)
  have hf := bnd_go hq1 hf
  have hok := bnd_goP hq1 hok
  refine lv_aload_n hx hb dX10_print_5 rfl (lv_at hl 0 rfl) ?_
  refine lv_iload_n hx hb dX10_print_6 rfl (lv_at hl 1 rfl) ?_
  refine g_cZp (g_runV (i := 196) (As := [.int x1]) (rest := []) X (c_X10_isPotato l G hG q1 x1) ca_X10_isPotato km_X10_152 rfl rfl ⟨Nat.le_of_ble_eq_true rfl, Nat.le_of_ble_eq_true rfl⟩ hP hS (ty_lt ab_196) (cell_10 ab_196) rfl rfl rfl hl.1 rfl (Nat.le_of_ble_eq_true rfl) ⟨Nat.le_of_ble_eq_true rfl, Nat.le_of_ble_eq_true rfl⟩ dX10_print_7) hS (fun H locs hP hS => ?_)
  refine g_ifeqZ (tgt := 24) X dX10_print_10 (by decide) (fun hc => ?_) (fun hc => ?_)
  · have hf := ite_z hc hf
    refine lv_aload_n hx hb dX10_print_24 rfl (lv_at hl 0 rfl) ?_
    refine lv_iconst (v := 1) hx hb dX10_print_25 (by decide) ?_
    refine g_cI (g_runV (i := 196) (As := [.int (1 : Int32)]) (rest := []) X (c_X10_fails l G hG q1 (1 : Int32)) ca_X10_fails km_X10_59 rfl rfl ⟨Nat.le_of_ble_eq_true rfl, Nat.le_of_ble_eq_true rfl⟩ hP hS (ty_lt ab_196) (cell_10 ab_196) rfl rfl rfl hl.1 rfl (Nat.le_of_ble_eq_true rfl) ⟨Nat.le_of_ble_eq_true rfl, Nat.le_of_ble_eq_true rfl⟩ dX10_print_26) hS (fun q2 hq2 H locs hP hS => ?_)
    have hf := bnd_go hq2 hf
    exact g_iret X hr hlk hP hS hf dX10_print_29
  · have hf := ite_t hc hf
    have hok := hok.1 hc
    refine lv_aload_n hx hb dX10_print_13 rfl (lv_at hl 0 rfl) ?_
    refine lv_iload_n hx hb dX10_print_14 rfl (lv_at hl 1 rfl) ?_
    have hs3 := hok
    refine g_cFp (g_runV (i := 196) (As := [.int x1]) (rest := []) X (c_X10_printNow l G hG q1 x1 hs3) ca_X10_printNow km_X10_160 rfl rfl ⟨Nat.le_of_ble_eq_true rfl, Nat.le_of_ble_eq_true rfl⟩ hP hS (ty_lt ab_196) (cell_10 ab_196) rfl rfl rfl hl.1 rfl (Nat.le_of_ble_eq_true rfl) ⟨Nat.le_of_ble_eq_true rfl, Nat.le_of_ble_eq_true rfl⟩ dX10_print_15) hS (fun H locs hP hS => ?_)
    refine g_cIp (g_runS (As := [.float (f_X10_printNow q1 x1)]) (rest := []) X (c_Jxf58ca_floatToIntBits_5c35a l G hG q1 (f_X10_printNow q1 x1)) ca_Jxf58ca_floatToIntBits_5c35a km_X10_142 rfl rfl ⟨Nat.le_of_ble_eq_true rfl, Nat.le_of_ble_eq_true rfl⟩ hP hS rfl hl.1 rfl (Nat.le_of_ble_eq_true rfl) ⟨Nat.le_of_ble_eq_true rfl, Nat.le_of_ble_eq_true rfl⟩ dX10_print_18) hS (fun H locs hP hS => ?_)
    refine lv_goto (tgt := 29) hx hb dX10_print_21 (by decide) ?_
    exact g_iret X hr hlk hP hS hf dX10_print_29
def fX10_stampsOf_L40 (σ : St) : Nat → Int32 → UInt32 → UInt32 → Int32 → St × Int32
  | 0, _, _, _, _ => (σ, 0)
  | n40 + 1, x1, x2, x3, x4 => (if (Op.cmpValue (FP.fcmp (f_X10_printBy x2 x3) (1050253722 : UInt32)) CmpOp.l) < 0 then (σ, x4) else (fX10_stampsOf_L40 σ n40 x1 (FP.fmul (1063675494 : UInt32) x2) (FP.fmul (1064514355 : UInt32) x3) (x4 + (1 : Int32))))
def okX10_stampsOf_L40 (σ : St) : Nat → Int32 → UInt32 → UInt32 → Int32 → Prop
  | 0, _, _, _, _ => False
  | n40 + 1, x1, x2, x3, x4 => (ok_X10_printBy x2 x3 ∧ (((Op.cmpValue (FP.fcmp (f_X10_printBy x2 x3) (1050253722 : UInt32)) CmpOp.l) < 0 → True) ∧ (¬ (Op.cmpValue (FP.fcmp (f_X10_printBy x2 x3) (1050253722 : UInt32)) CmpOp.l) < 0 → (vf_n32 (FP.fmul (1063675494 : UInt32) x2) ∧ (vf_n32 (FP.fmul (1064514355 : UInt32) x3) ∧ (okX10_stampsOf_L40 σ n40 x1 (FP.fmul (1063675494 : UInt32) x2) (FP.fmul (1064514355 : UInt32) x3) (x4 + (1 : Int32))))))))
def f_X10_stampsOf (σ : St) (x1 : Int32) : St × Int32 := (bnd (setI σ 196 0 (0 : Int32)) (fun q1 => (if (f_X10_isPotato q1 x1) = true then (fX10_stampsOf_L40 q1 2000 x1 (q1.2.1 201 ((8 : Int32) + x1).toNatClampNeg) (q1.2.1 201 (14 : Int32).toNatClampNeg) (0 : Int32)) else (bnd (f_X10_fails q1 (1 : Int32)) (fun q6 => (q6.1, q6.2))))))
def ok_X10_stampsOf (σ : St) (x1 : Int32) : Prop := (bndP (setI σ 196 0 (0 : Int32)) (fun q1 => (((f_X10_isPotato q1 x1) = true → (vp_in ((8 : Int32) + x1) 36 ∧ (okX10_stampsOf_L40 q1 2000 x1 (q1.2.1 201 ((8 : Int32) + x1).toNatClampNeg) (q1.2.1 201 (14 : Int32).toNatClampNeg) (0 : Int32)))) ∧ ((f_X10_isPotato q1 x1) = false → True))))
abbrev rm_X10_stampsOf : Room := { frames := 2, cells := 0, slots := 0, locals := 43 }
set_option maxHeartbeats 4000000 in
set_option maxRecDepth 100000 in
theorem c_X10_stampsOf (l : Launch) (G : GE) (hG : Gok G) (σ : St) (x1 : Int32) (hok : ok_X10_stampsOf σ x1) : MtI l G yX10_stampsOf cX10_stampsOf 5 rm_X10_stampsOf [.ref (G.2.1 196), .int x1] σ (f_X10_stampsOf σ x1) := by
  generalize hf : f_X10_stampsOf σ x1 = fv
  rw [f_X10_stampsOf] at hf
  rw [ok_X10_stampsOf] at hok
  refine g_start hG (plainFor_of_name (by decide)) (Nat.le_of_ble_eq_true rfl) ?_
  intro p e s m args below meth c X hr hlk ls hl H locs hP hS
  have X : Cx G p s m args c cX10_stampsOf 5 RX10 := X
  obtain ⟨hx, hb, hml, hown, hts, hK, hbs, hXW, -⟩ := id X
  have hl : lv_has ls 5 [(0, .ref (G.2.1 196)), (1, .int x1)] := hl
  refine lv_aload_n hx hb dX10_stampsOf_0 rfl (lv_at hl 0 rfl) ?_
  refine lv_iconst (v := 0) hx hb dX10_stampsOf_1 (by decide) ?_
  refine gp_10_0 X hP hS ab_196 kf_X10_50 dX10_stampsOf_2 (fun H locs hP hS => ?_)
  refine g_name hP (fun q1 hq1 hP => ?_)
  have hf := bnd_go hq1 hf
  have hok := bnd_goP hq1 hok
  refine lv_aload_n hx hb dX10_stampsOf_5 rfl (lv_at hl 0 rfl) ?_
  refine lv_iload_n hx hb dX10_stampsOf_6 rfl (lv_at hl 1 rfl) ?_
  refine g_cZp (g_runV (i := 196) (As := [.int x1]) (rest := []) X (c_X10_isPotato l G hG q1 x1) ca_X10_isPotato km_X10_152 rfl rfl ⟨Nat.le_of_ble_eq_true rfl, Nat.le_of_ble_eq_true rfl⟩ hP hS (ty_lt ab_196) (cell_10 ab_196) rfl rfl rfl hl.1 rfl (Nat.le_of_ble_eq_true rfl) ⟨Nat.le_of_ble_eq_true rfl, Nat.le_of_ble_eq_true rfl⟩ dX10_stampsOf_7) hS (fun H locs hP hS => ?_)
  refine g_ifneZ (tgt := 19) X dX10_stampsOf_10 (by decide) (fun hc => ?_) (fun hc => ?_)
  · have hf := ite_t hc hf
    have hok := hok.1 hc
    refine lv_aload_n hx hb dX10_stampsOf_19 rfl (lv_at hl 0 rfl) ?_
    refine gg_10_9 X hP ab_196 kf_X10_22 dX10_stampsOf_20 ?_
    refine lv_bipush (v := 8) hx hb dX10_stampsOf_23 (by decide) ?_
    refine lv_iload_n hx hb dX10_stampsOf_25 rfl (lv_at hl 1 rfl) ?_
    refine lv_iadd hx hb dX10_stampsOf_26 ?_
    have hs2 := hok.1
    have hok := hok.2
    refine g_fald X hP ab_201 (by rw [al_201]; exact hs2) dX10_stampsOf_27 ?_
    refine lv_fstore_n (lv' := [(2, .float (q1.2.1 201 ((8 : Int32) + x1).toNatClampNeg)), (0, .ref (G.2.1 196)), (1, .int x1)]) hx hb dX10_stampsOf_28 rfl hl (by decide) rfl (fun ls hl => ?_)
    refine lv_aload_n hx hb dX10_stampsOf_29 rfl (lv_at hl 1 rfl) ?_
    refine gg_10_9 X hP ab_196 kf_X10_22 dX10_stampsOf_30 ?_
    refine lv_bipush (v := 14) hx hb dX10_stampsOf_33 (by decide) ?_
    refine g_fald X hP ab_201 (by rw [al_201]; unfold vp_in; decide) dX10_stampsOf_35 ?_
    refine lv_fstore_n (lv' := [(3, .float (q1.2.1 201 (14 : Int32).toNatClampNeg)), (2, .float (q1.2.1 201 ((8 : Int32) + x1).toNatClampNeg)), (0, .ref (G.2.1 196)), (1, .int x1)]) hx hb dX10_stampsOf_36 rfl hl (by decide) rfl (fun ls hl => ?_)
    refine lv_iconst (v := 0) hx hb dX10_stampsOf_37 (by decide) ?_
    refine lv_istore (lv' := [(4, .int (0 : Int32)), (3, .float (q1.2.1 201 (14 : Int32).toNatClampNeg)), (2, .float (q1.2.1 201 ((8 : Int32) + x1).toNatClampNeg)), (0, .ref (G.2.1 196)), (1, .int x1)]) hx hb dX10_stampsOf_38 hl (by decide) rfl (fun ls hl => ?_)
    have K40 : ∀ (n40 : Nat) (σ : St) (x1 : Int32) (x2 : UInt32) (x3 : UInt32) (x4 : Int32), okX10_stampsOf_L40 σ n40 x1 x2 x3 x4 → fX10_stampsOf_L40 σ n40 x1 x2 x3 x4 = fv → ∀ (H : Heap) (locs : List Loc), va_P G.1 vcl (wl G σ) H → va_S (GA G) s.heap H locs → ∀ (ls : Array Slot), lv_has ls 5 [(0, .ref (G.2.1 196)), (1, .int x1), (2, .float x2), (3, .float x3), (4, .int x4)] → W p l e rm_X10_stampsOf s m args below meth c H locs 0 0 (MQ below (va_Qi (fun r u => (u, r) = fv) (PB G) (GA G)) args s 0 0 (GA G)) (F0 m 40 ls []) := by
      intro n40
      induction n40 with
      | zero =>
        intro σ x1 x2 x3 x4 hok
        exact hok.elim
      | succ n40 ih40 =>
        intro σ x1 x2 x3 x4 hok hf H locs hP hS ls hl
        rw [okX10_stampsOf_L40] at hok
        rw [fX10_stampsOf_L40] at hf
        refine lv_fload_n hx hb dX10_stampsOf_40 rfl (lv_at hl 2 rfl) ?_
        refine lv_fload_n hx hb dX10_stampsOf_41 rfl (lv_at hl 3 rfl) ?_
        have hs3 := hok.1
        have hok := hok.2
        refine g_cFp (g_runS (As := [.float x2, .float x3]) (rest := []) X (c_X10_printBy l G hG σ x2 x3 hs3) ca_X10_printBy km_X10_156 rfl rfl ⟨Nat.le_of_ble_eq_true rfl, Nat.le_of_ble_eq_true rfl⟩ hP hS rfl hl.1 rfl (Nat.le_of_ble_eq_true rfl) ⟨Nat.le_of_ble_eq_true rfl, Nat.le_of_ble_eq_true rfl⟩ dX10_stampsOf_42) hS (fun H locs hP hS => ?_)
        refine lv_ldcf hx hb hown (hts _ kc_X10_163) dX10_stampsOf_45 ?_
        refine lv_fcmp hx hb dX10_stampsOf_47 ?_
        refine lv_if_lt (tgt := 67) hx hb dX10_stampsOf_48 (by decide) (fun hc => ?_) (fun hc => ?_)
        · have hf := ite_t hc hf
          refine lv_iload hx hb dX10_stampsOf_67 (lv_at hl 4 rfl) ?_
          exact g_iret X hr hlk hP hS hf dX10_stampsOf_69
        · have hf := ite_f hc hf
          have hok := hok.2 hc
          refine lv_ldcf hx hb hown (hts _ kc_X10_164) dX10_stampsOf_51 ?_
          refine lv_fload_n hx hb dX10_stampsOf_53 rfl (lv_at hl 2 rfl) ?_
          have hs4 := hok.1
          have hok := hok.2
          refine lv_fmul hx hb dX10_stampsOf_54 hs4 ?_
          refine lv_fstore_n (lv' := [(2, .float (FP.fmul (1063675494 : UInt32) x2)), (0, .ref (G.2.1 196)), (1, .int x1), (3, .float x3), (4, .int x4)]) hx hb dX10_stampsOf_55 rfl hl (by decide) rfl (fun ls hl => ?_)
          refine lv_ldcf hx hb hown (hts _ kc_X10_165) dX10_stampsOf_56 ?_
          refine lv_fload_n hx hb dX10_stampsOf_58 rfl (lv_at hl 3 rfl) ?_
          have hs5 := hok.1
          have hok := hok.2
          refine lv_fmul hx hb dX10_stampsOf_59 hs5 ?_
          refine lv_fstore_n (lv' := [(3, .float (FP.fmul (1064514355 : UInt32) x3)), (2, .float (FP.fmul (1063675494 : UInt32) x2)), (0, .ref (G.2.1 196)), (1, .int x1), (4, .int x4)]) hx hb dX10_stampsOf_60 rfl hl (by decide) rfl (fun ls hl => ?_)
          refine lv_iinc (v := (x4 + (1 : Int32))) (lv' := [(4, .int (x4 + (1 : Int32))), (3, .float (FP.fmul (1064514355 : UInt32) x3)), (2, .float (FP.fmul (1063675494 : UInt32) x2)), (0, .ref (G.2.1 196)), (1, .int x1)]) hx hb dX10_stampsOf_61 hl (k := 4) rfl rfl (by decide) rfl (fun ls hl => ?_)
          refine lv_goto (tgt := 40) hx hb dX10_stampsOf_64 (by decide) ?_
          exact ih40 σ x1 (FP.fmul (1063675494 : UInt32) x2) (FP.fmul (1064514355 : UInt32) x3) (x4 + (1 : Int32)) hok hf _ _ hP hS ls (lv_sub hl [3, 4, 2, 1, 0] rfl)
    exact K40 2000 q1 x1 (q1.2.1 201 ((8 : Int32) + x1).toNatClampNeg) (q1.2.1 201 (14 : Int32).toNatClampNeg) (0 : Int32) hok hf _ _ hP hS ls (lv_sub hl [3, 4, 2, 1, 0] rfl)
  · have hf := ite_z hc hf
    refine lv_aload_n hx hb dX10_stampsOf_13 rfl (lv_at hl 0 rfl) ?_
    refine lv_iconst (v := 1) hx hb dX10_stampsOf_14 (by decide) ?_
    refine g_cI (g_runV (i := 196) (As := [.int (1 : Int32)]) (rest := []) X (c_X10_fails l G hG q1 (1 : Int32)) ca_X10_fails km_X10_59 rfl rfl ⟨Nat.le_of_ble_eq_true rfl, Nat.le_of_ble_eq_true rfl⟩ hP hS (ty_lt ab_196) (cell_10 ab_196) rfl rfl rfl hl.1 rfl (Nat.le_of_ble_eq_true rfl) ⟨Nat.le_of_ble_eq_true rfl, Nat.le_of_ble_eq_true rfl⟩ dX10_stampsOf_15) hS (fun q6 hq6 H locs hP hS => ?_)
    have hf := bnd_go hq6 hf
    exact g_iret X hr hlk hP hS hf dX10_stampsOf_18
def fX10_best_L9 (σ : St) : Nat → Int32 → Int32 → St × Int32
  | 0, _, _ => (σ, 0)
  | n9 + 1, x1, x2 => (if (σ.1 197 (3 : Int32).toNatClampNeg) ≤ x2 then (if 0 ≤ x1 then (σ, x1) else (bnd (f_X10_fails σ (1 : Int32)) (fun q2 => (q2.1, q2.2)))) else (if x1 < 0 then (fX10_best_L9 σ n9 x2 (x2 + (1 : Int32))) else (if (Op.cmpValue (FP.fcmp (f_X10_printNow σ x2) (f_X10_printNow σ x1)) CmpOp.l) ≤ 0 then (fX10_best_L9 σ n9 x1 (x2 + (1 : Int32))) else (fX10_best_L9 σ n9 x2 (x2 + (1 : Int32))))))
def okX10_best_L9 (σ : St) : Nat → Int32 → Int32 → Prop
  | 0, _, _ => False
  | n9 + 1, x1, x2 => (((σ.1 197 (3 : Int32).toNatClampNeg) ≤ x2 → True) ∧ (¬ (σ.1 197 (3 : Int32).toNatClampNeg) ≤ x2 → ((x1 < 0 → (okX10_best_L9 σ n9 x2 (x2 + (1 : Int32)))) ∧ (¬ x1 < 0 → (ok_X10_printNow σ x2 ∧ (ok_X10_printNow σ x1 ∧ (((Op.cmpValue (FP.fcmp (f_X10_printNow σ x2) (f_X10_printNow σ x1)) CmpOp.l) ≤ 0 → (okX10_best_L9 σ n9 x1 (x2 + (1 : Int32)))) ∧ (¬ (Op.cmpValue (FP.fcmp (f_X10_printNow σ x2) (f_X10_printNow σ x1)) CmpOp.l) ≤ 0 → (okX10_best_L9 σ n9 x2 (x2 + (1 : Int32)))))))))))
def f_X10_best (σ : St) : St × Int32 := (bnd (setI σ 196 0 (0 : Int32)) (fun q1 => (fX10_best_L9 q1 2000 (-1 : Int32) (0 : Int32))))
def ok_X10_best (σ : St) : Prop := (bndP (setI σ 196 0 (0 : Int32)) (fun q1 => (okX10_best_L9 q1 2000 (-1 : Int32) (0 : Int32))))
abbrev rm_X10_best : Room := { frames := 2, cells := 0, slots := 0, locals := 42 }
set_option maxHeartbeats 4000000 in
set_option maxRecDepth 100000 in
theorem c_X10_best (l : Launch) (G : GE) (hG : Gok G) (σ : St) (hok : ok_X10_best σ) : MtI l G yX10_best cX10_best 3 rm_X10_best [.ref (G.2.1 196)] σ (f_X10_best σ) := by
  generalize hf : f_X10_best σ = fv
  rw [f_X10_best] at hf
  rw [ok_X10_best] at hok
  refine g_start hG (plainFor_of_name (by decide)) (Nat.le_of_ble_eq_true rfl) ?_
  intro p e s m args below meth c X hr hlk ls hl H locs hP hS
  have X : Cx G p s m args c cX10_best 3 RX10 := X
  obtain ⟨hx, hb, hml, hown, hts, hK, hbs, hXW, -⟩ := id X
  have hl : lv_has ls 3 [(0, .ref (G.2.1 196))] := hl
  refine lv_aload_n hx hb dX10_best_0 rfl (lv_at hl 0 rfl) ?_
  refine lv_iconst (v := 0) hx hb dX10_best_1 (by decide) ?_
  refine gp_10_0 X hP hS ab_196 kf_X10_50 dX10_best_2 (fun H locs hP hS => ?_)
  refine g_name hP (fun q1 hq1 hP => ?_)
  have hf := bnd_go hq1 hf
  have hok := bnd_goP hq1 hok
  refine lv_iconst (v := -1) hx hb dX10_best_5 (by decide) ?_
  refine lv_istore_n (lv' := [(1, .int (-1 : Int32)), (0, .ref (G.2.1 196))]) hx hb dX10_best_6 rfl hl (by decide) rfl (fun ls hl => ?_)
  refine lv_iconst (v := 0) hx hb dX10_best_7 (by decide) ?_
  refine lv_istore_n (lv' := [(2, .int (0 : Int32)), (1, .int (-1 : Int32)), (0, .ref (G.2.1 196))]) hx hb dX10_best_8 rfl hl (by decide) rfl (fun ls hl => ?_)
  have K9 : ∀ (n9 : Nat) (σ : St) (x1 : Int32) (x2 : Int32), okX10_best_L9 σ n9 x1 x2 → fX10_best_L9 σ n9 x1 x2 = fv → ∀ (H : Heap) (locs : List Loc), va_P G.1 vcl (wl G σ) H → va_S (GA G) s.heap H locs → ∀ (ls : Array Slot), lv_has ls 3 [(0, .ref (G.2.1 196)), (1, .int x1), (2, .int x2)] → W p l e rm_X10_best s m args below meth c H locs 0 0 (MQ below (va_Qi (fun r u => (u, r) = fv) (PB G) (GA G)) args s 0 0 (GA G)) (F0 m 9 ls []) := by
    intro n9
    induction n9 with
    | zero =>
      intro σ x1 x2 hok
      exact hok.elim
    | succ n9 ih9 =>
      intro σ x1 x2 hok hf H locs hP hS ls hl
      rw [okX10_best_L9] at hok
      rw [fX10_best_L9] at hf
      refine lv_iload_n hx hb dX10_best_9 rfl (lv_at hl 2 rfl) ?_
      refine lv_aload_n hx hb dX10_best_10 rfl (lv_at hl 0 rfl) ?_
      refine gg_10_5 X hP ab_196 kf_X10_7 dX10_best_11 ?_
      refine lv_iconst (v := 3) hx hb dX10_best_14 (by decide) ?_
      refine g_iald X hP ab_197 (by rw [al_197]; unfold vp_in; decide) dX10_best_15 ?_
      refine lv_icmp_ge (tgt := 45) hx hb dX10_best_16 (by decide) (fun hc => ?_) (fun hc => ?_)
      · have hf := ite_t hc hf
        refine lv_iload_n hx hb dX10_best_45 rfl (lv_at hl 1 rfl) ?_
        refine lv_if_ge (tgt := 57) hx hb dX10_best_46 (by decide) (fun hc => ?_) (fun hc => ?_)
        · have hf := ite_t hc hf
          refine lv_iload_n hx hb dX10_best_57 rfl (lv_at hl 1 rfl) ?_
          exact g_iret X hr hlk hP hS hf dX10_best_58
        · have hf := ite_f hc hf
          refine lv_aload_n hx hb dX10_best_49 rfl (lv_at hl 0 rfl) ?_
          refine lv_iconst (v := 1) hx hb dX10_best_50 (by decide) ?_
          refine g_cI (g_runV (i := 196) (As := [.int (1 : Int32)]) (rest := []) X (c_X10_fails l G hG σ (1 : Int32)) ca_X10_fails km_X10_59 rfl rfl ⟨Nat.le_of_ble_eq_true rfl, Nat.le_of_ble_eq_true rfl⟩ hP hS (ty_lt ab_196) (cell_10 ab_196) rfl rfl rfl hl.1 rfl (Nat.le_of_ble_eq_true rfl) ⟨Nat.le_of_ble_eq_true rfl, Nat.le_of_ble_eq_true rfl⟩ dX10_best_51) hS (fun q2 hq2 H locs hP hS => ?_)
          have hf := bnd_go hq2 hf
          refine lv_goto (tgt := 58) hx hb dX10_best_54 (by decide) ?_
          exact g_iret X hr hlk hP hS hf dX10_best_58
      · have hf := ite_f hc hf
        have hok := hok.2 hc
        refine lv_iload_n hx hb dX10_best_19 rfl (lv_at hl 1 rfl) ?_
        refine lv_if_lt (tgt := 37) hx hb dX10_best_20 (by decide) (fun hc => ?_) (fun hc => ?_)
        · have hf := ite_t hc hf
          have hok := hok.1 hc
          refine lv_iload_n hx hb dX10_best_37 rfl (lv_at hl 2 rfl) ?_
          refine lv_istore_n (lv' := [(1, .int x2), (0, .ref (G.2.1 196)), (2, .int x2)]) hx hb dX10_best_38 rfl hl (by decide) rfl (fun ls hl => ?_)
          refine lv_iinc (v := (x2 + (1 : Int32))) (lv' := [(2, .int (x2 + (1 : Int32))), (1, .int x2), (0, .ref (G.2.1 196))]) hx hb dX10_best_39 hl (k := 2) rfl rfl (by decide) rfl (fun ls hl => ?_)
          refine lv_goto (tgt := 9) hx hb dX10_best_42 (by decide) ?_
          exact ih9 σ x2 (x2 + (1 : Int32)) hok hf _ _ hP hS ls (lv_sub hl [2, 1, 0] rfl)
        · have hf := ite_f hc hf
          have hok := hok.2 hc
          refine lv_aload_n hx hb dX10_best_23 rfl (lv_at hl 0 rfl) ?_
          refine lv_iload_n hx hb dX10_best_24 rfl (lv_at hl 2 rfl) ?_
          have hs3 := hok.1
          have hok := hok.2
          refine g_cFp (g_runV (i := 196) (As := [.int x2]) (rest := []) X (c_X10_printNow l G hG σ x2 hs3) ca_X10_printNow km_X10_160 rfl rfl ⟨Nat.le_of_ble_eq_true rfl, Nat.le_of_ble_eq_true rfl⟩ hP hS (ty_lt ab_196) (cell_10 ab_196) rfl rfl rfl hl.1 rfl (Nat.le_of_ble_eq_true rfl) ⟨Nat.le_of_ble_eq_true rfl, Nat.le_of_ble_eq_true rfl⟩ dX10_best_25) hS (fun H locs hP hS => ?_)
          refine lv_aload_n hx hb dX10_best_28 rfl (lv_at hl 0 rfl) ?_
          refine lv_iload_n hx hb dX10_best_29 rfl (lv_at hl 1 rfl) ?_
          have hs4 := hok.1
          have hok := hok.2
          refine g_cFp (g_runV (i := 196) (As := [.int x1]) (rest := [.float (f_X10_printNow σ x2)]) X (c_X10_printNow l G hG σ x1 hs4) ca_X10_printNow km_X10_160 rfl rfl ⟨Nat.le_of_ble_eq_true rfl, Nat.le_of_ble_eq_true rfl⟩ hP hS (ty_lt ab_196) (cell_10 ab_196) rfl rfl rfl hl.1 rfl (Nat.le_of_ble_eq_true rfl) ⟨Nat.le_of_ble_eq_true rfl, Nat.le_of_ble_eq_true rfl⟩ dX10_best_30) hS (fun H locs hP hS => ?_)
          refine lv_fcmp hx hb dX10_best_33 ?_
          refine lv_if_le (tgt := 39) hx hb dX10_best_34 (by decide) (fun hc => ?_) (fun hc => ?_)
          · have hf := ite_t hc hf
            have hok := hok.1 hc
            refine lv_iinc (v := (x2 + (1 : Int32))) (lv' := [(2, .int (x2 + (1 : Int32))), (0, .ref (G.2.1 196)), (1, .int x1)]) hx hb dX10_best_39 hl (k := 2) rfl rfl (by decide) rfl (fun ls hl => ?_)
            refine lv_goto (tgt := 9) hx hb dX10_best_42 (by decide) ?_
            exact ih9 σ x1 (x2 + (1 : Int32)) hok hf _ _ hP hS ls (lv_sub hl [1, 2, 0] rfl)
          · have hf := ite_f hc hf
            have hok := hok.2 hc
            refine lv_iload_n hx hb dX10_best_37 rfl (lv_at hl 2 rfl) ?_
            refine lv_istore_n (lv' := [(1, .int x2), (0, .ref (G.2.1 196)), (2, .int x2)]) hx hb dX10_best_38 rfl hl (by decide) rfl (fun ls hl => ?_)
            refine lv_iinc (v := (x2 + (1 : Int32))) (lv' := [(2, .int (x2 + (1 : Int32))), (1, .int x2), (0, .ref (G.2.1 196))]) hx hb dX10_best_39 hl (k := 2) rfl rfl (by decide) rfl (fun ls hl => ?_)
            refine lv_goto (tgt := 9) hx hb dX10_best_42 (by decide) ?_
            exact ih9 σ x2 (x2 + (1 : Int32)) hok hf _ _ hP hS ls (lv_sub hl [2, 1, 0] rfl)
  exact K9 2000 q1 (-1 : Int32) (0 : Int32) hok hf _ _ hP hS ls (lv_sub hl [2, 1, 0] rfl)
def f_X10_ink (σ : St) (x1 : Int32) : St × Int32 := (bnd (setI σ 196 0 (0 : Int32)) (fun q1 => (if (f_X10_isBetween x1 (1 : Int32) (50 : Int32)) = true then (bnd (f_X10_remembers q1) (fun q3 => (bnd (setF q3 201 (14 : Int32).toNatClampNeg (FP.fadd (q3.2.1 201 (14 : Int32).toNatClampNeg) (FP.fmul (1036831949 : UInt32) (FP.i2f x1)))) (fun q6 => (if (Op.cmpValue (FP.fcmp (q6.2.1 201 (14 : Int32).toNatClampNeg) (1091567616 : UInt32)) CmpOp.l) ≤ 0 then (q6, (f_Jxf58ca_floatToIntBits_5c35a (q6.2.1 201 (14 : Int32).toNatClampNeg))) else (bnd (setF q6 201 (14 : Int32).toNatClampNeg (1091567616 : UInt32)) (fun q7 => (q7, (f_Jxf58ca_floatToIntBits_5c35a (q7.2.1 201 (14 : Int32).toNatClampNeg)))))))))) else (bnd (f_X10_fails q1 (1 : Int32)) (fun q8 => (q8.1, q8.2))))))
def ok_X10_ink (σ : St) (x1 : Int32) : Prop := (bndP (setI σ 196 0 (0 : Int32)) (fun q1 => (((f_X10_isBetween x1 (1 : Int32) (50 : Int32)) = true → (ok_X10_remembers q1 ∧ (bndP (f_X10_remembers q1) (fun q3 => (vf_n32 (FP.fmul (1036831949 : UInt32) (FP.i2f x1)) ∧ vf_n32 (FP.fadd (q3.2.1 201 (14 : Int32).toNatClampNeg) (FP.fmul (1036831949 : UInt32) (FP.i2f x1)))))))) ∧ ((f_X10_isBetween x1 (1 : Int32) (50 : Int32)) = false → True))))
abbrev rm_X10_ink : Room := { frames := 2, cells := 0, slots := 0, locals := 80 }
set_option maxHeartbeats 4000000 in
set_option maxRecDepth 100000 in
theorem c_X10_ink (l : Launch) (G : GE) (hG : Gok G) (σ : St) (x1 : Int32) (hok : ok_X10_ink σ x1) : MtI l G yX10_ink cX10_ink 2 rm_X10_ink [.ref (G.2.1 196), .int x1] σ (f_X10_ink σ x1) := by
  generalize hf : f_X10_ink σ x1 = fv
  rw [f_X10_ink] at hf
  rw [ok_X10_ink] at hok
  refine g_start hG (plainFor_of_name (by decide)) (Nat.le_of_ble_eq_true rfl) ?_
  intro p e s m args below meth c X hr hlk ls hl H locs hP hS
  have X : Cx G p s m args c cX10_ink 2 RX10 := X
  obtain ⟨hx, hb, hml, hown, hts, hK, hbs, hXW, -⟩ := id X
  have hl : lv_has ls 2 [(0, .ref (G.2.1 196)), (1, .int x1)] := hl
  refine lv_aload_n hx hb dX10_ink_0 rfl (lv_at hl 0 rfl) ?_
  refine lv_iconst (v := 0) hx hb dX10_ink_1 (by decide) ?_
  refine gp_10_0 X hP hS ab_196 kf_X10_50 dX10_ink_2 (fun H locs hP hS => ?_)
  refine g_name hP (fun q1 hq1 hP => ?_)
  have hf := bnd_go hq1 hf
  have hok := bnd_goP hq1 hok
  refine lv_iload_n hx hb dX10_ink_5 rfl (lv_at hl 1 rfl) ?_
  refine lv_iconst (v := 1) hx hb dX10_ink_6 (by decide) ?_
  refine lv_bipush (v := 50) hx hb dX10_ink_7 (by decide) ?_
  refine g_cZp (g_runS (As := [.int x1, .int (1 : Int32), .int (50 : Int32)]) (rest := []) X (c_X10_isBetween l G hG q1 x1 (1 : Int32) (50 : Int32)) ca_X10_isBetween km_X10_81 rfl rfl ⟨Nat.le_of_ble_eq_true rfl, Nat.le_of_ble_eq_true rfl⟩ hP hS rfl hl.1 rfl (Nat.le_of_ble_eq_true rfl) ⟨Nat.le_of_ble_eq_true rfl, Nat.le_of_ble_eq_true rfl⟩ dX10_ink_9) hS (fun H locs hP hS => ?_)
  refine g_ifneZ (tgt := 21) X dX10_ink_12 (by decide) (fun hc => ?_) (fun hc => ?_)
  · have hf := ite_t hc hf
    have hok := hok.1 hc
    refine lv_aload_n hx hb dX10_ink_21 rfl (lv_at hl 0 rfl) ?_
    have hs2 := hok.1
    have hok := hok.2
    refine g_cV (g_runV (i := 196) (As := []) (rest := []) X (c_X10_remembers l G hG q1 hs2) ca_X10_remembers km_X10_95 rfl rfl ⟨Nat.le_of_ble_eq_true rfl, Nat.le_of_ble_eq_true rfl⟩ hP hS (ty_lt ab_196) (cell_10 ab_196) rfl rfl rfl hl.1 rfl (Nat.le_of_ble_eq_true rfl) ⟨Nat.le_of_ble_eq_true rfl, Nat.le_of_ble_eq_true rfl⟩ dX10_ink_22) hS (fun q3 hq3 H locs hP hS => ?_)
    have hf := bnd_go hq3 hf
    have hok := bnd_goP hq3 hok
    refine lv_aload_n hx hb dX10_ink_25 rfl (lv_at hl 0 rfl) ?_
    refine gg_10_9 X hP ab_196 kf_X10_22 dX10_ink_26 ?_
    refine lv_bipush (v := 14) hx hb dX10_ink_29 (by decide) ?_
    refine lv_aload_n hx hb dX10_ink_31 rfl (lv_at hl 0 rfl) ?_
    refine gg_10_9 X hP ab_196 kf_X10_22 dX10_ink_32 ?_
    refine lv_bipush (v := 14) hx hb dX10_ink_35 (by decide) ?_
    refine g_fald X hP ab_201 (by rw [al_201]; unfold vp_in; decide) dX10_ink_37 ?_
    refine lv_ldcf hx hb hown (hts _ kc_X10_98) dX10_ink_38 ?_
    refine lv_iload_n hx hb dX10_ink_40 rfl (lv_at hl 1 rfl) ?_
    refine lv_i2f hx hb dX10_ink_41 ?_
    have hs4 := hok.1
    have hok := hok.2
    refine lv_fmul hx hb dX10_ink_42 hs4 ?_
    have hs5 := hok
    refine lv_fadd hx hb dX10_ink_43 hs5 ?_
    refine g_fast X hP hS ab_201 (by rw [al_201]; unfold vp_in; decide) dX10_ink_44 (fun H locs hP hS => ?_)
    refine g_name hP (fun q6 hq6 hP => ?_)
    have hf := bnd_go hq6 hf
    refine lv_aload_n hx hb dX10_ink_45 rfl (lv_at hl 0 rfl) ?_
    refine gg_10_9 X hP ab_196 kf_X10_22 dX10_ink_46 ?_
    refine lv_bipush (v := 14) hx hb dX10_ink_49 (by decide) ?_
    refine g_fald X hP ab_201 (by rw [al_201]; unfold vp_in; decide) dX10_ink_51 ?_
    refine lv_ldcf hx hb hown (hts _ kc_X10_166) dX10_ink_52 ?_
    refine lv_fcmp hx hb dX10_ink_54 ?_
    refine lv_if_le (tgt := 67) hx hb dX10_ink_55 (by decide) (fun hc => ?_) (fun hc => ?_)
    · have hf := ite_t hc hf
      refine lv_aload_n hx hb dX10_ink_67 rfl (lv_at hl 0 rfl) ?_
      refine gg_10_9 X hP ab_196 kf_X10_22 dX10_ink_68 ?_
      refine lv_bipush (v := 14) hx hb dX10_ink_71 (by decide) ?_
      refine g_fald X hP ab_201 (by rw [al_201]; unfold vp_in; decide) dX10_ink_73 ?_
      refine g_cIp (g_runS (As := [.float (q6.2.1 201 (14 : Int32).toNatClampNeg)]) (rest := []) X (c_Jxf58ca_floatToIntBits_5c35a l G hG q6 (q6.2.1 201 (14 : Int32).toNatClampNeg)) ca_Jxf58ca_floatToIntBits_5c35a km_X10_142 rfl rfl ⟨Nat.le_of_ble_eq_true rfl, Nat.le_of_ble_eq_true rfl⟩ hP hS rfl hl.1 rfl (Nat.le_of_ble_eq_true rfl) ⟨Nat.le_of_ble_eq_true rfl, Nat.le_of_ble_eq_true rfl⟩ dX10_ink_74) hS (fun H locs hP hS => ?_)
      exact g_iret X hr hlk hP hS hf dX10_ink_77
    · have hf := ite_f hc hf
      refine lv_aload_n hx hb dX10_ink_58 rfl (lv_at hl 0 rfl) ?_
      refine gg_10_9 X hP ab_196 kf_X10_22 dX10_ink_59 ?_
      refine lv_bipush (v := 14) hx hb dX10_ink_62 (by decide) ?_
      refine lv_ldcf hx hb hown (hts _ kc_X10_166) dX10_ink_64 ?_
      refine g_fast X hP hS ab_201 (by rw [al_201]; unfold vp_in; decide) dX10_ink_66 (fun H locs hP hS => ?_)
      refine g_name hP (fun q7 hq7 hP => ?_)
      have hf := bnd_go hq7 hf
      refine lv_aload_n hx hb dX10_ink_67 rfl (lv_at hl 0 rfl) ?_
      refine gg_10_9 X hP ab_196 kf_X10_22 dX10_ink_68 ?_
      refine lv_bipush (v := 14) hx hb dX10_ink_71 (by decide) ?_
      refine g_fald X hP ab_201 (by rw [al_201]; unfold vp_in; decide) dX10_ink_73 ?_
      refine g_cIp (g_runS (As := [.float (q7.2.1 201 (14 : Int32).toNatClampNeg)]) (rest := []) X (c_Jxf58ca_floatToIntBits_5c35a l G hG q7 (q7.2.1 201 (14 : Int32).toNatClampNeg)) ca_Jxf58ca_floatToIntBits_5c35a km_X10_142 rfl rfl ⟨Nat.le_of_ble_eq_true rfl, Nat.le_of_ble_eq_true rfl⟩ hP hS rfl hl.1 rfl (Nat.le_of_ble_eq_true rfl) ⟨Nat.le_of_ble_eq_true rfl, Nat.le_of_ble_eq_true rfl⟩ dX10_ink_74) hS (fun H locs hP hS => ?_)
      exact g_iret X hr hlk hP hS hf dX10_ink_77
  · have hf := ite_z hc hf
    refine lv_aload_n hx hb dX10_ink_15 rfl (lv_at hl 0 rfl) ?_
    refine lv_iconst (v := 1) hx hb dX10_ink_16 (by decide) ?_
    refine g_cI (g_runV (i := 196) (As := [.int (1 : Int32)]) (rest := []) X (c_X10_fails l G hG q1 (1 : Int32)) ca_X10_fails km_X10_59 rfl rfl ⟨Nat.le_of_ble_eq_true rfl, Nat.le_of_ble_eq_true rfl⟩ hP hS (ty_lt ab_196) (cell_10 ab_196) rfl rfl rfl hl.1 rfl (Nat.le_of_ble_eq_true rfl) ⟨Nat.le_of_ble_eq_true rfl, Nat.le_of_ble_eq_true rfl⟩ dX10_ink_17) hS (fun q8 hq8 H locs hP hS => ?_)
    have hf := bnd_go hq8 hf
    exact g_iret X hr hlk hP hS hf dX10_ink_20
def f_X10_inkNow (σ : St) : St × UInt32 := (bnd (setI σ 196 0 (0 : Int32)) (fun q1 => (q1, (q1.2.1 201 (14 : Int32).toNatClampNeg))))
abbrev rm_X10_inkNow : Room := { frames := 0, cells := 0, slots := 0, locals := 0 }
set_option maxHeartbeats 4000000 in
set_option maxRecDepth 100000 in
theorem c_X10_inkNow (l : Launch) (G : GE) (hG : Gok G) (σ : St) : MtF l G yX10_inkNow cX10_inkNow 1 rm_X10_inkNow [.ref (G.2.1 196)] σ (f_X10_inkNow σ) := by
  generalize hf : f_X10_inkNow σ = fv
  rw [f_X10_inkNow] at hf
  refine g_start hG (plainFor_of_name (by decide)) (Nat.le_of_ble_eq_true rfl) ?_
  intro p e s m args below meth c X hr hlk ls hl H locs hP hS
  have X : Cx G p s m args c cX10_inkNow 1 RX10 := X
  obtain ⟨hx, hb, hml, hown, hts, hK, hbs, hXW, -⟩ := id X
  have hl : lv_has ls 1 [(0, .ref (G.2.1 196))] := hl
  refine lv_aload_n hx hb dX10_inkNow_0 rfl (lv_at hl 0 rfl) ?_
  refine lv_iconst (v := 0) hx hb dX10_inkNow_1 (by decide) ?_
  refine gp_10_0 X hP hS ab_196 kf_X10_50 dX10_inkNow_2 (fun H locs hP hS => ?_)
  refine g_name hP (fun q1 hq1 hP => ?_)
  have hf := bnd_go hq1 hf
  refine lv_aload_n hx hb dX10_inkNow_5 rfl (lv_at hl 0 rfl) ?_
  refine gg_10_9 X hP ab_196 kf_X10_22 dX10_inkNow_6 ?_
  refine lv_bipush (v := 14) hx hb dX10_inkNow_9 (by decide) ?_
  refine g_fald X hP ab_201 (by rw [al_201]; unfold vp_in; decide) dX10_inkNow_11 ?_
  exact g_fret X hr hlk hP hS hf dX10_inkNow_12
def f_X10_notStamp (σ : St) (x1 : Int32) (x2 : Int32) : St × Int32 := (if (f_X10_isItem σ x1) = true then (if (f_X10_isPotato σ x2) = true then (if (f_X10_of σ x1 (4 : Int32)) = 0 then (if (Op.cmpValue (FP.fcmp (f_X10_printNow σ x2) (1050253722 : UInt32)) CmpOp.l) < 0 then (bnd (f_X10_isNot σ (6 : Int32) x2) (fun q3 => (q3.1, q3.2))) else (σ, (0 : Int32))) else (bnd (f_X10_isNot σ (5 : Int32) (f_X10_of σ x1 (4 : Int32))) (fun q5 => (q5.1, q5.2)))) else (σ, (1 : Int32))) else (σ, (1 : Int32)))
def ok_X10_notStamp (σ : St) (x1 : Int32) (x2 : Int32) : Prop := (((f_X10_isItem σ x1) = true → (((f_X10_isPotato σ x2) = true → (ok_X10_of σ x1 (4 : Int32) ∧ (((f_X10_of σ x1 (4 : Int32)) = 0 → ok_X10_printNow σ x2) ∧ (¬ (f_X10_of σ x1 (4 : Int32)) = 0 → ok_X10_of σ x1 (4 : Int32))))) ∧ ((f_X10_isPotato σ x2) = false → True))) ∧ ((f_X10_isItem σ x1) = false → True))
abbrev rm_X10_notStamp : Room := { frames := 2, cells := 0, slots := 0, locals := 43 }
set_option maxHeartbeats 4000000 in
set_option maxRecDepth 100000 in
theorem c_X10_notStamp (l : Launch) (G : GE) (hG : Gok G) (σ : St) (x1 : Int32) (x2 : Int32) (hok : ok_X10_notStamp σ x1 x2) : MtI l G yX10_notStamp cX10_notStamp 3 rm_X10_notStamp [.ref (G.2.1 196), .int x1, .int x2] σ (f_X10_notStamp σ x1 x2) := by
  generalize hf : f_X10_notStamp σ x1 x2 = fv
  rw [f_X10_notStamp] at hf
  rw [ok_X10_notStamp] at hok
  refine g_start hG (plainFor_of_name (by decide)) (Nat.le_of_ble_eq_true rfl) ?_
  intro p e s m args below meth c X hr hlk ls hl H locs hP hS
  have X : Cx G p s m args c cX10_notStamp 3 RX10 := X
  obtain ⟨hx, hb, hml, hown, hts, hK, hbs, hXW, -⟩ := id X
  have hl : lv_has ls 3 [(0, .ref (G.2.1 196)), (1, .int x1), (2, .int x2)] := hl
  refine lv_aload_n hx hb dX10_notStamp_0 rfl (lv_at hl 0 rfl) ?_
  refine lv_iload_n hx hb dX10_notStamp_1 rfl (lv_at hl 1 rfl) ?_
  refine g_cZp (g_runV (i := 196) (As := [.int x1]) (rest := []) X (c_X10_isItem l G hG σ x1) ca_X10_isItem km_X10_136 rfl rfl ⟨Nat.le_of_ble_eq_true rfl, Nat.le_of_ble_eq_true rfl⟩ hP hS (ty_lt ab_196) (cell_10 ab_196) rfl rfl rfl hl.1 rfl (Nat.le_of_ble_eq_true rfl) ⟨Nat.le_of_ble_eq_true rfl, Nat.le_of_ble_eq_true rfl⟩ dX10_notStamp_2) hS (fun H locs hP hS => ?_)
  refine g_ifeqZ (tgt := 16) X dX10_notStamp_5 (by decide) (fun hc => ?_) (fun hc => ?_)
  · have hf := ite_z hc hf
    refine lv_iconst (v := 1) hx hb dX10_notStamp_16 (by decide) ?_
    exact g_iret X hr hlk hP hS hf dX10_notStamp_17
  · have hf := ite_t hc hf
    have hok := hok.1 hc
    refine lv_aload_n hx hb dX10_notStamp_8 rfl (lv_at hl 0 rfl) ?_
    refine lv_iload_n hx hb dX10_notStamp_9 rfl (lv_at hl 2 rfl) ?_
    refine g_cZp (g_runV (i := 196) (As := [.int x2]) (rest := []) X (c_X10_isPotato l G hG σ x2) ca_X10_isPotato km_X10_152 rfl rfl ⟨Nat.le_of_ble_eq_true rfl, Nat.le_of_ble_eq_true rfl⟩ hP hS (ty_lt ab_196) (cell_10 ab_196) rfl rfl rfl hl.1 rfl (Nat.le_of_ble_eq_true rfl) ⟨Nat.le_of_ble_eq_true rfl, Nat.le_of_ble_eq_true rfl⟩ dX10_notStamp_10) hS (fun H locs hP hS => ?_)
    refine g_ifneZ (tgt := 18) X dX10_notStamp_13 (by decide) (fun hc => ?_) (fun hc => ?_)
    · have hf := ite_t hc hf
      have hok := hok.1 hc
      refine lv_aload_n hx hb dX10_notStamp_18 rfl (lv_at hl 0 rfl) ?_
      refine lv_iload_n hx hb dX10_notStamp_19 rfl (lv_at hl 1 rfl) ?_
      refine lv_iconst (v := 4) hx hb dX10_notStamp_20 (by decide) ?_
      have hs1 := hok.1
      have hok := hok.2
      refine g_cIp (g_runV (i := 196) (As := [.int x1, .int (4 : Int32)]) (rest := []) X (c_X10_of l G hG σ x1 (4 : Int32) hs1) ca_X10_of km_X10_85 rfl rfl ⟨Nat.le_of_ble_eq_true rfl, Nat.le_of_ble_eq_true rfl⟩ hP hS (ty_lt ab_196) (cell_10 ab_196) rfl rfl rfl hl.1 rfl (Nat.le_of_ble_eq_true rfl) ⟨Nat.le_of_ble_eq_true rfl, Nat.le_of_ble_eq_true rfl⟩ dX10_notStamp_21) hS (fun H locs hP hS => ?_)
      refine lv_if_eq (tgt := 39) hx hb dX10_notStamp_24 (by decide) (fun hc => ?_) (fun hc => ?_)
      · have hf := ite_t hc hf
        have hok := hok.1 hc
        refine lv_aload_n hx hb dX10_notStamp_39 rfl (lv_at hl 0 rfl) ?_
        refine lv_iload_n hx hb dX10_notStamp_40 rfl (lv_at hl 2 rfl) ?_
        have hs2 := hok
        refine g_cFp (g_runV (i := 196) (As := [.int x2]) (rest := []) X (c_X10_printNow l G hG σ x2 hs2) ca_X10_printNow km_X10_160 rfl rfl ⟨Nat.le_of_ble_eq_true rfl, Nat.le_of_ble_eq_true rfl⟩ hP hS (ty_lt ab_196) (cell_10 ab_196) rfl rfl rfl hl.1 rfl (Nat.le_of_ble_eq_true rfl) ⟨Nat.le_of_ble_eq_true rfl, Nat.le_of_ble_eq_true rfl⟩ dX10_notStamp_41) hS (fun H locs hP hS => ?_)
        refine lv_ldcf hx hb hown (hts _ kc_X10_163) dX10_notStamp_44 ?_
        refine lv_fcmp hx hb dX10_notStamp_46 ?_
        refine lv_if_lt (tgt := 54) hx hb dX10_notStamp_47 (by decide) (fun hc => ?_) (fun hc => ?_)
        · have hf := ite_t hc hf
          refine lv_aload_n hx hb dX10_notStamp_54 rfl (lv_at hl 0 rfl) ?_
          refine lv_bipush (v := 6) hx hb dX10_notStamp_55 (by decide) ?_
          refine lv_iload_n hx hb dX10_notStamp_57 rfl (lv_at hl 2 rfl) ?_
          refine g_cI (g_runV (i := 196) (As := [.int (6 : Int32), .int x2]) (rest := []) X (c_X10_isNot l G hG σ (6 : Int32) x2) ca_X10_isNot km_X10_89 rfl rfl ⟨Nat.le_of_ble_eq_true rfl, Nat.le_of_ble_eq_true rfl⟩ hP hS (ty_lt ab_196) (cell_10 ab_196) rfl rfl rfl hl.1 rfl (Nat.le_of_ble_eq_true rfl) ⟨Nat.le_of_ble_eq_true rfl, Nat.le_of_ble_eq_true rfl⟩ dX10_notStamp_58) hS (fun q3 hq3 H locs hP hS => ?_)
          have hf := bnd_go hq3 hf
          exact g_iret X hr hlk hP hS hf dX10_notStamp_61
        · have hf := ite_f hc hf
          refine lv_iconst (v := 0) hx hb dX10_notStamp_50 (by decide) ?_
          refine lv_goto (tgt := 61) hx hb dX10_notStamp_51 (by decide) ?_
          exact g_iret X hr hlk hP hS hf dX10_notStamp_61
      · have hf := ite_f hc hf
        have hok := hok.2 hc
        refine lv_aload_n hx hb dX10_notStamp_27 rfl (lv_at hl 0 rfl) ?_
        refine lv_iconst (v := 5) hx hb dX10_notStamp_28 (by decide) ?_
        refine lv_aload_n hx hb dX10_notStamp_29 rfl (lv_at hl 0 rfl) ?_
        refine lv_iload_n hx hb dX10_notStamp_30 rfl (lv_at hl 1 rfl) ?_
        refine lv_iconst (v := 4) hx hb dX10_notStamp_31 (by decide) ?_
        have hs4 := hok
        refine g_cIp (g_runV (i := 196) (As := [.int x1, .int (4 : Int32)]) (rest := [.int (5 : Int32), .ref (G.2.1 196)]) X (c_X10_of l G hG σ x1 (4 : Int32) hs4) ca_X10_of km_X10_85 rfl rfl ⟨Nat.le_of_ble_eq_true rfl, Nat.le_of_ble_eq_true rfl⟩ hP hS (ty_lt ab_196) (cell_10 ab_196) rfl rfl rfl hl.1 rfl (Nat.le_of_ble_eq_true rfl) ⟨Nat.le_of_ble_eq_true rfl, Nat.le_of_ble_eq_true rfl⟩ dX10_notStamp_32) hS (fun H locs hP hS => ?_)
        refine g_cI (g_runV (i := 196) (As := [.int (5 : Int32), .int (f_X10_of σ x1 (4 : Int32))]) (rest := []) X (c_X10_isNot l G hG σ (5 : Int32) (f_X10_of σ x1 (4 : Int32))) ca_X10_isNot km_X10_89 rfl rfl ⟨Nat.le_of_ble_eq_true rfl, Nat.le_of_ble_eq_true rfl⟩ hP hS (ty_lt ab_196) (cell_10 ab_196) rfl rfl rfl hl.1 rfl (Nat.le_of_ble_eq_true rfl) ⟨Nat.le_of_ble_eq_true rfl, Nat.le_of_ble_eq_true rfl⟩ dX10_notStamp_35) hS (fun q5 hq5 H locs hP hS => ?_)
        have hf := bnd_go hq5 hf
        exact g_iret X hr hlk hP hS hf dX10_notStamp_38
    · have hf := ite_z hc hf
      refine lv_iconst (v := 1) hx hb dX10_notStamp_16 (by decide) ?_
      exact g_iret X hr hlk hP hS hf dX10_notStamp_17
def f_X10_stamps (σ : St) (x1 : Int32) (x2 : Int32) : St × Int32 := (bnd (f_X10_sets σ x1 (4 : Int32) (1 : Int32)) (fun q3 => (bnd (f_X10_sets q3 x1 (6 : Int32) (x2 + (1 : Int32))) (fun q5 => (bnd (setF q5 201 ((8 : Int32) + x2).toNatClampNeg (FP.fmul (1063675494 : UInt32) (q5.2.1 201 ((8 : Int32) + x2).toNatClampNeg))) (fun q9 => (bnd (setF q9 201 (14 : Int32).toNatClampNeg (FP.fmul (1064514355 : UInt32) (q9.2.1 201 (14 : Int32).toNatClampNeg))) (fun q11 => (q11, (f_Jxf58ca_floatToIntBits_5c35a (f_X10_printNow σ x2)))))))))))
def ok_X10_stamps (σ : St) (x1 : Int32) (x2 : Int32) : Prop := (ok_X10_printNow σ x2 ∧ (ok_X10_sets σ x1 (4 : Int32) (1 : Int32) ∧ (bndP (f_X10_sets σ x1 (4 : Int32) (1 : Int32)) (fun q3 => (ok_X10_sets q3 x1 (6 : Int32) (x2 + (1 : Int32)) ∧ (bndP (f_X10_sets q3 x1 (6 : Int32) (x2 + (1 : Int32))) (fun q5 => (vp_in ((8 : Int32) + x2) 36 ∧ (vf_n32 (FP.fmul (1063675494 : UInt32) (q5.2.1 201 ((8 : Int32) + x2).toNatClampNeg)) ∧ (vp_in ((8 : Int32) + x2) 36 ∧ (bndP (setF q5 201 ((8 : Int32) + x2).toNatClampNeg (FP.fmul (1063675494 : UInt32) (q5.2.1 201 ((8 : Int32) + x2).toNatClampNeg))) (fun q9 => vf_n32 (FP.fmul (1064514355 : UInt32) (q9.2.1 201 (14 : Int32).toNatClampNeg))))))))))))))
abbrev rm_X10_stamps : Room := { frames := 2, cells := 0, slots := 0, locals := 80 }
set_option maxHeartbeats 4000000 in
set_option maxRecDepth 100000 in
theorem c_X10_stamps (l : Launch) (G : GE) (hG : Gok G) (σ : St) (x1 : Int32) (x2 : Int32) (hok : ok_X10_stamps σ x1 x2) : MtI l G yX10_stamps cX10_stamps 4 rm_X10_stamps [.ref (G.2.1 196), .int x1, .int x2] σ (f_X10_stamps σ x1 x2) := by
  generalize hf : f_X10_stamps σ x1 x2 = fv
  rw [f_X10_stamps] at hf
  rw [ok_X10_stamps] at hok
  refine g_start hG (plainFor_of_name (by decide)) (Nat.le_of_ble_eq_true rfl) ?_
  intro p e s m args below meth c X hr hlk ls hl H locs hP hS
  have X : Cx G p s m args c cX10_stamps 4 RX10 := X
  obtain ⟨hx, hb, hml, hown, hts, hK, hbs, hXW, -⟩ := id X
  have hl : lv_has ls 4 [(0, .ref (G.2.1 196)), (1, .int x1), (2, .int x2)] := hl
  refine lv_aload_n hx hb dX10_stamps_0 rfl (lv_at hl 0 rfl) ?_
  refine lv_iload_n hx hb dX10_stamps_1 rfl (lv_at hl 2 rfl) ?_
  have hs1 := hok.1
  have hok := hok.2
  refine g_cFp (g_runV (i := 196) (As := [.int x2]) (rest := []) X (c_X10_printNow l G hG σ x2 hs1) ca_X10_printNow km_X10_160 rfl rfl ⟨Nat.le_of_ble_eq_true rfl, Nat.le_of_ble_eq_true rfl⟩ hP hS (ty_lt ab_196) (cell_10 ab_196) rfl rfl rfl hl.1 rfl (Nat.le_of_ble_eq_true rfl) ⟨Nat.le_of_ble_eq_true rfl, Nat.le_of_ble_eq_true rfl⟩ dX10_stamps_2) hS (fun H locs hP hS => ?_)
  refine g_cIp (g_runS (As := [.float (f_X10_printNow σ x2)]) (rest := []) X (c_Jxf58ca_floatToIntBits_5c35a l G hG σ (f_X10_printNow σ x2)) ca_Jxf58ca_floatToIntBits_5c35a km_X10_142 rfl rfl ⟨Nat.le_of_ble_eq_true rfl, Nat.le_of_ble_eq_true rfl⟩ hP hS rfl hl.1 rfl (Nat.le_of_ble_eq_true rfl) ⟨Nat.le_of_ble_eq_true rfl, Nat.le_of_ble_eq_true rfl⟩ dX10_stamps_5) hS (fun H locs hP hS => ?_)
  refine lv_istore_n (lv' := [(3, .int (f_Jxf58ca_floatToIntBits_5c35a (f_X10_printNow σ x2))), (0, .ref (G.2.1 196)), (1, .int x1), (2, .int x2)]) hx hb dX10_stamps_8 rfl hl (by decide) rfl (fun ls hl => ?_)
  refine lv_aload_n hx hb dX10_stamps_9 rfl (lv_at hl 1 rfl) ?_
  refine lv_iload_n hx hb dX10_stamps_10 rfl (lv_at hl 2 rfl) ?_
  refine lv_iconst (v := 4) hx hb dX10_stamps_11 (by decide) ?_
  refine lv_iconst (v := 1) hx hb dX10_stamps_12 (by decide) ?_
  have hs2 := hok.1
  have hok := hok.2
  refine g_cV (g_runV (i := 196) (As := [.int x1, .int (4 : Int32), .int (1 : Int32)]) (rest := []) X (c_X10_sets l G hG σ x1 (4 : Int32) (1 : Int32) hs2) ca_X10_sets km_X10_104 rfl rfl ⟨Nat.le_of_ble_eq_true rfl, Nat.le_of_ble_eq_true rfl⟩ hP hS (ty_lt ab_196) (cell_10 ab_196) rfl rfl rfl hl.1 rfl (Nat.le_of_ble_eq_true rfl) ⟨Nat.le_of_ble_eq_true rfl, Nat.le_of_ble_eq_true rfl⟩ dX10_stamps_13) hS (fun q3 hq3 H locs hP hS => ?_)
  have hf := bnd_go hq3 hf
  have hok := bnd_goP hq3 hok
  refine lv_aload_n hx hb dX10_stamps_16 rfl (lv_at hl 1 rfl) ?_
  refine lv_iload_n hx hb dX10_stamps_17 rfl (lv_at hl 2 rfl) ?_
  refine lv_bipush (v := 6) hx hb dX10_stamps_18 (by decide) ?_
  refine lv_iload_n hx hb dX10_stamps_20 rfl (lv_at hl 3 rfl) ?_
  refine lv_iconst (v := 1) hx hb dX10_stamps_21 (by decide) ?_
  refine lv_iadd hx hb dX10_stamps_22 ?_
  have hs4 := hok.1
  have hok := hok.2
  refine g_cV (g_runV (i := 196) (As := [.int x1, .int (6 : Int32), .int (x2 + (1 : Int32))]) (rest := []) X (c_X10_sets l G hG q3 x1 (6 : Int32) (x2 + (1 : Int32)) hs4) ca_X10_sets km_X10_104 rfl rfl ⟨Nat.le_of_ble_eq_true rfl, Nat.le_of_ble_eq_true rfl⟩ hP hS (ty_lt ab_196) (cell_10 ab_196) rfl rfl rfl hl.1 rfl (Nat.le_of_ble_eq_true rfl) ⟨Nat.le_of_ble_eq_true rfl, Nat.le_of_ble_eq_true rfl⟩ dX10_stamps_23) hS (fun q5 hq5 H locs hP hS => ?_)
  have hf := bnd_go hq5 hf
  have hok := bnd_goP hq5 hok
  refine lv_aload_n hx hb dX10_stamps_26 rfl (lv_at hl 1 rfl) ?_
  refine gg_10_9 X hP ab_196 kf_X10_22 dX10_stamps_27 ?_
  refine lv_bipush (v := 8) hx hb dX10_stamps_30 (by decide) ?_
  refine lv_iload_n hx hb dX10_stamps_32 rfl (lv_at hl 3 rfl) ?_
  refine lv_iadd hx hb dX10_stamps_33 ?_
  refine lv_ldcf hx hb hown (hts _ kc_X10_164) dX10_stamps_34 ?_
  refine lv_aload_n hx hb dX10_stamps_36 rfl (lv_at hl 1 rfl) ?_
  refine gg_10_9 X hP ab_196 kf_X10_22 dX10_stamps_37 ?_
  refine lv_bipush (v := 8) hx hb dX10_stamps_40 (by decide) ?_
  refine lv_iload_n hx hb dX10_stamps_42 rfl (lv_at hl 3 rfl) ?_
  refine lv_iadd hx hb dX10_stamps_43 ?_
  have hs6 := hok.1
  have hok := hok.2
  refine g_fald X hP ab_201 (by rw [al_201]; exact hs6) dX10_stamps_44 ?_
  have hs7 := hok.1
  have hok := hok.2
  refine lv_fmul hx hb dX10_stamps_45 hs7 ?_
  have hs8 := hok.1
  have hok := hok.2
  refine g_fast X hP hS ab_201 (by rw [al_201]; exact hs8) dX10_stamps_46 (fun H locs hP hS => ?_)
  refine g_name hP (fun q9 hq9 hP => ?_)
  have hf := bnd_go hq9 hf
  have hok := bnd_goP hq9 hok
  refine lv_aload_n hx hb dX10_stamps_47 rfl (lv_at hl 1 rfl) ?_
  refine gg_10_9 X hP ab_196 kf_X10_22 dX10_stamps_48 ?_
  refine lv_bipush (v := 14) hx hb dX10_stamps_51 (by decide) ?_
  refine lv_ldcf hx hb hown (hts _ kc_X10_165) dX10_stamps_53 ?_
  refine lv_aload_n hx hb dX10_stamps_55 rfl (lv_at hl 1 rfl) ?_
  refine gg_10_9 X hP ab_196 kf_X10_22 dX10_stamps_56 ?_
  refine lv_bipush (v := 14) hx hb dX10_stamps_59 (by decide) ?_
  refine g_fald X hP ab_201 (by rw [al_201]; unfold vp_in; decide) dX10_stamps_61 ?_
  have hs10 := hok
  refine lv_fmul hx hb dX10_stamps_62 hs10 ?_
  refine g_fast X hP hS ab_201 (by rw [al_201]; unfold vp_in; decide) dX10_stamps_63 (fun H locs hP hS => ?_)
  refine g_name hP (fun q11 hq11 hP => ?_)
  have hf := bnd_go hq11 hf
  refine lv_iload_n hx hb dX10_stamps_64 rfl (lv_at hl 0 rfl) ?_
  exact g_iret X hr hlk hP hS hf dX10_stamps_65
def f_X10_stamp (σ : St) (x1 : Int32) (x2 : Int32) : St × Int32 := (bnd (setI σ 196 0 (0 : Int32)) (fun q1 => (bnd (f_X10_notStamp q1 x1 x2) (fun q3 => (if q3.2 = 0 then (bnd (f_X10_remembers q3.1) (fun q5 => (bnd (f_X10_stamps q5 x1 x2) (fun q7 => (q7.1, q7.2))))) else (bnd (f_X10_refuses q3.1 q3.2 (2 : Int32)) (fun q8 => (q8.1, q8.2))))))))
def ok_X10_stamp (σ : St) (x1 : Int32) (x2 : Int32) : Prop := (bndP (setI σ 196 0 (0 : Int32)) (fun q1 => (ok_X10_notStamp q1 x1 x2 ∧ (bndP (f_X10_notStamp q1 x1 x2) (fun q3 => ((q3.2 = 0 → (ok_X10_remembers q3.1 ∧ (bndP (f_X10_remembers q3.1) (fun q5 => ok_X10_stamps q5 x1 x2)))) ∧ (¬ q3.2 = 0 → True)))))))
abbrev rm_X10_stamp : Room := { frames := 3, cells := 0, slots := 0, locals := 103 }
set_option maxHeartbeats 4000000 in
set_option maxRecDepth 100000 in
theorem c_X10_stamp (l : Launch) (G : GE) (hG : Gok G) (σ : St) (x1 : Int32) (x2 : Int32) (hok : ok_X10_stamp σ x1 x2) : MtI l G yX10_stamp cX10_stamp 4 rm_X10_stamp [.ref (G.2.1 196), .int x1, .int x2] σ (f_X10_stamp σ x1 x2) := by
  generalize hf : f_X10_stamp σ x1 x2 = fv
  rw [f_X10_stamp] at hf
  rw [ok_X10_stamp] at hok
  refine g_start hG (plainFor_of_name (by decide)) (Nat.le_of_ble_eq_true rfl) ?_
  intro p e s m args below meth c X hr hlk ls hl H locs hP hS
  have X : Cx G p s m args c cX10_stamp 4 RX10 := X
  obtain ⟨hx, hb, hml, hown, hts, hK, hbs, hXW, -⟩ := id X
  have hl : lv_has ls 4 [(0, .ref (G.2.1 196)), (1, .int x1), (2, .int x2)] := hl
  refine lv_aload_n hx hb dX10_stamp_0 rfl (lv_at hl 0 rfl) ?_
  refine lv_iconst (v := 0) hx hb dX10_stamp_1 (by decide) ?_
  refine gp_10_0 X hP hS ab_196 kf_X10_50 dX10_stamp_2 (fun H locs hP hS => ?_)
  refine g_name hP (fun q1 hq1 hP => ?_)
  have hf := bnd_go hq1 hf
  have hok := bnd_goP hq1 hok
  refine lv_aload_n hx hb dX10_stamp_5 rfl (lv_at hl 0 rfl) ?_
  refine lv_iload_n hx hb dX10_stamp_6 rfl (lv_at hl 1 rfl) ?_
  refine lv_iload_n hx hb dX10_stamp_7 rfl (lv_at hl 2 rfl) ?_
  have hs2 := hok.1
  have hok := hok.2
  refine g_cI (g_runV (i := 196) (As := [.int x1, .int x2]) (rest := []) X (c_X10_notStamp l G hG q1 x1 x2 hs2) ca_X10_notStamp km_X10_167 rfl rfl ⟨Nat.le_of_ble_eq_true rfl, Nat.le_of_ble_eq_true rfl⟩ hP hS (ty_lt ab_196) (cell_10 ab_196) rfl rfl rfl hl.1 rfl (Nat.le_of_ble_eq_true rfl) ⟨Nat.le_of_ble_eq_true rfl, Nat.le_of_ble_eq_true rfl⟩ dX10_stamp_8) hS (fun q3 hq3 H locs hP hS => ?_)
  have hf := bnd_go hq3 hf
  have hok := bnd_goP hq3 hok
  refine lv_istore_n (lv' := [(3, .int q3.2), (0, .ref (G.2.1 196)), (1, .int x1), (2, .int x2)]) hx hb dX10_stamp_11 rfl hl (by decide) rfl (fun ls hl => ?_)
  refine lv_iload_n hx hb dX10_stamp_12 rfl (lv_at hl 0 rfl) ?_
  refine lv_if_eq (tgt := 23) hx hb dX10_stamp_13 (by decide) (fun hc => ?_) (fun hc => ?_)
  · have hf := ite_t hc hf
    have hok := hok.1 hc
    refine lv_aload_n hx hb dX10_stamp_23 rfl (lv_at hl 1 rfl) ?_
    have hs4 := hok.1
    have hok := hok.2
    refine g_cV (g_runV (i := 196) (As := []) (rest := []) X (c_X10_remembers l G hG q3.1 hs4) ca_X10_remembers km_X10_95 rfl rfl ⟨Nat.le_of_ble_eq_true rfl, Nat.le_of_ble_eq_true rfl⟩ hP hS (ty_lt ab_196) (cell_10 ab_196) rfl rfl rfl hl.1 rfl (Nat.le_of_ble_eq_true rfl) ⟨Nat.le_of_ble_eq_true rfl, Nat.le_of_ble_eq_true rfl⟩ dX10_stamp_24) hS (fun q5 hq5 H locs hP hS => ?_)
    have hf := bnd_go hq5 hf
    have hok := bnd_goP hq5 hok
    refine lv_aload_n hx hb dX10_stamp_27 rfl (lv_at hl 1 rfl) ?_
    refine lv_iload_n hx hb dX10_stamp_28 rfl (lv_at hl 2 rfl) ?_
    refine lv_iload_n hx hb dX10_stamp_29 rfl (lv_at hl 3 rfl) ?_
    have hs6 := hok
    refine g_cI (g_runV (i := 196) (As := [.int x1, .int x2]) (rest := []) X (c_X10_stamps l G hG q5 x1 x2 hs6) ca_X10_stamps km_X10_170 rfl rfl ⟨Nat.le_of_ble_eq_true rfl, Nat.le_of_ble_eq_true rfl⟩ hP hS (ty_lt ab_196) (cell_10 ab_196) rfl rfl rfl hl.1 rfl (Nat.le_of_ble_eq_true rfl) ⟨Nat.le_of_ble_eq_true rfl, Nat.le_of_ble_eq_true rfl⟩ dX10_stamp_30) hS (fun q7 hq7 H locs hP hS => ?_)
    have hf := bnd_go hq7 hf
    exact g_iret X hr hlk hP hS hf dX10_stamp_33
  · have hf := ite_f hc hf
    refine lv_aload_n hx hb dX10_stamp_16 rfl (lv_at hl 1 rfl) ?_
    refine lv_iload_n hx hb dX10_stamp_17 rfl (lv_at hl 0 rfl) ?_
    refine lv_iconst (v := 2) hx hb dX10_stamp_18 (by decide) ?_
    refine g_cI (g_runV (i := 196) (As := [.int q3.2, .int (2 : Int32)]) (rest := []) X (c_X10_refuses l G hG q3.1 q3.2 (2 : Int32)) ca_X10_refuses km_X10_92 rfl rfl ⟨Nat.le_of_ble_eq_true rfl, Nat.le_of_ble_eq_true rfl⟩ hP hS (ty_lt ab_196) (cell_10 ab_196) rfl rfl rfl hl.1 rfl (Nat.le_of_ble_eq_true rfl) ⟨Nat.le_of_ble_eq_true rfl, Nat.le_of_ble_eq_true rfl⟩ dX10_stamp_19) hS (fun q8 hq8 H locs hP hS => ?_)
    have hf := bnd_go hq8 hf
    exact g_iret X hr hlk hP hS hf dX10_stamp_22
