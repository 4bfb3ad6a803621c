def f_X9_inRange (x0 : Int32) (x1 : Int32) (x2 : Int32) : Bool := (if x0 < x1 then false else (if x2 < x0 then false else true))
abbrev rm_X9_inRange : Room := { frames := 0, cells := 0, slots := 0, locals := 0 }
set_option maxHeartbeats 4000000 in
set_option maxRecDepth 100000 in
theorem c_X9_inRange (l : Launch) (G : GE) (hG : Gok G) (σ : St) (x0 : Int32) (x1 : Int32) (x2 : Int32) : MtZ l G yX9_inRange cX9_inRange 3 rm_X9_inRange [.int x0, .int x1, .int x2] σ (σ, f_X9_inRange x0 x1 x2) := by
  generalize hf : f_X9_inRange x0 x1 x2 = fv
  rw [f_X9_inRange] at hf
  refine g_start hG (plainFor_of_name (by decide)) (Nat.le_of_ble_eq_true rfl) ?_
  intro p e s m args below meth c X hr hlk ls hl H locs hP hS
  have X : Cx G p s m args c cX9_inRange 3 RX9 := X
  obtain ⟨hx, hb, hml, hown, hts, hK, hbs, hXW, -⟩ := id X
  have hl : lv_has ls 3 [(0, .int x0), (1, .int x1), (2, .int x2)] := hl
  refine lv_iload_n hx hb dX9_inRange_0 rfl (lv_at hl 0 rfl) ?_
  refine lv_iload_n hx hb dX9_inRange_1 rfl (lv_at hl 1 rfl) ?_
  refine lv_icmp_lt (tgt := 14) hx hb dX9_inRange_2 (by decide) (fun hc => ?_) (fun hc => ?_)
  · have hf := ite_t hc hf
    refine lv_iconst (v := 0) hx hb dX9_inRange_14 (by decide) ?_
    exact g_zret (b := false) X hr hlk rfl hP hS (congrArg (Prod.mk σ) hf) dX9_inRange_15
  · have hf := ite_f hc hf
    refine lv_iload_n hx hb dX9_inRange_5 rfl (lv_at hl 0 rfl) ?_
    refine lv_iload_n hx hb dX9_inRange_6 rfl (lv_at hl 2 rfl) ?_
    refine lv_icmp_gt (tgt := 14) hx hb dX9_inRange_7 (by decide) (fun hc => ?_) (fun hc => ?_)
    · have hf := ite_t hc hf
      refine lv_iconst (v := 0) hx hb dX9_inRange_14 (by decide) ?_
      exact g_zret (b := false) X hr hlk rfl hP hS (congrArg (Prod.mk σ) hf) dX9_inRange_15
    · have hf := ite_f hc hf
      refine lv_iconst (v := 1) hx hb dX9_inRange_10 (by decide) ?_
      refine lv_goto (tgt := 15) hx hb dX9_inRange_11 (by decide) ?_
      exact g_zret (b := true) X hr hlk rfl hP hS (congrArg (Prod.mk σ) hf) dX9_inRange_15
def f_X9_isChild (x0 : Int32) : Bool := (f_X9_inRange x0 (0 : Int32) (5 : Int32))
abbrev rm_X9_isChild : Room := { frames := 1, cells := 0, slots := 0, locals := 22 }
set_option maxHeartbeats 4000000 in
set_option maxRecDepth 100000 in
theorem c_X9_isChild (l : Launch) (G : GE) (hG : Gok G) (σ : St) (x0 : Int32) : MtZ l G yX9_isChild cX9_isChild 1 rm_X9_isChild [.int x0] σ (σ, f_X9_isChild x0) := by
  generalize hf : f_X9_isChild x0 = fv
  rw [f_X9_isChild] at hf
  refine g_start hG (plainFor_of_name (by decide)) (Nat.le_of_ble_eq_true rfl) ?_
  intro p e s m args below meth c X hr hlk ls hl H locs hP hS
  have X : Cx G p s m args c cX9_isChild 1 RX9 := X
  obtain ⟨hx, hb, hml, hown, hts, hK, hbs, hXW, -⟩ := id X
  have hl : lv_has ls 1 [(0, .int x0)] := hl
  refine lv_iload_n hx hb dX9_isChild_0 rfl (lv_at hl 0 rfl) ?_
  refine lv_iconst (v := 0) hx hb dX9_isChild_1 (by decide) ?_
  refine lv_iconst (v := 5) hx hb dX9_isChild_2 (by decide) ?_
  refine g_cZp (g_runS (As := [.int x0, .int (0 : Int32), .int (5 : Int32)]) (rest := []) X (c_X9_inRange l G hG σ x0 (0 : Int32) (5 : Int32)) ca_X9_inRange km_X9_97 rfl rfl ⟨Nat.le_of_ble_eq_true rfl, Nat.le_of_ble_eq_true rfl⟩ hP hS rfl hl.1 rfl (Nat.le_of_ble_eq_true rfl) ⟨Nat.le_of_ble_eq_true rfl, Nat.le_of_ble_eq_true rfl⟩ dX9_isChild_3) hS (fun H locs hP hS => ?_)
  exact g_zret (b := (f_X9_inRange x0 (0 : Int32) (5 : Int32))) X hr hlk rfl hP hS (congrArg (Prod.mk σ) hf) dX9_isChild_6
def f_X9_areSides (x0 : Int32) (x1 : Int32) (x2 : Int32) : Bool := (if (f_X9_inRange x0 (1 : Int32) (9 : Int32)) = true then (if (f_X9_inRange x1 (1 : Int32) (9 : Int32)) = true then (if (f_X9_inRange x2 (1 : Int32) (9 : Int32)) = true then true else false) else false) else false)
abbrev rm_X9_areSides : Room := { frames := 1, cells := 0, slots := 0, locals := 22 }
set_option maxHeartbeats 4000000 in
set_option maxRecDepth 100000 in
theorem c_X9_areSides (l : Launch) (G : GE) (hG : Gok G) (σ : St) (x0 : Int32) (x1 : Int32) (x2 : Int32) : MtZ l G yX9_areSides cX9_areSides 3 rm_X9_areSides [.int x0, .int x1, .int x2] σ (σ, f_X9_areSides x0 x1 x2) := by
  generalize hf : f_X9_areSides x0 x1 x2 = fv
  rw [f_X9_areSides] at hf
  refine g_start hG (plainFor_of_name (by decide)) (Nat.le_of_ble_eq_true rfl) ?_
  intro p e s m args below meth c X hr hlk ls hl H locs hP hS
  have X : Cx G p s m args c cX9_areSides 3 RX9 := X
  obtain ⟨hx, hb, hml, hown, hts, hK, hbs, hXW, -⟩ := id X
  have hl : lv_has ls 3 [(0, .int x0), (1, .int x1), (2, .int x2)] := hl
  refine lv_iload_n hx hb dX9_areSides_0 rfl (lv_at hl 0 rfl) ?_
  refine lv_iconst (v := 1) hx hb dX9_areSides_1 (by decide) ?_
  refine lv_bipush (v := 9) hx hb dX9_areSides_2 (by decide) ?_
  refine g_cZp (g_runS (As := [.int x0, .int (1 : Int32), .int (9 : Int32)]) (rest := []) X (c_X9_inRange l G hG σ x0 (1 : Int32) (9 : Int32)) ca_X9_inRange km_X9_97 rfl rfl ⟨Nat.le_of_ble_eq_true rfl, Nat.le_of_ble_eq_true rfl⟩ hP hS rfl hl.1 rfl (Nat.le_of_ble_eq_true rfl) ⟨Nat.le_of_ble_eq_true rfl, Nat.le_of_ble_eq_true rfl⟩ dX9_areSides_4) hS (fun H locs hP hS => ?_)
  refine g_ifeqZ (tgt := 34) X dX9_areSides_7 (by decide) (fun hc => ?_) (fun hc => ?_)
  · have hf := ite_z hc hf
    refine lv_iconst (v := 0) hx hb dX9_areSides_34 (by decide) ?_
    exact g_zret (b := false) X hr hlk rfl hP hS (congrArg (Prod.mk σ) hf) dX9_areSides_35
  · have hf := ite_t hc hf
    refine lv_iload_n hx hb dX9_areSides_10 rfl (lv_at hl 1 rfl) ?_
    refine lv_iconst (v := 1) hx hb dX9_areSides_11 (by decide) ?_
    refine lv_bipush (v := 9) hx hb dX9_areSides_12 (by decide) ?_
    refine g_cZp (g_runS (As := [.int x1, .int (1 : Int32), .int (9 : Int32)]) (rest := []) X (c_X9_inRange l G hG σ x1 (1 : Int32) (9 : Int32)) ca_X9_inRange km_X9_97 rfl rfl ⟨Nat.le_of_ble_eq_true rfl, Nat.le_of_ble_eq_true rfl⟩ hP hS rfl hl.1 rfl (Nat.le_of_ble_eq_true rfl) ⟨Nat.le_of_ble_eq_true rfl, Nat.le_of_ble_eq_true rfl⟩ dX9_areSides_14) hS (fun H locs hP hS => ?_)
    refine g_ifeqZ (tgt := 34) X dX9_areSides_17 (by decide) (fun hc => ?_) (fun hc => ?_)
    · have hf := ite_z hc hf
      refine lv_iconst (v := 0) hx hb dX9_areSides_34 (by decide) ?_
      exact g_zret (b := false) X hr hlk rfl hP hS (congrArg (Prod.mk σ) hf) dX9_areSides_35
    · have hf := ite_t hc hf
      refine lv_iload_n hx hb dX9_areSides_20 rfl (lv_at hl 2 rfl) ?_
      refine lv_iconst (v := 1) hx hb dX9_areSides_21 (by decide) ?_
      refine lv_bipush (v := 9) hx hb dX9_areSides_22 (by decide) ?_
      refine g_cZp (g_runS (As := [.int x2, .int (1 : Int32), .int (9 : Int32)]) (rest := []) X (c_X9_inRange l G hG σ x2 (1 : Int32) (9 : Int32)) ca_X9_inRange km_X9_97 rfl rfl ⟨Nat.le_of_ble_eq_true rfl, Nat.le_of_ble_eq_true rfl⟩ hP hS rfl hl.1 rfl (Nat.le_of_ble_eq_true rfl) ⟨Nat.le_of_ble_eq_true rfl, Nat.le_of_ble_eq_true rfl⟩ dX9_areSides_24) hS (fun H locs hP hS => ?_)
      refine g_ifeqZ (tgt := 34) X dX9_areSides_27 (by decide) (fun hc => ?_) (fun hc => ?_)
      · have hf := ite_z hc hf
        refine lv_iconst (v := 0) hx hb dX9_areSides_34 (by decide) ?_
        exact g_zret (b := false) X hr hlk rfl hP hS (congrArg (Prod.mk σ) hf) dX9_areSides_35
      · have hf := ite_t hc hf
        refine lv_iconst (v := 1) hx hb dX9_areSides_30 (by decide) ?_
        refine lv_goto (tgt := 35) hx hb dX9_areSides_31 (by decide) ?_
        exact g_zret (b := true) X hr hlk rfl hP hS (congrArg (Prod.mk σ) hf) dX9_areSides_35
def f_X9_crayonNeeded (x0 : Int32) : UInt32 := (FP.fmul (1028443341 : UInt32) (FP.i2f x0))
def ok_X9_crayonNeeded (x0 : Int32) : Prop := vf_n32 (FP.fmul (1028443341 : UInt32) (FP.i2f x0))
abbrev rm_X9_crayonNeeded : Room := { frames := 0, cells := 0, slots := 0, locals := 0 }
set_option maxHeartbeats 4000000 in
set_option maxRecDepth 100000 in
theorem c_X9_crayonNeeded (l : Launch) (G : GE) (hG : Gok G) (σ : St) (x0 : Int32) (hok : ok_X9_crayonNeeded x0) : MtF l G yX9_crayonNeeded cX9_crayonNeeded 1 rm_X9_crayonNeeded [.int x0] σ (σ, f_X9_crayonNeeded x0) := by
  generalize hf : f_X9_crayonNeeded x0 = fv
  rw [f_X9_crayonNeeded] at hf
  rw [ok_X9_crayonNeeded] at hok
  refine g_start hG (plainFor_of_name (by decide)) (Nat.le_of_ble_eq_true rfl) ?_
  intro p e s m args below meth c X hr hlk ls hl H locs hP hS
  have X : Cx G p s m args c cX9_crayonNeeded 1 RX9 := X
  obtain ⟨hx, hb, hml, hown, hts, hK, hbs, hXW, -⟩ := id X
  have hl : lv_has ls 1 [(0, .int x0)] := hl
  refine g_ldcwF X kc_X9_427 dX9_crayonNeeded_0 ?_
  refine lv_iload_n hx hb dX9_crayonNeeded_3 rfl (lv_at hl 0 rfl) ?_
  refine lv_i2f hx hb dX9_crayonNeeded_4 ?_
  have hs1 := hok
  refine lv_fmul hx hb dX9_crayonNeeded_5 hs1 ?_
  exact g_fret X hr hlk hP hS (congrArg (Prod.mk σ) hf) dX9_crayonNeeded_6
def f_X9_stringNeeded (x0 : Int32) (x1 : Int32) (x2 : Int32) : UInt32 := (FP.fmul (1036831949 : UInt32) (FP.i2f ((((2 : Int32) * x0) + ((2 : Int32) * x1)) + ((4 : Int32) * x2))))
def ok_X9_stringNeeded (x0 : Int32) (x1 : Int32) (x2 : Int32) : Prop := vf_n32 (FP.fmul (1036831949 : UInt32) (FP.i2f ((((2 : Int32) * x0) + ((2 : Int32) * x1)) + ((4 : Int32) * x2))))
abbrev rm_X9_stringNeeded : Room := { frames := 0, cells := 0, slots := 0, locals := 0 }
set_option maxHeartbeats 4000000 in
set_option maxRecDepth 100000 in
theorem c_X9_stringNeeded (l : Launch) (G : GE) (hG : Gok G) (σ : St) (x0 : Int32) (x1 : Int32) (x2 : Int32) (hok : ok_X9_stringNeeded x0 x1 x2) : MtF l G yX9_stringNeeded cX9_stringNeeded 3 rm_X9_stringNeeded [.int x0, .int x1, .int x2] σ (σ, f_X9_stringNeeded x0 x1 x2) := by
  generalize hf : f_X9_stringNeeded x0 x1 x2 = fv
  rw [f_X9_stringNeeded] at hf
  rw [ok_X9_stringNeeded] at hok
  refine g_start hG (plainFor_of_name (by decide)) (Nat.le_of_ble_eq_true rfl) ?_
  intro p e s m args below meth c X hr hlk ls hl H locs hP hS
  have X : Cx G p s m args c cX9_stringNeeded 3 RX9 := X
  obtain ⟨hx, hb, hml, hown, hts, hK, hbs, hXW, -⟩ := id X
  have hl : lv_has ls 3 [(0, .int x0), (1, .int x1), (2, .int x2)] := hl
  refine lv_ldcf hx hb hown (hts _ kc_X9_66) dX9_stringNeeded_0 ?_
  refine lv_iconst (v := 2) hx hb dX9_stringNeeded_2 (by decide) ?_
  refine lv_iload_n hx hb dX9_stringNeeded_3 rfl (lv_at hl 0 rfl) ?_
  refine lv_imul hx hb dX9_stringNeeded_4 ?_
  refine lv_iconst (v := 2) hx hb dX9_stringNeeded_5 (by decide) ?_
  refine lv_iload_n hx hb dX9_stringNeeded_6 rfl (lv_at hl 1 rfl) ?_
  refine lv_imul hx hb dX9_stringNeeded_7 ?_
  refine lv_iadd hx hb dX9_stringNeeded_8 ?_
  refine lv_iconst (v := 4) hx hb dX9_stringNeeded_9 (by decide) ?_
  refine lv_iload_n hx hb dX9_stringNeeded_10 rfl (lv_at hl 2 rfl) ?_
  refine lv_imul hx hb dX9_stringNeeded_11 ?_
  refine lv_iadd hx hb dX9_stringNeeded_12 ?_
  refine lv_i2f hx hb dX9_stringNeeded_13 ?_
  have hs1 := hok
  refine lv_fmul hx hb dX9_stringNeeded_14 hs1 ?_
  exact g_fret X hr hlk hP hS (congrArg (Prod.mk σ) hf) dX9_stringNeeded_15
def f_X9_printOf (x0 : UInt32) (x1 : UInt32) : UInt32 := (FP.fmul x0 (FP.fdiv x1 (FP.fadd x1 (1056964608 : UInt32))))
def ok_X9_printOf (x0 : UInt32) (x1 : UInt32) : Prop := (vf_n32 (FP.fadd x1 (1056964608 : UInt32)) ∧ (vf_n32 (FP.fdiv x1 (FP.fadd x1 (1056964608 : UInt32))) ∧ vf_n32 (FP.fmul x0 (FP.fdiv x1 (FP.fadd x1 (1056964608 : UInt32))))))
abbrev rm_X9_printOf : Room := { frames := 0, cells := 0, slots := 0, locals := 0 }
set_option maxHeartbeats 4000000 in
set_option maxRecDepth 100000 in
theorem c_X9_printOf (l : Launch) (G : GE) (hG : Gok G) (σ : St) (x0 : UInt32) (x1 : UInt32) (hok : ok_X9_printOf x0 x1) : MtF l G yX9_printOf cX9_printOf 2 rm_X9_printOf [.float x0, .float x1] σ (σ, f_X9_printOf x0 x1) := by
  generalize hf : f_X9_printOf x0 x1 = fv
  rw [f_X9_printOf] at hf
  rw [ok_X9_printOf] at hok
  refine g_start hG (plainFor_of_name (by decide)) (Nat.le_of_ble_eq_true rfl) ?_
  intro p e s m args below meth c X hr hlk ls hl H locs hP hS
  have X : Cx G p s m args c cX9_printOf 2 RX9 := X
  obtain ⟨hx, hb, hml, hown, hts, hK, hbs, hXW, -⟩ := id X
  have hl : lv_has ls 2 [(0, .float x0), (1, .float x1)] := hl
  refine lv_fload_n hx hb dX9_printOf_0 rfl (lv_at hl 0 rfl) ?_
  refine lv_fload_n hx hb dX9_printOf_1 rfl (lv_at hl 1 rfl) ?_
  refine lv_fload_n hx hb dX9_printOf_2 rfl (lv_at hl 1 rfl) ?_
  refine g_ldcwF X kc_X9_428 dX9_printOf_3 ?_
  have hs1 := hok.1
  have hok := hok.2
  refine lv_fadd hx hb dX9_printOf_6 hs1 ?_
  have hs2 := hok.1
  have hok := hok.2
  refine lv_fdiv hx hb dX9_printOf_7 hs2 ?_
  have hs3 := hok
  refine lv_fmul hx hb dX9_printOf_8 hs3 ?_
  exact g_fret X hr hlk hP hS (congrArg (Prod.mk σ) hf) dX9_printOf_9
def f_X9_isStrong (x0 : UInt32) : Bool := (if (Op.cmpValue (FP.fcmp x0 (1050253722 : UInt32)) CmpOp.l) < 0 then false else true)
abbrev rm_X9_isStrong : Room := { frames := 0, cells := 0, slots := 0, locals := 0 }
set_option maxHeartbeats 4000000 in
set_option maxRecDepth 100000 in
theorem c_X9_isStrong (l : Launch) (G : GE) (hG : Gok G) (σ : St) (x0 : UInt32) : MtZ l G yX9_isStrong cX9_isStrong 1 rm_X9_isStrong [.float x0] σ (σ, f_X9_isStrong x0) := by
  generalize hf : f_X9_isStrong x0 = fv
  rw [f_X9_isStrong] at hf
  refine g_start hG (plainFor_of_name (by decide)) (Nat.le_of_ble_eq_true rfl) ?_
  intro p e s m args below meth c X hr hlk ls hl H locs hP hS
  have X : Cx G p s m args c cX9_isStrong 1 RX9 := X
  obtain ⟨hx, hb, hml, hown, hts, hK, hbs, hXW, -⟩ := id X
  have hl : lv_has ls 1 [(0, .float x0)] := hl
  refine lv_fload_n hx hb dX9_isStrong_0 rfl (lv_at hl 0 rfl) ?_
  refine g_ldcwF X kc_X9_429 dX9_isStrong_1 ?_
  refine lv_fcmp hx hb dX9_isStrong_4 ?_
  refine lv_if_lt (tgt := 12) hx hb dX9_isStrong_5 (by decide) (fun hc => ?_) (fun hc => ?_)
  · have hf := ite_t hc hf
    refine lv_iconst (v := 0) hx hb dX9_isStrong_12 (by decide) ?_
    exact g_zret (b := false) X hr hlk rfl hP hS (congrArg (Prod.mk σ) hf) dX9_isStrong_13
  · have hf := ite_f hc hf
    refine lv_iconst (v := 1) hx hb dX9_isStrong_8 (by decide) ?_
    refine lv_goto (tgt := 13) hx hb dX9_isStrong_9 (by decide) ?_
    exact g_zret (b := true) X hr hlk rfl hP hS (congrArg (Prod.mk σ) hf) dX9_isStrong_13
def f_X9_softer (x0 : UInt32) : UInt32 := (FP.fmul (1063675494 : UInt32) x0)
def ok_X9_softer (x0 : UInt32) : Prop := vf_n32 (FP.fmul (1063675494 : UInt32) x0)
abbrev rm_X9_softer : Room := { frames := 0, cells := 0, slots := 0, locals := 0 }
set_option maxHeartbeats 4000000 in
set_option maxRecDepth 100000 in
theorem c_X9_softer (l : Launch) (G : GE) (hG : Gok G) (σ : St) (x0 : UInt32) (hok : ok_X9_softer x0) : MtF l G yX9_softer cX9_softer 1 rm_X9_softer [.float x0] σ (σ, f_X9_softer x0) := by
  generalize hf : f_X9_softer x0 = fv
  rw [f_X9_softer] at hf
  rw [ok_X9_softer] at hok
  refine g_start hG (plainFor_of_name (by decide)) (Nat.le_of_ble_eq_true rfl) ?_
  intro p e s m args below meth c X hr hlk ls hl H locs hP hS
  have X : Cx G p s m args c cX9_softer 1 RX9 := X
  obtain ⟨hx, hb, hml, hown, hts, hK, hbs, hXW, -⟩ := id X
  have hl : lv_has ls 1 [(0, .float x0)] := hl
  refine g_ldcwF X kc_X9_430 dX9_softer_0 ?_
  refine lv_fload_n hx hb dX9_softer_3 rfl (lv_at hl 0 rfl) ?_
  have hs1 := hok
  refine lv_fmul hx hb dX9_softer_4 hs1 ?_
  exact g_fret X hr hlk hP hS (congrArg (Prod.mk σ) hf) dX9_softer_5
def f_X9_drier (x0 : UInt32) : UInt32 := (FP.fmul (1064514355 : UInt32) x0)
def ok_X9_drier (x0 : UInt32) : Prop := vf_n32 (FP.fmul (1064514355 : UInt32) x0)
abbrev rm_X9_drier : Room := { frames := 0, cells := 0, slots := 0, locals := 0 }
set_option maxHeartbeats 4000000 in
set_option maxRecDepth 100000 in
theorem c_X9_drier (l : Launch) (G : GE) (hG : Gok G) (σ : St) (x0 : UInt32) (hok : ok_X9_drier x0) : MtF l G yX9_drier cX9_drier 1 rm_X9_drier [.float x0] σ (σ, f_X9_drier x0) := by
  generalize hf : f_X9_drier x0 = fv
  rw [f_X9_drier] at hf
  rw [ok_X9_drier] at hok
  refine g_start hG (plainFor_of_name (by decide)) (Nat.le_of_ble_eq_true rfl) ?_
  intro p e s m args below meth c X hr hlk ls hl H locs hP hS
  have X : Cx G p s m args c cX9_drier 1 RX9 := X
  obtain ⟨hx, hb, hml, hown, hts, hK, hbs, hXW, -⟩ := id X
  have hl : lv_has ls 1 [(0, .float x0)] := hl
  refine g_ldcwF X kc_X9_431 dX9_drier_0 ?_
  refine lv_fload_n hx hb dX9_drier_3 rfl (lv_at hl 0 rfl) ?_
  have hs1 := hok
  refine lv_fmul hx hb dX9_drier_4 hs1 ?_
  exact g_fret X hr hlk hP hS (congrArg (Prod.mk σ) hf) dX9_drier_5
def f_X9_hungrier (x0 : UInt32) : UInt32 := (FP.fadd x0 (1069547520 : UInt32))
def ok_X9_hungrier (x0 : UInt32) : Prop := vf_n32 (FP.fadd x0 (1069547520 : UInt32))
abbrev rm_X9_hungrier : Room := { frames := 0, cells := 0, slots := 0, locals := 0 }
set_option maxHeartbeats 4000000 in
set_option maxRecDepth 100000 in
theorem c_X9_hungrier (l : Launch) (G : GE) (hG : Gok G) (σ : St) (x0 : UInt32) (hok : ok_X9_hungrier x0) : MtF l G yX9_hungrier cX9_hungrier 1 rm_X9_hungrier [.float x0] σ (σ, f_X9_hungrier x0) := by
  generalize hf : f_X9_hungrier x0 = fv
  rw [f_X9_hungrier] at hf
  rw [ok_X9_hungrier] at hok
  refine g_start hG (plainFor_of_name (by decide)) (Nat.le_of_ble_eq_true rfl) ?_
  intro p e s m args below meth c X hr hlk ls hl H locs hP hS
  have X : Cx G p s m args c cX9_hungrier 1 RX9 := X
  obtain ⟨hx, hb, hml, hown, hts, hK, hbs, hXW, -⟩ := id X
  have hl : lv_has ls 1 [(0, .float x0)] := hl
  refine lv_fload_n hx hb dX9_hungrier_0 rfl (lv_at hl 0 rfl) ?_
  refine g_ldcwF X kc_X9_432 dX9_hungrier_1 ?_
  have hs1 := hok
  refine lv_fadd hx hb dX9_hungrier_4 hs1 ?_
  exact g_fret X hr hlk hP hS (congrArg (Prod.mk σ) hf) dX9_hungrier_5
def f_X9_isHungry (x0 : UInt32) : Bool := (if (Op.cmpValue (FP.fcmp x0 (1090519040 : UInt32)) CmpOp.l) ≤ 0 then false else true)
abbrev rm_X9_isHungry : Room := { frames := 0, cells := 0, slots := 0, locals := 0 }
set_option maxHeartbeats 4000000 in
set_option maxRecDepth 100000 in
theorem c_X9_isHungry (l : Launch) (G : GE) (hG : Gok G) (σ : St) (x0 : UInt32) : MtZ l G yX9_isHungry cX9_isHungry 1 rm_X9_isHungry [.float x0] σ (σ, f_X9_isHungry x0) := by
  generalize hf : f_X9_isHungry x0 = fv
  rw [f_X9_isHungry] at hf
  refine g_start hG (plainFor_of_name (by decide)) (Nat.le_of_ble_eq_true rfl) ?_
  intro p e s m args below meth c X hr hlk ls hl H locs hP hS
  have X : Cx G p s m args c cX9_isHungry 1 RX9 := X
  obtain ⟨hx, hb, hml, hown, hts, hK, hbs, hXW, -⟩ := id X
  have hl : lv_has ls 1 [(0, .float x0)] := hl
  refine lv_fload_n hx hb dX9_isHungry_0 rfl (lv_at hl 0 rfl) ?_
  refine g_ldcwF X kc_X9_433 dX9_isHungry_1 ?_
  refine lv_fcmp hx hb dX9_isHungry_4 ?_
  refine lv_if_le (tgt := 12) hx hb dX9_isHungry_5 (by decide) (fun hc => ?_) (fun hc => ?_)
  · have hf := ite_t hc hf
    refine lv_iconst (v := 0) hx hb dX9_isHungry_12 (by decide) ?_
    exact g_zret (b := false) X hr hlk rfl hP hS (congrArg (Prod.mk σ) hf) dX9_isHungry_13
  · have hf := ite_f hc hf
    refine lv_iconst (v := 1) hx hb dX9_isHungry_8 (by decide) ?_
    refine lv_goto (tgt := 13) hx hb dX9_isHungry_9 (by decide) ?_
    exact g_zret (b := true) X hr hlk rfl hP hS (congrArg (Prod.mk σ) hf) dX9_isHungry_13
