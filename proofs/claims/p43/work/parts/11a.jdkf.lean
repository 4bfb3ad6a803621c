def f_Jxf58ca_isNaN_12338 (x0 : UInt32) : Bool := (if (Op.cmpValue (FP.fcmp x0 x0) CmpOp.l) = 0 then false else true)
abbrev rm_Jxf58ca_isNaN_12338 : Room := { frames := 0, cells := 0, slots := 0, locals := 0 }
set_option maxHeartbeats 4000000 in
set_option maxRecDepth 100000 in
theorem c_Jxf58ca_isNaN_12338 (l : Launch) (G : GE) (hG : Gok G) (σ : St) (x0 : UInt32) : MtZ l G yJxf58ca_isNaN_12338 cJxf58ca_isNaN_12338 1 rm_Jxf58ca_isNaN_12338 [.float x0] σ (σ, f_Jxf58ca_isNaN_12338 x0) := by
  generalize hf : f_Jxf58ca_isNaN_12338 x0 = fv
  rw [f_Jxf58ca_isNaN_12338] at hf
  refine g_start hG (by decide +kernel) (Nat.le_of_ble_eq_true rfl) ?_
  intro p e s m args below meth c X hr hlk ls hl H locs hP hS
  have X : Cx G p s m args c cJxf58ca_isNaN_12338 1 RJxf58ca := X
  obtain ⟨hx, hb, hml, hown, hts, hK, hbs, hXW, -⟩ := id X
  have hl : lv_has ls 1 [(0, .float x0)] := hl
  refine lv_fload_n hx hb dJxf58ca_isNaN_12338_0 rfl (lv_at hl 0 rfl) ?_
  refine lv_fload_n hx hb dJxf58ca_isNaN_12338_1 rfl (lv_at hl 0 rfl) ?_
  refine lv_fcmp hx hb dJxf58ca_isNaN_12338_2 ?_
  refine lv_if_eq (tgt := 10) hx hb dJxf58ca_isNaN_12338_3 (by decide) (fun hc => ?_) (fun hc => ?_)
  · have hf := ite_t hc hf
    refine lv_iconst (v := 0) hx hb dJxf58ca_isNaN_12338_10 (by decide) ?_
    exact g_zret (b := false) X hr hlk rfl hP hS (congrArg (Prod.mk σ) hf) dJxf58ca_isNaN_12338_11
  · have hf := ite_f hc hf
    refine lv_iconst (v := 1) hx hb dJxf58ca_isNaN_12338_6 (by decide) ?_
    refine lv_goto (tgt := 11) hx hb dJxf58ca_isNaN_12338_7 (by decide) ?_
    exact g_zret (b := true) X hr hlk rfl hP hS (congrArg (Prod.mk σ) hf) dJxf58ca_isNaN_12338_11
def f_Jxf58ca_floatToIntBits_5c35a (x0 : UInt32) : Int32 := (if (f_Jxf58ca_isNaN_12338 x0) = true then (2143289344 : Int32) else x0.toInt32)
abbrev rm_Jxf58ca_floatToIntBits_5c35a : Room := { frames := 1, cells := 0, slots := 0, locals := 60 }
set_option maxHeartbeats 4000000 in
set_option maxRecDepth 100000 in
theorem c_Jxf58ca_floatToIntBits_5c35a (l : Launch) (G : GE) (hG : Gok G) (σ : St) (x0 : UInt32) : MtI l G yJxf58ca_floatToIntBits_5c35a cJxf58ca_floatToIntBits_5c35a 1 rm_Jxf58ca_floatToIntBits_5c35a [.float x0] σ (σ, f_Jxf58ca_floatToIntBits_5c35a x0) := by
  generalize hf : f_Jxf58ca_floatToIntBits_5c35a x0 = fv
  rw [f_Jxf58ca_floatToIntBits_5c35a] at hf
  refine g_start hG (by decide +kernel) (Nat.le_of_ble_eq_true rfl) ?_
  intro p e s m args below meth c X hr hlk ls hl H locs hP hS
  have X : Cx G p s m args c cJxf58ca_floatToIntBits_5c35a 1 RJxf58ca := X
  obtain ⟨hx, hb, hml, hown, hts, hK, hbs, hXW, -⟩ := id X
  have hl : lv_has ls 1 [(0, .float x0)] := hl
  refine lv_fload_n hx hb dJxf58ca_floatToIntBits_5c35a_0 rfl (lv_at hl 0 rfl) ?_
  refine g_cZp (g_runS (As := [.float x0]) (rest := []) X (c_Jxf58ca_isNaN_12338 l G hG σ x0) ca_Jxf58ca_isNaN_12338 km_Jxf58ca_59 rfl rfl ⟨Nat.le_of_ble_eq_true rfl, Nat.le_of_ble_eq_true rfl⟩ hP hS rfl hl.1 rfl (Nat.le_of_ble_eq_true rfl) ⟨Nat.le_of_ble_eq_true rfl, Nat.le_of_ble_eq_true rfl⟩ dJxf58ca_floatToIntBits_5c35a_1) hS (fun H locs hP hS => ?_)
  refine g_ifneZ (tgt := 12) X dJxf58ca_floatToIntBits_5c35a_4 (by decide) (fun hc => ?_) (fun hc => ?_)
  · have hf := ite_t hc hf
    refine lv_ldc hx hb hown (hts _ kc_Jxf58ca_77) dJxf58ca_floatToIntBits_5c35a_12 ?_
    exact g_iret X hr hlk hP hS (congrArg (Prod.mk σ) hf) dJxf58ca_floatToIntBits_5c35a_14
  · have hf := ite_z hc hf
    refine lv_fload_n hx hb dJxf58ca_floatToIntBits_5c35a_7 rfl (lv_at hl 0 rfl) ?_
    refine vn_f2i hx hb (hml.trans hl.1.symm) hown (hts _ km_Jxf58ca_74) (hts _ fr_nat) (hts _ fr_sta) (hts _ fr_ini) (Nat.le_of_ble_eq_true rfl) (Nat.le_of_ble_eq_true rfl) dJxf58ca_floatToIntBits_5c35a_8 ?_
    exact g_iret X hr hlk hP hS (congrArg (Prod.mk σ) hf) dJxf58ca_floatToIntBits_5c35a_11
