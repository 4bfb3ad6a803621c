def f_L_inkNow (σ : St) : Int64 := ((f_Jxf58ca_floatToIntBits_5c35a (f_X9_inkNow σ))).toInt64
abbrev rm_L_inkNow : Room := { frames := 2, cells := 0, slots := 0, locals := 80 }
set_option maxHeartbeats 4000000 in
set_option maxRecDepth 100000 in
theorem c_L_inkNow (l : Launch) (G : GE) (hG : Gok G) (σ : St) : MtJ l G yL_inkNow cL_inkNow 1 rm_L_inkNow [.ref (G.2.1 0)] σ (σ, f_L_inkNow σ) := by
  generalize hf : f_L_inkNow σ = fv
  rw [f_L_inkNow] at hf
  refine g_start hG (plainFor_of_name (by decide)) (Nat.le_of_ble_eq_true rfl) ?_
  intro p e s m args below meth c X hr hlk ls hl H locs hP hS
  have X : Cx G p s m args c cL_inkNow 1 RL := X
  obtain ⟨hx, hb, hml, hown, hts, hK, hbs, hXW, -⟩ := id X
  have hl : lv_has ls 1 [(0, .ref (G.2.1 0))] := hl
  refine lv_aload_n hx hb dL_inkNow_0 rfl (lv_at hl 0 rfl) ?_
  refine g_cFp (g_runV (i := 0) (As := []) (rest := []) X (c_X9_inkNow l G hG σ) ca_X9_inkNow km_L_89 rfl rfl ⟨Nat.le_of_ble_eq_true rfl, Nat.le_of_ble_eq_true rfl⟩ hP hS (ty_lt ab_0) (cell_9 ab_0) rfl rfl rfl hl.1 rfl (Nat.le_of_ble_eq_true rfl) ⟨Nat.le_of_ble_eq_true rfl, Nat.le_of_ble_eq_true rfl⟩ dL_inkNow_1) hS (fun H locs hP hS => ?_)
  refine g_cIp (g_runS (As := [.float (f_X9_inkNow σ)]) (rest := []) X (c_Jxf58ca_floatToIntBits_5c35a l G hG σ (f_X9_inkNow σ)) ca_Jxf58ca_floatToIntBits_5c35a km_L_27 rfl rfl ⟨Nat.le_of_ble_eq_true rfl, Nat.le_of_ble_eq_true rfl⟩ hP hS rfl hl.1 rfl (Nat.le_of_ble_eq_true rfl) ⟨Nat.le_of_ble_eq_true rfl, Nat.le_of_ble_eq_true rfl⟩ dL_inkNow_4) hS (fun H locs hP hS => ?_)
  refine lv_i2l (v := ((f_Jxf58ca_floatToIntBits_5c35a (f_X9_inkNow σ))).toInt64) hx hb dL_inkNow_7 rfl ?_
  exact g_lret X hr hlk hP hS (congrArg (Prod.mk σ) hf) dL_inkNow_8
def f_L_hunger (σ : St) : Int64 := ((f_Jxf58ca_floatToIntBits_5c35a (f_X9_hunger σ))).toInt64
abbrev rm_L_hunger : Room := { frames := 2, cells := 0, slots := 0, locals := 80 }
set_option maxHeartbeats 4000000 in
set_option maxRecDepth 100000 in
theorem c_L_hunger (l : Launch) (G : GE) (hG : Gok G) (σ : St) : MtJ l G yL_hunger cL_hunger 1 rm_L_hunger [.ref (G.2.1 0)] σ (σ, f_L_hunger σ) := by
  generalize hf : f_L_hunger σ = fv
  rw [f_L_hunger] at hf
  refine g_start hG (plainFor_of_name (by decide)) (Nat.le_of_ble_eq_true rfl) ?_
  intro p e s m args below meth c X hr hlk ls hl H locs hP hS
  have X : Cx G p s m args c cL_hunger 1 RL := X
  obtain ⟨hx, hb, hml, hown, hts, hK, hbs, hXW, -⟩ := id X
  have hl : lv_has ls 1 [(0, .ref (G.2.1 0))] := hl
  refine lv_aload_n hx hb dL_hunger_0 rfl (lv_at hl 0 rfl) ?_
  refine g_cFp (g_runV (i := 0) (As := []) (rest := []) X (c_X9_hunger l G hG σ) ca_X9_hunger km_L_114 rfl rfl ⟨Nat.le_of_ble_eq_true rfl, Nat.le_of_ble_eq_true rfl⟩ hP hS (ty_lt ab_0) (cell_9 ab_0) rfl rfl rfl hl.1 rfl (Nat.le_of_ble_eq_true rfl) ⟨Nat.le_of_ble_eq_true rfl, Nat.le_of_ble_eq_true rfl⟩ dL_hunger_1) hS (fun H locs hP hS => ?_)
  refine g_cIp (g_runS (As := [.float (f_X9_hunger σ)]) (rest := []) X (c_Jxf58ca_floatToIntBits_5c35a l G hG σ (f_X9_hunger σ)) ca_Jxf58ca_floatToIntBits_5c35a km_L_27 rfl rfl ⟨Nat.le_of_ble_eq_true rfl, Nat.le_of_ble_eq_true rfl⟩ hP hS rfl hl.1 rfl (Nat.le_of_ble_eq_true rfl) ⟨Nat.le_of_ble_eq_true rfl, Nat.le_of_ble_eq_true rfl⟩ dL_hunger_4) hS (fun H locs hP hS => ?_)
  refine lv_i2l (v := ((f_Jxf58ca_floatToIntBits_5c35a (f_X9_hunger σ))).toInt64) hx hb dL_hunger_7 rfl ?_
  exact g_lret X hr hlk hP hS (congrArg (Prod.mk σ) hf) dL_hunger_8
def f_L_isWell (σ : St) : Int64 := (if (f_X9_isWell σ) = true then (1 : Int64) else (0 : Int64))
def ok_L_isWell (σ : St) : Prop := ok_X9_isWell σ
abbrev rm_L_isWell : Room := { frames := 6, cells := 0, slots := 0, locals := 129 }
set_option maxHeartbeats 4000000 in
set_option maxRecDepth 100000 in
theorem c_L_isWell (l : Launch) (G : GE) (hG : Gok G) (σ : St) (hok : ok_L_isWell σ) : MtJ l G yL_isWell cL_isWell 1 rm_L_isWell [.ref (G.2.1 0)] σ (σ, f_L_isWell σ) := by
  generalize hf : f_L_isWell σ = fv
  rw [f_L_isWell] at hf
  rw [ok_L_isWell] at hok
  refine g_start hG (plainFor_of_name (by decide)) (Nat.le_of_ble_eq_true rfl) ?_
  intro p e s m args below meth c X hr hlk ls hl H locs hP hS
  have X : Cx G p s m args c cL_isWell 1 RL := X
  obtain ⟨hx, hb, hml, hown, hts, hK, hbs, hXW, -⟩ := id X
  have hl : lv_has ls 1 [(0, .ref (G.2.1 0))] := hl
  refine lv_aload_n hx hb dL_isWell_0 rfl (lv_at hl 0 rfl) ?_
  have hs1 := hok
  refine g_cZp (g_runV (i := 0) (As := []) (rest := []) X (c_X9_isWell l G hG σ hs1) ca_X9_isWell km_L_149 rfl rfl ⟨Nat.le_of_ble_eq_true rfl, Nat.le_of_ble_eq_true rfl⟩ hP hS (ty_lt ab_0) (cell_9 ab_0) rfl rfl rfl hl.1 rfl (Nat.le_of_ble_eq_true rfl) ⟨Nat.le_of_ble_eq_true rfl, Nat.le_of_ble_eq_true rfl⟩ dL_isWell_1) hS (fun H locs hP hS => ?_)
  refine g_ifeqZ (tgt := 11) X dL_isWell_4 (by decide) (fun hc => ?_) (fun hc => ?_)
  · have hf := ite_z hc hf
    refine lv_lconst (v := 0) hx hb dL_isWell_11 (by decide) ?_
    exact g_lret X hr hlk hP hS (congrArg (Prod.mk σ) hf) dL_isWell_12
  · have hf := ite_t hc hf
    refine lv_lconst (v := 1) hx hb dL_isWell_7 (by decide) ?_
    refine lv_goto (tgt := 12) hx hb dL_isWell_8 (by decide) ?_
    exact g_lret X hr hlk hP hS (congrArg (Prod.mk σ) hf) dL_isWell_12
def f_L_save (σ : St) : St × Int64 := (bnd (f_X9_save σ) (fun q1 => (q1.1, (q1.2).toInt64)))
abbrev rm_L_save : Room := { frames := 4, cells := 0, slots := 0, locals := 122 }
set_option maxHeartbeats 4000000 in
set_option maxRecDepth 100000 in
theorem c_L_save (l : Launch) (G : GE) (hG : Gok G) (σ : St) : MtJ l G yL_save cL_save 1 rm_L_save [.ref (G.2.1 0)] σ (f_L_save σ) := by
  generalize hf : f_L_save σ = fv
  rw [f_L_save] at hf
  refine g_start hG (plainFor_of_name (by decide)) (Nat.le_of_ble_eq_true rfl) ?_
  intro p e s m args below meth c X hr hlk ls hl H locs hP hS
  have X : Cx G p s m args c cL_save 1 RL := X
  obtain ⟨hx, hb, hml, hown, hts, hK, hbs, hXW, -⟩ := id X
  have hl : lv_has ls 1 [(0, .ref (G.2.1 0))] := hl
  refine lv_aload_n hx hb dL_save_0 rfl (lv_at hl 0 rfl) ?_
  refine g_cI (g_runV (i := 0) (As := []) (rest := []) X (c_X9_save l G hG σ) ca_X9_save km_L_162 rfl rfl ⟨Nat.le_of_ble_eq_true rfl, Nat.le_of_ble_eq_true rfl⟩ hP hS (ty_lt ab_0) (cell_9 ab_0) rfl rfl rfl hl.1 rfl (Nat.le_of_ble_eq_true rfl) ⟨Nat.le_of_ble_eq_true rfl, Nat.le_of_ble_eq_true rfl⟩ dL_save_1) hS (fun q1 hq1 H locs hP hS => ?_)
  have hf := bnd_go hq1 hf
  refine lv_i2l (v := (q1.2).toInt64) hx hb dL_save_4 rfl ?_
  exact g_lret X hr hlk hP hS hf dL_save_5
def f_L_pick (x0 : Int32) (x1 : Int32) : Int32 := ((x0 &&& (2147483647 : Int32)) - (x0 &&& (2147483647 : Int32)) / x1 * x1)
def ok_L_pick (x0 : Int32) (x1 : Int32) : Prop := ¬ x1 = 0
abbrev rm_L_pick : Room := { frames := 0, cells := 0, slots := 0, locals := 0 }
set_option maxHeartbeats 4000000 in
set_option maxRecDepth 100000 in
theorem c_L_pick (l : Launch) (G : GE) (hG : Gok G) (σ : St) (x0 : Int32) (x1 : Int32) (hok : ok_L_pick x0 x1) : MtI l G yL_pick cL_pick 2 rm_L_pick [.int x0, .int x1] σ (σ, f_L_pick x0 x1) := by
  generalize hf : f_L_pick x0 x1 = fv
  rw [f_L_pick] at hf
  rw [ok_L_pick] at hok
  refine g_start hG (plainFor_of_name (by decide)) (Nat.le_of_ble_eq_true rfl) ?_
  intro p e s m args below meth c X hr hlk ls hl H locs hP hS
  have X : Cx G p s m args c cL_pick 2 RL := X
  obtain ⟨hx, hb, hml, hown, hts, hK, hbs, hXW, -⟩ := id X
  have hl : lv_has ls 2 [(0, .int x0), (1, .int x1)] := hl
  refine lv_iload_n hx hb dL_pick_0 rfl (lv_at hl 0 rfl) ?_
  refine lv_ldc hx hb hown (hts _ kc_L_168) dL_pick_1 ?_
  refine lv_iand hx hb dL_pick_3 ?_
  refine lv_iload_n hx hb dL_pick_4 rfl (lv_at hl 1 rfl) ?_
  have hs1 := hok
  refine lv_irem hx hb dL_pick_5 hs1 ?_
  exact g_iret X hr hlk hP hS (congrArg (Prod.mk σ) hf) dL_pick_6
