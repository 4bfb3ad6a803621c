def f_X10_append (σ : St) (x1 : Int32) : St × Int32 := (bnd (setI σ 196 0 (0 : Int32)) (fun q1 => (if (q1.1 196 18) = (60 : Int32) then (bnd (f_X10_fails q1 (1 : Int32)) (fun q5 => (q5.1, q5.2))) else (bnd (setI q1 206 (q1.1 196 18).toNatClampNeg (vp_nar .char x1)) (fun q3 => (bnd (setI q3 196 18 ((q3.1 196 18) + (1 : Int32))) (fun q4 => (q4, (q4.1 196 18)))))))))
def ok_X10_append (σ : St) (x1 : Int32) : Prop := (bndP (setI σ 196 0 (0 : Int32)) (fun q1 => (((q1.1 196 18) = (60 : Int32) → True) ∧ (¬ (q1.1 196 18) = (60 : Int32) → vp_in (q1.1 196 18) 60))))
abbrev rm_X10_append : Room := { frames := 1, cells := 0, slots := 0, locals := 21 }
set_option maxHeartbeats 4000000 in
set_option maxRecDepth 100000 in
theorem c_X10_append (l : Launch) (G : GE) (hG : Gok G) (σ : St) (x1 : Int32) (hok : ok_X10_append σ x1) : MtI l G yX10_append cX10_append 2 rm_X10_append [.ref (G.2.1 196), .int x1] σ (f_X10_append σ x1) := by
  generalize hf : f_X10_append σ x1 = fv
  rw [f_X10_append] at hf
  rw [ok_X10_append] at hok
  refine g_start hG (plainFor_of_name (by decide)) (Nat.le_of_ble_eq_true rfl) ?_
  intro p e s m args below meth c X hr hlk ls hl H locs hP hS
  have X : Cx G p s m args c cX10_append 2 RX10 := X
  obtain ⟨hx, hb, hml, hown, hts, hK, hbs, hXW, -⟩ := id X
  have hl : lv_has ls 2 [(0, .ref (G.2.1 196)), (1, .int x1)] := hl
  refine lv_aload_n hx hb dX10_append_0 rfl (lv_at hl 0 rfl) ?_
  refine lv_iconst (v := 0) hx hb dX10_append_1 (by decide) ?_
  refine gp_10_0 X hP hS ab_196 kf_X10_50 dX10_append_2 (fun H locs hP hS => ?_)
  refine g_name hP (fun q1 hq1 hP => ?_)
  have hf := bnd_go hq1 hf
  have hok := bnd_goP hq1 hok
  refine lv_aload_n hx hb dX10_append_5 rfl (lv_at hl 0 rfl) ?_
  refine gg_10_18 X hP ab_196 kf_X10_228 dX10_append_6 ?_
  refine lv_bipush (v := 60) hx hb dX10_append_9 (by decide) ?_
  refine lv_icmp_ne (tgt := 20) hx hb dX10_append_11 (by decide) (fun hc => ?_) (fun hc => ?_)
  · have hf := ite_f hc hf
    have hok := hok.2 hc
    refine lv_aload_n hx hb dX10_append_20 rfl (lv_at hl 0 rfl) ?_
    refine gg_10_17 X hP ab_196 kf_X10_38 dX10_append_21 ?_
    refine lv_aload_n hx hb dX10_append_24 rfl (lv_at hl 0 rfl) ?_
    refine gg_10_18 X hP ab_196 kf_X10_228 dX10_append_25 ?_
    refine lv_iload_n hx hb dX10_append_28 rfl (lv_at hl 1 rfl) ?_
    have hs2 := hok
    refine g_cast X hP hS ab_206 (by rw [al_206]; exact hs2) dX10_append_29 (fun H locs hP hS => ?_)
    refine g_name hP (fun q3 hq3 hP => ?_)
    have hf := bnd_go hq3 hf
    refine lv_aload_n hx hb dX10_append_30 rfl (lv_at hl 0 rfl) ?_
    refine lv_dup hx hb dX10_append_31 rfl ?_
    refine gg_10_18 X hP ab_196 kf_X10_228 dX10_append_32 ?_
    refine lv_iconst (v := 1) hx hb dX10_append_35 (by decide) ?_
    refine lv_iadd hx hb dX10_append_36 ?_
    refine gp_10_18 X hP hS ab_196 kf_X10_228 dX10_append_37 (fun H locs hP hS => ?_)
    refine g_name hP (fun q4 hq4 hP => ?_)
    have hf := bnd_go hq4 hf
    refine lv_aload_n hx hb dX10_append_40 rfl (lv_at hl 0 rfl) ?_
    refine gg_10_18 X hP ab_196 kf_X10_228 dX10_append_41 ?_
    exact g_iret X hr hlk hP hS hf dX10_append_44
  · have hf := ite_t hc hf
    refine lv_aload_n hx hb dX10_append_14 rfl (lv_at hl 0 rfl) ?_
    refine lv_iconst (v := 1) hx hb dX10_append_15 (by decide) ?_
    refine g_cI (g_runV (i := 196) (As := [.int (1 : Int32)]) (rest := []) X (c_X10_fails l G hG q1 (1 : Int32)) ca_X10_fails km_X10_59 rfl rfl ⟨Nat.le_of_ble_eq_true rfl, Nat.le_of_ble_eq_true rfl⟩ hP hS (ty_lt ab_196) (cell_10 ab_196) rfl rfl rfl hl.1 rfl (Nat.le_of_ble_eq_true rfl) ⟨Nat.le_of_ble_eq_true rfl, Nat.le_of_ble_eq_true rfl⟩ dX10_append_16) hS (fun q5 hq5 H locs hP hS => ?_)
    have hf := bnd_go hq5 hf
    exact g_iret X hr hlk hP hS hf dX10_append_19
def f_X10_next (σ : St) : Int32 := (if (σ.1 196 18) ≤ (σ.1 196 19) then (-1 : Int32) else (σ.1 206 (σ.1 196 19).toNatClampNeg))
def ok_X10_next (σ : St) : Prop := (((σ.1 196 18) ≤ (σ.1 196 19) → True) ∧ (¬ (σ.1 196 18) ≤ (σ.1 196 19) → vp_in (σ.1 196 19) 60))
abbrev rm_X10_next : Room := { frames := 0, cells := 0, slots := 0, locals := 0 }
set_option maxHeartbeats 4000000 in
set_option maxRecDepth 100000 in
theorem c_X10_next (l : Launch) (G : GE) (hG : Gok G) (σ : St) (hok : ok_X10_next σ) : MtI l G yX10_next cX10_next 1 rm_X10_next [.ref (G.2.1 196)] σ (σ, f_X10_next σ) := by
  generalize hf : f_X10_next σ = fv
  rw [f_X10_next] at hf
  rw [ok_X10_next] at hok
  refine g_start hG (plainFor_of_name (by decide)) (Nat.le_of_ble_eq_true rfl) ?_
  intro p e s m args below meth c X hr hlk ls hl H locs hP hS
  have X : Cx G p s m args c cX10_next 1 RX10 := X
  obtain ⟨hx, hb, hml, hown, hts, hK, hbs, hXW, -⟩ := id X
  have hl : lv_has ls 1 [(0, .ref (G.2.1 196))] := hl
  refine lv_aload_n hx hb dX10_next_0 rfl (lv_at hl 0 rfl) ?_
  refine gg_10_19 X hP ab_196 kf_X10_231 dX10_next_1 ?_
  refine lv_aload_n hx hb dX10_next_4 rfl (lv_at hl 0 rfl) ?_
  refine gg_10_18 X hP ab_196 kf_X10_228 dX10_next_5 ?_
  refine lv_icmp_ge (tgt := 23) hx hb dX10_next_8 (by decide) (fun hc => ?_) (fun hc => ?_)
  · have hf := ite_t hc hf
    refine lv_iconst (v := -1) hx hb dX10_next_23 (by decide) ?_
    exact g_iret X hr hlk hP hS (congrArg (Prod.mk σ) hf) dX10_next_24
  · have hf := ite_f hc hf
    have hok := hok.2 hc
    refine lv_aload_n hx hb dX10_next_11 rfl (lv_at hl 0 rfl) ?_
    refine gg_10_17 X hP ab_196 kf_X10_38 dX10_next_12 ?_
    refine lv_aload_n hx hb dX10_next_15 rfl (lv_at hl 0 rfl) ?_
    refine gg_10_19 X hP ab_196 kf_X10_231 dX10_next_16 ?_
    have hs1 := hok
    refine g_cald X hP ab_206 (by rw [al_206]; exact hs1) dX10_next_19 ?_
    refine lv_goto (tgt := 24) hx hb dX10_next_20 (by decide) ?_
    exact g_iret X hr hlk hP hS (congrArg (Prod.mk σ) hf) dX10_next_24
def f_X10_passesSign (σ : St) (x1 : Int32) : St × Bool := (if (f_X10_next σ) = x1 then (bnd (setI σ 196 19 ((σ.1 196 19) + (1 : Int32))) (fun q2 => (q2, true))) else (σ, false))
def ok_X10_passesSign (σ : St) (x1 : Int32) : Prop := ok_X10_next σ
abbrev rm_X10_passesSign : Room := { frames := 1, cells := 0, slots := 0, locals := 20 }
set_option maxHeartbeats 4000000 in
set_option maxRecDepth 100000 in
theorem c_X10_passesSign (l : Launch) (G : GE) (hG : Gok G) (σ : St) (x1 : Int32) (hok : ok_X10_passesSign σ x1) : MtZ l G yX10_passesSign cX10_passesSign 2 rm_X10_passesSign [.ref (G.2.1 196), .int x1] σ (f_X10_passesSign σ x1) := by
  generalize hf : f_X10_passesSign σ x1 = fv
  rw [f_X10_passesSign] at hf
  rw [ok_X10_passesSign] at hok
  refine g_start hG (plainFor_of_name (by decide)) (Nat.le_of_ble_eq_true rfl) ?_
  intro p e s m args below meth c X hr hlk ls hl H locs hP hS
  have X : Cx G p s m args c cX10_passesSign 2 RX10 := X
  obtain ⟨hx, hb, hml, hown, hts, hK, hbs, hXW, -⟩ := id X
  have hl : lv_has ls 2 [(0, .ref (G.2.1 196)), (1, .int x1)] := hl
  refine lv_aload_n hx hb dX10_passesSign_0 rfl (lv_at hl 0 rfl) ?_
  have hs1 := hok
  refine g_cIp (g_runV (i := 196) (As := []) (rest := []) X (c_X10_next l G hG σ hs1) ca_X10_next km_X10_234 rfl rfl ⟨Nat.le_of_ble_eq_true rfl, Nat.le_of_ble_eq_true rfl⟩ hP hS (ty_lt ab_196) (cell_10 ab_196) rfl rfl rfl hl.1 rfl (Nat.le_of_ble_eq_true rfl) ⟨Nat.le_of_ble_eq_true rfl, Nat.le_of_ble_eq_true rfl⟩ dX10_passesSign_1) hS (fun H locs hP hS => ?_)
  refine lv_iload_n hx hb dX10_passesSign_4 rfl (lv_at hl 1 rfl) ?_
  refine lv_icmp_eq (tgt := 10) hx hb dX10_passesSign_5 (by decide) (fun hc => ?_) (fun hc => ?_)
  · have hf := ite_t hc hf
    refine lv_aload_n hx hb dX10_passesSign_10 rfl (lv_at hl 0 rfl) ?_
    refine lv_dup hx hb dX10_passesSign_11 rfl ?_
    refine gg_10_19 X hP ab_196 kf_X10_231 dX10_passesSign_12 ?_
    refine lv_iconst (v := 1) hx hb dX10_passesSign_15 (by decide) ?_
    refine lv_iadd hx hb dX10_passesSign_16 ?_
    refine gp_10_19 X hP hS ab_196 kf_X10_231 dX10_passesSign_17 (fun H locs hP hS => ?_)
    refine g_name hP (fun q2 hq2 hP => ?_)
    have hf := bnd_go hq2 hf
    refine lv_iconst (v := 1) hx hb dX10_passesSign_20 (by decide) ?_
    exact g_zret (b := true) X hr hlk rfl hP hS hf dX10_passesSign_21
  · have hf := ite_f hc hf
    refine lv_iconst (v := 0) hx hb dX10_passesSign_8 (by decide) ?_
    exact g_zret (b := false) X hr hlk rfl hP hS hf dX10_passesSign_9
def f_X10_readsDigit (σ : St) (x1 : Int32) : St × Bool := (if (f_X10_isBetween (f_X10_next σ) (48 : Int32) (57 : Int32)) = true then (bnd (setI σ 207 x1.toNatClampNeg ((σ.1 206 (σ.1 196 19).toNatClampNeg) - (48 : Int32))) (fun q4 => (bnd (setI q4 196 19 ((q4.1 196 19) + (1 : Int32))) (fun q5 => (q5, true))))) else (σ, false))
def ok_X10_readsDigit (σ : St) (x1 : Int32) : Prop := (ok_X10_next σ ∧ (((f_X10_isBetween (f_X10_next σ) (48 : Int32) (57 : Int32)) = true → (vp_in (σ.1 196 19) 60 ∧ vp_in x1 4)) ∧ ((f_X10_isBetween (f_X10_next σ) (48 : Int32) (57 : Int32)) = false → True)))
abbrev rm_X10_readsDigit : Room := { frames := 1, cells := 0, slots := 0, locals := 22 }
set_option maxHeartbeats 4000000 in
set_option maxRecDepth 100000 in
theorem c_X10_readsDigit (l : Launch) (G : GE) (hG : Gok G) (σ : St) (x1 : Int32) (hok : ok_X10_readsDigit σ x1) : MtZ l G yX10_readsDigit cX10_readsDigit 2 rm_X10_readsDigit [.ref (G.2.1 196), .int x1] σ (f_X10_readsDigit σ x1) := by
  generalize hf : f_X10_readsDigit σ x1 = fv
  rw [f_X10_readsDigit] at hf
  rw [ok_X10_readsDigit] at hok
  refine g_start hG (plainFor_of_name (by decide)) (Nat.le_of_ble_eq_true rfl) ?_
  intro p e s m args below meth c X hr hlk ls hl H locs hP hS
  have X : Cx G p s m args c cX10_readsDigit 2 RX10 := X
  obtain ⟨hx, hb, hml, hown, hts, hK, hbs, hXW, -⟩ := id X
  have hl : lv_has ls 2 [(0, .ref (G.2.1 196)), (1, .int x1)] := hl
  refine lv_aload_n hx hb dX10_readsDigit_0 rfl (lv_at hl 0 rfl) ?_
  have hs1 := hok.1
  have hok := hok.2
  refine g_cIp (g_runV (i := 196) (As := []) (rest := []) X (c_X10_next l G hG σ hs1) ca_X10_next km_X10_234 rfl rfl ⟨Nat.le_of_ble_eq_true rfl, Nat.le_of_ble_eq_true rfl⟩ hP hS (ty_lt ab_196) (cell_10 ab_196) rfl rfl rfl hl.1 rfl (Nat.le_of_ble_eq_true rfl) ⟨Nat.le_of_ble_eq_true rfl, Nat.le_of_ble_eq_true rfl⟩ dX10_readsDigit_1) hS (fun H locs hP hS => ?_)
  refine lv_bipush (v := 48) hx hb dX10_readsDigit_4 (by decide) ?_
  refine lv_bipush (v := 57) hx hb dX10_readsDigit_6 (by decide) ?_
  refine g_cZp (g_runS (As := [.int (f_X10_next σ), .int (48 : Int32), .int (57 : Int32)]) (rest := []) X (c_X10_isBetween l G hG σ (f_X10_next σ) (48 : Int32) (57 : Int32)) ca_X10_isBetween km_X10_81 rfl rfl ⟨Nat.le_of_ble_eq_true rfl, Nat.le_of_ble_eq_true rfl⟩ hP hS rfl hl.1 rfl (Nat.le_of_ble_eq_true rfl) ⟨Nat.le_of_ble_eq_true rfl, Nat.le_of_ble_eq_true rfl⟩ dX10_readsDigit_8) hS (fun H locs hP hS => ?_)
  refine g_ifneZ (tgt := 16) X dX10_readsDigit_11 (by decide) (fun hc => ?_) (fun hc => ?_)
  · have hf := ite_t hc hf
    have hok := hok.1 hc
    refine lv_aload_n hx hb dX10_readsDigit_16 rfl (lv_at hl 0 rfl) ?_
    refine gg_10_21 X hP ab_196 kf_X10_46 dX10_readsDigit_17 ?_
    refine lv_iload_n hx hb dX10_readsDigit_20 rfl (lv_at hl 1 rfl) ?_
    refine lv_aload_n hx hb dX10_readsDigit_21 rfl (lv_at hl 0 rfl) ?_
    refine gg_10_17 X hP ab_196 kf_X10_38 dX10_readsDigit_22 ?_
    refine lv_aload_n hx hb dX10_readsDigit_25 rfl (lv_at hl 0 rfl) ?_
    refine gg_10_19 X hP ab_196 kf_X10_231 dX10_readsDigit_26 ?_
    have hs2 := hok.1
    have hok := hok.2
    refine g_cald X hP ab_206 (by rw [al_206]; exact hs2) dX10_readsDigit_29 ?_
    refine lv_bipush (v := 48) hx hb dX10_readsDigit_30 (by decide) ?_
    refine lv_isub hx hb dX10_readsDigit_32 ?_
    have hs3 := hok
    refine g_iast X hP hS ab_207 (by rw [al_207]; exact hs3) dX10_readsDigit_33 (fun H locs hP hS => ?_)
    refine g_name hP (fun q4 hq4 hP => ?_)
    have hf := bnd_go hq4 hf
    refine lv_aload_n hx hb dX10_readsDigit_34 rfl (lv_at hl 0 rfl) ?_
    refine lv_dup hx hb dX10_readsDigit_35 rfl ?_
    refine gg_10_19 X hP ab_196 kf_X10_231 dX10_readsDigit_36 ?_
    refine lv_iconst (v := 1) hx hb dX10_readsDigit_39 (by decide) ?_
    refine lv_iadd hx hb dX10_readsDigit_40 ?_
    refine gp_10_19 X hP hS ab_196 kf_X10_231 dX10_readsDigit_41 (fun H locs hP hS => ?_)
    refine g_name hP (fun q5 hq5 hP => ?_)
    have hf := bnd_go hq5 hf
    refine lv_iconst (v := 1) hx hb dX10_readsDigit_44 (by decide) ?_
    exact g_zret (b := true) X hr hlk rfl hP hS hf dX10_readsDigit_45
  · have hf := ite_z hc hf
    refine lv_iconst (v := 0) hx hb dX10_readsDigit_14 (by decide) ?_
    exact g_zret (b := false) X hr hlk rfl hP hS hf dX10_readsDigit_15
def f_X10_readsNumber (σ : St) (x1 : Int32) : St × Bool := (bnd (f_X10_readsDigit σ x1) (fun q2 => (if q2.2 = true then (bnd (f_X10_readsDigit q2.1 x1) (fun q5 => (if q5.2 = true then (bnd (setI q5.1 207 x1.toNatClampNeg ((q5.1.1 207 x1.toNatClampNeg) + ((10 : Int32) * (q2.1.1 207 x1.toNatClampNeg)))) (fun q8 => (q8, true))) else (q5.1, true)))) else (q2.1, false))))
def ok_X10_readsNumber (σ : St) (x1 : Int32) : Prop := (ok_X10_readsDigit σ x1 ∧ (bndP (f_X10_readsDigit σ x1) (fun q2 => ((q2.2 = true → (vp_in x1 4 ∧ (ok_X10_readsDigit q2.1 x1 ∧ (bndP (f_X10_readsDigit q2.1 x1) (fun q5 => ((q5.2 = true → (vp_in x1 4 ∧ vp_in x1 4)) ∧ (q5.2 = false → True))))))) ∧ (q2.2 = false → True)))))
abbrev rm_X10_readsNumber : Room := { frames := 2, cells := 0, slots := 0, locals := 43 }
set_option maxHeartbeats 4000000 in
set_option maxRecDepth 100000 in
theorem c_X10_readsNumber (l : Launch) (G : GE) (hG : Gok G) (σ : St) (x1 : Int32) (hok : ok_X10_readsNumber σ x1) : MtZ l G yX10_readsNumber cX10_readsNumber 3 rm_X10_readsNumber [.ref (G.2.1 196), .int x1] σ (f_X10_readsNumber σ x1) := by
  generalize hf : f_X10_readsNumber σ x1 = fv
  rw [f_X10_readsNumber] at hf
  rw [ok_X10_readsNumber] at hok
  refine g_start hG (plainFor_of_name (by decide)) (Nat.le_of_ble_eq_true rfl) ?_
  intro p e s m args below meth c X hr hlk ls hl H locs hP hS
  have X : Cx G p s m args c cX10_readsNumber 3 RX10 := X
  obtain ⟨hx, hb, hml, hown, hts, hK, hbs, hXW, -⟩ := id X
  have hl : lv_has ls 3 [(0, .ref (G.2.1 196)), (1, .int x1)] := hl
  refine lv_aload_n hx hb dX10_readsNumber_0 rfl (lv_at hl 0 rfl) ?_
  refine lv_iload_n hx hb dX10_readsNumber_1 rfl (lv_at hl 1 rfl) ?_
  have hs1 := hok.1
  have hok := hok.2
  refine g_cZ (g_runV (i := 196) (As := [.int x1]) (rest := []) X (c_X10_readsDigit l G hG σ x1 hs1) ca_X10_readsDigit km_X10_237 rfl rfl ⟨Nat.le_of_ble_eq_true rfl, Nat.le_of_ble_eq_true rfl⟩ hP hS (ty_lt ab_196) (cell_10 ab_196) rfl rfl rfl hl.1 rfl (Nat.le_of_ble_eq_true rfl) ⟨Nat.le_of_ble_eq_true rfl, Nat.le_of_ble_eq_true rfl⟩ dX10_readsNumber_2) hS (fun q2 hq2 H locs hP hS => ?_)
  have hf := bnd_go hq2 hf
  have hok := bnd_goP hq2 hok
  refine g_ifneZ (tgt := 10) X dX10_readsNumber_5 (by decide) (fun hc => ?_) (fun hc => ?_)
  · have hf := ite_t hc hf
    have hok := hok.1 hc
    refine lv_aload_n hx hb dX10_readsNumber_10 rfl (lv_at hl 0 rfl) ?_
    refine gg_10_21 X hP ab_196 kf_X10_46 dX10_readsNumber_11 ?_
    refine lv_iload_n hx hb dX10_readsNumber_14 rfl (lv_at hl 1 rfl) ?_
    have hs3 := hok.1
    have hok := hok.2
    refine g_iald X hP ab_207 (by rw [al_207]; exact hs3) dX10_readsNumber_15 ?_
    refine lv_istore_n (lv' := [(2, .int (q2.1.1 207 x1.toNatClampNeg)), (0, .ref (G.2.1 196)), (1, .int x1)]) hx hb dX10_readsNumber_16 rfl hl (by decide) rfl (fun ls hl => ?_)
    refine lv_aload_n hx hb dX10_readsNumber_17 rfl (lv_at hl 1 rfl) ?_
    refine lv_iload_n hx hb dX10_readsNumber_18 rfl (lv_at hl 2 rfl) ?_
    have hs4 := hok.1
    have hok := hok.2
    refine g_cZ (g_runV (i := 196) (As := [.int x1]) (rest := []) X (c_X10_readsDigit l G hG q2.1 x1 hs4) ca_X10_readsDigit km_X10_237 rfl rfl ⟨Nat.le_of_ble_eq_true rfl, Nat.le_of_ble_eq_true rfl⟩ hP hS (ty_lt ab_196) (cell_10 ab_196) rfl rfl rfl hl.1 rfl (Nat.le_of_ble_eq_true rfl) ⟨Nat.le_of_ble_eq_true rfl, Nat.le_of_ble_eq_true rfl⟩ dX10_readsNumber_19) hS (fun q5 hq5 H locs hP hS => ?_)
    have hf := bnd_go hq5 hf
    have hok := bnd_goP hq5 hok
    refine g_ifeqZ (tgt := 38) X dX10_readsNumber_22 (by decide) (fun hc => ?_) (fun hc => ?_)
    · have hf := ite_z hc hf
      refine lv_iconst (v := 1) hx hb dX10_readsNumber_38 (by decide) ?_
      exact g_zret (b := true) X hr hlk rfl hP hS hf dX10_readsNumber_39
    · have hf := ite_t hc hf
      have hok := hok.1 hc
      refine lv_aload_n hx hb dX10_readsNumber_25 rfl (lv_at hl 1 rfl) ?_
      refine gg_10_21 X hP ab_196 kf_X10_46 dX10_readsNumber_26 ?_
      refine lv_iload_n hx hb dX10_readsNumber_29 rfl (lv_at hl 2 rfl) ?_
      refine lv_dup2_11 hx hb dX10_readsNumber_30 rfl rfl ?_
      have hs6 := hok.1
      have hok := hok.2
      refine g_iald X hP ab_207 (by rw [al_207]; exact hs6) dX10_readsNumber_31 ?_
      refine lv_bipush (v := 10) hx hb dX10_readsNumber_32 (by decide) ?_
      refine lv_iload_n hx hb dX10_readsNumber_34 rfl (lv_at hl 0 rfl) ?_
      refine lv_imul hx hb dX10_readsNumber_35 ?_
      refine lv_iadd hx hb dX10_readsNumber_36 ?_
      have hs7 := hok
      refine g_iast X hP hS ab_207 (by rw [al_207]; exact hs7) dX10_readsNumber_37 (fun H locs hP hS => ?_)
      refine g_name hP (fun q8 hq8 hP => ?_)
      have hf := bnd_go hq8 hf
      refine lv_iconst (v := 1) hx hb dX10_readsNumber_38 (by decide) ?_
      exact g_zret (b := true) X hr hlk rfl hP hS hf dX10_readsNumber_39
  · have hf := ite_z hc hf
    refine lv_iconst (v := 0) hx hb dX10_readsNumber_8 (by decide) ?_
    exact g_zret (b := false) X hr hlk rfl hP hS hf dX10_readsNumber_9
def f_X10_isSort (σ : St) (x1 : Int32) (x2 : Int32) : St × Bool := (bnd (f_X10_passesSign σ x1) (fun q2 => (if q2.2 = true then (bnd (setI q2.1 196 22 x2) (fun q3 => (q3, true))) else (q2.1, false))))
def ok_X10_isSort (σ : St) (x1 : Int32) (x2 : Int32) : Prop := ok_X10_passesSign σ x1
abbrev rm_X10_isSort : Room := { frames := 2, cells := 0, slots := 0, locals := 41 }
set_option maxHeartbeats 4000000 in
set_option maxRecDepth 100000 in
theorem c_X10_isSort (l : Launch) (G : GE) (hG : Gok G) (σ : St) (x1 : Int32) (x2 : Int32) (hok : ok_X10_isSort σ x1 x2) : MtZ l G yX10_isSort cX10_isSort 3 rm_X10_isSort [.ref (G.2.1 196), .int x1, .int x2] σ (f_X10_isSort σ x1 x2) := by
  generalize hf : f_X10_isSort σ x1 x2 = fv
  rw [f_X10_isSort] at hf
  rw [ok_X10_isSort] at hok
  refine g_start hG (plainFor_of_name (by decide)) (Nat.le_of_ble_eq_true rfl) ?_
  intro p e s m args below meth c X hr hlk ls hl H locs hP hS
  have X : Cx G p s m args c cX10_isSort 3 RX10 := X
  obtain ⟨hx, hb, hml, hown, hts, hK, hbs, hXW, -⟩ := id X
  have hl : lv_has ls 3 [(0, .ref (G.2.1 196)), (1, .int x1), (2, .int x2)] := hl
  refine lv_aload_n hx hb dX10_isSort_0 rfl (lv_at hl 0 rfl) ?_
  refine lv_iload_n hx hb dX10_isSort_1 rfl (lv_at hl 1 rfl) ?_
  have hs1 := hok
  refine g_cZ (g_runV (i := 196) (As := [.int x1]) (rest := []) X (c_X10_passesSign l G hG σ x1 hs1) ca_X10_passesSign km_X10_240 rfl rfl ⟨Nat.le_of_ble_eq_true rfl, Nat.le_of_ble_eq_true rfl⟩ hP hS (ty_lt ab_196) (cell_10 ab_196) rfl rfl rfl hl.1 rfl (Nat.le_of_ble_eq_true rfl) ⟨Nat.le_of_ble_eq_true rfl, Nat.le_of_ble_eq_true rfl⟩ dX10_isSort_2) hS (fun q2 hq2 H locs hP hS => ?_)
  have hf := bnd_go hq2 hf
  refine g_ifneZ (tgt := 10) X dX10_isSort_5 (by decide) (fun hc => ?_) (fun hc => ?_)
  · have hf := ite_t hc hf
    refine lv_aload_n hx hb dX10_isSort_10 rfl (lv_at hl 0 rfl) ?_
    refine lv_iload_n hx hb dX10_isSort_11 rfl (lv_at hl 2 rfl) ?_
    refine gp_10_22 X hP hS ab_196 kf_X10_243 dX10_isSort_12 (fun H locs hP hS => ?_)
    refine g_name hP (fun q3 hq3 hP => ?_)
    have hf := bnd_go hq3 hf
    refine lv_iconst (v := 1) hx hb dX10_isSort_15 (by decide) ?_
    exact g_zret (b := true) X hr hlk rfl hP hS hf dX10_isSort_16
  · have hf := ite_z hc hf
    refine lv_iconst (v := 0) hx hb dX10_isSort_8 (by decide) ?_
    exact g_zret (b := false) X hr hlk rfl hP hS hf dX10_isSort_9
def f_X10_readsOrder (σ : St) : St × Bool := (bnd (f_X10_isSort σ (119 : Int32) (0 : Int32)) (fun q2 => (if q2.2 = true then (bnd (f_X10_readsDigit q2.1 (0 : Int32)) (fun q28 => (if q28.2 = true then (bnd (f_X10_passesSign q28.1 (62 : Int32)) (fun q30 => (if q30.2 = true then (bnd (f_X10_readsDigit q30.1 (1 : Int32)) (fun q32 => (if q32.2 = true then (bnd (f_X10_passesSign q32.1 (42 : Int32)) (fun q34 => (if q34.2 = true then (bnd (f_X10_readsNumber q34.1 (2 : Int32)) (fun q36 => (if q36.2 = true then (bnd (f_X10_passesSign q36.1 (47 : Int32)) (fun q38 => (if q38.2 = true then (bnd (f_X10_readsDigit q38.1 (3 : Int32)) (fun q40 => (if q40.2 = true then (q40.1, true) else (q40.1, false)))) else (q38.1, false)))) else (q36.1, false)))) else (q34.1, false)))) else (q32.1, false)))) else (q30.1, false)))) else (q28.1, false)))) else (bnd (f_X10_isSort q2.1 (115 : Int32) (1 : Int32)) (fun q4 => (if q4.2 = true then (bnd (f_X10_readsNumber q4.1 (0 : Int32)) (fun q22 => (if q22.2 = true then (bnd (f_X10_passesSign q22.1 (64 : Int32)) (fun q24 => (if q24.2 = true then (bnd (f_X10_readsDigit q24.1 (1 : Int32)) (fun q26 => (if q26.2 = true then (q26.1, true) else (q26.1, false)))) else (q24.1, false)))) else (q22.1, false)))) else (bnd (f_X10_isSort q4.1 (104 : Int32) (2 : Int32)) (fun q6 => (if q6.2 = true then (bnd (f_X10_readsNumber q6.1 (0 : Int32)) (fun q8 => (q8.1, q8.2))) else (bnd (f_X10_isSort q6.1 (112 : Int32) (5 : Int32)) (fun q10 => (if q10.2 = true then (bnd (f_X10_readsNumber q10.1 (0 : Int32)) (fun q20 => (q20.1, q20.2))) else (bnd (f_X10_isSort q10.1 (116 : Int32) (3 : Int32)) (fun q12 => (if q12.2 = true then (bnd (f_X10_readsDigit q12.1 (0 : Int32)) (fun q14 => (if q14.2 = true then (q14.1, true) else (q14.1, false)))) else (bnd (f_X10_isSort q12.1 (102 : Int32) (4 : Int32)) (fun q16 => (if q16.2 = true then (bnd (f_X10_readsDigit q16.1 (0 : Int32)) (fun q18 => (if q18.2 = true then (q18.1, true) else (q18.1, false)))) else (q16.1, false)))))))))))))))))))
def ok_X10_readsOrder (σ : St) : Prop := (ok_X10_isSort σ (119 : Int32) (0 : Int32) ∧ (bndP (f_X10_isSort σ (119 : Int32) (0 : Int32)) (fun q2 => ((q2.2 = true → (ok_X10_readsDigit q2.1 (0 : Int32) ∧ (bndP (f_X10_readsDigit q2.1 (0 : Int32)) (fun q28 => ((q28.2 = true → (ok_X10_passesSign q28.1 (62 : Int32) ∧ (bndP (f_X10_passesSign q28.1 (62 : Int32)) (fun q30 => ((q30.2 = true → (ok_X10_readsDigit q30.1 (1 : Int32) ∧ (bndP (f_X10_readsDigit q30.1 (1 : Int32)) (fun q32 => ((q32.2 = true → (ok_X10_passesSign q32.1 (42 : Int32) ∧ (bndP (f_X10_passesSign q32.1 (42 : Int32)) (fun q34 => ((q34.2 = true → (ok_X10_readsNumber q34.1 (2 : Int32) ∧ (bndP (f_X10_readsNumber q34.1 (2 : Int32)) (fun q36 => ((q36.2 = true → (ok_X10_passesSign q36.1 (47 : Int32) ∧ (bndP (f_X10_passesSign q36.1 (47 : Int32)) (fun q38 => ((q38.2 = true → ok_X10_readsDigit q38.1 (3 : Int32)) ∧ (q38.2 = false → True)))))) ∧ (q36.2 = false → True)))))) ∧ (q34.2 = false → True)))))) ∧ (q32.2 = false → True)))))) ∧ (q30.2 = false → True)))))) ∧ (q28.2 = false → True)))))) ∧ (q2.2 = false → (ok_X10_isSort q2.1 (115 : Int32) (1 : Int32) ∧ (bndP (f_X10_isSort q2.1 (115 : Int32) (1 : Int32)) (fun q4 => ((q4.2 = true → (ok_X10_readsNumber q4.1 (0 : Int32) ∧ (bndP (f_X10_readsNumber q4.1 (0 : Int32)) (fun q22 => ((q22.2 = true → (ok_X10_passesSign q22.1 (64 : Int32) ∧ (bndP (f_X10_passesSign q22.1 (64 : Int32)) (fun q24 => ((q24.2 = true → ok_X10_readsDigit q24.1 (1 : Int32)) ∧ (q24.2 = false → True)))))) ∧ (q22.2 = false → True)))))) ∧ (q4.2 = false → (ok_X10_isSort q4.1 (104 : Int32) (2 : Int32) ∧ (bndP (f_X10_isSort q4.1 (104 : Int32) (2 : Int32)) (fun q6 => ((q6.2 = true → ok_X10_readsNumber q6.1 (0 : Int32)) ∧ (q6.2 = false → (ok_X10_isSort q6.1 (112 : Int32) (5 : Int32) ∧ (bndP (f_X10_isSort q6.1 (112 : Int32) (5 : Int32)) (fun q10 => ((q10.2 = true → ok_X10_readsNumber q10.1 (0 : Int32)) ∧ (q10.2 = false → (ok_X10_isSort q10.1 (116 : Int32) (3 : Int32) ∧ (bndP (f_X10_isSort q10.1 (116 : Int32) (3 : Int32)) (fun q12 => ((q12.2 = true → ok_X10_readsDigit q12.1 (0 : Int32)) ∧ (q12.2 = false → (ok_X10_isSort q12.1 (102 : Int32) (4 : Int32) ∧ (bndP (f_X10_isSort q12.1 (102 : Int32) (4 : Int32)) (fun q16 => ((q16.2 = true → ok_X10_readsDigit q16.1 (0 : Int32)) ∧ (q16.2 = false → True))))))))))))))))))))))))))))))
abbrev rm_X10_readsOrder : Room := { frames := 3, cells := 0, slots := 0, locals := 65 }
set_option maxHeartbeats 4000000 in
set_option maxRecDepth 100000 in
theorem c_X10_readsOrder (l : Launch) (G : GE) (hG : Gok G) (σ : St) (hok : ok_X10_readsOrder σ) : MtZ l G yX10_readsOrder cX10_readsOrder 1 rm_X10_readsOrder [.ref (G.2.1 196)] σ (f_X10_readsOrder σ) := by
  generalize hf : f_X10_readsOrder σ = fv
  rw [f_X10_readsOrder] at hf
  rw [ok_X10_readsOrder] at hok
  refine g_start hG (plainFor_of_name (by decide)) (Nat.le_of_ble_eq_true rfl) ?_
  intro p e s m args below meth c X hr hlk ls hl H locs hP hS
  have X : Cx G p s m args c cX10_readsOrder 1 RX10 := X
  obtain ⟨hx, hb, hml, hown, hts, hK, hbs, hXW, -⟩ := id X
  have hl : lv_has ls 1 [(0, .ref (G.2.1 196))] := hl
  refine lv_aload_n hx hb dX10_readsOrder_0 rfl (lv_at hl 0 rfl) ?_
  refine lv_bipush (v := 119) hx hb dX10_readsOrder_1 (by decide) ?_
  refine lv_iconst (v := 0) hx hb dX10_readsOrder_3 (by decide) ?_
  have hs1 := hok.1
  have hok := hok.2
  refine g_cZ (g_runV (i := 196) (As := [.int (119 : Int32), .int (0 : Int32)]) (rest := []) X (c_X10_isSort l G hG σ (119 : Int32) (0 : Int32) hs1) ca_X10_isSort km_X10_246 rfl rfl ⟨Nat.le_of_ble_eq_true rfl, Nat.le_of_ble_eq_true rfl⟩ hP hS (ty_lt ab_196) (cell_10 ab_196) rfl rfl rfl hl.1 rfl (Nat.le_of_ble_eq_true rfl) ⟨Nat.le_of_ble_eq_true rfl, Nat.le_of_ble_eq_true rfl⟩ dX10_readsOrder_4) hS (fun q2 hq2 H locs hP hS => ?_)
  have hf := bnd_go hq2 hf
  have hok := bnd_goP hq2 hok
  refine g_ifeqZ (tgt := 75) X dX10_readsOrder_7 (by decide) (fun hc => ?_) (fun hc => ?_)
  · have hf := ite_z hc hf
    have hok := hok.2 hc
    refine lv_aload_n hx hb dX10_readsOrder_75 rfl (lv_at hl 0 rfl) ?_
    refine lv_bipush (v := 115) hx hb dX10_readsOrder_76 (by decide) ?_
    refine lv_iconst (v := 1) hx hb dX10_readsOrder_78 (by decide) ?_
    have hs3 := hok.1
    have hok := hok.2
    refine g_cZ (g_runV (i := 196) (As := [.int (115 : Int32), .int (1 : Int32)]) (rest := []) X (c_X10_isSort l G hG q2.1 (115 : Int32) (1 : Int32) hs3) ca_X10_isSort km_X10_246 rfl rfl ⟨Nat.le_of_ble_eq_true rfl, Nat.le_of_ble_eq_true rfl⟩ hP hS (ty_lt ab_196) (cell_10 ab_196) rfl rfl rfl hl.1 rfl (Nat.le_of_ble_eq_true rfl) ⟨Nat.le_of_ble_eq_true rfl, Nat.le_of_ble_eq_true rfl⟩ dX10_readsOrder_79) hS (fun q4 hq4 H locs hP hS => ?_)
    have hf := bnd_go hq4 hf
    have hok := bnd_goP hq4 hok
    refine g_ifeqZ (tgt := 116) X dX10_readsOrder_82 (by decide) (fun hc => ?_) (fun hc => ?_)
    · have hf := ite_z hc hf
      have hok := hok.2 hc
      refine lv_aload_n hx hb dX10_readsOrder_116 rfl (lv_at hl 0 rfl) ?_
      refine lv_bipush (v := 104) hx hb dX10_readsOrder_117 (by decide) ?_
      refine lv_iconst (v := 2) hx hb dX10_readsOrder_119 (by decide) ?_
      have hs5 := hok.1
      have hok := hok.2
      refine g_cZ (g_runV (i := 196) (As := [.int (104 : Int32), .int (2 : Int32)]) (rest := []) X (c_X10_isSort l G hG q4.1 (104 : Int32) (2 : Int32) hs5) ca_X10_isSort km_X10_246 rfl rfl ⟨Nat.le_of_ble_eq_true rfl, Nat.le_of_ble_eq_true rfl⟩ hP hS (ty_lt ab_196) (cell_10 ab_196) rfl rfl rfl hl.1 rfl (Nat.le_of_ble_eq_true rfl) ⟨Nat.le_of_ble_eq_true rfl, Nat.le_of_ble_eq_true rfl⟩ dX10_readsOrder_120) hS (fun q6 hq6 H locs hP hS => ?_)
      have hf := bnd_go hq6 hf
      have hok := bnd_goP hq6 hok
      refine g_ifneZ (tgt := 136) X dX10_readsOrder_123 (by decide) (fun hc => ?_) (fun hc => ?_)
      · have hf := ite_t hc hf
        have hok := hok.1 hc
        refine lv_aload_n hx hb dX10_readsOrder_136 rfl (lv_at hl 0 rfl) ?_
        refine lv_iconst (v := 0) hx hb dX10_readsOrder_137 (by decide) ?_
        have hs7 := hok
        refine g_cZ (g_runV (i := 196) (As := [.int (0 : Int32)]) (rest := []) X (c_X10_readsNumber l G hG q6.1 (0 : Int32) hs7) ca_X10_readsNumber km_X10_250 rfl rfl ⟨Nat.le_of_ble_eq_true rfl, Nat.le_of_ble_eq_true rfl⟩ hP hS (ty_lt ab_196) (cell_10 ab_196) rfl rfl rfl hl.1 rfl (Nat.le_of_ble_eq_true rfl) ⟨Nat.le_of_ble_eq_true rfl, Nat.le_of_ble_eq_true rfl⟩ dX10_readsOrder_138) hS (fun q8 hq8 H locs hP hS => ?_)
        have hf := bnd_go hq8 hf
        exact g_zret (b := q8.2) X hr hlk rfl hP hS hf dX10_readsOrder_141
      · have hf := ite_z hc hf
        have hok := hok.2 hc
        refine lv_aload_n hx hb dX10_readsOrder_126 rfl (lv_at hl 0 rfl) ?_
        refine lv_bipush (v := 112) hx hb dX10_readsOrder_127 (by decide) ?_
        refine lv_iconst (v := 5) hx hb dX10_readsOrder_129 (by decide) ?_
        have hs9 := hok.1
        have hok := hok.2
        refine g_cZ (g_runV (i := 196) (As := [.int (112 : Int32), .int (5 : Int32)]) (rest := []) X (c_X10_isSort l G hG q6.1 (112 : Int32) (5 : Int32) hs9) ca_X10_isSort km_X10_246 rfl rfl ⟨Nat.le_of_ble_eq_true rfl, Nat.le_of_ble_eq_true rfl⟩ hP hS (ty_lt ab_196) (cell_10 ab_196) rfl rfl rfl hl.1 rfl (Nat.le_of_ble_eq_true rfl) ⟨Nat.le_of_ble_eq_true rfl, Nat.le_of_ble_eq_true rfl⟩ dX10_readsOrder_130) hS (fun q10 hq10 H locs hP hS => ?_)
        have hf := bnd_go hq10 hf
        have hok := bnd_goP hq10 hok
        refine g_ifeqZ (tgt := 142) X dX10_readsOrder_133 (by decide) (fun hc => ?_) (fun hc => ?_)
        · have hf := ite_z hc hf
          have hok := hok.2 hc
          refine lv_aload_n hx hb dX10_readsOrder_142 rfl (lv_at hl 0 rfl) ?_
          refine lv_bipush (v := 116) hx hb dX10_readsOrder_143 (by decide) ?_
          refine lv_iconst (v := 3) hx hb dX10_readsOrder_145 (by decide) ?_
          have hs11 := hok.1
          have hok := hok.2
          refine g_cZ (g_runV (i := 196) (As := [.int (116 : Int32), .int (3 : Int32)]) (rest := []) X (c_X10_isSort l G hG q10.1 (116 : Int32) (3 : Int32) hs11) ca_X10_isSort km_X10_246 rfl rfl ⟨Nat.le_of_ble_eq_true rfl, Nat.le_of_ble_eq_true rfl⟩ hP hS (ty_lt ab_196) (cell_10 ab_196) rfl rfl rfl hl.1 rfl (Nat.le_of_ble_eq_true rfl) ⟨Nat.le_of_ble_eq_true rfl, Nat.le_of_ble_eq_true rfl⟩ dX10_readsOrder_146) hS (fun q12 hq12 H locs hP hS => ?_)
          have hf := bnd_go hq12 hf
          have hok := bnd_goP hq12 hok
          refine g_ifneZ (tgt := 162) X dX10_readsOrder_149 (by decide) (fun hc => ?_) (fun hc => ?_)
          · have hf := ite_t hc hf
            have hok := hok.1 hc
            refine lv_aload_n hx hb dX10_readsOrder_162 rfl (lv_at hl 0 rfl) ?_
            refine lv_iconst (v := 0) hx hb dX10_readsOrder_163 (by decide) ?_
            have hs13 := hok
            refine g_cZ (g_runV (i := 196) (As := [.int (0 : Int32)]) (rest := []) X (c_X10_readsDigit l G hG q12.1 (0 : Int32) hs13) ca_X10_readsDigit km_X10_237 rfl rfl ⟨Nat.le_of_ble_eq_true rfl, Nat.le_of_ble_eq_true rfl⟩ hP hS (ty_lt ab_196) (cell_10 ab_196) rfl rfl rfl hl.1 rfl (Nat.le_of_ble_eq_true rfl) ⟨Nat.le_of_ble_eq_true rfl, Nat.le_of_ble_eq_true rfl⟩ dX10_readsOrder_164) hS (fun q14 hq14 H locs hP hS => ?_)
            have hf := bnd_go hq14 hf
            refine g_ifeqZ (tgt := 174) X dX10_readsOrder_167 (by decide) (fun hc => ?_) (fun hc => ?_)
            · have hf := ite_z hc hf
              refine lv_iconst (v := 0) hx hb dX10_readsOrder_174 (by decide) ?_
              exact g_zret (b := false) X hr hlk rfl hP hS hf dX10_readsOrder_175
            · have hf := ite_t hc hf
              refine lv_iconst (v := 1) hx hb dX10_readsOrder_170 (by decide) ?_
              refine lv_goto (tgt := 175) hx hb dX10_readsOrder_171 (by decide) ?_
              exact g_zret (b := true) X hr hlk rfl hP hS hf dX10_readsOrder_175
          · have hf := ite_z hc hf
            have hok := hok.2 hc
            refine lv_aload_n hx hb dX10_readsOrder_152 rfl (lv_at hl 0 rfl) ?_
            refine lv_bipush (v := 102) hx hb dX10_readsOrder_153 (by decide) ?_
            refine lv_iconst (v := 4) hx hb dX10_readsOrder_155 (by decide) ?_
            have hs15 := hok.1
            have hok := hok.2
            refine g_cZ (g_runV (i := 196) (As := [.int (102 : Int32), .int (4 : Int32)]) (rest := []) X (c_X10_isSort l G hG q12.1 (102 : Int32) (4 : Int32) hs15) ca_X10_isSort km_X10_246 rfl rfl ⟨Nat.le_of_ble_eq_true rfl, Nat.le_of_ble_eq_true rfl⟩ hP hS (ty_lt ab_196) (cell_10 ab_196) rfl rfl rfl hl.1 rfl (Nat.le_of_ble_eq_true rfl) ⟨Nat.le_of_ble_eq_true rfl, Nat.le_of_ble_eq_true rfl⟩ dX10_readsOrder_156) hS (fun q16 hq16 H locs hP hS => ?_)
            have hf := bnd_go hq16 hf
            have hok := bnd_goP hq16 hok
            refine g_ifeqZ (tgt := 174) X dX10_readsOrder_159 (by decide) (fun hc => ?_) (fun hc => ?_)
            · have hf := ite_z hc hf
              refine lv_iconst (v := 0) hx hb dX10_readsOrder_174 (by decide) ?_
              exact g_zret (b := false) X hr hlk rfl hP hS hf dX10_readsOrder_175
            · have hf := ite_t hc hf
              have hok := hok.1 hc
              refine lv_aload_n hx hb dX10_readsOrder_162 rfl (lv_at hl 0 rfl) ?_
              refine lv_iconst (v := 0) hx hb dX10_readsOrder_163 (by decide) ?_
              have hs17 := hok
              refine g_cZ (g_runV (i := 196) (As := [.int (0 : Int32)]) (rest := []) X (c_X10_readsDigit l G hG q16.1 (0 : Int32) hs17) ca_X10_readsDigit km_X10_237 rfl rfl ⟨Nat.le_of_ble_eq_true rfl, Nat.le_of_ble_eq_true rfl⟩ hP hS (ty_lt ab_196) (cell_10 ab_196) rfl rfl rfl hl.1 rfl (Nat.le_of_ble_eq_true rfl) ⟨Nat.le_of_ble_eq_true rfl, Nat.le_of_ble_eq_true rfl⟩ dX10_readsOrder_164) hS (fun q18 hq18 H locs hP hS => ?_)
              have hf := bnd_go hq18 hf
              refine g_ifeqZ (tgt := 174) X dX10_readsOrder_167 (by decide) (fun hc => ?_) (fun hc => ?_)
              · have hf := ite_z hc hf
                refine lv_iconst (v := 0) hx hb dX10_readsOrder_174 (by decide) ?_
                exact g_zret (b := false) X hr hlk rfl hP hS hf dX10_readsOrder_175
              · have hf := ite_t hc hf
                refine lv_iconst (v := 1) hx hb dX10_readsOrder_170 (by decide) ?_
                refine lv_goto (tgt := 175) hx hb dX10_readsOrder_171 (by decide) ?_
                exact g_zret (b := true) X hr hlk rfl hP hS hf dX10_readsOrder_175
        · have hf := ite_t hc hf
          have hok := hok.1 hc
          refine lv_aload_n hx hb dX10_readsOrder_136 rfl (lv_at hl 0 rfl) ?_
          refine lv_iconst (v := 0) hx hb dX10_readsOrder_137 (by decide) ?_
          have hs19 := hok
          refine g_cZ (g_runV (i := 196) (As := [.int (0 : Int32)]) (rest := []) X (c_X10_readsNumber l G hG q10.1 (0 : Int32) hs19) ca_X10_readsNumber km_X10_250 rfl rfl ⟨Nat.le_of_ble_eq_true rfl, Nat.le_of_ble_eq_true rfl⟩ hP hS (ty_lt ab_196) (cell_10 ab_196) rfl rfl rfl hl.1 rfl (Nat.le_of_ble_eq_true rfl) ⟨Nat.le_of_ble_eq_true rfl, Nat.le_of_ble_eq_true rfl⟩ dX10_readsOrder_138) hS (fun q20 hq20 H locs hP hS => ?_)
          have hf := bnd_go hq20 hf
          exact g_zret (b := q20.2) X hr hlk rfl hP hS hf dX10_readsOrder_141
    · have hf := ite_t hc hf
      have hok := hok.1 hc
      refine lv_aload_n hx hb dX10_readsOrder_85 rfl (lv_at hl 0 rfl) ?_
      refine lv_iconst (v := 0) hx hb dX10_readsOrder_86 (by decide) ?_
      have hs21 := hok.1
      have hok := hok.2
      refine g_cZ (g_runV (i := 196) (As := [.int (0 : Int32)]) (rest := []) X (c_X10_readsNumber l G hG q4.1 (0 : Int32) hs21) ca_X10_readsNumber km_X10_250 rfl rfl ⟨Nat.le_of_ble_eq_true rfl, Nat.le_of_ble_eq_true rfl⟩ hP hS (ty_lt ab_196) (cell_10 ab_196) rfl rfl rfl hl.1 rfl (Nat.le_of_ble_eq_true rfl) ⟨Nat.le_of_ble_eq_true rfl, Nat.le_of_ble_eq_true rfl⟩ dX10_readsOrder_87) hS (fun q22 hq22 H locs hP hS => ?_)
      have hf := bnd_go hq22 hf
      have hok := bnd_goP hq22 hok
      refine g_ifeqZ (tgt := 114) X dX10_readsOrder_90 (by decide) (fun hc => ?_) (fun hc => ?_)
      · have hf := ite_z hc hf
        refine lv_iconst (v := 0) hx hb dX10_readsOrder_114 (by decide) ?_
        exact g_zret (b := false) X hr hlk rfl hP hS hf dX10_readsOrder_115
      · have hf := ite_t hc hf
        have hok := hok.1 hc
        refine lv_aload_n hx hb dX10_readsOrder_93 rfl (lv_at hl 0 rfl) ?_
        refine lv_bipush (v := 64) hx hb dX10_readsOrder_94 (by decide) ?_
        have hs23 := hok.1
        have hok := hok.2
        refine g_cZ (g_runV (i := 196) (As := [.int (64 : Int32)]) (rest := []) X (c_X10_passesSign l G hG q22.1 (64 : Int32) hs23) ca_X10_passesSign km_X10_240 rfl rfl ⟨Nat.le_of_ble_eq_true rfl, Nat.le_of_ble_eq_true rfl⟩ hP hS (ty_lt ab_196) (cell_10 ab_196) rfl rfl rfl hl.1 rfl (Nat.le_of_ble_eq_true rfl) ⟨Nat.le_of_ble_eq_true rfl, Nat.le_of_ble_eq_true rfl⟩ dX10_readsOrder_96) hS (fun q24 hq24 H locs hP hS => ?_)
        have hf := bnd_go hq24 hf
        have hok := bnd_goP hq24 hok
        refine g_ifeqZ (tgt := 114) X dX10_readsOrder_99 (by decide) (fun hc => ?_) (fun hc => ?_)
        · have hf := ite_z hc hf
          refine lv_iconst (v := 0) hx hb dX10_readsOrder_114 (by decide) ?_
          exact g_zret (b := false) X hr hlk rfl hP hS hf dX10_readsOrder_115
        · have hf := ite_t hc hf
          have hok := hok.1 hc
          refine lv_aload_n hx hb dX10_readsOrder_102 rfl (lv_at hl 0 rfl) ?_
          refine lv_iconst (v := 1) hx hb dX10_readsOrder_103 (by decide) ?_
          have hs25 := hok
          refine g_cZ (g_runV (i := 196) (As := [.int (1 : Int32)]) (rest := []) X (c_X10_readsDigit l G hG q24.1 (1 : Int32) hs25) ca_X10_readsDigit km_X10_237 rfl rfl ⟨Nat.le_of_ble_eq_true rfl, Nat.le_of_ble_eq_true rfl⟩ hP hS (ty_lt ab_196) (cell_10 ab_196) rfl rfl rfl hl.1 rfl (Nat.le_of_ble_eq_true rfl) ⟨Nat.le_of_ble_eq_true rfl, Nat.le_of_ble_eq_true rfl⟩ dX10_readsOrder_104) hS (fun q26 hq26 H locs hP hS => ?_)
          have hf := bnd_go hq26 hf
          refine g_ifeqZ (tgt := 114) X dX10_readsOrder_107 (by decide) (fun hc => ?_) (fun hc => ?_)
          · have hf := ite_z hc hf
            refine lv_iconst (v := 0) hx hb dX10_readsOrder_114 (by decide) ?_
            exact g_zret (b := false) X hr hlk rfl hP hS hf dX10_readsOrder_115
          · have hf := ite_t hc hf
            refine lv_iconst (v := 1) hx hb dX10_readsOrder_110 (by decide) ?_
            refine lv_goto (tgt := 115) hx hb dX10_readsOrder_111 (by decide) ?_
            exact g_zret (b := true) X hr hlk rfl hP hS hf dX10_readsOrder_115
  · have hf := ite_t hc hf
    have hok := hok.1 hc
    refine lv_aload_n hx hb dX10_readsOrder_10 rfl (lv_at hl 0 rfl) ?_
    refine lv_iconst (v := 0) hx hb dX10_readsOrder_11 (by decide) ?_
    have hs27 := hok.1
    have hok := hok.2
    refine g_cZ (g_runV (i := 196) (As := [.int (0 : Int32)]) (rest := []) X (c_X10_readsDigit l G hG q2.1 (0 : Int32) hs27) ca_X10_readsDigit km_X10_237 rfl rfl ⟨Nat.le_of_ble_eq_true rfl, Nat.le_of_ble_eq_true rfl⟩ hP hS (ty_lt ab_196) (cell_10 ab_196) rfl rfl rfl hl.1 rfl (Nat.le_of_ble_eq_true rfl) ⟨Nat.le_of_ble_eq_true rfl, Nat.le_of_ble_eq_true rfl⟩ dX10_readsOrder_12) hS (fun q28 hq28 H locs hP hS => ?_)
    have hf := bnd_go hq28 hf
    have hok := bnd_goP hq28 hok
    refine g_ifeqZ (tgt := 73) X dX10_readsOrder_15 (by decide) (fun hc => ?_) (fun hc => ?_)
    · have hf := ite_z hc hf
      refine lv_iconst (v := 0) hx hb dX10_readsOrder_73 (by decide) ?_
      exact g_zret (b := false) X hr hlk rfl hP hS hf dX10_readsOrder_74
    · have hf := ite_t hc hf
      have hok := hok.1 hc
      refine lv_aload_n hx hb dX10_readsOrder_18 rfl (lv_at hl 0 rfl) ?_
      refine lv_bipush (v := 62) hx hb dX10_readsOrder_19 (by decide) ?_
      have hs29 := hok.1
      have hok := hok.2
      refine g_cZ (g_runV (i := 196) (As := [.int (62 : Int32)]) (rest := []) X (c_X10_passesSign l G hG q28.1 (62 : Int32) hs29) ca_X10_passesSign km_X10_240 rfl rfl ⟨Nat.le_of_ble_eq_true rfl, Nat.le_of_ble_eq_true rfl⟩ hP hS (ty_lt ab_196) (cell_10 ab_196) rfl rfl rfl hl.1 rfl (Nat.le_of_ble_eq_true rfl) ⟨Nat.le_of_ble_eq_true rfl, Nat.le_of_ble_eq_true rfl⟩ dX10_readsOrder_21) hS (fun q30 hq30 H locs hP hS => ?_)
      have hf := bnd_go hq30 hf
      have hok := bnd_goP hq30 hok
      refine g_ifeqZ (tgt := 73) X dX10_readsOrder_24 (by decide) (fun hc => ?_) (fun hc => ?_)
      · have hf := ite_z hc hf
        refine lv_iconst (v := 0) hx hb dX10_readsOrder_73 (by decide) ?_
        exact g_zret (b := false) X hr hlk rfl hP hS hf dX10_readsOrder_74
      · have hf := ite_t hc hf
        have hok := hok.1 hc
        refine lv_aload_n hx hb dX10_readsOrder_27 rfl (lv_at hl 0 rfl) ?_
        refine lv_iconst (v := 1) hx hb dX10_readsOrder_28 (by decide) ?_
        have hs31 := hok.1
        have hok := hok.2
        refine g_cZ (g_runV (i := 196) (As := [.int (1 : Int32)]) (rest := []) X (c_X10_readsDigit l G hG q30.1 (1 : Int32) hs31) ca_X10_readsDigit km_X10_237 rfl rfl ⟨Nat.le_of_ble_eq_true rfl, Nat.le_of_ble_eq_true rfl⟩ hP hS (ty_lt ab_196) (cell_10 ab_196) rfl rfl rfl hl.1 rfl (Nat.le_of_ble_eq_true rfl) ⟨Nat.le_of_ble_eq_true rfl, Nat.le_of_ble_eq_true rfl⟩ dX10_readsOrder_29) hS (fun q32 hq32 H locs hP hS => ?_)
        have hf := bnd_go hq32 hf
        have hok := bnd_goP hq32 hok
        refine g_ifeqZ (tgt := 73) X dX10_readsOrder_32 (by decide) (fun hc => ?_) (fun hc => ?_)
        · have hf := ite_z hc hf
          refine lv_iconst (v := 0) hx hb dX10_readsOrder_73 (by decide) ?_
          exact g_zret (b := false) X hr hlk rfl hP hS hf dX10_readsOrder_74
        · have hf := ite_t hc hf
          have hok := hok.1 hc
          refine lv_aload_n hx hb dX10_readsOrder_35 rfl (lv_at hl 0 rfl) ?_
          refine lv_bipush (v := 42) hx hb dX10_readsOrder_36 (by decide) ?_
          have hs33 := hok.1
          have hok := hok.2
          refine g_cZ (g_runV (i := 196) (As := [.int (42 : Int32)]) (rest := []) X (c_X10_passesSign l G hG q32.1 (42 : Int32) hs33) ca_X10_passesSign km_X10_240 rfl rfl ⟨Nat.le_of_ble_eq_true rfl, Nat.le_of_ble_eq_true rfl⟩ hP hS (ty_lt ab_196) (cell_10 ab_196) rfl rfl rfl hl.1 rfl (Nat.le_of_ble_eq_true rfl) ⟨Nat.le_of_ble_eq_true rfl, Nat.le_of_ble_eq_true rfl⟩ dX10_readsOrder_38) hS (fun q34 hq34 H locs hP hS => ?_)
          have hf := bnd_go hq34 hf
          have hok := bnd_goP hq34 hok
          refine g_ifeqZ (tgt := 73) X dX10_readsOrder_41 (by decide) (fun hc => ?_) (fun hc => ?_)
          · have hf := ite_z hc hf
            refine lv_iconst (v := 0) hx hb dX10_readsOrder_73 (by decide) ?_
            exact g_zret (b := false) X hr hlk rfl hP hS hf dX10_readsOrder_74
          · have hf := ite_t hc hf
            have hok := hok.1 hc
            refine lv_aload_n hx hb dX10_readsOrder_44 rfl (lv_at hl 0 rfl) ?_
            refine lv_iconst (v := 2) hx hb dX10_readsOrder_45 (by decide) ?_
            have hs35 := hok.1
            have hok := hok.2
            refine g_cZ (g_runV (i := 196) (As := [.int (2 : Int32)]) (rest := []) X (c_X10_readsNumber l G hG q34.1 (2 : Int32) hs35) ca_X10_readsNumber km_X10_250 rfl rfl ⟨Nat.le_of_ble_eq_true rfl, Nat.le_of_ble_eq_true rfl⟩ hP hS (ty_lt ab_196) (cell_10 ab_196) rfl rfl rfl hl.1 rfl (Nat.le_of_ble_eq_true rfl) ⟨Nat.le_of_ble_eq_true rfl, Nat.le_of_ble_eq_true rfl⟩ dX10_readsOrder_46) hS (fun q36 hq36 H locs hP hS => ?_)
            have hf := bnd_go hq36 hf
            have hok := bnd_goP hq36 hok
            refine g_ifeqZ (tgt := 73) X dX10_readsOrder_49 (by decide) (fun hc => ?_) (fun hc => ?_)
            · have hf := ite_z hc hf
              refine lv_iconst (v := 0) hx hb dX10_readsOrder_73 (by decide) ?_
              exact g_zret (b := false) X hr hlk rfl hP hS hf dX10_readsOrder_74
            · have hf := ite_t hc hf
              have hok := hok.1 hc
              refine lv_aload_n hx hb dX10_readsOrder_52 rfl (lv_at hl 0 rfl) ?_
              refine lv_bipush (v := 47) hx hb dX10_readsOrder_53 (by decide) ?_
              have hs37 := hok.1
              have hok := hok.2
              refine g_cZ (g_runV (i := 196) (As := [.int (47 : Int32)]) (rest := []) X (c_X10_passesSign l G hG q36.1 (47 : Int32) hs37) ca_X10_passesSign km_X10_240 rfl rfl ⟨Nat.le_of_ble_eq_true rfl, Nat.le_of_ble_eq_true rfl⟩ hP hS (ty_lt ab_196) (cell_10 ab_196) rfl rfl rfl hl.1 rfl (Nat.le_of_ble_eq_true rfl) ⟨Nat.le_of_ble_eq_true rfl, Nat.le_of_ble_eq_true rfl⟩ dX10_readsOrder_55) hS (fun q38 hq38 H locs hP hS => ?_)
              have hf := bnd_go hq38 hf
              have hok := bnd_goP hq38 hok
              refine g_ifeqZ (tgt := 73) X dX10_readsOrder_58 (by decide) (fun hc => ?_) (fun hc => ?_)
              · have hf := ite_z hc hf
                refine lv_iconst (v := 0) hx hb dX10_readsOrder_73 (by decide) ?_
                exact g_zret (b := false) X hr hlk rfl hP hS hf dX10_readsOrder_74
              · have hf := ite_t hc hf
                have hok := hok.1 hc
                refine lv_aload_n hx hb dX10_readsOrder_61 rfl (lv_at hl 0 rfl) ?_
                refine lv_iconst (v := 3) hx hb dX10_readsOrder_62 (by decide) ?_
                have hs39 := hok
                refine g_cZ (g_runV (i := 196) (As := [.int (3 : Int32)]) (rest := []) X (c_X10_readsDigit l G hG q38.1 (3 : Int32) hs39) ca_X10_readsDigit km_X10_237 rfl rfl ⟨Nat.le_of_ble_eq_true rfl, Nat.le_of_ble_eq_true rfl⟩ hP hS (ty_lt ab_196) (cell_10 ab_196) rfl rfl rfl hl.1 rfl (Nat.le_of_ble_eq_true rfl) ⟨Nat.le_of_ble_eq_true rfl, Nat.le_of_ble_eq_true rfl⟩ dX10_readsOrder_63) hS (fun q40 hq40 H locs hP hS => ?_)
                have hf := bnd_go hq40 hf
                refine g_ifeqZ (tgt := 73) X dX10_readsOrder_66 (by decide) (fun hc => ?_) (fun hc => ?_)
                · have hf := ite_z hc hf
                  refine lv_iconst (v := 0) hx hb dX10_readsOrder_73 (by decide) ?_
                  exact g_zret (b := false) X hr hlk rfl hP hS hf dX10_readsOrder_74
                · have hf := ite_t hc hf
                  refine lv_iconst (v := 1) hx hb dX10_readsOrder_69 (by decide) ?_
                  refine lv_goto (tgt := 74) hx hb dX10_readsOrder_70 (by decide) ?_
                  exact g_zret (b := true) X hr hlk rfl hP hS hf dX10_readsOrder_74
def fX10_readsAll_L7 : Nat → St → Bool → St × Bool
  | 0, σ, _ => (σ, false)
  | n7 + 1, σ, x1 => (if x1 = true then (bnd (f_X10_readsOrder σ) (fun q3 => (if q3.2 = true then (bnd (f_X10_passesSign q3.1 (59 : Int32)) (fun q5 => (fX10_readsAll_L7 n7 q5.1 q5.2))) else (q3.1, false)))) else (if (σ.1 196 19) = (σ.1 196 18) then (σ, true) else (σ, false)))
def okX10_readsAll_L7 : Nat → St → Bool → Prop
  | 0, _, _ => False
  | n7 + 1, σ, x1 => ((x1 = true → (ok_X10_readsOrder σ ∧ (bndP (f_X10_readsOrder σ) (fun q3 => ((q3.2 = true → (ok_X10_passesSign q3.1 (59 : Int32) ∧ (bndP (f_X10_passesSign q3.1 (59 : Int32)) (fun q5 => (okX10_readsAll_L7 n7 q5.1 q5.2))))) ∧ (q3.2 = false → True)))))) ∧ (x1 = false → True))
def f_X10_readsAll (σ : St) : St × Bool := (bnd (setI σ 196 19 (0 : Int32)) (fun q1 => (fX10_readsAll_L7 2000 q1 true)))
def ok_X10_readsAll (σ : St) : Prop := (bndP (setI σ 196 19 (0 : Int32)) (fun q1 => (okX10_readsAll_L7 2000 q1 true)))
abbrev rm_X10_readsAll : Room := { frames := 4, cells := 0, slots := 0, locals := 85 }
set_option maxHeartbeats 4000000 in
set_option maxRecDepth 100000 in
theorem c_X10_readsAll (l : Launch) (G : GE) (hG : Gok G) (σ : St) (hok : ok_X10_readsAll σ) : MtZ l G yX10_readsAll cX10_readsAll 2 rm_X10_readsAll [.ref (G.2.1 196)] σ (f_X10_readsAll σ) := by
  generalize hf : f_X10_readsAll σ = fv
  rw [f_X10_readsAll] at hf
  rw [ok_X10_readsAll] at hok
  refine g_start hG (plainFor_of_name (by decide)) (Nat.le_of_ble_eq_true rfl) ?_
  intro p e s m args below meth c X hr hlk ls hl H locs hP hS
  have X : Cx G p s m args c cX10_readsAll 2 RX10 := X
  obtain ⟨hx, hb, hml, hown, hts, hK, hbs, hXW, -⟩ := id X
  have hl : lv_has ls 2 [(0, .ref (G.2.1 196))] := hl
  refine lv_aload_n hx hb dX10_readsAll_0 rfl (lv_at hl 0 rfl) ?_
  refine lv_iconst (v := 0) hx hb dX10_readsAll_1 (by decide) ?_
  refine gp_10_19 X hP hS ab_196 kf_X10_231 dX10_readsAll_2 (fun H locs hP hS => ?_)
  refine g_name hP (fun q1 hq1 hP => ?_)
  have hf := bnd_go hq1 hf
  have hok := bnd_goP hq1 hok
  refine lv_iconst (v := 1) hx hb dX10_readsAll_5 (by decide) ?_
  refine lv_istore_n (lv' := [(1, .int (1 : Int32)), (0, .ref (G.2.1 196))]) hx hb dX10_readsAll_6 rfl hl (by decide) rfl (fun ls hl => ?_)
  have K7 : ∀ (n7 : Nat) (σ : St) (x1 : Bool), okX10_readsAll_L7 n7 σ x1 → fX10_readsAll_L7 n7 σ x1 = fv → ∀ (H : Heap) (locs : List Loc), va_P G.1 vcl (wl G σ) H → va_S (GA G) s.heap H locs → ∀ (ls : Array Slot), lv_has ls 2 [(0, .ref (G.2.1 196)), (1, .int (bI x1))] → W p l e rm_X10_readsAll s m args below meth c H locs 0 0 (MQ below (va_Qi (fun r u => (u, r) = ((fv : St × Bool).1, bI (fv : St × Bool).2)) (PB G) (GA G)) args s 0 0 (GA G)) (F0 m 7 ls []) := by
    intro n7
    induction n7 with
    | zero =>
      intro σ x1 hok
      exact hok.elim
    | succ n7 ih7 =>
      intro σ x1 hok hf H locs hP hS ls hl
      rw [okX10_readsAll_L7] at hok
      rw [fX10_readsAll_L7] at hf
      refine lv_iload_n hx hb dX10_readsAll_7 rfl (lv_at hl 1 rfl) ?_
      refine g_ifeqZ (tgt := 30) X dX10_readsAll_8 (by decide) (fun hc => ?_) (fun hc => ?_)
      · have hf := ite_z hc hf
        refine lv_aload_n hx hb dX10_readsAll_30 rfl (lv_at hl 0 rfl) ?_
        refine gg_10_19 X hP ab_196 kf_X10_231 dX10_readsAll_31 ?_
        refine lv_aload_n hx hb dX10_readsAll_34 rfl (lv_at hl 0 rfl) ?_
        refine gg_10_18 X hP ab_196 kf_X10_228 dX10_readsAll_35 ?_
        refine lv_icmp_ne (tgt := 45) hx hb dX10_readsAll_38 (by decide) (fun hc => ?_) (fun hc => ?_)
        · have hf := ite_f hc hf
          refine lv_iconst (v := 0) hx hb dX10_readsAll_45 (by decide) ?_
          exact g_zret (b := false) X hr hlk rfl hP hS hf dX10_readsAll_46
        · have hf := ite_t hc hf
          refine lv_iconst (v := 1) hx hb dX10_readsAll_41 (by decide) ?_
          refine lv_goto (tgt := 46) hx hb dX10_readsAll_42 (by decide) ?_
          exact g_zret (b := true) X hr hlk rfl hP hS hf dX10_readsAll_46
      · have hf := ite_t hc hf
        have hok := hok.1 hc
        refine lv_aload_n hx hb dX10_readsAll_11 rfl (lv_at hl 0 rfl) ?_
        have hs2 := hok.1
        have hok := hok.2
        refine g_cZ (g_runV (i := 196) (As := []) (rest := []) X (c_X10_readsOrder l G hG σ hs2) ca_X10_readsOrder km_X10_253 rfl rfl ⟨Nat.le_of_ble_eq_true rfl, Nat.le_of_ble_eq_true rfl⟩ hP hS (ty_lt ab_196) (cell_10 ab_196) rfl rfl rfl hl.1 rfl (Nat.le_of_ble_eq_true rfl) ⟨Nat.le_of_ble_eq_true rfl, Nat.le_of_ble_eq_true rfl⟩ dX10_readsAll_12) hS (fun q3 hq3 H locs hP hS => ?_)
        have hf := bnd_go hq3 hf
        have hok := bnd_goP hq3 hok
        refine g_ifneZ (tgt := 20) X dX10_readsAll_15 (by decide) (fun hc => ?_) (fun hc => ?_)
        · have hf := ite_t hc hf
          have hok := hok.1 hc
          refine lv_aload_n hx hb dX10_readsAll_20 rfl (lv_at hl 0 rfl) ?_
          refine lv_bipush (v := 59) hx hb dX10_readsAll_21 (by decide) ?_
          have hs4 := hok.1
          have hok := hok.2
          refine g_cZ (g_runV (i := 196) (As := [.int (59 : Int32)]) (rest := []) X (c_X10_passesSign l G hG q3.1 (59 : Int32) hs4) ca_X10_passesSign km_X10_240 rfl rfl ⟨Nat.le_of_ble_eq_true rfl, Nat.le_of_ble_eq_true rfl⟩ hP hS (ty_lt ab_196) (cell_10 ab_196) rfl rfl rfl hl.1 rfl (Nat.le_of_ble_eq_true rfl) ⟨Nat.le_of_ble_eq_true rfl, Nat.le_of_ble_eq_true rfl⟩ dX10_readsAll_23) hS (fun q5 hq5 H locs hP hS => ?_)
          have hf := bnd_go hq5 hf
          have hok := bnd_goP hq5 hok
          refine lv_istore_n (lv' := [(1, .int (bI q5.2)), (0, .ref (G.2.1 196))]) hx hb dX10_readsAll_26 rfl hl (by decide) rfl (fun ls hl => ?_)
          refine lv_goto (tgt := 7) hx hb dX10_readsAll_27 (by decide) ?_
          exact ih7 q5.1 q5.2 hok hf _ _ hP hS ls (lv_sub hl [1, 0] rfl)
        · have hf := ite_z hc hf
          refine lv_iconst (v := 0) hx hb dX10_readsAll_18 (by decide) ?_
          exact g_zret (b := false) X hr hlk rfl hP hS hf dX10_readsAll_19
  exact K7 2000 q1 true hok hf _ _ hP hS ls (lv_sub hl [1, 0] rfl)
def f_X10_notNow (σ : St) : St × Int32 := (if (σ.1 196 22) = (0 : Int32) then (bnd (f_X10_notLetter σ (σ.1 207 (0 : Int32).toNatClampNeg) (σ.1 207 (1 : Int32).toNatClampNeg) (σ.1 207 (2 : Int32).toNatClampNeg) (σ.1 207 (3 : Int32).toNatClampNeg)) (fun q2 => (q2.1, q2.2))) else (if (σ.1 196 22) = (1 : Int32) then (bnd (f_X10_notStamp σ (σ.1 207 (0 : Int32).toNatClampNeg) (σ.1 207 (1 : Int32).toNatClampNeg)) (fun q4 => (q4.1, q4.2))) else (if (σ.1 196 22) = (2 : Int32) then (if (f_X10_isItem σ (σ.1 207 (0 : Int32).toNatClampNeg)) = true then (bnd (f_X10_notShelve σ (σ.1 207 (0 : Int32).toNatClampNeg) (f_X10_of σ (σ.1 207 (0 : Int32).toNatClampNeg) (0 : Int32))) (fun q7 => (q7.1, q7.2))) else (σ, (1 : Int32))) else (if (σ.1 196 22) = (3 : Int32) then (bnd (f_X10_notTake σ (σ.1 207 (0 : Int32).toNatClampNeg)) (fun q9 => (q9.1, q9.2))) else (if (σ.1 196 22) = (4 : Int32) then (bnd (f_X10_notFeed σ (σ.1 207 (0 : Int32).toNatClampNeg)) (fun q10 => (q10.1, q10.2))) else (σ, (f_X10_notPass (σ.1 207 (0 : Int32).toNatClampNeg))))))))
def ok_X10_notNow (σ : St) : Prop := (((σ.1 196 22) = (0 : Int32) → ok_X10_notLetter σ (σ.1 207 (0 : Int32).toNatClampNeg) (σ.1 207 (1 : Int32).toNatClampNeg) (σ.1 207 (2 : Int32).toNatClampNeg) (σ.1 207 (3 : Int32).toNatClampNeg)) ∧ (¬ (σ.1 196 22) = (0 : Int32) → (((σ.1 196 22) = (1 : Int32) → ok_X10_notStamp σ (σ.1 207 (0 : Int32).toNatClampNeg) (σ.1 207 (1 : Int32).toNatClampNeg)) ∧ (¬ (σ.1 196 22) = (1 : Int32) → (((σ.1 196 22) = (2 : Int32) → (((f_X10_isItem σ (σ.1 207 (0 : Int32).toNatClampNeg)) = true → (ok_X10_of σ (σ.1 207 (0 : Int32).toNatClampNeg) (0 : Int32) ∧ ok_X10_notShelve σ (σ.1 207 (0 : Int32).toNatClampNeg) (f_X10_of σ (σ.1 207 (0 : Int32).toNatClampNeg) (0 : Int32)))) ∧ ((f_X10_isItem σ (σ.1 207 (0 : Int32).toNatClampNeg)) = false → True))) ∧ (¬ (σ.1 196 22) = (2 : Int32) → (((σ.1 196 22) = (3 : Int32) → ok_X10_notTake σ (σ.1 207 (0 : Int32).toNatClampNeg)) ∧ (¬ (σ.1 196 22) = (3 : Int32) → True))))))))
abbrev rm_X10_notNow : Room := { frames := 4, cells := 0, slots := 0, locals := 91 }
set_option maxHeartbeats 4000000 in
set_option maxRecDepth 100000 in
theorem c_X10_notNow (l : Launch) (G : GE) (hG : Gok G) (σ : St) (hok : ok_X10_notNow σ) : MtI l G yX10_notNow cX10_notNow 1 rm_X10_notNow [.ref (G.2.1 196)] σ (f_X10_notNow σ) := by
  generalize hf : f_X10_notNow σ = fv
  rw [f_X10_notNow] at hf
  rw [ok_X10_notNow] at hok
  refine g_start hG (plainFor_of_name (by decide)) (Nat.le_of_ble_eq_true rfl) ?_
  intro p e s m args below meth c X hr hlk ls hl H locs hP hS
  have X : Cx G p s m args c cX10_notNow 1 RX10 := X
  obtain ⟨hx, hb, hml, hown, hts, hK, hbs, hXW, -⟩ := id X
  have hl : lv_has ls 1 [(0, .ref (G.2.1 196))] := hl
  refine lv_aload_n hx hb dX10_notNow_0 rfl (lv_at hl 0 rfl) ?_
  refine gg_10_22 X hP ab_196 kf_X10_243 dX10_notNow_1 ?_
  by_cases hd0 : (σ.1 196 22) = (0 : Int32)
  · have hf := ite_t hd0 hf
    have hok := hok.1 hd0
    refine lv_tableIn (off := 36) (tgt := 40) hx hb dX10_notNow_4 (by rw [hd0]; decide) (by rw [hd0]; decide) (by rw [hd0]; rfl) (by decide) ?_
    refine lv_aload_n hx hb dX10_notNow_40 rfl (lv_at hl 0 rfl) ?_
    refine lv_aload_n hx hb dX10_notNow_41 rfl (lv_at hl 0 rfl) ?_
    refine gg_10_21 X hP ab_196 kf_X10_46 dX10_notNow_42 ?_
    refine lv_iconst (v := 0) hx hb dX10_notNow_45 (by decide) ?_
    refine g_iald X hP ab_207 (by rw [al_207]; unfold vp_in; decide) dX10_notNow_46 ?_
    refine lv_aload_n hx hb dX10_notNow_47 rfl (lv_at hl 0 rfl) ?_
    refine gg_10_21 X hP ab_196 kf_X10_46 dX10_notNow_48 ?_
    refine lv_iconst (v := 1) hx hb dX10_notNow_51 (by decide) ?_
    refine g_iald X hP ab_207 (by rw [al_207]; unfold vp_in; decide) dX10_notNow_52 ?_
    refine lv_aload_n hx hb dX10_notNow_53 rfl (lv_at hl 0 rfl) ?_
    refine gg_10_21 X hP ab_196 kf_X10_46 dX10_notNow_54 ?_
    refine lv_iconst (v := 2) hx hb dX10_notNow_57 (by decide) ?_
    refine g_iald X hP ab_207 (by rw [al_207]; unfold vp_in; decide) dX10_notNow_58 ?_
    refine lv_aload_n hx hb dX10_notNow_59 rfl (lv_at hl 0 rfl) ?_
    refine gg_10_21 X hP ab_196 kf_X10_46 dX10_notNow_60 ?_
    refine lv_iconst (v := 3) hx hb dX10_notNow_63 (by decide) ?_
    refine g_iald X hP ab_207 (by rw [al_207]; unfold vp_in; decide) dX10_notNow_64 ?_
    have hs1 := hok
    refine g_cI (g_runV (i := 196) (As := [.int (σ.1 207 (0 : Int32).toNatClampNeg), .int (σ.1 207 (1 : Int32).toNatClampNeg), .int (σ.1 207 (2 : Int32).toNatClampNeg), .int (σ.1 207 (3 : Int32).toNatClampNeg)]) (rest := []) X (c_X10_notLetter l G hG σ (σ.1 207 (0 : Int32).toNatClampNeg) (σ.1 207 (1 : Int32).toNatClampNeg) (σ.1 207 (2 : Int32).toNatClampNeg) (σ.1 207 (3 : Int32).toNatClampNeg) hs1) ca_X10_notLetter km_X10_119 rfl rfl ⟨Nat.le_of_ble_eq_true rfl, Nat.le_of_ble_eq_true rfl⟩ hP hS (ty_lt ab_196) (cell_10 ab_196) rfl rfl rfl hl.1 rfl (Nat.le_of_ble_eq_true rfl) ⟨Nat.le_of_ble_eq_true rfl, Nat.le_of_ble_eq_true rfl⟩ dX10_notNow_65) hS (fun q2 hq2 H locs hP hS => ?_)
    have hf := bnd_go hq2 hf
    exact g_iret X hr hlk hP hS hf dX10_notNow_68
  · have hf := ite_f hd0 hf
    have hok := hok.2 hd0
    by_cases hd1 : (σ.1 196 22) = (1 : Int32)
    · have hf := ite_t hd1 hf
      have hok := hok.1 hd1
      refine lv_tableIn (off := 65) (tgt := 69) hx hb dX10_notNow_4 (by rw [hd1]; decide) (by rw [hd1]; decide) (by rw [hd1]; rfl) (by decide) ?_
      refine lv_aload_n hx hb dX10_notNow_69 rfl (lv_at hl 0 rfl) ?_
      refine lv_aload_n hx hb dX10_notNow_70 rfl (lv_at hl 0 rfl) ?_
      refine gg_10_21 X hP ab_196 kf_X10_46 dX10_notNow_71 ?_
      refine lv_iconst (v := 0) hx hb dX10_notNow_74 (by decide) ?_
      refine g_iald X hP ab_207 (by rw [al_207]; unfold vp_in; decide) dX10_notNow_75 ?_
      refine lv_aload_n hx hb dX10_notNow_76 rfl (lv_at hl 0 rfl) ?_
      refine gg_10_21 X hP ab_196 kf_X10_46 dX10_notNow_77 ?_
      refine lv_iconst (v := 1) hx hb dX10_notNow_80 (by decide) ?_
      refine g_iald X hP ab_207 (by rw [al_207]; unfold vp_in; decide) dX10_notNow_81 ?_
      have hs3 := hok
      refine g_cI (g_runV (i := 196) (As := [.int (σ.1 207 (0 : Int32).toNatClampNeg), .int (σ.1 207 (1 : Int32).toNatClampNeg)]) (rest := []) X (c_X10_notStamp l G hG σ (σ.1 207 (0 : Int32).toNatClampNeg) (σ.1 207 (1 : Int32).toNatClampNeg) hs3) ca_X10_notStamp km_X10_167 rfl rfl ⟨Nat.le_of_ble_eq_true rfl, Nat.le_of_ble_eq_true rfl⟩ hP hS (ty_lt ab_196) (cell_10 ab_196) rfl rfl rfl hl.1 rfl (Nat.le_of_ble_eq_true rfl) ⟨Nat.le_of_ble_eq_true rfl, Nat.le_of_ble_eq_true rfl⟩ dX10_notNow_82) hS (fun q4 hq4 H locs hP hS => ?_)
      have hf := bnd_go hq4 hf
      exact g_iret X hr hlk hP hS hf dX10_notNow_85
    · have hf := ite_f hd1 hf
      have hok := hok.2 hd1
      by_cases hd2 : (σ.1 196 22) = (2 : Int32)
      · have hf := ite_t hd2 hf
        have hok := hok.1 hd2
        refine lv_tableIn (off := 82) (tgt := 86) hx hb dX10_notNow_4 (by rw [hd2]; decide) (by rw [hd2]; decide) (by rw [hd2]; rfl) (by decide) ?_
        refine lv_aload_n hx hb dX10_notNow_86 rfl (lv_at hl 0 rfl) ?_
        refine lv_aload_n hx hb dX10_notNow_87 rfl (lv_at hl 0 rfl) ?_
        refine gg_10_21 X hP ab_196 kf_X10_46 dX10_notNow_88 ?_
        refine lv_iconst (v := 0) hx hb dX10_notNow_91 (by decide) ?_
        refine g_iald X hP ab_207 (by rw [al_207]; unfold vp_in; decide) dX10_notNow_92 ?_
        refine g_cZp (g_runV (i := 196) (As := [.int (σ.1 207 (0 : Int32).toNatClampNeg)]) (rest := []) X (c_X10_isItem l G hG σ (σ.1 207 (0 : Int32).toNatClampNeg)) ca_X10_isItem km_X10_136 rfl rfl ⟨Nat.le_of_ble_eq_true rfl, Nat.le_of_ble_eq_true rfl⟩ hP hS (ty_lt ab_196) (cell_10 ab_196) rfl rfl rfl hl.1 rfl (Nat.le_of_ble_eq_true rfl) ⟨Nat.le_of_ble_eq_true rfl, Nat.le_of_ble_eq_true rfl⟩ dX10_notNow_93) hS (fun H locs hP hS => ?_)
        refine g_ifeqZ (tgt := 123) X dX10_notNow_96 (by decide) (fun hc => ?_) (fun hc => ?_)
        · have hf := ite_z hc hf
          refine lv_iconst (v := 1) hx hb dX10_notNow_123 (by decide) ?_
          exact g_iret X hr hlk hP hS hf dX10_notNow_124
        · have hf := ite_t hc hf
          have hok := hok.1 hc
          refine lv_aload_n hx hb dX10_notNow_99 rfl (lv_at hl 0 rfl) ?_
          refine lv_aload_n hx hb dX10_notNow_100 rfl (lv_at hl 0 rfl) ?_
          refine gg_10_21 X hP ab_196 kf_X10_46 dX10_notNow_101 ?_
          refine lv_iconst (v := 0) hx hb dX10_notNow_104 (by decide) ?_
          refine g_iald X hP ab_207 (by rw [al_207]; unfold vp_in; decide) dX10_notNow_105 ?_
          refine lv_aload_n hx hb dX10_notNow_106 rfl (lv_at hl 0 rfl) ?_
          refine lv_aload_n hx hb dX10_notNow_107 rfl (lv_at hl 0 rfl) ?_
          refine gg_10_21 X hP ab_196 kf_X10_46 dX10_notNow_108 ?_
          refine lv_iconst (v := 0) hx hb dX10_notNow_111 (by decide) ?_
          refine g_iald X hP ab_207 (by rw [al_207]; unfold vp_in; decide) dX10_notNow_112 ?_
          refine lv_iconst (v := 0) hx hb dX10_notNow_113 (by decide) ?_
          have hs5 := hok.1
          have hok := hok.2
          refine g_cIp (g_runV (i := 196) (As := [.int (σ.1 207 (0 : Int32).toNatClampNeg), .int (0 : Int32)]) (rest := [.int (σ.1 207 (0 : Int32).toNatClampNeg), .ref (G.2.1 196)]) X (c_X10_of l G hG σ (σ.1 207 (0 : Int32).toNatClampNeg) (0 : Int32) hs5) ca_X10_of km_X10_85 rfl rfl ⟨Nat.le_of_ble_eq_true rfl, Nat.le_of_ble_eq_true rfl⟩ hP hS (ty_lt ab_196) (cell_10 ab_196) rfl rfl rfl hl.1 rfl (Nat.le_of_ble_eq_true rfl) ⟨Nat.le_of_ble_eq_true rfl, Nat.le_of_ble_eq_true rfl⟩ dX10_notNow_114) hS (fun H locs hP hS => ?_)
          have hs6 := hok
          refine g_cI (g_runV (i := 196) (As := [.int (σ.1 207 (0 : Int32).toNatClampNeg), .int (f_X10_of σ (σ.1 207 (0 : Int32).toNatClampNeg) (0 : Int32))]) (rest := []) X (c_X10_notShelve l G hG σ (σ.1 207 (0 : Int32).toNatClampNeg) (f_X10_of σ (σ.1 207 (0 : Int32).toNatClampNeg) (0 : Int32)) hs6) ca_X10_notShelve km_X10_183 rfl rfl ⟨Nat.le_of_ble_eq_true rfl, Nat.le_of_ble_eq_true rfl⟩ hP hS (ty_lt ab_196) (cell_10 ab_196) rfl rfl rfl hl.1 rfl (Nat.le_of_ble_eq_true rfl) ⟨Nat.le_of_ble_eq_true rfl, Nat.le_of_ble_eq_true rfl⟩ dX10_notNow_117) hS (fun q7 hq7 H locs hP hS => ?_)
          have hf := bnd_go hq7 hf
          refine lv_goto (tgt := 124) hx hb dX10_notNow_120 (by decide) ?_
          exact g_iret X hr hlk hP hS hf dX10_notNow_124
      · have hf := ite_f hd2 hf
        have hok := hok.2 hd2
        by_cases hd3 : (σ.1 196 22) = (3 : Int32)
        · have hf := ite_t hd3 hf
          have hok := hok.1 hd3
          refine lv_tableIn (off := 121) (tgt := 125) hx hb dX10_notNow_4 (by rw [hd3]; decide) (by rw [hd3]; decide) (by rw [hd3]; rfl) (by decide) ?_
          refine lv_aload_n hx hb dX10_notNow_125 rfl (lv_at hl 0 rfl) ?_
          refine lv_aload_n hx hb dX10_notNow_126 rfl (lv_at hl 0 rfl) ?_
          refine gg_10_21 X hP ab_196 kf_X10_46 dX10_notNow_127 ?_
          refine lv_iconst (v := 0) hx hb dX10_notNow_130 (by decide) ?_
          refine g_iald X hP ab_207 (by rw [al_207]; unfold vp_in; decide) dX10_notNow_131 ?_
          have hs8 := hok
          refine g_cI (g_runV (i := 196) (As := [.int (σ.1 207 (0 : Int32).toNatClampNeg)]) (rest := []) X (c_X10_notTake l G hG σ (σ.1 207 (0 : Int32).toNatClampNeg) hs8) ca_X10_notTake km_X10_192 rfl rfl ⟨Nat.le_of_ble_eq_true rfl, Nat.le_of_ble_eq_true rfl⟩ hP hS (ty_lt ab_196) (cell_10 ab_196) rfl rfl rfl hl.1 rfl (Nat.le_of_ble_eq_true rfl) ⟨Nat.le_of_ble_eq_true rfl, Nat.le_of_ble_eq_true rfl⟩ dX10_notNow_132) hS (fun q9 hq9 H locs hP hS => ?_)
          have hf := bnd_go hq9 hf
          exact g_iret X hr hlk hP hS hf dX10_notNow_135
        · have hf := ite_f hd3 hf
          by_cases hd4 : (σ.1 196 22) = (4 : Int32)
          · have hf := ite_t hd4 hf
            refine lv_tableIn (off := 132) (tgt := 136) hx hb dX10_notNow_4 (by rw [hd4]; decide) (by rw [hd4]; decide) (by rw [hd4]; rfl) (by decide) ?_
            refine lv_aload_n hx hb dX10_notNow_136 rfl (lv_at hl 0 rfl) ?_
            refine lv_aload_n hx hb dX10_notNow_137 rfl (lv_at hl 0 rfl) ?_
            refine gg_10_21 X hP ab_196 kf_X10_46 dX10_notNow_138 ?_
            refine lv_iconst (v := 0) hx hb dX10_notNow_141 (by decide) ?_
            refine g_iald X hP ab_207 (by rw [al_207]; unfold vp_in; decide) dX10_notNow_142 ?_
            refine g_cI (g_runV (i := 196) (As := [.int (σ.1 207 (0 : Int32).toNatClampNeg)]) (rest := []) X (c_X10_notFeed l G hG σ (σ.1 207 (0 : Int32).toNatClampNeg)) ca_X10_notFeed km_X10_198 rfl rfl ⟨Nat.le_of_ble_eq_true rfl, Nat.le_of_ble_eq_true rfl⟩ hP hS (ty_lt ab_196) (cell_10 ab_196) rfl rfl rfl hl.1 rfl (Nat.le_of_ble_eq_true rfl) ⟨Nat.le_of_ble_eq_true rfl, Nat.le_of_ble_eq_true rfl⟩ dX10_notNow_143) hS (fun q10 hq10 H locs hP hS => ?_)
            have hf := bnd_go hq10 hf
            exact g_iret X hr hlk hP hS hf dX10_notNow_146
          · have hf := ite_f hd4 hf
            refine lv_tableOut (tgt := 147) hx hb dX10_notNow_4 (by have z0 : (σ.1 196 22).toInt ≠ 0 := sw_ne hd0; have z1 : (σ.1 196 22).toInt ≠ 1 := sw_ne hd1; have z2 : (σ.1 196 22).toInt ≠ 2 := sw_ne hd2; have z3 : (σ.1 196 22).toInt ≠ 3 := sw_ne hd3; have z4 : (σ.1 196 22).toInt ≠ 4 := sw_ne hd4; show (σ.1 196 22).toInt < 0 ∨ 4 < (σ.1 196 22).toInt; omega) (by decide) ?_
            refine lv_aload_n hx hb dX10_notNow_147 rfl (lv_at hl 0 rfl) ?_
            refine lv_aload_n hx hb dX10_notNow_148 rfl (lv_at hl 0 rfl) ?_
            refine gg_10_21 X hP ab_196 kf_X10_46 dX10_notNow_149 ?_
            refine lv_iconst (v := 0) hx hb dX10_notNow_152 (by decide) ?_
            refine g_iald X hP ab_207 (by rw [al_207]; unfold vp_in; decide) dX10_notNow_153 ?_
            refine g_cIp (g_runV (i := 196) (As := [.int (σ.1 207 (0 : Int32).toNatClampNeg)]) (rest := []) X (c_X10_notPass l G hG σ (σ.1 207 (0 : Int32).toNatClampNeg)) ca_X10_notPass km_X10_218 rfl rfl ⟨Nat.le_of_ble_eq_true rfl, Nat.le_of_ble_eq_true rfl⟩ hP hS (ty_lt ab_196) (cell_10 ab_196) rfl rfl rfl hl.1 rfl (Nat.le_of_ble_eq_true rfl) ⟨Nat.le_of_ble_eq_true rfl, Nat.le_of_ble_eq_true rfl⟩ dX10_notNow_154) hS (fun H locs hP hS => ?_)
            exact g_iret X hr hlk hP hS hf dX10_notNow_157
def f_X10_doesNow (σ : St) : St × Int32 := (if (σ.1 196 22) = (0 : Int32) then (bnd (f_X10_writes σ (σ.1 207 (0 : Int32).toNatClampNeg) (σ.1 207 (1 : Int32).toNatClampNeg) (σ.1 207 (2 : Int32).toNatClampNeg) (σ.1 207 (3 : Int32).toNatClampNeg)) (fun q2 => (q2.1, q2.2))) else (if (σ.1 196 22) = (1 : Int32) then (bnd (f_X10_stamps σ (σ.1 207 (0 : Int32).toNatClampNeg) (σ.1 207 (1 : Int32).toNatClampNeg)) (fun q4 => (q4.1, q4.2))) else (if (σ.1 196 22) = (2 : Int32) then (bnd (f_X10_shelves σ (σ.1 207 (0 : Int32).toNatClampNeg) (f_X10_of σ (σ.1 207 (0 : Int32).toNatClampNeg) (0 : Int32))) (fun q7 => (q7.1, q7.2))) else (if (σ.1 196 22) = (3 : Int32) then (bnd (f_X10_takes σ (σ.1 207 (0 : Int32).toNatClampNeg)) (fun q9 => (q9.1, q9.2))) else (if (σ.1 196 22) = (4 : Int32) then (bnd (f_X10_feeds σ (σ.1 207 (0 : Int32).toNatClampNeg)) (fun q11 => (q11.1, q11.2))) else (bnd (f_X10_passes σ (σ.1 207 (0 : Int32).toNatClampNeg)) (fun q13 => (q13.1, q13.2))))))))
def ok_X10_doesNow (σ : St) : Prop := (((σ.1 196 22) = (0 : Int32) → ok_X10_writes σ (σ.1 207 (0 : Int32).toNatClampNeg) (σ.1 207 (1 : Int32).toNatClampNeg) (σ.1 207 (2 : Int32).toNatClampNeg) (σ.1 207 (3 : Int32).toNatClampNeg)) ∧ (¬ (σ.1 196 22) = (0 : Int32) → (((σ.1 196 22) = (1 : Int32) → ok_X10_stamps σ (σ.1 207 (0 : Int32).toNatClampNeg) (σ.1 207 (1 : Int32).toNatClampNeg)) ∧ (¬ (σ.1 196 22) = (1 : Int32) → (((σ.1 196 22) = (2 : Int32) → (ok_X10_of σ (σ.1 207 (0 : Int32).toNatClampNeg) (0 : Int32) ∧ ok_X10_shelves σ (σ.1 207 (0 : Int32).toNatClampNeg) (f_X10_of σ (σ.1 207 (0 : Int32).toNatClampNeg) (0 : Int32)))) ∧ (¬ (σ.1 196 22) = (2 : Int32) → (((σ.1 196 22) = (3 : Int32) → ok_X10_takes σ (σ.1 207 (0 : Int32).toNatClampNeg)) ∧ (¬ (σ.1 196 22) = (3 : Int32) → (((σ.1 196 22) = (4 : Int32) → ok_X10_feeds σ (σ.1 207 (0 : Int32).toNatClampNeg)) ∧ (¬ (σ.1 196 22) = (4 : Int32) → ok_X10_passes σ (σ.1 207 (0 : Int32).toNatClampNeg)))))))))))
abbrev rm_X10_doesNow : Room := { frames := 5, cells := 0, slots := 0, locals := 109 }
set_option maxHeartbeats 4000000 in
set_option maxRecDepth 100000 in
theorem c_X10_doesNow (l : Launch) (G : GE) (hG : Gok G) (σ : St) (hok : ok_X10_doesNow σ) : MtI l G yX10_doesNow cX10_doesNow 1 rm_X10_doesNow [.ref (G.2.1 196)] σ (f_X10_doesNow σ) := by
  generalize hf : f_X10_doesNow σ = fv
  rw [f_X10_doesNow] at hf
  rw [ok_X10_doesNow] at hok
  refine g_start hG (plainFor_of_name (by decide)) (Nat.le_of_ble_eq_true rfl) ?_
  intro p e s m args below meth c X hr hlk ls hl H locs hP hS
  have X : Cx G p s m args c cX10_doesNow 1 RX10 := X
  obtain ⟨hx, hb, hml, hown, hts, hK, hbs, hXW, -⟩ := id X
  have hl : lv_has ls 1 [(0, .ref (G.2.1 196))] := hl
  refine lv_aload_n hx hb dX10_doesNow_0 rfl (lv_at hl 0 rfl) ?_
  refine gg_10_22 X hP ab_196 kf_X10_243 dX10_doesNow_1 ?_
  by_cases hd0 : (σ.1 196 22) = (0 : Int32)
  · have hf := ite_t hd0 hf
    have hok := hok.1 hd0
    refine lv_tableIn (off := 36) (tgt := 40) hx hb dX10_doesNow_4 (by rw [hd0]; decide) (by rw [hd0]; decide) (by rw [hd0]; rfl) (by decide) ?_
    refine lv_aload_n hx hb dX10_doesNow_40 rfl (lv_at hl 0 rfl) ?_
    refine lv_aload_n hx hb dX10_doesNow_41 rfl (lv_at hl 0 rfl) ?_
    refine gg_10_21 X hP ab_196 kf_X10_46 dX10_doesNow_42 ?_
    refine lv_iconst (v := 0) hx hb dX10_doesNow_45 (by decide) ?_
    refine g_iald X hP ab_207 (by rw [al_207]; unfold vp_in; decide) dX10_doesNow_46 ?_
    refine lv_aload_n hx hb dX10_doesNow_47 rfl (lv_at hl 0 rfl) ?_
    refine gg_10_21 X hP ab_196 kf_X10_46 dX10_doesNow_48 ?_
    refine lv_iconst (v := 1) hx hb dX10_doesNow_51 (by decide) ?_
    refine g_iald X hP ab_207 (by rw [al_207]; unfold vp_in; decide) dX10_doesNow_52 ?_
    refine lv_aload_n hx hb dX10_doesNow_53 rfl (lv_at hl 0 rfl) ?_
    refine gg_10_21 X hP ab_196 kf_X10_46 dX10_doesNow_54 ?_
    refine lv_iconst (v := 2) hx hb dX10_doesNow_57 (by decide) ?_
    refine g_iald X hP ab_207 (by rw [al_207]; unfold vp_in; decide) dX10_doesNow_58 ?_
    refine lv_aload_n hx hb dX10_doesNow_59 rfl (lv_at hl 0 rfl) ?_
    refine gg_10_21 X hP ab_196 kf_X10_46 dX10_doesNow_60 ?_
    refine lv_iconst (v := 3) hx hb dX10_doesNow_63 (by decide) ?_
    refine g_iald X hP ab_207 (by rw [al_207]; unfold vp_in; decide) dX10_doesNow_64 ?_
    have hs1 := hok
    refine g_cI (g_runV (i := 196) (As := [.int (σ.1 207 (0 : Int32).toNatClampNeg), .int (σ.1 207 (1 : Int32).toNatClampNeg), .int (σ.1 207 (2 : Int32).toNatClampNeg), .int (σ.1 207 (3 : Int32).toNatClampNeg)]) (rest := []) X (c_X10_writes l G hG σ (σ.1 207 (0 : Int32).toNatClampNeg) (σ.1 207 (1 : Int32).toNatClampNeg) (σ.1 207 (2 : Int32).toNatClampNeg) (σ.1 207 (3 : Int32).toNatClampNeg) hs1) ca_X10_writes km_X10_122 rfl rfl ⟨Nat.le_of_ble_eq_true rfl, Nat.le_of_ble_eq_true rfl⟩ hP hS (ty_lt ab_196) (cell_10 ab_196) rfl rfl rfl hl.1 rfl (Nat.le_of_ble_eq_true rfl) ⟨Nat.le_of_ble_eq_true rfl, Nat.le_of_ble_eq_true rfl⟩ dX10_doesNow_65) hS (fun q2 hq2 H locs hP hS => ?_)
    have hf := bnd_go hq2 hf
    exact g_iret X hr hlk hP hS hf dX10_doesNow_68
  · have hf := ite_f hd0 hf
    have hok := hok.2 hd0
    by_cases hd1 : (σ.1 196 22) = (1 : Int32)
    · have hf := ite_t hd1 hf
      have hok := hok.1 hd1
      refine lv_tableIn (off := 65) (tgt := 69) hx hb dX10_doesNow_4 (by rw [hd1]; decide) (by rw [hd1]; decide) (by rw [hd1]; rfl) (by decide) ?_
      refine lv_aload_n hx hb dX10_doesNow_69 rfl (lv_at hl 0 rfl) ?_
      refine lv_aload_n hx hb dX10_doesNow_70 rfl (lv_at hl 0 rfl) ?_
      refine gg_10_21 X hP ab_196 kf_X10_46 dX10_doesNow_71 ?_
      refine lv_iconst (v := 0) hx hb dX10_doesNow_74 (by decide) ?_
      refine g_iald X hP ab_207 (by rw [al_207]; unfold vp_in; decide) dX10_doesNow_75 ?_
      refine lv_aload_n hx hb dX10_doesNow_76 rfl (lv_at hl 0 rfl) ?_
      refine gg_10_21 X hP ab_196 kf_X10_46 dX10_doesNow_77 ?_
      refine lv_iconst (v := 1) hx hb dX10_doesNow_80 (by decide) ?_
      refine g_iald X hP ab_207 (by rw [al_207]; unfold vp_in; decide) dX10_doesNow_81 ?_
      have hs3 := hok
      refine g_cI (g_runV (i := 196) (As := [.int (σ.1 207 (0 : Int32).toNatClampNeg), .int (σ.1 207 (1 : Int32).toNatClampNeg)]) (rest := []) X (c_X10_stamps l G hG σ (σ.1 207 (0 : Int32).toNatClampNeg) (σ.1 207 (1 : Int32).toNatClampNeg) hs3) ca_X10_stamps km_X10_170 rfl rfl ⟨Nat.le_of_ble_eq_true rfl, Nat.le_of_ble_eq_true rfl⟩ hP hS (ty_lt ab_196) (cell_10 ab_196) rfl rfl rfl hl.1 rfl (Nat.le_of_ble_eq_true rfl) ⟨Nat.le_of_ble_eq_true rfl, Nat.le_of_ble_eq_true rfl⟩ dX10_doesNow_82) hS (fun q4 hq4 H locs hP hS => ?_)
      have hf := bnd_go hq4 hf
      exact g_iret X hr hlk hP hS hf dX10_doesNow_85
    · have hf := ite_f hd1 hf
      have hok := hok.2 hd1
      by_cases hd2 : (σ.1 196 22) = (2 : Int32)
      · have hf := ite_t hd2 hf
        have hok := hok.1 hd2
        refine lv_tableIn (off := 82) (tgt := 86) hx hb dX10_doesNow_4 (by rw [hd2]; decide) (by rw [hd2]; decide) (by rw [hd2]; rfl) (by decide) ?_
        refine lv_aload_n hx hb dX10_doesNow_86 rfl (lv_at hl 0 rfl) ?_
        refine lv_aload_n hx hb dX10_doesNow_87 rfl (lv_at hl 0 rfl) ?_
        refine gg_10_21 X hP ab_196 kf_X10_46 dX10_doesNow_88 ?_
        refine lv_iconst (v := 0) hx hb dX10_doesNow_91 (by decide) ?_
        refine g_iald X hP ab_207 (by rw [al_207]; unfold vp_in; decide) dX10_doesNow_92 ?_
        refine lv_aload_n hx hb dX10_doesNow_93 rfl (lv_at hl 0 rfl) ?_
        refine lv_aload_n hx hb dX10_doesNow_94 rfl (lv_at hl 0 rfl) ?_
        refine gg_10_21 X hP ab_196 kf_X10_46 dX10_doesNow_95 ?_
        refine lv_iconst (v := 0) hx hb dX10_doesNow_98 (by decide) ?_
        refine g_iald X hP ab_207 (by rw [al_207]; unfold vp_in; decide) dX10_doesNow_99 ?_
        refine lv_iconst (v := 0) hx hb dX10_doesNow_100 (by decide) ?_
        have hs5 := hok.1
        have hok := hok.2
        refine g_cIp (g_runV (i := 196) (As := [.int (σ.1 207 (0 : Int32).toNatClampNeg), .int (0 : Int32)]) (rest := [.int (σ.1 207 (0 : Int32).toNatClampNeg), .ref (G.2.1 196)]) X (c_X10_of l G hG σ (σ.1 207 (0 : Int32).toNatClampNeg) (0 : Int32) hs5) ca_X10_of km_X10_85 rfl rfl ⟨Nat.le_of_ble_eq_true rfl, Nat.le_of_ble_eq_true rfl⟩ hP hS (ty_lt ab_196) (cell_10 ab_196) rfl rfl rfl hl.1 rfl (Nat.le_of_ble_eq_true rfl) ⟨Nat.le_of_ble_eq_true rfl, Nat.le_of_ble_eq_true rfl⟩ dX10_doesNow_101) hS (fun H locs hP hS => ?_)
        have hs6 := hok
        refine g_cI (g_runV (i := 196) (As := [.int (σ.1 207 (0 : Int32).toNatClampNeg), .int (f_X10_of σ (σ.1 207 (0 : Int32).toNatClampNeg) (0 : Int32))]) (rest := []) X (c_X10_shelves l G hG σ (σ.1 207 (0 : Int32).toNatClampNeg) (f_X10_of σ (σ.1 207 (0 : Int32).toNatClampNeg) (0 : Int32)) hs6) ca_X10_shelves km_X10_186 rfl rfl ⟨Nat.le_of_ble_eq_true rfl, Nat.le_of_ble_eq_true rfl⟩ hP hS (ty_lt ab_196) (cell_10 ab_196) rfl rfl rfl hl.1 rfl (Nat.le_of_ble_eq_true rfl) ⟨Nat.le_of_ble_eq_true rfl, Nat.le_of_ble_eq_true rfl⟩ dX10_doesNow_104) hS (fun q7 hq7 H locs hP hS => ?_)
        have hf := bnd_go hq7 hf
        exact g_iret X hr hlk hP hS hf dX10_doesNow_107
      · have hf := ite_f hd2 hf
        have hok := hok.2 hd2
        by_cases hd3 : (σ.1 196 22) = (3 : Int32)
        · have hf := ite_t hd3 hf
          have hok := hok.1 hd3
          refine lv_tableIn (off := 104) (tgt := 108) hx hb dX10_doesNow_4 (by rw [hd3]; decide) (by rw [hd3]; decide) (by rw [hd3]; rfl) (by decide) ?_
          refine lv_aload_n hx hb dX10_doesNow_108 rfl (lv_at hl 0 rfl) ?_
          refine lv_aload_n hx hb dX10_doesNow_109 rfl (lv_at hl 0 rfl) ?_
          refine gg_10_21 X hP ab_196 kf_X10_46 dX10_doesNow_110 ?_
          refine lv_iconst (v := 0) hx hb dX10_doesNow_113 (by decide) ?_
          refine g_iald X hP ab_207 (by rw [al_207]; unfold vp_in; decide) dX10_doesNow_114 ?_
          have hs8 := hok
          refine g_cI (g_runV (i := 196) (As := [.int (σ.1 207 (0 : Int32).toNatClampNeg)]) (rest := []) X (c_X10_takes l G hG σ (σ.1 207 (0 : Int32).toNatClampNeg) hs8) ca_X10_takes km_X10_195 rfl rfl ⟨Nat.le_of_ble_eq_true rfl, Nat.le_of_ble_eq_true rfl⟩ hP hS (ty_lt ab_196) (cell_10 ab_196) rfl rfl rfl hl.1 rfl (Nat.le_of_ble_eq_true rfl) ⟨Nat.le_of_ble_eq_true rfl, Nat.le_of_ble_eq_true rfl⟩ dX10_doesNow_115) hS (fun q9 hq9 H locs hP hS => ?_)
          have hf := bnd_go hq9 hf
          exact g_iret X hr hlk hP hS hf dX10_doesNow_118
        · have hf := ite_f hd3 hf
          have hok := hok.2 hd3
          by_cases hd4 : (σ.1 196 22) = (4 : Int32)
          · have hf := ite_t hd4 hf
            have hok := hok.1 hd4
            refine lv_tableIn (off := 115) (tgt := 119) hx hb dX10_doesNow_4 (by rw [hd4]; decide) (by rw [hd4]; decide) (by rw [hd4]; rfl) (by decide) ?_
            refine lv_aload_n hx hb dX10_doesNow_119 rfl (lv_at hl 0 rfl) ?_
            refine lv_aload_n hx hb dX10_doesNow_120 rfl (lv_at hl 0 rfl) ?_
            refine gg_10_21 X hP ab_196 kf_X10_46 dX10_doesNow_121 ?_
            refine lv_iconst (v := 0) hx hb dX10_doesNow_124 (by decide) ?_
            refine g_iald X hP ab_207 (by rw [al_207]; unfold vp_in; decide) dX10_doesNow_125 ?_
            have hs10 := hok
            refine g_cI (g_runV (i := 196) (As := [.int (σ.1 207 (0 : Int32).toNatClampNeg)]) (rest := []) X (c_X10_feeds l G hG σ (σ.1 207 (0 : Int32).toNatClampNeg) hs10) ca_X10_feeds km_X10_201 rfl rfl ⟨Nat.le_of_ble_eq_true rfl, Nat.le_of_ble_eq_true rfl⟩ hP hS (ty_lt ab_196) (cell_10 ab_196) rfl rfl rfl hl.1 rfl (Nat.le_of_ble_eq_true rfl) ⟨Nat.le_of_ble_eq_true rfl, Nat.le_of_ble_eq_true rfl⟩ dX10_doesNow_126) hS (fun q11 hq11 H locs hP hS => ?_)
            have hf := bnd_go hq11 hf
            exact g_iret X hr hlk hP hS hf dX10_doesNow_129
          · have hf := ite_f hd4 hf
            have hok := hok.2 hd4
            refine lv_tableOut (tgt := 130) hx hb dX10_doesNow_4 (by have z0 : (σ.1 196 22).toInt ≠ 0 := sw_ne hd0; have z1 : (σ.1 196 22).toInt ≠ 1 := sw_ne hd1; have z2 : (σ.1 196 22).toInt ≠ 2 := sw_ne hd2; have z3 : (σ.1 196 22).toInt ≠ 3 := sw_ne hd3; have z4 : (σ.1 196 22).toInt ≠ 4 := sw_ne hd4; show (σ.1 196 22).toInt < 0 ∨ 4 < (σ.1 196 22).toInt; omega) (by decide) ?_
            refine lv_aload_n hx hb dX10_doesNow_130 rfl (lv_at hl 0 rfl) ?_
            refine lv_aload_n hx hb dX10_doesNow_131 rfl (lv_at hl 0 rfl) ?_
            refine gg_10_21 X hP ab_196 kf_X10_46 dX10_doesNow_132 ?_
            refine lv_iconst (v := 0) hx hb dX10_doesNow_135 (by decide) ?_
            refine g_iald X hP ab_207 (by rw [al_207]; unfold vp_in; decide) dX10_doesNow_136 ?_
            have hs12 := hok
            refine g_cI (g_runV (i := 196) (As := [.int (σ.1 207 (0 : Int32).toNatClampNeg)]) (rest := []) X (c_X10_passes l G hG σ (σ.1 207 (0 : Int32).toNatClampNeg) hs12) ca_X10_passes km_X10_221 rfl rfl ⟨Nat.le_of_ble_eq_true rfl, Nat.le_of_ble_eq_true rfl⟩ hP hS (ty_lt ab_196) (cell_10 ab_196) rfl rfl rfl hl.1 rfl (Nat.le_of_ble_eq_true rfl) ⟨Nat.le_of_ble_eq_true rfl, Nat.le_of_ble_eq_true rfl⟩ dX10_doesNow_137) hS (fun q13 hq13 H locs hP hS => ?_)
            have hf := bnd_go hq13 hf
            exact g_iret X hr hlk hP hS hf dX10_doesNow_140
def fX10_doesAll_L17 : Nat → St → Bool → St
  | 0, σ, _ => σ
  | n17 + 1, σ, x1 => (if x1 = true then (bnd (f_X10_readsOrder σ) (fun q5 => (bnd (f_X10_notNow q5.1) (fun q7 => (bnd (setI q7.1 196 24 q7.2) (fun q8 => (if (q8.1 196 24) = 0 then (bnd (f_X10_doesNow q8) (fun q10 => (bnd (setI q10.1 196 23 ((q10.1.1 196 23) + (1 : Int32))) (fun q11 => (bnd (f_X10_passesSign q11 (59 : Int32)) (fun q13 => (fX10_doesAll_L17 n17 q13.1 q13.2))))))) else q8))))))) else σ)
def okX10_doesAll_L17 : Nat → St → Bool → Prop
  | 0, _, _ => False
  | n17 + 1, σ, x1 => ((x1 = true → (ok_X10_readsOrder σ ∧ (bndP (f_X10_readsOrder σ) (fun q5 => (ok_X10_notNow q5.1 ∧ (bndP (f_X10_notNow q5.1) (fun q7 => (bndP (setI q7.1 196 24 q7.2) (fun q8 => (((q8.1 196 24) = 0 → (ok_X10_doesNow q8 ∧ (bndP (f_X10_doesNow q8) (fun q10 => (bndP (setI q10.1 196 23 ((q10.1.1 196 23) + (1 : Int32))) (fun q11 => (ok_X10_passesSign q11 (59 : Int32) ∧ (bndP (f_X10_passesSign q11 (59 : Int32)) (fun q13 => (okX10_doesAll_L17 n17 q13.1 q13.2)))))))))) ∧ (¬ (q8.1 196 24) = 0 → True))))))))))) ∧ (x1 = false → True))
def f_X10_doesAll (σ : St) : St := (bnd (setI σ 196 23 (0 : Int32)) (fun q1 => (bnd (setI q1 196 24 (0 : Int32)) (fun q2 => (bnd (setI q2 196 19 (0 : Int32)) (fun q3 => (fX10_doesAll_L17 2000 q3 true)))))))
def ok_X10_doesAll (σ : St) : Prop := (bndP (setI σ 196 23 (0 : Int32)) (fun q1 => (bndP (setI q1 196 24 (0 : Int32)) (fun q2 => (bndP (setI q2 196 19 (0 : Int32)) (fun q3 => (okX10_doesAll_L17 2000 q3 true)))))))
abbrev rm_X10_doesAll : Room := { frames := 6, cells := 0, slots := 0, locals := 129 }
set_option maxHeartbeats 4000000 in
set_option maxRecDepth 100000 in
theorem c_X10_doesAll (l : Launch) (G : GE) (hG : Gok G) (σ : St) (hok : ok_X10_doesAll σ) : MtV l G yX10_doesAll cX10_doesAll 2 rm_X10_doesAll [.ref (G.2.1 196)] σ (f_X10_doesAll σ) := by
  generalize hf : f_X10_doesAll σ = fv
  rw [f_X10_doesAll] at hf
  rw [ok_X10_doesAll] at hok
  refine g_start hG (plainFor_of_name (by decide)) (Nat.le_of_ble_eq_true rfl) ?_
  intro p e s m args below meth c X hr hlk ls hl H locs hP hS
  have X : Cx G p s m args c cX10_doesAll 2 RX10 := X
  obtain ⟨hx, hb, hml, hown, hts, hK, hbs, hXW, -⟩ := id X
  have hl : lv_has ls 2 [(0, .ref (G.2.1 196))] := hl
  refine lv_aload_n hx hb dX10_doesAll_0 rfl (lv_at hl 0 rfl) ?_
  refine lv_iconst (v := 0) hx hb dX10_doesAll_1 (by decide) ?_
  refine gp_10_23 X hP hS ab_196 kf_X10_256 dX10_doesAll_2 (fun H locs hP hS => ?_)
  refine g_name hP (fun q1 hq1 hP => ?_)
  have hf := bnd_go hq1 hf
  have hok := bnd_goP hq1 hok
  refine lv_aload_n hx hb dX10_doesAll_5 rfl (lv_at hl 0 rfl) ?_
  refine lv_iconst (v := 0) hx hb dX10_doesAll_6 (by decide) ?_
  refine gp_10_24 X hP hS ab_196 kf_X10_259 dX10_doesAll_7 (fun H locs hP hS => ?_)
  refine g_name hP (fun q2 hq2 hP => ?_)
  have hf := bnd_go hq2 hf
  have hok := bnd_goP hq2 hok
  refine lv_aload_n hx hb dX10_doesAll_10 rfl (lv_at hl 0 rfl) ?_
  refine lv_iconst (v := 0) hx hb dX10_doesAll_11 (by decide) ?_
  refine gp_10_19 X hP hS ab_196 kf_X10_231 dX10_doesAll_12 (fun H locs hP hS => ?_)
  refine g_name hP (fun q3 hq3 hP => ?_)
  have hf := bnd_go hq3 hf
  have hok := bnd_goP hq3 hok
  refine lv_iconst (v := 1) hx hb dX10_doesAll_15 (by decide) ?_
  refine lv_istore_n (lv' := [(1, .int (1 : Int32)), (0, .ref (G.2.1 196))]) hx hb dX10_doesAll_16 rfl hl (by decide) rfl (fun ls hl => ?_)
  have K17 : ∀ (n17 : Nat) (σ : St) (x1 : Bool), okX10_doesAll_L17 n17 σ x1 → fX10_doesAll_L17 n17 σ x1 = fv → ∀ (H : Heap) (locs : List Loc), va_P G.1 vcl (wl G σ) H → va_S (GA G) s.heap H locs → ∀ (ls : Array Slot), lv_has ls 2 [(0, .ref (G.2.1 196)), (1, .int (bI x1))] → W p l e rm_X10_doesAll s m args below meth c H locs 0 0 (MQ below (va_Qv (fun u => u = fv) (PB G) (GA G)) args s 0 0 (GA G)) (F0 m 17 ls []) := by
    intro n17
    induction n17 with
    | zero =>
      intro σ x1 hok
      exact hok.elim
    | succ n17 ih17 =>
      intro σ x1 hok hf H locs hP hS ls hl
      rw [okX10_doesAll_L17] at hok
      rw [fX10_doesAll_L17] at hf
      refine lv_iload_n hx hb dX10_doesAll_17 rfl (lv_at hl 1 rfl) ?_
      refine g_ifeqZ (tgt := 67) X dX10_doesAll_18 (by decide) (fun hc => ?_) (fun hc => ?_)
      · have hf := ite_z hc hf
        exact g_vret X hr hlk hP hS hf dX10_doesAll_67
      · have hf := ite_t hc hf
        have hok := hok.1 hc
        refine lv_aload_n hx hb dX10_doesAll_21 rfl (lv_at hl 0 rfl) ?_
        have hs4 := hok.1
        have hok := hok.2
        refine g_cZ (g_runV (i := 196) (As := []) (rest := []) X (c_X10_readsOrder l G hG σ hs4) ca_X10_readsOrder km_X10_253 rfl rfl ⟨Nat.le_of_ble_eq_true rfl, Nat.le_of_ble_eq_true rfl⟩ hP hS (ty_lt ab_196) (cell_10 ab_196) rfl rfl rfl hl.1 rfl (Nat.le_of_ble_eq_true rfl) ⟨Nat.le_of_ble_eq_true rfl, Nat.le_of_ble_eq_true rfl⟩ dX10_doesAll_22) hS (fun q5 hq5 H locs hP hS => ?_)
        have hf := bnd_go hq5 hf
        have hok := bnd_goP hq5 hok
        refine lv_pop hx hb dX10_doesAll_25 rfl ?_
        refine lv_aload_n hx hb dX10_doesAll_26 rfl (lv_at hl 0 rfl) ?_
        refine lv_aload_n hx hb dX10_doesAll_27 rfl (lv_at hl 0 rfl) ?_
        have hs6 := hok.1
        have hok := hok.2
        refine g_cI (g_runV (i := 196) (As := []) (rest := [.ref (G.2.1 196)]) X (c_X10_notNow l G hG q5.1 hs6) ca_X10_notNow km_X10_262 rfl rfl ⟨Nat.le_of_ble_eq_true rfl, Nat.le_of_ble_eq_true rfl⟩ hP hS (ty_lt ab_196) (cell_10 ab_196) rfl rfl rfl hl.1 rfl (Nat.le_of_ble_eq_true rfl) ⟨Nat.le_of_ble_eq_true rfl, Nat.le_of_ble_eq_true rfl⟩ dX10_doesAll_28) hS (fun q7 hq7 H locs hP hS => ?_)
        have hf := bnd_go hq7 hf
        have hok := bnd_goP hq7 hok
        refine gp_10_24 X hP hS ab_196 kf_X10_259 dX10_doesAll_31 (fun H locs hP hS => ?_)
        refine g_name hP (fun q8 hq8 hP => ?_)
        have hf := bnd_go hq8 hf
        have hok := bnd_goP hq8 hok
        refine lv_aload_n hx hb dX10_doesAll_34 rfl (lv_at hl 0 rfl) ?_
        refine gg_10_24 X hP ab_196 kf_X10_259 dX10_doesAll_35 ?_
        refine lv_if_eq (tgt := 42) hx hb dX10_doesAll_38 (by decide) (fun hc => ?_) (fun hc => ?_)
        · have hf := ite_t hc hf
          have hok := hok.1 hc
          refine lv_aload_n hx hb dX10_doesAll_42 rfl (lv_at hl 0 rfl) ?_
          have hs9 := hok.1
          have hok := hok.2
          refine g_cI (g_runV (i := 196) (As := []) (rest := []) X (c_X10_doesNow l G hG q8 hs9) ca_X10_doesNow km_X10_265 rfl rfl ⟨Nat.le_of_ble_eq_true rfl, Nat.le_of_ble_eq_true rfl⟩ hP hS (ty_lt ab_196) (cell_10 ab_196) rfl rfl rfl hl.1 rfl (Nat.le_of_ble_eq_true rfl) ⟨Nat.le_of_ble_eq_true rfl, Nat.le_of_ble_eq_true rfl⟩ dX10_doesAll_43) hS (fun q10 hq10 H locs hP hS => ?_)
          have hf := bnd_go hq10 hf
          have hok := bnd_goP hq10 hok
          refine lv_pop hx hb dX10_doesAll_46 rfl ?_
          refine lv_aload_n hx hb dX10_doesAll_47 rfl (lv_at hl 0 rfl) ?_
          refine lv_dup hx hb dX10_doesAll_48 rfl ?_
          refine gg_10_23 X hP ab_196 kf_X10_256 dX10_doesAll_49 ?_
          refine lv_iconst (v := 1) hx hb dX10_doesAll_52 (by decide) ?_
          refine lv_iadd hx hb dX10_doesAll_53 ?_
          refine gp_10_23 X hP hS ab_196 kf_X10_256 dX10_doesAll_54 (fun H locs hP hS => ?_)
          refine g_name hP (fun q11 hq11 hP => ?_)
          have hf := bnd_go hq11 hf
          have hok := bnd_goP hq11 hok
          refine lv_aload_n hx hb dX10_doesAll_57 rfl (lv_at hl 0 rfl) ?_
          refine lv_bipush (v := 59) hx hb dX10_doesAll_58 (by decide) ?_
          have hs12 := hok.1
          have hok := hok.2
          refine g_cZ (g_runV (i := 196) (As := [.int (59 : Int32)]) (rest := []) X (c_X10_passesSign l G hG q11 (59 : Int32) hs12) ca_X10_passesSign km_X10_240 rfl rfl ⟨Nat.le_of_ble_eq_true rfl, Nat.le_of_ble_eq_true rfl⟩ hP hS (ty_lt ab_196) (cell_10 ab_196) rfl rfl rfl hl.1 rfl (Nat.le_of_ble_eq_true rfl) ⟨Nat.le_of_ble_eq_true rfl, Nat.le_of_ble_eq_true rfl⟩ dX10_doesAll_60) hS (fun q13 hq13 H locs hP hS => ?_)
          have hf := bnd_go hq13 hf
          have hok := bnd_goP hq13 hok
          refine lv_istore_n (lv' := [(1, .int (bI q13.2)), (0, .ref (G.2.1 196))]) hx hb dX10_doesAll_63 rfl hl (by decide) rfl (fun ls hl => ?_)
          refine lv_goto (tgt := 17) hx hb dX10_doesAll_64 (by decide) ?_
          exact ih17 q13.1 q13.2 hok hf _ _ hP hS ls (lv_sub hl [1, 0] rfl)
        · have hf := ite_f hc hf
          exact g_vret X hr hlk hP hS hf dX10_doesAll_41
  exact K17 2000 q3 true hok hf _ _ hP hS ls (lv_sub hl [1, 0] rfl)
def f_X10_run (σ : St) : St × Int32 := (bnd (setI σ 196 0 (0 : Int32)) (fun q1 => (bnd (f_X10_readsAll q1) (fun q3 => (if q3.2 = true then (bnd (setI q3.1 196 20 (-1 : Int32)) (fun q18 => (if q3.2 = true then (bnd (f_X10_thinks q18) (fun q20 => (bnd (f_X10_doesAll q20) (fun q22 => (bnd (setI q22 196 18 (0 : Int32)) (fun q23 => (if (q23.1 196 24) = 0 then (bnd (f_X10_keepsMind q23) (fun q29 => (q29, (q29.1 196 23)))) else (bnd (f_X10_forgets q23) (fun q25 => (if (q25.1 196 24) = (9 : Int32) then (bnd (f_X10_refuses q25 (9 : Int32) (2 : Int32)) (fun q27 => (q27.1, q27.2))) else (bnd (f_X10_fails q25 (1 : Int32)) (fun q26 => (q26.1, q26.2))))))))))))) else (bnd (setI q18 196 18 (0 : Int32)) (fun q30 => (bnd (f_X10_fails q30 (1 : Int32)) (fun q31 => (q31.1, q31.2)))))))) else (bnd (setI q3.1 196 20 (q3.1.1 196 19)) (fun q4 => (if q3.2 = true then (bnd (f_X10_thinks q4) (fun q6 => (bnd (f_X10_doesAll q6) (fun q8 => (bnd (setI q8 196 18 (0 : Int32)) (fun q9 => (if (q9.1 196 24) = 0 then (bnd (f_X10_keepsMind q9) (fun q15 => (q15, (q15.1 196 23)))) else (bnd (f_X10_forgets q9) (fun q11 => (if (q11.1 196 24) = (9 : Int32) then (bnd (f_X10_refuses q11 (9 : Int32) (2 : Int32)) (fun q13 => (q13.1, q13.2))) else (bnd (f_X10_fails q11 (1 : Int32)) (fun q12 => (q12.1, q12.2))))))))))))) else (bnd (setI q4 196 18 (0 : Int32)) (fun q16 => (bnd (f_X10_fails q16 (1 : Int32)) (fun q17 => (q17.1, q17.2)))))))))))))
def ok_X10_run (σ : St) : Prop := (bndP (setI σ 196 0 (0 : Int32)) (fun q1 => (ok_X10_readsAll q1 ∧ (bndP (f_X10_readsAll q1) (fun q3 => ((q3.2 = true → (bndP (setI q3.1 196 20 (-1 : Int32)) (fun q18 => ((q3.2 = true → (ok_X10_thinks q18 ∧ (bndP (f_X10_thinks q18) (fun q20 => (ok_X10_doesAll q20 ∧ (bndP (f_X10_doesAll q20) (fun q22 => (bndP (setI q22 196 18 (0 : Int32)) (fun q23 => (((q23.1 196 24) = 0 → ok_X10_keepsMind q23) ∧ (¬ (q23.1 196 24) = 0 → ok_X10_forgets q23))))))))))) ∧ (q3.2 = false → True))))) ∧ (q3.2 = false → (bndP (setI q3.1 196 20 (q3.1.1 196 19)) (fun q4 => ((q3.2 = true → (ok_X10_thinks q4 ∧ (bndP (f_X10_thinks q4) (fun q6 => (ok_X10_doesAll q6 ∧ (bndP (f_X10_doesAll q6) (fun q8 => (bndP (setI q8 196 18 (0 : Int32)) (fun q9 => (((q9.1 196 24) = 0 → ok_X10_keepsMind q9) ∧ (¬ (q9.1 196 24) = 0 → ok_X10_forgets q9))))))))))) ∧ (q3.2 = false → True)))))))))))
abbrev rm_X10_run : Room := { frames := 7, cells := 0, slots := 0, locals := 150 }
set_option maxHeartbeats 4000000 in
set_option maxRecDepth 100000 in
theorem c_X10_run (l : Launch) (G : GE) (hG : Gok G) (σ : St) (hok : ok_X10_run σ) : MtI l G yX10_run cX10_run 2 rm_X10_run [.ref (G.2.1 196)] σ (f_X10_run σ) := by
  generalize hf : f_X10_run σ = fv
  rw [f_X10_run] at hf
  rw [ok_X10_run] at hok
  refine g_start hG (plainFor_of_name (by decide)) (Nat.le_of_ble_eq_true rfl) ?_
  intro p e s m args below meth c X hr hlk ls hl H locs hP hS
  have X : Cx G p s m args c cX10_run 2 RX10 := X
  obtain ⟨hx, hb, hml, hown, hts, hK, hbs, hXW, -⟩ := id X
  have hl : lv_has ls 2 [(0, .ref (G.2.1 196))] := hl
  refine lv_aload_n hx hb dX10_run_0 rfl (lv_at hl 0 rfl) ?_
  refine lv_iconst (v := 0) hx hb dX10_run_1 (by decide) ?_
  refine gp_10_0 X hP hS ab_196 kf_X10_50 dX10_run_2 (fun H locs hP hS => ?_)
  refine g_name hP (fun q1 hq1 hP => ?_)
  have hf := bnd_go hq1 hf
  have hok := bnd_goP hq1 hok
  refine lv_aload_n hx hb dX10_run_5 rfl (lv_at hl 0 rfl) ?_
  have hs2 := hok.1
  have hok := hok.2
  refine g_cZ (g_runV (i := 196) (As := []) (rest := []) X (c_X10_readsAll l G hG q1 hs2) ca_X10_readsAll km_X10_268 rfl rfl ⟨Nat.le_of_ble_eq_true rfl, Nat.le_of_ble_eq_true rfl⟩ hP hS (ty_lt ab_196) (cell_10 ab_196) rfl rfl rfl hl.1 rfl (Nat.le_of_ble_eq_true rfl) ⟨Nat.le_of_ble_eq_true rfl, Nat.le_of_ble_eq_true rfl⟩ dX10_run_6) hS (fun q3 hq3 H locs hP hS => ?_)
  have hf := bnd_go hq3 hf
  have hok := bnd_goP hq3 hok
  refine lv_istore_n (lv' := [(1, .int (bI q3.2)), (0, .ref (G.2.1 196))]) hx hb dX10_run_9 rfl hl (by decide) rfl (fun ls hl => ?_)
  refine lv_aload_n hx hb dX10_run_10 rfl (lv_at hl 1 rfl) ?_
  refine lv_iload_n hx hb dX10_run_11 rfl (lv_at hl 0 rfl) ?_
  refine g_ifeqZ (tgt := 19) X dX10_run_12 (by decide) (fun hc => ?_) (fun hc => ?_)
  · have hf := ite_z hc hf
    have hok := hok.2 hc
    refine lv_aload_n hx hb dX10_run_19 rfl (lv_at hl 1 rfl) ?_
    refine gg_10_19 X hP ab_196 kf_X10_231 dX10_run_20 ?_
    refine gp_10_20 X hP hS ab_196 kf_X10_42 dX10_run_23 (fun H locs hP hS => ?_)
    refine g_name hP (fun q4 hq4 hP => ?_)
    have hf := bnd_go hq4 hf
    have hok := bnd_goP hq4 hok
    refine lv_iload_n hx hb dX10_run_26 rfl (lv_at hl 0 rfl) ?_
    refine g_ifneZ (tgt := 41) X dX10_run_27 (by decide) (fun hc => ?_) (fun hc => ?_)
    · have hf := ite_t hc hf
      have hok := hok.1 hc
      refine lv_aload_n hx hb dX10_run_41 rfl (lv_at hl 1 rfl) ?_
      have hs5 := hok.1
      have hok := hok.2
      refine g_cV (g_runV (i := 196) (As := []) (rest := []) X (c_X10_thinks l G hG q4 hs5) ca_X10_thinks km_X10_75 rfl rfl ⟨Nat.le_of_ble_eq_true rfl, Nat.le_of_ble_eq_true rfl⟩ hP hS (ty_lt ab_196) (cell_10 ab_196) rfl rfl rfl hl.1 rfl (Nat.le_of_ble_eq_true rfl) ⟨Nat.le_of_ble_eq_true rfl, Nat.le_of_ble_eq_true rfl⟩ dX10_run_42) hS (fun q6 hq6 H locs hP hS => ?_)
      have hf := bnd_go hq6 hf
      have hok := bnd_goP hq6 hok
      refine lv_aload_n hx hb dX10_run_45 rfl (lv_at hl 1 rfl) ?_
      have hs7 := hok.1
      have hok := hok.2
      refine g_cV (g_runV (i := 196) (As := []) (rest := []) X (c_X10_doesAll l G hG q6 hs7) ca_X10_doesAll km_X10_271 rfl rfl ⟨Nat.le_of_ble_eq_true rfl, Nat.le_of_ble_eq_true rfl⟩ hP hS (ty_lt ab_196) (cell_10 ab_196) rfl rfl rfl hl.1 rfl (Nat.le_of_ble_eq_true rfl) ⟨Nat.le_of_ble_eq_true rfl, Nat.le_of_ble_eq_true rfl⟩ dX10_run_46) hS (fun q8 hq8 H locs hP hS => ?_)
      have hf := bnd_go hq8 hf
      have hok := bnd_goP hq8 hok
      refine lv_aload_n hx hb dX10_run_49 rfl (lv_at hl 1 rfl) ?_
      refine lv_iconst (v := 0) hx hb dX10_run_50 (by decide) ?_
      refine gp_10_18 X hP hS ab_196 kf_X10_228 dX10_run_51 (fun H locs hP hS => ?_)
      refine g_name hP (fun q9 hq9 hP => ?_)
      have hf := bnd_go hq9 hf
      have hok := bnd_goP hq9 hok
      refine lv_aload_n hx hb dX10_run_54 rfl (lv_at hl 1 rfl) ?_
      refine gg_10_24 X hP ab_196 kf_X10_259 dX10_run_55 ?_
      refine lv_if_ne (tgt := 70) hx hb dX10_run_58 (by decide) (fun hc => ?_) (fun hc => ?_)
      · have hf := ite_f hc hf
        have hok := hok.2 hc
        refine lv_aload_n hx hb dX10_run_70 rfl (lv_at hl 1 rfl) ?_
        have hs10 := hok
        refine g_cV (g_runV (i := 196) (As := []) (rest := []) X (c_X10_forgets l G hG q9 hs10) ca_X10_forgets km_X10_215 rfl rfl ⟨Nat.le_of_ble_eq_true rfl, Nat.le_of_ble_eq_true rfl⟩ hP hS (ty_lt ab_196) (cell_10 ab_196) rfl rfl rfl hl.1 rfl (Nat.le_of_ble_eq_true rfl) ⟨Nat.le_of_ble_eq_true rfl, Nat.le_of_ble_eq_true rfl⟩ dX10_run_71) hS (fun q11 hq11 H locs hP hS => ?_)
        have hf := bnd_go hq11 hf
        refine lv_aload_n hx hb dX10_run_74 rfl (lv_at hl 1 rfl) ?_
        refine gg_10_24 X hP ab_196 kf_X10_259 dX10_run_75 ?_
        refine lv_bipush (v := 9) hx hb dX10_run_78 (by decide) ?_
        refine lv_icmp_ne (tgt := 93) hx hb dX10_run_80 (by decide) (fun hc => ?_) (fun hc => ?_)
        · have hf := ite_f hc hf
          refine lv_aload_n hx hb dX10_run_93 rfl (lv_at hl 1 rfl) ?_
          refine lv_iconst (v := 1) hx hb dX10_run_94 (by decide) ?_
          refine g_cI (g_runV (i := 196) (As := [.int (1 : Int32)]) (rest := []) X (c_X10_fails l G hG q11 (1 : Int32)) ca_X10_fails km_X10_59 rfl rfl ⟨Nat.le_of_ble_eq_true rfl, Nat.le_of_ble_eq_true rfl⟩ hP hS (ty_lt ab_196) (cell_10 ab_196) rfl rfl rfl hl.1 rfl (Nat.le_of_ble_eq_true rfl) ⟨Nat.le_of_ble_eq_true rfl, Nat.le_of_ble_eq_true rfl⟩ dX10_run_95) hS (fun q12 hq12 H locs hP hS => ?_)
          have hf := bnd_go hq12 hf
          exact g_iret X hr hlk hP hS hf dX10_run_98
        · have hf := ite_t hc hf
          refine lv_aload_n hx hb dX10_run_83 rfl (lv_at hl 1 rfl) ?_
          refine lv_bipush (v := 9) hx hb dX10_run_84 (by decide) ?_
          refine lv_iconst (v := 2) hx hb dX10_run_86 (by decide) ?_
          refine g_cI (g_runV (i := 196) (As := [.int (9 : Int32), .int (2 : Int32)]) (rest := []) X (c_X10_refuses l G hG q11 (9 : Int32) (2 : Int32)) ca_X10_refuses km_X10_92 rfl rfl ⟨Nat.le_of_ble_eq_true rfl, Nat.le_of_ble_eq_true rfl⟩ hP hS (ty_lt ab_196) (cell_10 ab_196) rfl rfl rfl hl.1 rfl (Nat.le_of_ble_eq_true rfl) ⟨Nat.le_of_ble_eq_true rfl, Nat.le_of_ble_eq_true rfl⟩ dX10_run_87) hS (fun q13 hq13 H locs hP hS => ?_)
          have hf := bnd_go hq13 hf
          refine lv_goto (tgt := 98) hx hb dX10_run_90 (by decide) ?_
          exact g_iret X hr hlk hP hS hf dX10_run_98
      · have hf := ite_t hc hf
        have hok := hok.1 hc
        refine lv_aload_n hx hb dX10_run_61 rfl (lv_at hl 1 rfl) ?_
        have hs14 := hok
        refine g_cV (g_runV (i := 196) (As := []) (rest := []) X (c_X10_keepsMind l G hG q9 hs14) ca_X10_keepsMind km_X10_78 rfl rfl ⟨Nat.le_of_ble_eq_true rfl, Nat.le_of_ble_eq_true rfl⟩ hP hS (ty_lt ab_196) (cell_10 ab_196) rfl rfl rfl hl.1 rfl (Nat.le_of_ble_eq_true rfl) ⟨Nat.le_of_ble_eq_true rfl, Nat.le_of_ble_eq_true rfl⟩ dX10_run_62) hS (fun q15 hq15 H locs hP hS => ?_)
        have hf := bnd_go hq15 hf
        refine lv_aload_n hx hb dX10_run_65 rfl (lv_at hl 1 rfl) ?_
        refine gg_10_23 X hP ab_196 kf_X10_256 dX10_run_66 ?_
        exact g_iret X hr hlk hP hS hf dX10_run_69
    · have hf := ite_z hc hf
      refine lv_aload_n hx hb dX10_run_30 rfl (lv_at hl 1 rfl) ?_
      refine lv_iconst (v := 0) hx hb dX10_run_31 (by decide) ?_
      refine gp_10_18 X hP hS ab_196 kf_X10_228 dX10_run_32 (fun H locs hP hS => ?_)
      refine g_name hP (fun q16 hq16 hP => ?_)
      have hf := bnd_go hq16 hf
      refine lv_aload_n hx hb dX10_run_35 rfl (lv_at hl 1 rfl) ?_
      refine lv_iconst (v := 1) hx hb dX10_run_36 (by decide) ?_
      refine g_cI (g_runV (i := 196) (As := [.int (1 : Int32)]) (rest := []) X (c_X10_fails l G hG q16 (1 : Int32)) ca_X10_fails km_X10_59 rfl rfl ⟨Nat.le_of_ble_eq_true rfl, Nat.le_of_ble_eq_true rfl⟩ hP hS (ty_lt ab_196) (cell_10 ab_196) rfl rfl rfl hl.1 rfl (Nat.le_of_ble_eq_true rfl) ⟨Nat.le_of_ble_eq_true rfl, Nat.le_of_ble_eq_true rfl⟩ dX10_run_37) hS (fun q17 hq17 H locs hP hS => ?_)
      have hf := bnd_go hq17 hf
      exact g_iret X hr hlk hP hS hf dX10_run_40
  · have hf := ite_t hc hf
    have hok := hok.1 hc
    refine lv_iconst (v := -1) hx hb dX10_run_15 (by decide) ?_
    refine lv_goto (tgt := 23) hx hb dX10_run_16 (by decide) ?_
    refine gp_10_20 X hP hS ab_196 kf_X10_42 dX10_run_23 (fun H locs hP hS => ?_)
    refine g_name hP (fun q18 hq18 hP => ?_)
    have hf := bnd_go hq18 hf
    have hok := bnd_goP hq18 hok
    refine lv_iload_n hx hb dX10_run_26 rfl (lv_at hl 0 rfl) ?_
    refine g_ifneZ (tgt := 41) X dX10_run_27 (by decide) (fun hc => ?_) (fun hc => ?_)
    · have hf := ite_t hc hf
      have hok := hok.1 hc
      refine lv_aload_n hx hb dX10_run_41 rfl (lv_at hl 1 rfl) ?_
      have hs19 := hok.1
      have hok := hok.2
      refine g_cV (g_runV (i := 196) (As := []) (rest := []) X (c_X10_thinks l G hG q18 hs19) ca_X10_thinks km_X10_75 rfl rfl ⟨Nat.le_of_ble_eq_true rfl, Nat.le_of_ble_eq_true rfl⟩ hP hS (ty_lt ab_196) (cell_10 ab_196) rfl rfl rfl hl.1 rfl (Nat.le_of_ble_eq_true rfl) ⟨Nat.le_of_ble_eq_true rfl, Nat.le_of_ble_eq_true rfl⟩ dX10_run_42) hS (fun q20 hq20 H locs hP hS => ?_)
      have hf := bnd_go hq20 hf
      have hok := bnd_goP hq20 hok
      refine lv_aload_n hx hb dX10_run_45 rfl (lv_at hl 1 rfl) ?_
      have hs21 := hok.1
      have hok := hok.2
      refine g_cV (g_runV (i := 196) (As := []) (rest := []) X (c_X10_doesAll l G hG q20 hs21) ca_X10_doesAll km_X10_271 rfl rfl ⟨Nat.le_of_ble_eq_true rfl, Nat.le_of_ble_eq_true rfl⟩ hP hS (ty_lt ab_196) (cell_10 ab_196) rfl rfl rfl hl.1 rfl (Nat.le_of_ble_eq_true rfl) ⟨Nat.le_of_ble_eq_true rfl, Nat.le_of_ble_eq_true rfl⟩ dX10_run_46) hS (fun q22 hq22 H locs hP hS => ?_)
      have hf := bnd_go hq22 hf
      have hok := bnd_goP hq22 hok
      refine lv_aload_n hx hb dX10_run_49 rfl (lv_at hl 1 rfl) ?_
      refine lv_iconst (v := 0) hx hb dX10_run_50 (by decide) ?_
      refine gp_10_18 X hP hS ab_196 kf_X10_228 dX10_run_51 (fun H locs hP hS => ?_)
      refine g_name hP (fun q23 hq23 hP => ?_)
      have hf := bnd_go hq23 hf
      have hok := bnd_goP hq23 hok
      refine lv_aload_n hx hb dX10_run_54 rfl (lv_at hl 1 rfl) ?_
      refine gg_10_24 X hP ab_196 kf_X10_259 dX10_run_55 ?_
      refine lv_if_ne (tgt := 70) hx hb dX10_run_58 (by decide) (fun hc => ?_) (fun hc => ?_)
      · have hf := ite_f hc hf
        have hok := hok.2 hc
        refine lv_aload_n hx hb dX10_run_70 rfl (lv_at hl 1 rfl) ?_
        have hs24 := hok
        refine g_cV (g_runV (i := 196) (As := []) (rest := []) X (c_X10_forgets l G hG q23 hs24) ca_X10_forgets km_X10_215 rfl rfl ⟨Nat.le_of_ble_eq_true rfl, Nat.le_of_ble_eq_true rfl⟩ hP hS (ty_lt ab_196) (cell_10 ab_196) rfl rfl rfl hl.1 rfl (Nat.le_of_ble_eq_true rfl) ⟨Nat.le_of_ble_eq_true rfl, Nat.le_of_ble_eq_true rfl⟩ dX10_run_71) hS (fun q25 hq25 H locs hP hS => ?_)
        have hf := bnd_go hq25 hf
        refine lv_aload_n hx hb dX10_run_74 rfl (lv_at hl 1 rfl) ?_
        refine gg_10_24 X hP ab_196 kf_X10_259 dX10_run_75 ?_
        refine lv_bipush (v := 9) hx hb dX10_run_78 (by decide) ?_
        refine lv_icmp_ne (tgt := 93) hx hb dX10_run_80 (by decide) (fun hc => ?_) (fun hc => ?_)
        · have hf := ite_f hc hf
          refine lv_aload_n hx hb dX10_run_93 rfl (lv_at hl 1 rfl) ?_
          refine lv_iconst (v := 1) hx hb dX10_run_94 (by decide) ?_
          refine g_cI (g_runV (i := 196) (As := [.int (1 : Int32)]) (rest := []) X (c_X10_fails l G hG q25 (1 : Int32)) ca_X10_fails km_X10_59 rfl rfl ⟨Nat.le_of_ble_eq_true rfl, Nat.le_of_ble_eq_true rfl⟩ hP hS (ty_lt ab_196) (cell_10 ab_196) rfl rfl rfl hl.1 rfl (Nat.le_of_ble_eq_true rfl) ⟨Nat.le_of_ble_eq_true rfl, Nat.le_of_ble_eq_true rfl⟩ dX10_run_95) hS (fun q26 hq26 H locs hP hS => ?_)
          have hf := bnd_go hq26 hf
          exact g_iret X hr hlk hP hS hf dX10_run_98
        · have hf := ite_t hc hf
          refine lv_aload_n hx hb dX10_run_83 rfl (lv_at hl 1 rfl) ?_
          refine lv_bipush (v := 9) hx hb dX10_run_84 (by decide) ?_
          refine lv_iconst (v := 2) hx hb dX10_run_86 (by decide) ?_
          refine g_cI (g_runV (i := 196) (As := [.int (9 : Int32), .int (2 : Int32)]) (rest := []) X (c_X10_refuses l G hG q25 (9 : Int32) (2 : Int32)) ca_X10_refuses km_X10_92 rfl rfl ⟨Nat.le_of_ble_eq_true rfl, Nat.le_of_ble_eq_true rfl⟩ hP hS (ty_lt ab_196) (cell_10 ab_196) rfl rfl rfl hl.1 rfl (Nat.le_of_ble_eq_true rfl) ⟨Nat.le_of_ble_eq_true rfl, Nat.le_of_ble_eq_true rfl⟩ dX10_run_87) hS (fun q27 hq27 H locs hP hS => ?_)
          have hf := bnd_go hq27 hf
          refine lv_goto (tgt := 98) hx hb dX10_run_90 (by decide) ?_
          exact g_iret X hr hlk hP hS hf dX10_run_98
      · have hf := ite_t hc hf
        have hok := hok.1 hc
        refine lv_aload_n hx hb dX10_run_61 rfl (lv_at hl 1 rfl) ?_
        have hs28 := hok
        refine g_cV (g_runV (i := 196) (As := []) (rest := []) X (c_X10_keepsMind l G hG q23 hs28) ca_X10_keepsMind km_X10_78 rfl rfl ⟨Nat.le_of_ble_eq_true rfl, Nat.le_of_ble_eq_true rfl⟩ hP hS (ty_lt ab_196) (cell_10 ab_196) rfl rfl rfl hl.1 rfl (Nat.le_of_ble_eq_true rfl) ⟨Nat.le_of_ble_eq_true rfl, Nat.le_of_ble_eq_true rfl⟩ dX10_run_62) hS (fun q29 hq29 H locs hP hS => ?_)
        have hf := bnd_go hq29 hf
        refine lv_aload_n hx hb dX10_run_65 rfl (lv_at hl 1 rfl) ?_
        refine gg_10_23 X hP ab_196 kf_X10_256 dX10_run_66 ?_
        exact g_iret X hr hlk hP hS hf dX10_run_69
    · have hf := ite_z hc hf
      refine lv_aload_n hx hb dX10_run_30 rfl (lv_at hl 1 rfl) ?_
      refine lv_iconst (v := 0) hx hb dX10_run_31 (by decide) ?_
      refine gp_10_18 X hP hS ab_196 kf_X10_228 dX10_run_32 (fun H locs hP hS => ?_)
      refine g_name hP (fun q30 hq30 hP => ?_)
      have hf := bnd_go hq30 hf
      refine lv_aload_n hx hb dX10_run_35 rfl (lv_at hl 1 rfl) ?_
      refine lv_iconst (v := 1) hx hb dX10_run_36 (by decide) ?_
      refine g_cI (g_runV (i := 196) (As := [.int (1 : Int32)]) (rest := []) X (c_X10_fails l G hG q30 (1 : Int32)) ca_X10_fails km_X10_59 rfl rfl ⟨Nat.le_of_ble_eq_true rfl, Nat.le_of_ble_eq_true rfl⟩ hP hS (ty_lt ab_196) (cell_10 ab_196) rfl rfl rfl hl.1 rfl (Nat.le_of_ble_eq_true rfl) ⟨Nat.le_of_ble_eq_true rfl, Nat.le_of_ble_eq_true rfl⟩ dX10_run_37) hS (fun q31 hq31 H locs hP hS => ?_)
      have hf := bnd_go hq31 hf
      exact g_iret X hr hlk hP hS hf dX10_run_40
def f_X10_errorPosition (σ : St) : St × Int32 := (bnd (setI σ 196 0 (0 : Int32)) (fun q1 => (q1, (q1.1 196 20))))
abbrev rm_X10_errorPosition : Room := { frames := 0, cells := 0, slots := 0, locals := 0 }
set_option maxHeartbeats 4000000 in
set_option maxRecDepth 100000 in
theorem c_X10_errorPosition (l : Launch) (G : GE) (hG : Gok G) (σ : St) : MtI l G yX10_errorPosition cX10_errorPosition 1 rm_X10_errorPosition [.ref (G.2.1 196)] σ (f_X10_errorPosition σ) := by
  generalize hf : f_X10_errorPosition σ = fv
  rw [f_X10_errorPosition] at hf
  refine g_start hG (plainFor_of_name (by decide)) (Nat.le_of_ble_eq_true rfl) ?_
  intro p e s m args below meth c X hr hlk ls hl H locs hP hS
  have X : Cx G p s m args c cX10_errorPosition 1 RX10 := X
  obtain ⟨hx, hb, hml, hown, hts, hK, hbs, hXW, -⟩ := id X
  have hl : lv_has ls 1 [(0, .ref (G.2.1 196))] := hl
  refine lv_aload_n hx hb dX10_errorPosition_0 rfl (lv_at hl 0 rfl) ?_
  refine lv_iconst (v := 0) hx hb dX10_errorPosition_1 (by decide) ?_
  refine gp_10_0 X hP hS ab_196 kf_X10_50 dX10_errorPosition_2 (fun H locs hP hS => ?_)
  refine g_name hP (fun q1 hq1 hP => ?_)
  have hf := bnd_go hq1 hf
  refine lv_aload_n hx hb dX10_errorPosition_5 rfl (lv_at hl 0 rfl) ?_
  refine gg_10_20 X hP ab_196 kf_X10_42 dX10_errorPosition_6 ?_
  exact g_iret X hr hlk hP hS hf dX10_errorPosition_9
def f_X10_refusal (σ : St) (x1 : Bool) : St × Int32 := (bnd (setI σ 196 0 (0 : Int32)) (fun q1 => (if (q1.1 196 1) = 0 then (bnd (f_X10_fails q1 (1 : Int32)) (fun q2 => (q2.1, q2.2))) else (if x1 = true then (q1, (q1.1 196 2)) else (q1, (q1.1 196 1))))))
abbrev rm_X10_refusal : Room := { frames := 1, cells := 0, slots := 0, locals := 21 }
set_option maxHeartbeats 4000000 in
set_option maxRecDepth 100000 in
theorem c_X10_refusal (l : Launch) (G : GE) (hG : Gok G) (σ : St) (x1 : Bool) : MtI l G yX10_refusal cX10_refusal 2 rm_X10_refusal [.ref (G.2.1 196), .int (bI x1)] σ (f_X10_refusal σ x1) := by
  generalize hf : f_X10_refusal σ x1 = fv
  rw [f_X10_refusal] at hf
  refine g_start hG (plainFor_of_name (by decide)) (Nat.le_of_ble_eq_true rfl) ?_
  intro p e s m args below meth c X hr hlk ls hl H locs hP hS
  have X : Cx G p s m args c cX10_refusal 2 RX10 := X
  obtain ⟨hx, hb, hml, hown, hts, hK, hbs, hXW, -⟩ := id X
  have hl : lv_has ls 2 [(0, .ref (G.2.1 196)), (1, .int (bI x1))] := hl
  refine lv_aload_n hx hb dX10_refusal_0 rfl (lv_at hl 0 rfl) ?_
  refine lv_iconst (v := 0) hx hb dX10_refusal_1 (by decide) ?_
  refine gp_10_0 X hP hS ab_196 kf_X10_50 dX10_refusal_2 (fun H locs hP hS => ?_)
  refine g_name hP (fun q1 hq1 hP => ?_)
  have hf := bnd_go hq1 hf
  refine lv_aload_n hx hb dX10_refusal_5 rfl (lv_at hl 0 rfl) ?_
  refine gg_10_1 X hP ab_196 kf_X10_63 dX10_refusal_6 ?_
  refine lv_if_ne (tgt := 18) hx hb dX10_refusal_9 (by decide) (fun hc => ?_) (fun hc => ?_)
  · have hf := ite_f hc hf
    refine lv_iload_n hx hb dX10_refusal_18 rfl (lv_at hl 1 rfl) ?_
    refine g_ifeqZ (tgt := 29) X dX10_refusal_19 (by decide) (fun hc => ?_) (fun hc => ?_)
    · have hf := ite_z hc hf
      refine lv_aload_n hx hb dX10_refusal_29 rfl (lv_at hl 0 rfl) ?_
      refine gg_10_1 X hP ab_196 kf_X10_63 dX10_refusal_30 ?_
      exact g_iret X hr hlk hP hS hf dX10_refusal_33
    · have hf := ite_t hc hf
      refine lv_aload_n hx hb dX10_refusal_22 rfl (lv_at hl 0 rfl) ?_
      refine gg_10_2 X hP ab_196 kf_X10_66 dX10_refusal_23 ?_
      refine lv_goto (tgt := 33) hx hb dX10_refusal_26 (by decide) ?_
      exact g_iret X hr hlk hP hS hf dX10_refusal_33
  · have hf := ite_t hc hf
    refine lv_aload_n hx hb dX10_refusal_12 rfl (lv_at hl 0 rfl) ?_
    refine lv_iconst (v := 1) hx hb dX10_refusal_13 (by decide) ?_
    refine g_cI (g_runV (i := 196) (As := [.int (1 : Int32)]) (rest := []) X (c_X10_fails l G hG q1 (1 : Int32)) ca_X10_fails km_X10_59 rfl rfl ⟨Nat.le_of_ble_eq_true rfl, Nat.le_of_ble_eq_true rfl⟩ hP hS (ty_lt ab_196) (cell_10 ab_196) rfl rfl rfl hl.1 rfl (Nat.le_of_ble_eq_true rfl) ⟨Nat.le_of_ble_eq_true rfl, Nat.le_of_ble_eq_true rfl⟩ dX10_refusal_14) hS (fun q2 hq2 H locs hP hS => ?_)
    have hf := bnd_go hq2 hf
    exact g_iret X hr hlk hP hS hf dX10_refusal_17
