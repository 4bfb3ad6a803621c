def f_X2_hasCrayon (σ : St) (o0 : Nat) (x1 : Int32) : Bool := (if x1 < 0 then false else (if (σ.1 o0 2) ≤ x1 then false else true))
abbrev rm_X2_hasCrayon : Room := { frames := 0, cells := 0, slots := 0, locals := 0 }
set_option maxHeartbeats 4000000 in
set_option maxRecDepth 100000 in
theorem c_X2_hasCrayon (l : Launch) (G : GE) (hG : Gok G) (σ : St) (o0 : Nat) (ho0 : tyOf o0 = 2) (x1 : Int32) : MtZ l G yX2_hasCrayon cX2_hasCrayon 2 rm_X2_hasCrayon [.ref (G.2.1 o0), .int x1] σ (σ, f_X2_hasCrayon σ o0 x1) := by
  generalize hf : f_X2_hasCrayon σ o0 x1 = fv
  rw [f_X2_hasCrayon] at hf
  refine g_start hG (plainFor_of_name (by decide)) (Nat.le_of_ble_eq_true rfl) ?_
  intro p e s m args below meth c X hr hlk ls hl H locs hP hS
  have X : Cx G p s m args c cX2_hasCrayon 2 RX2 := X
  obtain ⟨hx, hb, hml, hown, hts, hK, hbs, hXW, -⟩ := id X
  have hl : lv_has ls 2 [(0, .ref (G.2.1 o0)), (1, .int x1)] := hl
  refine lv_iload_n hx hb dX2_hasCrayon_0 rfl (lv_at hl 1 rfl) ?_
  refine lv_if_lt (tgt := 16) hx hb dX2_hasCrayon_1 (by decide) (fun hc => ?_) (fun hc => ?_)
  · have hf := ite_t hc hf
    refine lv_iconst (v := 0) hx hb dX2_hasCrayon_16 (by decide) ?_
    exact g_zret (b := false) X hr hlk rfl hP hS (congrArg (Prod.mk σ) hf) dX2_hasCrayon_17
  · have hf := ite_f hc hf
    refine lv_iload_n hx hb dX2_hasCrayon_4 rfl (lv_at hl 1 rfl) ?_
    refine lv_aload_n hx hb dX2_hasCrayon_5 rfl (lv_at hl 0 rfl) ?_
    refine gg_2_2 X hP ho0 kf_X2_32 dX2_hasCrayon_6 ?_
    refine lv_icmp_ge (tgt := 16) hx hb dX2_hasCrayon_9 (by decide) (fun hc => ?_) (fun hc => ?_)
    · have hf := ite_t hc hf
      refine lv_iconst (v := 0) hx hb dX2_hasCrayon_16 (by decide) ?_
      exact g_zret (b := false) X hr hlk rfl hP hS (congrArg (Prod.mk σ) hf) dX2_hasCrayon_17
    · have hf := ite_f hc hf
      refine lv_iconst (v := 1) hx hb dX2_hasCrayon_12 (by decide) ?_
      refine lv_goto (tgt := 17) hx hb dX2_hasCrayon_13 (by decide) ?_
      exact g_zret (b := true) X hr hlk rfl hP hS (congrArg (Prod.mk σ) hf) dX2_hasCrayon_17
def f_X2_hasPotato (σ : St) (o0 : Nat) (x1 : Int32) : Bool := (if x1 < 0 then false else (if (σ.1 o0 3) ≤ x1 then false else true))
abbrev rm_X2_hasPotato : Room := { frames := 0, cells := 0, slots := 0, locals := 0 }
set_option maxHeartbeats 4000000 in
set_option maxRecDepth 100000 in
theorem c_X2_hasPotato (l : Launch) (G : GE) (hG : Gok G) (σ : St) (o0 : Nat) (ho0 : tyOf o0 = 2) (x1 : Int32) : MtZ l G yX2_hasPotato cX2_hasPotato 2 rm_X2_hasPotato [.ref (G.2.1 o0), .int x1] σ (σ, f_X2_hasPotato σ o0 x1) := by
  generalize hf : f_X2_hasPotato σ o0 x1 = fv
  rw [f_X2_hasPotato] at hf
  refine g_start hG (plainFor_of_name (by decide)) (Nat.le_of_ble_eq_true rfl) ?_
  intro p e s m args below meth c X hr hlk ls hl H locs hP hS
  have X : Cx G p s m args c cX2_hasPotato 2 RX2 := X
  obtain ⟨hx, hb, hml, hown, hts, hK, hbs, hXW, -⟩ := id X
  have hl : lv_has ls 2 [(0, .ref (G.2.1 o0)), (1, .int x1)] := hl
  refine lv_iload_n hx hb dX2_hasPotato_0 rfl (lv_at hl 1 rfl) ?_
  refine lv_if_lt (tgt := 16) hx hb dX2_hasPotato_1 (by decide) (fun hc => ?_) (fun hc => ?_)
  · have hf := ite_t hc hf
    refine lv_iconst (v := 0) hx hb dX2_hasPotato_16 (by decide) ?_
    exact g_zret (b := false) X hr hlk rfl hP hS (congrArg (Prod.mk σ) hf) dX2_hasPotato_17
  · have hf := ite_f hc hf
    refine lv_iload_n hx hb dX2_hasPotato_4 rfl (lv_at hl 1 rfl) ?_
    refine lv_aload_n hx hb dX2_hasPotato_5 rfl (lv_at hl 0 rfl) ?_
    refine gg_2_3 X hP ho0 kf_X2_36 dX2_hasPotato_6 ?_
    refine lv_icmp_ge (tgt := 16) hx hb dX2_hasPotato_9 (by decide) (fun hc => ?_) (fun hc => ?_)
    · have hf := ite_t hc hf
      refine lv_iconst (v := 0) hx hb dX2_hasPotato_16 (by decide) ?_
      exact g_zret (b := false) X hr hlk rfl hP hS (congrArg (Prod.mk σ) hf) dX2_hasPotato_17
    · have hf := ite_f hc hf
      refine lv_iconst (v := 1) hx hb dX2_hasPotato_12 (by decide) ?_
      refine lv_goto (tgt := 17) hx hb dX2_hasPotato_13 (by decide) ?_
      exact g_zret (b := true) X hr hlk rfl hP hS (congrArg (Prod.mk σ) hf) dX2_hasPotato_17
def f_X2_addCrayon (σ : St) (o0 : Nat) (x1 : UInt32) : St × Int32 := (bnd (setF σ (o0 + 1) (σ.1 o0 2).toNatClampNeg x1) (fun q2 => (bnd (setI q2 o0 2 ((q2.1 o0 2) + (1 : Int32))) (fun q3 => (q3, (σ.1 o0 2))))))
def ok_X2_addCrayon (σ : St) (o0 : Nat) (x1 : UInt32) : Prop := vp_in (σ.1 o0 2) 8
abbrev rm_X2_addCrayon : Room := { frames := 0, cells := 0, slots := 0, locals := 0 }
set_option maxHeartbeats 4000000 in
set_option maxRecDepth 100000 in
theorem c_X2_addCrayon (l : Launch) (G : GE) (hG : Gok G) (σ : St) (o0 : Nat) (ho0 : tyOf o0 = 2) (x1 : UInt32) (hok : ok_X2_addCrayon σ o0 x1) : MtI l G yX2_addCrayon cX2_addCrayon 3 rm_X2_addCrayon [.ref (G.2.1 o0), .float x1] σ (f_X2_addCrayon σ o0 x1) := by
  generalize hf : f_X2_addCrayon σ o0 x1 = fv
  rw [f_X2_addCrayon] at hf
  rw [ok_X2_addCrayon] at hok
  refine g_start hG (plainFor_of_name (by decide)) (Nat.le_of_ble_eq_true rfl) ?_
  intro p e s m args below meth c X hr hlk ls hl H locs hP hS
  have X : Cx G p s m args c cX2_addCrayon 3 RX2 := X
  obtain ⟨hx, hb, hml, hown, hts, hK, hbs, hXW, -⟩ := id X
  have hl : lv_has ls 3 [(0, .ref (G.2.1 o0)), (1, .float x1)] := hl
  refine lv_aload_n hx hb dX2_addCrayon_0 rfl (lv_at hl 0 rfl) ?_
  refine gg_2_2 X hP ho0 kf_X2_32 dX2_addCrayon_1 ?_
  refine lv_istore_n (lv' := [(2, .int (σ.1 o0 2)), (0, .ref (G.2.1 o0)), (1, .float x1)]) hx hb dX2_addCrayon_4 rfl hl (by decide) rfl (fun ls hl => ?_)
  refine lv_aload_n hx hb dX2_addCrayon_5 rfl (lv_at hl 1 rfl) ?_
  refine gg_2_0 (j := o0 + 1) rfl X hP ho0 kf_X2_9 dX2_addCrayon_6 ?_
  refine lv_iload_n hx hb dX2_addCrayon_9 rfl (lv_at hl 0 rfl) ?_
  refine lv_fload_n hx hb dX2_addCrayon_10 rfl (lv_at hl 2 rfl) ?_
  have hs1 := hok
  refine g_fast X hP hS (tc_2_0 ho0) (by rw [(lc_2_0 ho0)]; exact hs1) dX2_addCrayon_11 (fun H locs hP hS => ?_)
  refine g_name hP (fun q2 hq2 hP => ?_)
  have hf := bnd_go hq2 hf
  refine lv_aload_n hx hb dX2_addCrayon_12 rfl (lv_at hl 1 rfl) ?_
  refine lv_dup hx hb dX2_addCrayon_13 rfl ?_
  refine gg_2_2 X hP ho0 kf_X2_32 dX2_addCrayon_14 ?_
  refine lv_iconst (v := 1) hx hb dX2_addCrayon_17 (by decide) ?_
  refine lv_iadd hx hb dX2_addCrayon_18 ?_
  refine gp_2_2 X hP hS ho0 kf_X2_32 dX2_addCrayon_19 (fun H locs hP hS => ?_)
  refine g_name hP (fun q3 hq3 hP => ?_)
  have hf := bnd_go hq3 hf
  refine lv_iload_n hx hb dX2_addCrayon_22 rfl (lv_at hl 0 rfl) ?_
  exact g_iret X hr hlk hP hS hf dX2_addCrayon_23
def f_X2_addPotato (σ : St) (o0 : Nat) : St × Int32 := (bnd (setF σ (o0 + 2) (σ.1 o0 3).toNatClampNeg FP.fconst1) (fun q2 => (bnd (setI q2 o0 3 ((q2.1 o0 3) + (1 : Int32))) (fun q3 => (q3, (σ.1 o0 3))))))
def ok_X2_addPotato (σ : St) (o0 : Nat) : Prop := vp_in (σ.1 o0 3) 5
abbrev rm_X2_addPotato : Room := { frames := 0, cells := 0, slots := 0, locals := 0 }
set_option maxHeartbeats 4000000 in
set_option maxRecDepth 100000 in
theorem c_X2_addPotato (l : Launch) (G : GE) (hG : Gok G) (σ : St) (o0 : Nat) (ho0 : tyOf o0 = 2) (hok : ok_X2_addPotato σ o0) : MtI l G yX2_addPotato cX2_addPotato 2 rm_X2_addPotato [.ref (G.2.1 o0)] σ (f_X2_addPotato σ o0) := by
  generalize hf : f_X2_addPotato σ o0 = fv
  rw [f_X2_addPotato] at hf
  rw [ok_X2_addPotato] at hok
  refine g_start hG (plainFor_of_name (by decide)) (Nat.le_of_ble_eq_true rfl) ?_
  intro p e s m args below meth c X hr hlk ls hl H locs hP hS
  have X : Cx G p s m args c cX2_addPotato 2 RX2 := X
  obtain ⟨hx, hb, hml, hown, hts, hK, hbs, hXW, -⟩ := id X
  have hl : lv_has ls 2 [(0, .ref (G.2.1 o0))] := hl
  refine lv_aload_n hx hb dX2_addPotato_0 rfl (lv_at hl 0 rfl) ?_
  refine gg_2_3 X hP ho0 kf_X2_36 dX2_addPotato_1 ?_
  refine lv_istore_n (lv' := [(1, .int (σ.1 o0 3)), (0, .ref (G.2.1 o0))]) hx hb dX2_addPotato_4 rfl hl (by decide) rfl (fun ls hl => ?_)
  refine lv_aload_n hx hb dX2_addPotato_5 rfl (lv_at hl 1 rfl) ?_
  refine gg_2_1 (j := o0 + 2) rfl X hP ho0 kf_X2_15 dX2_addPotato_6 ?_
  refine lv_iload_n hx hb dX2_addPotato_9 rfl (lv_at hl 0 rfl) ?_
  refine lv_fconst1 hx hb dX2_addPotato_10 ?_
  have hs1 := hok
  refine g_fast X hP hS (tc_2_1 ho0) (by rw [(lc_2_1 ho0)]; exact hs1) dX2_addPotato_11 (fun H locs hP hS => ?_)
  refine g_name hP (fun q2 hq2 hP => ?_)
  have hf := bnd_go hq2 hf
  refine lv_aload_n hx hb dX2_addPotato_12 rfl (lv_at hl 1 rfl) ?_
  refine lv_dup hx hb dX2_addPotato_13 rfl ?_
  refine gg_2_3 X hP ho0 kf_X2_36 dX2_addPotato_14 ?_
  refine lv_iconst (v := 1) hx hb dX2_addPotato_17 (by decide) ?_
  refine lv_iadd hx hb dX2_addPotato_18 ?_
  refine gp_2_3 X hP hS ho0 kf_X2_36 dX2_addPotato_19 (fun H locs hP hS => ?_)
  refine g_name hP (fun q3 hq3 hP => ?_)
  have hf := bnd_go hq3 hf
  refine lv_iload_n hx hb dX2_addPotato_22 rfl (lv_at hl 0 rfl) ?_
  exact g_iret X hr hlk hP hS hf dX2_addPotato_23
def f_X2_addString (σ : St) (o0 : Nat) (x1 : UInt32) : St := (if (Op.cmpValue (FP.fcmp (FP.fadd (σ.2.1 o0 4) x1) (1120272384 : UInt32)) CmpOp.l) ≤ 0 then (bnd (setF σ o0 4 (FP.fadd (σ.2.1 o0 4) x1)) (fun q2 => q2)) else (bnd (setF σ o0 4 (1120272384 : UInt32)) (fun q3 => q3)))
def ok_X2_addString (σ : St) (o0 : Nat) (x1 : UInt32) : Prop := vf_n32 (FP.fadd (σ.2.1 o0 4) x1)
abbrev rm_X2_addString : Room := { frames := 0, cells := 0, slots := 0, locals := 0 }
set_option maxHeartbeats 4000000 in
set_option maxRecDepth 100000 in
theorem c_X2_addString (l : Launch) (G : GE) (hG : Gok G) (σ : St) (o0 : Nat) (ho0 : tyOf o0 = 2) (x1 : UInt32) (hok : ok_X2_addString σ o0 x1) : MtV l G yX2_addString cX2_addString 3 rm_X2_addString [.ref (G.2.1 o0), .float x1] σ (f_X2_addString σ o0 x1) := by
  generalize hf : f_X2_addString σ o0 x1 = fv
  rw [f_X2_addString] at hf
  rw [ok_X2_addString] at hok
  refine g_start hG (plainFor_of_name (by decide)) (Nat.le_of_ble_eq_true rfl) ?_
  intro p e s m args below meth c X hr hlk ls hl H locs hP hS
  have X : Cx G p s m args c cX2_addString 3 RX2 := X
  obtain ⟨hx, hb, hml, hown, hts, hK, hbs, hXW, -⟩ := id X
  have hl : lv_has ls 3 [(0, .ref (G.2.1 o0)), (1, .float x1)] := hl
  refine lv_aload_n hx hb dX2_addString_0 rfl (lv_at hl 0 rfl) ?_
  refine gg_2_4 X hP ho0 kf_X2_19 dX2_addString_1 ?_
  refine lv_fload_n hx hb dX2_addString_4 rfl (lv_at hl 1 rfl) ?_
  have hs1 := hok
  refine lv_fadd hx hb dX2_addString_5 hs1 ?_
  refine lv_fstore_n (lv' := [(2, .float (FP.fadd (σ.2.1 o0 4) x1)), (0, .ref (G.2.1 o0)), (1, .float x1)]) hx hb dX2_addString_6 rfl hl (by decide) rfl (fun ls hl => ?_)
  refine lv_aload_n hx hb dX2_addString_7 rfl (lv_at hl 1 rfl) ?_
  refine lv_fload_n hx hb dX2_addString_8 rfl (lv_at hl 0 rfl) ?_
  refine lv_ldcf hx hb hown (hts _ kc_X2_39) dX2_addString_9 ?_
  refine lv_fcmp hx hb dX2_addString_11 ?_
  refine lv_if_le (tgt := 20) hx hb dX2_addString_12 (by decide) (fun hc => ?_) (fun hc => ?_)
  · have hf := ite_t hc hf
    refine lv_fload_n hx hb dX2_addString_20 rfl (lv_at hl 0 rfl) ?_
    refine gp_2_4 X hP hS ho0 kf_X2_19 dX2_addString_21 (fun H locs hP hS => ?_)
    refine g_name hP (fun q2 hq2 hP => ?_)
    have hf := bnd_go hq2 hf
    exact g_vret X hr hlk hP hS hf dX2_addString_24
  · have hf := ite_f hc hf
    refine lv_ldcf hx hb hown (hts _ kc_X2_39) dX2_addString_15 ?_
    refine lv_goto (tgt := 21) hx hb dX2_addString_17 (by decide) ?_
    refine gp_2_4 X hP hS ho0 kf_X2_19 dX2_addString_21 (fun H locs hP hS => ?_)
    refine g_name hP (fun q3 hq3 hP => ?_)
    have hf := bnd_go hq3 hf
    exact g_vret X hr hlk hP hS hf dX2_addString_24
def f_X2_addInk (σ : St) (o0 : Nat) (x1 : UInt32) : St := (if (Op.cmpValue (FP.fcmp (FP.fadd (σ.2.1 o0 5) x1) (1091567616 : UInt32)) CmpOp.l) ≤ 0 then (bnd (setF σ o0 5 (FP.fadd (σ.2.1 o0 5) x1)) (fun q2 => q2)) else (bnd (setF σ o0 5 (1091567616 : UInt32)) (fun q3 => q3)))
def ok_X2_addInk (σ : St) (o0 : Nat) (x1 : UInt32) : Prop := vf_n32 (FP.fadd (σ.2.1 o0 5) x1)
abbrev rm_X2_addInk : Room := { frames := 0, cells := 0, slots := 0, locals := 0 }
set_option maxHeartbeats 4000000 in
set_option maxRecDepth 100000 in
theorem c_X2_addInk (l : Launch) (G : GE) (hG : Gok G) (σ : St) (o0 : Nat) (ho0 : tyOf o0 = 2) (x1 : UInt32) (hok : ok_X2_addInk σ o0 x1) : MtV l G yX2_addInk cX2_addInk 3 rm_X2_addInk [.ref (G.2.1 o0), .float x1] σ (f_X2_addInk σ o0 x1) := by
  generalize hf : f_X2_addInk σ o0 x1 = fv
  rw [f_X2_addInk] at hf
  rw [ok_X2_addInk] at hok
  refine g_start hG (plainFor_of_name (by decide)) (Nat.le_of_ble_eq_true rfl) ?_
  intro p e s m args below meth c X hr hlk ls hl H locs hP hS
  have X : Cx G p s m args c cX2_addInk 3 RX2 := X
  obtain ⟨hx, hb, hml, hown, hts, hK, hbs, hXW, -⟩ := id X
  have hl : lv_has ls 3 [(0, .ref (G.2.1 o0)), (1, .float x1)] := hl
  refine lv_aload_n hx hb dX2_addInk_0 rfl (lv_at hl 0 rfl) ?_
  refine gg_2_5 X hP ho0 kf_X2_23 dX2_addInk_1 ?_
  refine lv_fload_n hx hb dX2_addInk_4 rfl (lv_at hl 1 rfl) ?_
  have hs1 := hok
  refine lv_fadd hx hb dX2_addInk_5 hs1 ?_
  refine lv_fstore_n (lv' := [(2, .float (FP.fadd (σ.2.1 o0 5) x1)), (0, .ref (G.2.1 o0)), (1, .float x1)]) hx hb dX2_addInk_6 rfl hl (by decide) rfl (fun ls hl => ?_)
  refine lv_aload_n hx hb dX2_addInk_7 rfl (lv_at hl 1 rfl) ?_
  refine lv_fload_n hx hb dX2_addInk_8 rfl (lv_at hl 0 rfl) ?_
  refine lv_ldcf hx hb hown (hts _ kc_X2_40) dX2_addInk_9 ?_
  refine lv_fcmp hx hb dX2_addInk_11 ?_
  refine lv_if_le (tgt := 20) hx hb dX2_addInk_12 (by decide) (fun hc => ?_) (fun hc => ?_)
  · have hf := ite_t hc hf
    refine lv_fload_n hx hb dX2_addInk_20 rfl (lv_at hl 0 rfl) ?_
    refine gp_2_5 X hP hS ho0 kf_X2_23 dX2_addInk_21 (fun H locs hP hS => ?_)
    refine g_name hP (fun q2 hq2 hP => ?_)
    have hf := bnd_go hq2 hf
    exact g_vret X hr hlk hP hS hf dX2_addInk_24
  · have hf := ite_f hc hf
    refine lv_ldcf hx hb hown (hts _ kc_X2_40) dX2_addInk_15 ?_
    refine lv_goto (tgt := 21) hx hb dX2_addInk_17 (by decide) ?_
    refine gp_2_5 X hP hS ho0 kf_X2_23 dX2_addInk_21 (fun H locs hP hS => ?_)
    refine g_name hP (fun q3 hq3 hP => ?_)
    have hf := bnd_go hq3 hf
    exact g_vret X hr hlk hP hS hf dX2_addInk_24
def f_X2_printNow (σ : St) (o0 : Nat) (x1 : Int32) : UInt32 := (f_X9_printOf (σ.2.1 (o0 + 2) x1.toNatClampNeg) (σ.2.1 o0 5))
def ok_X2_printNow (σ : St) (o0 : Nat) (x1 : Int32) : Prop := (vp_in x1 5 ∧ ok_X9_printOf (σ.2.1 (o0 + 2) x1.toNatClampNeg) (σ.2.1 o0 5))
abbrev rm_X2_printNow : Room := { frames := 1, cells := 0, slots := 0, locals := 21 }
set_option maxHeartbeats 4000000 in
set_option maxRecDepth 100000 in
theorem c_X2_printNow (l : Launch) (G : GE) (hG : Gok G) (σ : St) (o0 : Nat) (ho0 : tyOf o0 = 2) (x1 : Int32) (hok : ok_X2_printNow σ o0 x1) : MtF l G yX2_printNow cX2_printNow 2 rm_X2_printNow [.ref (G.2.1 o0), .int x1] σ (σ, f_X2_printNow σ o0 x1) := by
  generalize hf : f_X2_printNow σ o0 x1 = fv
  rw [f_X2_printNow] at hf
  rw [ok_X2_printNow] at hok
  refine g_start hG (plainFor_of_name (by decide)) (Nat.le_of_ble_eq_true rfl) ?_
  intro p e s m args below meth c X hr hlk ls hl H locs hP hS
  have X : Cx G p s m args c cX2_printNow 2 RX2 := X
  obtain ⟨hx, hb, hml, hown, hts, hK, hbs, hXW, -⟩ := id X
  have hl : lv_has ls 2 [(0, .ref (G.2.1 o0)), (1, .int x1)] := hl
  refine lv_aload_n hx hb dX2_printNow_0 rfl (lv_at hl 0 rfl) ?_
  refine gg_2_1 (j := o0 + 2) rfl X hP ho0 kf_X2_15 dX2_printNow_1 ?_
  refine lv_iload_n hx hb dX2_printNow_4 rfl (lv_at hl 1 rfl) ?_
  have hs1 := hok.1
  have hok := hok.2
  refine g_fald X hP (tc_2_1 ho0) (by rw [(lc_2_1 ho0)]; exact hs1) dX2_printNow_5 ?_
  refine lv_aload_n hx hb dX2_printNow_6 rfl (lv_at hl 0 rfl) ?_
  refine gg_2_5 X hP ho0 kf_X2_23 dX2_printNow_7 ?_
  have hs2 := hok
  refine g_cFp (g_runSN (As := [.float (σ.2.1 (o0 + 2) x1.toNatClampNeg), .float (σ.2.1 o0 5)]) (rest := []) X (c_X9_printOf l G hG σ (σ.2.1 (o0 + 2) x1.toNatClampNeg) (σ.2.1 o0 5) hs2) ca_X9_printOf km_X2_41 rfl rfl ⟨Nat.le_of_ble_eq_true rfl, Nat.le_of_ble_eq_true rfl⟩ hP hS rfl hl.1 rfl (Nat.le_of_ble_eq_true rfl) ⟨Nat.le_of_ble_eq_true rfl, Nat.le_of_ble_eq_true rfl⟩ dX2_printNow_10) hS (fun H locs hP hS => ?_)
  exact g_fret X hr hlk hP hS (congrArg (Prod.mk σ) hf) dX2_printNow_13
def f_X2_copyFrom (σ : St) (o0 : Nat) (o1 : Nat) : St := (bnd (rowF σ (o0 + 1) (va_cpy (σ.2.1 (o1 + 1)) (σ.2.1 (o0 + 1)) 0 0 8)) (fun q1 => (bnd (rowF q1 (o0 + 2) (va_cpy (q1.2.1 (o1 + 2)) (q1.2.1 (o0 + 2)) 0 0 5)) (fun q2 => (bnd (setI q2 o0 2 (q2.1 o1 2)) (fun q3 => (bnd (setI q3 o0 3 (q3.1 o1 3)) (fun q4 => (bnd (setF q4 o0 4 (q4.2.1 o1 4)) (fun q5 => (bnd (setF q5 o0 5 (q5.2.1 o1 5)) (fun q6 => q6))))))))))))
abbrev rm_X2_copyFrom : Room := { frames := 1, cells := 0, slots := 0, locals := 60 }
set_option maxHeartbeats 4000000 in
set_option maxRecDepth 100000 in
theorem c_X2_copyFrom (l : Launch) (G : GE) (hG : Gok G) (σ : St) (o0 : Nat) (ho0 : tyOf o0 = 2) (o1 : Nat) (ho1 : tyOf o1 = 2) : MtV l G yX2_copyFrom cX2_copyFrom 2 rm_X2_copyFrom [.ref (G.2.1 o0), .ref (G.2.1 o1)] σ (f_X2_copyFrom σ o0 o1) := by
  generalize hf : f_X2_copyFrom σ o0 o1 = fv
  rw [f_X2_copyFrom] at hf
  refine g_start hG (plainFor_of_name (by decide)) (Nat.le_of_ble_eq_true rfl) ?_
  intro p e s m args below meth c X hr hlk ls hl H locs hP hS
  have X : Cx G p s m args c cX2_copyFrom 2 RX2 := X
  obtain ⟨hx, hb, hml, hown, hts, hK, hbs, hXW, -⟩ := id X
  have hl : lv_has ls 2 [(0, .ref (G.2.1 o0)), (1, .ref (G.2.1 o1))] := hl
  refine lv_aload_n hx hb dX2_copyFrom_0 rfl (lv_at hl 1 rfl) ?_
  refine gg_2_0 (j := o1 + 1) rfl X hP ho1 kf_X2_9 dX2_copyFrom_1 ?_
  refine lv_iconst (v := 0) hx hb dX2_copyFrom_4 (by decide) ?_
  refine lv_aload_n hx hb dX2_copyFrom_5 rfl (lv_at hl 0 rfl) ?_
  refine gg_2_0 (j := o0 + 1) rfl X hP ho0 kf_X2_9 dX2_copyFrom_6 ?_
  refine lv_iconst (v := 0) hx hb dX2_copyFrom_9 (by decide) ?_
  refine lv_bipush (v := 8) hx hb dX2_copyFrom_10 (by decide) ?_
  refine g_copyF (N := 8) X hP hS (tc_2_0 ho1) (tc_2_0 ho0) (by rfl) (by decide) (by rw [(lc_2_0 ho1)]; decide) (by rw [(lc_2_0 ho0)]; decide) km_X2_26 hl.1 (Nat.le_of_ble_eq_true rfl) (Nat.le_of_ble_eq_true rfl) dX2_copyFrom_12 (fun H locs hP hS => ?_)
  refine g_name hP (fun q1 hq1 hP => ?_)
  have hf := bnd_go hq1 hf
  refine lv_aload_n hx hb dX2_copyFrom_15 rfl (lv_at hl 1 rfl) ?_
  refine gg_2_1 (j := o1 + 2) rfl X hP ho1 kf_X2_15 dX2_copyFrom_16 ?_
  refine lv_iconst (v := 0) hx hb dX2_copyFrom_19 (by decide) ?_
  refine lv_aload_n hx hb dX2_copyFrom_20 rfl (lv_at hl 0 rfl) ?_
  refine gg_2_1 (j := o0 + 2) rfl X hP ho0 kf_X2_15 dX2_copyFrom_21 ?_
  refine lv_iconst (v := 0) hx hb dX2_copyFrom_24 (by decide) ?_
  refine lv_iconst (v := 5) hx hb dX2_copyFrom_25 (by decide) ?_
  refine g_copyF (N := 5) X hP hS (tc_2_1 ho1) (tc_2_1 ho0) (by rfl) (by decide) (by rw [(lc_2_1 ho1)]; decide) (by rw [(lc_2_1 ho0)]; decide) km_X2_26 hl.1 (Nat.le_of_ble_eq_true rfl) (Nat.le_of_ble_eq_true rfl) dX2_copyFrom_26 (fun H locs hP hS => ?_)
  refine g_name hP (fun q2 hq2 hP => ?_)
  have hf := bnd_go hq2 hf
  refine lv_aload_n hx hb dX2_copyFrom_29 rfl (lv_at hl 0 rfl) ?_
  refine lv_aload_n hx hb dX2_copyFrom_30 rfl (lv_at hl 1 rfl) ?_
  refine gg_2_2 X hP ho1 kf_X2_32 dX2_copyFrom_31 ?_
  refine gp_2_2 X hP hS ho0 kf_X2_32 dX2_copyFrom_34 (fun H locs hP hS => ?_)
  refine g_name hP (fun q3 hq3 hP => ?_)
  have hf := bnd_go hq3 hf
  refine lv_aload_n hx hb dX2_copyFrom_37 rfl (lv_at hl 0 rfl) ?_
  refine lv_aload_n hx hb dX2_copyFrom_38 rfl (lv_at hl 1 rfl) ?_
  refine gg_2_3 X hP ho1 kf_X2_36 dX2_copyFrom_39 ?_
  refine gp_2_3 X hP hS ho0 kf_X2_36 dX2_copyFrom_42 (fun H locs hP hS => ?_)
  refine g_name hP (fun q4 hq4 hP => ?_)
  have hf := bnd_go hq4 hf
  refine lv_aload_n hx hb dX2_copyFrom_45 rfl (lv_at hl 0 rfl) ?_
  refine lv_aload_n hx hb dX2_copyFrom_46 rfl (lv_at hl 1 rfl) ?_
  refine gg_2_4 X hP ho1 kf_X2_19 dX2_copyFrom_47 ?_
  refine gp_2_4 X hP hS ho0 kf_X2_19 dX2_copyFrom_50 (fun H locs hP hS => ?_)
  refine g_name hP (fun q5 hq5 hP => ?_)
  have hf := bnd_go hq5 hf
  refine lv_aload_n hx hb dX2_copyFrom_53 rfl (lv_at hl 0 rfl) ?_
  refine lv_aload_n hx hb dX2_copyFrom_54 rfl (lv_at hl 1 rfl) ?_
  refine gg_2_5 X hP ho1 kf_X2_23 dX2_copyFrom_55 ?_
  refine gp_2_5 X hP hS ho0 kf_X2_23 dX2_copyFrom_58 (fun H locs hP hS => ?_)
  refine g_name hP (fun q6 hq6 hP => ?_)
  have hf := bnd_go hq6 hf
  exact g_vret X hr hlk hP hS hf dX2_copyFrom_61
