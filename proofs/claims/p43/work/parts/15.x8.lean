def f_X8_holesIn (x0 : Int32) : Int32 := (if x0 = 0 then (3 : Int32) else (2 : Int32))
abbrev rm_X8_holesIn : Room := { frames := 0, cells := 0, slots := 0, locals := 0 }
set_option maxHeartbeats 4000000 in
set_option maxRecDepth 100000 in
theorem c_X8_holesIn (l : Launch) (G : GE) (hG : Gok G) (σ : St) (x0 : Int32) : MtI l G yX8_holesIn cX8_holesIn 1 rm_X8_holesIn [.int x0] σ (σ, f_X8_holesIn x0) := by
  generalize hf : f_X8_holesIn x0 = fv
  rw [f_X8_holesIn] at hf
  refine g_start hG (plainFor_of_name (by decide)) (Nat.le_of_ble_eq_true rfl) ?_
  intro p e s m args below meth c X hr hlk ls hl H locs hP hS
  have X : Cx G p s m args c cX8_holesIn 1 RX8 := X
  obtain ⟨hx, hb, hml, hown, hts, hK, hbs, hXW, -⟩ := id X
  have hl : lv_has ls 1 [(0, .int x0)] := hl
  refine lv_iload_n hx hb dX8_holesIn_0 rfl (lv_at hl 0 rfl) ?_
  refine lv_if_ne (tgt := 8) hx hb dX8_holesIn_1 (by decide) (fun hc => ?_) (fun hc => ?_)
  · have hf := ite_f hc hf
    refine lv_iconst (v := 2) hx hb dX8_holesIn_8 (by decide) ?_
    exact g_iret X hr hlk hP hS (congrArg (Prod.mk σ) hf) dX8_holesIn_9
  · have hf := ite_t hc hf
    refine lv_iconst (v := 3) hx hb dX8_holesIn_4 (by decide) ?_
    refine lv_goto (tgt := 9) hx hb dX8_holesIn_5 (by decide) ?_
    exact g_iret X hr hlk hP hS (congrArg (Prod.mk σ) hf) dX8_holesIn_9
def f_X8_isHole (x0 : Int32) (x1 : Int32) (x2 : Int32) : Bool := (if (f_X9_isChild x0) = true then (if (f_X9_inRange x1 (0 : Int32) (1 : Int32)) = true then (if (f_X9_inRange x2 (0 : Int32) ((f_X8_holesIn x1) - (1 : Int32))) = true then true else false) else false) else false)
abbrev rm_X8_isHole : Room := { frames := 2, cells := 0, slots := 0, locals := 42 }
set_option maxHeartbeats 4000000 in
set_option maxRecDepth 100000 in
theorem c_X8_isHole (l : Launch) (G : GE) (hG : Gok G) (σ : St) (x0 : Int32) (x1 : Int32) (x2 : Int32) : MtZ l G yX8_isHole cX8_isHole 3 rm_X8_isHole [.int x0, .int x1, .int x2] σ (σ, f_X8_isHole x0 x1 x2) := by
  generalize hf : f_X8_isHole x0 x1 x2 = fv
  rw [f_X8_isHole] at hf
  refine g_start hG (plainFor_of_name (by decide)) (Nat.le_of_ble_eq_true rfl) ?_
  intro p e s m args below meth c X hr hlk ls hl H locs hP hS
  have X : Cx G p s m args c cX8_isHole 3 RX8 := X
  obtain ⟨hx, hb, hml, hown, hts, hK, hbs, hXW, -⟩ := id X
  have hl : lv_has ls 3 [(0, .int x0), (1, .int x1), (2, .int x2)] := hl
  refine lv_iload_n hx hb dX8_isHole_0 rfl (lv_at hl 0 rfl) ?_
  refine g_cZp (g_runSN (As := [.int x0]) (rest := []) X (c_X9_isChild l G hG σ x0) ca_X9_isChild km_X8_30 rfl rfl ⟨Nat.le_of_ble_eq_true rfl, Nat.le_of_ble_eq_true rfl⟩ hP hS rfl hl.1 rfl (Nat.le_of_ble_eq_true rfl) ⟨Nat.le_of_ble_eq_true rfl, Nat.le_of_ble_eq_true rfl⟩ dX8_isHole_1) hS (fun H locs hP hS => ?_)
  refine g_ifeqZ (tgt := 34) X dX8_isHole_4 (by decide) (fun hc => ?_) (fun hc => ?_)
  · have hf := ite_z hc hf
    refine lv_iconst (v := 0) hx hb dX8_isHole_34 (by decide) ?_
    exact g_zret (b := false) X hr hlk rfl hP hS (congrArg (Prod.mk σ) hf) dX8_isHole_35
  · have hf := ite_t hc hf
    refine lv_iload_n hx hb dX8_isHole_7 rfl (lv_at hl 1 rfl) ?_
    refine lv_iconst (v := 0) hx hb dX8_isHole_8 (by decide) ?_
    refine lv_iconst (v := 1) hx hb dX8_isHole_9 (by decide) ?_
    refine g_cZp (g_runSN (As := [.int x1, .int (0 : Int32), .int (1 : Int32)]) (rest := []) X (c_X9_inRange l G hG σ x1 (0 : Int32) (1 : Int32)) ca_X9_inRange km_X8_34 rfl rfl ⟨Nat.le_of_ble_eq_true rfl, Nat.le_of_ble_eq_true rfl⟩ hP hS rfl hl.1 rfl (Nat.le_of_ble_eq_true rfl) ⟨Nat.le_of_ble_eq_true rfl, Nat.le_of_ble_eq_true rfl⟩ dX8_isHole_10) hS (fun H locs hP hS => ?_)
    refine g_ifeqZ (tgt := 34) X dX8_isHole_13 (by decide) (fun hc => ?_) (fun hc => ?_)
    · have hf := ite_z hc hf
      refine lv_iconst (v := 0) hx hb dX8_isHole_34 (by decide) ?_
      exact g_zret (b := false) X hr hlk rfl hP hS (congrArg (Prod.mk σ) hf) dX8_isHole_35
    · have hf := ite_t hc hf
      refine lv_iload_n hx hb dX8_isHole_16 rfl (lv_at hl 2 rfl) ?_
      refine lv_iconst (v := 0) hx hb dX8_isHole_17 (by decide) ?_
      refine lv_iload_n hx hb dX8_isHole_18 rfl (lv_at hl 1 rfl) ?_
      refine g_cIp (g_runS (As := [.int x1]) (rest := [.int (0 : Int32), .int x2]) X (c_X8_holesIn l G hG σ x1) ca_X8_holesIn km_X8_38 rfl rfl ⟨Nat.le_of_ble_eq_true rfl, Nat.le_of_ble_eq_true rfl⟩ hP hS rfl hl.1 rfl (Nat.le_of_ble_eq_true rfl) ⟨Nat.le_of_ble_eq_true rfl, Nat.le_of_ble_eq_true rfl⟩ dX8_isHole_19) hS (fun H locs hP hS => ?_)
      refine lv_iconst (v := 1) hx hb dX8_isHole_22 (by decide) ?_
      refine lv_isub hx hb dX8_isHole_23 ?_
      refine g_cZp (g_runSN (As := [.int x2, .int (0 : Int32), .int ((f_X8_holesIn x1) - (1 : Int32))]) (rest := []) X (c_X9_inRange l G hG σ x2 (0 : Int32) ((f_X8_holesIn x1) - (1 : Int32))) ca_X9_inRange km_X8_34 rfl rfl ⟨Nat.le_of_ble_eq_true rfl, Nat.le_of_ble_eq_true rfl⟩ hP hS rfl hl.1 rfl (Nat.le_of_ble_eq_true rfl) ⟨Nat.le_of_ble_eq_true rfl, Nat.le_of_ble_eq_true rfl⟩ dX8_isHole_24) hS (fun H locs hP hS => ?_)
      refine g_ifeqZ (tgt := 34) X dX8_isHole_27 (by decide) (fun hc => ?_) (fun hc => ?_)
      · have hf := ite_z hc hf
        refine lv_iconst (v := 0) hx hb dX8_isHole_34 (by decide) ?_
        exact g_zret (b := false) X hr hlk rfl hP hS (congrArg (Prod.mk σ) hf) dX8_isHole_35
      · have hf := ite_t hc hf
        refine lv_iconst (v := 1) hx hb dX8_isHole_30 (by decide) ?_
        refine lv_goto (tgt := 35) hx hb dX8_isHole_31 (by decide) ?_
        exact g_zret (b := true) X hr hlk rfl hP hS (congrArg (Prod.mk σ) hf) dX8_isHole_35
def f_X8_placeOf (x0 : Int32) (x1 : Int32) (x2 : Int32) : Int32 := (((x0 * (5 : Int32)) + (x1 * (3 : Int32))) + x2)
abbrev rm_X8_placeOf : Room := { frames := 0, cells := 0, slots := 0, locals := 0 }
set_option maxHeartbeats 4000000 in
set_option maxRecDepth 100000 in
theorem c_X8_placeOf (l : Launch) (G : GE) (hG : Gok G) (σ : St) (x0 : Int32) (x1 : Int32) (x2 : Int32) : MtI l G yX8_placeOf cX8_placeOf 3 rm_X8_placeOf [.int x0, .int x1, .int x2] σ (σ, f_X8_placeOf x0 x1 x2) := by
  generalize hf : f_X8_placeOf x0 x1 x2 = fv
  rw [f_X8_placeOf] at hf
  refine g_start hG (plainFor_of_name (by decide)) (Nat.le_of_ble_eq_true rfl) ?_
  intro p e s m args below meth c X hr hlk ls hl H locs hP hS
  have X : Cx G p s m args c cX8_placeOf 3 RX8 := X
  obtain ⟨hx, hb, hml, hown, hts, hK, hbs, hXW, -⟩ := id X
  have hl : lv_has ls 3 [(0, .int x0), (1, .int x1), (2, .int x2)] := hl
  refine lv_iload_n hx hb dX8_placeOf_0 rfl (lv_at hl 0 rfl) ?_
  refine lv_iconst (v := 5) hx hb dX8_placeOf_1 (by decide) ?_
  refine lv_imul hx hb dX8_placeOf_2 ?_
  refine lv_iload_n hx hb dX8_placeOf_3 rfl (lv_at hl 1 rfl) ?_
  refine lv_iconst (v := 3) hx hb dX8_placeOf_4 (by decide) ?_
  refine lv_imul hx hb dX8_placeOf_5 ?_
  refine lv_iadd hx hb dX8_placeOf_6 ?_
  refine lv_iload_n hx hb dX8_placeOf_7 rfl (lv_at hl 2 rfl) ?_
  refine lv_iadd hx hb dX8_placeOf_8 ?_
  exact g_iret X hr hlk hP hS (congrArg (Prod.mk σ) hf) dX8_placeOf_9
def f_X8_itemAt (σ : St) (o0 : Nat) (x1 : Int32) (x2 : Int32) (x3 : Int32) : Int32 := (σ.1 (o0 + 1) (f_X8_placeOf x1 x2 x3).toNatClampNeg)
def ok_X8_itemAt (σ : St) (o0 : Nat) (x1 : Int32) (x2 : Int32) (x3 : Int32) : Prop := vp_in (f_X8_placeOf x1 x2 x3) 30
abbrev rm_X8_itemAt : Room := { frames := 1, cells := 0, slots := 0, locals := 22 }
set_option maxHeartbeats 4000000 in
set_option maxRecDepth 100000 in
theorem c_X8_itemAt (l : Launch) (G : GE) (hG : Gok G) (σ : St) (o0 : Nat) (ho0 : tyOf o0 = 8) (x1 : Int32) (x2 : Int32) (x3 : Int32) (hok : ok_X8_itemAt σ o0 x1 x2 x3) : MtI l G yX8_itemAt cX8_itemAt 4 rm_X8_itemAt [.ref (G.2.1 o0), .int x1, .int x2, .int x3] σ (σ, f_X8_itemAt σ o0 x1 x2 x3) := by
  generalize hf : f_X8_itemAt σ o0 x1 x2 x3 = fv
  rw [f_X8_itemAt] at hf
  rw [ok_X8_itemAt] at hok
  refine g_start hG (plainFor_of_name (by decide)) (Nat.le_of_ble_eq_true rfl) ?_
  intro p e s m args below meth c X hr hlk ls hl H locs hP hS
  have X : Cx G p s m args c cX8_itemAt 4 RX8 := X
  obtain ⟨hx, hb, hml, hown, hts, hK, hbs, hXW, -⟩ := id X
  have hl : lv_has ls 4 [(0, .ref (G.2.1 o0)), (1, .int x1), (2, .int x2), (3, .int x3)] := hl
  refine lv_aload_n hx hb dX8_itemAt_0 rfl (lv_at hl 0 rfl) ?_
  refine gg_8_0 (j := o0 + 1) rfl X hP ho0 kf_X8_11 dX8_itemAt_1 ?_
  refine lv_iload_n hx hb dX8_itemAt_4 rfl (lv_at hl 1 rfl) ?_
  refine lv_iload_n hx hb dX8_itemAt_5 rfl (lv_at hl 2 rfl) ?_
  refine lv_iload_n hx hb dX8_itemAt_6 rfl (lv_at hl 3 rfl) ?_
  refine g_cIp (g_runS (As := [.int x1, .int x2, .int x3]) (rest := [.ref (G.2.1 (o0 + 1))]) X (c_X8_placeOf l G hG σ x1 x2 x3) ca_X8_placeOf km_X8_42 rfl rfl ⟨Nat.le_of_ble_eq_true rfl, Nat.le_of_ble_eq_true rfl⟩ hP hS rfl hl.1 rfl (Nat.le_of_ble_eq_true rfl) ⟨Nat.le_of_ble_eq_true rfl, Nat.le_of_ble_eq_true rfl⟩ dX8_itemAt_7) hS (fun H locs hP hS => ?_)
  have hs1 := hok
  refine g_iald X hP (tc_8_0 ho0) (by rw [(lc_8_0 ho0)]; exact hs1) dX8_itemAt_10 ?_
  exact g_iret X hr hlk hP hS (congrArg (Prod.mk σ) hf) dX8_itemAt_11
def f_X8_put (σ : St) (o0 : Nat) (x1 : Int32) (x2 : Int32) (x3 : Int32) (x4 : Int32) : St := (bnd (setI σ (o0 + 1) (f_X8_placeOf x1 x2 x3).toNatClampNeg x4) (fun q2 => q2))
def ok_X8_put (σ : St) (o0 : Nat) (x1 : Int32) (x2 : Int32) (x3 : Int32) (x4 : Int32) : Prop := vp_in (f_X8_placeOf x1 x2 x3) 30
abbrev rm_X8_put : Room := { frames := 1, cells := 0, slots := 0, locals := 22 }
set_option maxHeartbeats 4000000 in
set_option maxRecDepth 100000 in
theorem c_X8_put (l : Launch) (G : GE) (hG : Gok G) (σ : St) (o0 : Nat) (ho0 : tyOf o0 = 8) (x1 : Int32) (x2 : Int32) (x3 : Int32) (x4 : Int32) (hok : ok_X8_put σ o0 x1 x2 x3 x4) : MtV l G yX8_put cX8_put 5 rm_X8_put [.ref (G.2.1 o0), .int x1, .int x2, .int x3, .int x4] σ (f_X8_put σ o0 x1 x2 x3 x4) := by
  generalize hf : f_X8_put σ o0 x1 x2 x3 x4 = fv
  rw [f_X8_put] at hf
  rw [ok_X8_put] at hok
  refine g_start hG (plainFor_of_name (by decide)) (Nat.le_of_ble_eq_true rfl) ?_
  intro p e s m args below meth c X hr hlk ls hl H locs hP hS
  have X : Cx G p s m args c cX8_put 5 RX8 := X
  obtain ⟨hx, hb, hml, hown, hts, hK, hbs, hXW, -⟩ := id X
  have hl : lv_has ls 5 [(0, .ref (G.2.1 o0)), (1, .int x1), (2, .int x2), (3, .int x3), (4, .int x4)] := hl
  refine lv_aload_n hx hb dX8_put_0 rfl (lv_at hl 0 rfl) ?_
  refine gg_8_0 (j := o0 + 1) rfl X hP ho0 kf_X8_11 dX8_put_1 ?_
  refine lv_iload_n hx hb dX8_put_4 rfl (lv_at hl 1 rfl) ?_
  refine lv_iload_n hx hb dX8_put_5 rfl (lv_at hl 2 rfl) ?_
  refine lv_iload_n hx hb dX8_put_6 rfl (lv_at hl 3 rfl) ?_
  refine g_cIp (g_runS (As := [.int x1, .int x2, .int x3]) (rest := [.ref (G.2.1 (o0 + 1))]) X (c_X8_placeOf l G hG σ x1 x2 x3) ca_X8_placeOf km_X8_42 rfl rfl ⟨Nat.le_of_ble_eq_true rfl, Nat.le_of_ble_eq_true rfl⟩ hP hS rfl hl.1 rfl (Nat.le_of_ble_eq_true rfl) ⟨Nat.le_of_ble_eq_true rfl, Nat.le_of_ble_eq_true rfl⟩ dX8_put_7) hS (fun H locs hP hS => ?_)
  refine lv_iload hx hb dX8_put_10 (lv_at hl 4 rfl) ?_
  have hs1 := hok
  refine g_iast X hP hS (tc_8_0 ho0) (by rw [(lc_8_0 ho0)]; exact hs1) dX8_put_12 (fun H locs hP hS => ?_)
  refine g_name hP (fun q2 hq2 hP => ?_)
  have hf := bnd_go hq2 hf
  exact g_vret X hr hlk hP hS hf dX8_put_13
def fX8_lowestFree_L2 (σ : St) (o0 : Nat) : Nat → Int32 → Int32 → Int32 → Int32
  | 0, _, _, _ => 0
  | n2 + 1, x1, x2, x3 => (if (f_X8_holesIn x2) ≤ x3 then (-1 : Int32) else (if (f_X8_itemAt σ o0 x1 x2 x3) = (-1 : Int32) then x3 else (fX8_lowestFree_L2 σ o0 n2 x1 x2 (x3 + (1 : Int32)))))
def okX8_lowestFree_L2 (σ : St) (o0 : Nat) : Nat → Int32 → Int32 → Int32 → Prop
  | 0, _, _, _ => False
  | n2 + 1, x1, x2, x3 => (((f_X8_holesIn x2) ≤ x3 → True) ∧ (¬ (f_X8_holesIn x2) ≤ x3 → (ok_X8_itemAt σ o0 x1 x2 x3 ∧ (((f_X8_itemAt σ o0 x1 x2 x3) = (-1 : Int32) → True) ∧ (¬ (f_X8_itemAt σ o0 x1 x2 x3) = (-1 : Int32) → (okX8_lowestFree_L2 σ o0 n2 x1 x2 (x3 + (1 : Int32))))))))
def f_X8_lowestFree (σ : St) (o0 : Nat) (x1 : Int32) (x2 : Int32) : Int32 := (fX8_lowestFree_L2 σ o0 2000 x1 x2 (0 : Int32))
def ok_X8_lowestFree (σ : St) (o0 : Nat) (x1 : Int32) (x2 : Int32) : Prop := (okX8_lowestFree_L2 σ o0 2000 x1 x2 (0 : Int32))
abbrev rm_X8_lowestFree : Room := { frames := 2, cells := 0, slots := 0, locals := 45 }
set_option maxHeartbeats 4000000 in
set_option maxRecDepth 100000 in
theorem c_X8_lowestFree (l : Launch) (G : GE) (hG : Gok G) (σ : St) (o0 : Nat) (ho0 : tyOf o0 = 8) (x1 : Int32) (x2 : Int32) (hok : ok_X8_lowestFree σ o0 x1 x2) : MtI l G yX8_lowestFree cX8_lowestFree 4 rm_X8_lowestFree [.ref (G.2.1 o0), .int x1, .int x2] σ (σ, f_X8_lowestFree σ o0 x1 x2) := by
  generalize hf : f_X8_lowestFree σ o0 x1 x2 = fv
  rw [f_X8_lowestFree] at hf
  rw [ok_X8_lowestFree] at hok
  refine g_start hG (plainFor_of_name (by decide)) (Nat.le_of_ble_eq_true rfl) ?_
  intro p e s m args below meth c X hr hlk ls hl H locs hP hS
  have X : Cx G p s m args c cX8_lowestFree 4 RX8 := X
  obtain ⟨hx, hb, hml, hown, hts, hK, hbs, hXW, -⟩ := id X
  have hl : lv_has ls 4 [(0, .ref (G.2.1 o0)), (1, .int x1), (2, .int x2)] := hl
  refine lv_iconst (v := 0) hx hb dX8_lowestFree_0 (by decide) ?_
  refine lv_istore_n (lv' := [(3, .int (0 : Int32)), (0, .ref (G.2.1 o0)), (1, .int x1), (2, .int x2)]) hx hb dX8_lowestFree_1 rfl hl (by decide) rfl (fun ls hl => ?_)
  have K2 : ∀ (n2 : Nat) (x1 : Int32) (x2 : Int32) (x3 : Int32), okX8_lowestFree_L2 σ o0 n2 x1 x2 x3 → fX8_lowestFree_L2 σ o0 n2 x1 x2 x3 = fv → ∀ (H : Heap) (locs : List Loc), va_P G.1 vcl (wl G σ) H → va_S (GA G) s.heap H locs → ∀ (ls : Array Slot), lv_has ls 4 [(0, .ref (G.2.1 o0)), (1, .int x1), (2, .int x2), (3, .int x3)] → W p l e rm_X8_lowestFree s m args below meth c H locs 0 0 (MQ below (va_Qi (fun r u => (u, r) = (σ, fv)) (PB G) (GA G)) args s 0 0 (GA G)) (F0 m 2 ls []) := by
    intro n2
    induction n2 with
    | zero =>
      intro x1 x2 x3 hok
      exact hok.elim
    | succ n2 ih2 =>
      intro x1 x2 x3 hok hf H locs hP hS ls hl
      rw [okX8_lowestFree_L2] at hok
      rw [fX8_lowestFree_L2] at hf
      refine lv_iload_n hx hb dX8_lowestFree_2 rfl (lv_at hl 3 rfl) ?_
      refine lv_iload_n hx hb dX8_lowestFree_3 rfl (lv_at hl 2 rfl) ?_
      refine g_cIp (g_runS (As := [.int x2]) (rest := [.int x3]) X (c_X8_holesIn l G hG σ x2) ca_X8_holesIn km_X8_38 rfl rfl ⟨Nat.le_of_ble_eq_true rfl, Nat.le_of_ble_eq_true rfl⟩ hP hS rfl hl.1 rfl (Nat.le_of_ble_eq_true rfl) ⟨Nat.le_of_ble_eq_true rfl, Nat.le_of_ble_eq_true rfl⟩ dX8_lowestFree_4) hS (fun H locs hP hS => ?_)
      refine lv_icmp_ge (tgt := 29) hx hb dX8_lowestFree_7 (by decide) (fun hc => ?_) (fun hc => ?_)
      · have hf := ite_t hc hf
        refine lv_iconst (v := -1) hx hb dX8_lowestFree_29 (by decide) ?_
        exact g_iret X hr hlk hP hS (congrArg (Prod.mk σ) hf) dX8_lowestFree_30
      · have hf := ite_f hc hf
        have hok := hok.2 hc
        refine lv_aload_n hx hb dX8_lowestFree_10 rfl (lv_at hl 0 rfl) ?_
        refine lv_iload_n hx hb dX8_lowestFree_11 rfl (lv_at hl 1 rfl) ?_
        refine lv_iload_n hx hb dX8_lowestFree_12 rfl (lv_at hl 2 rfl) ?_
        refine lv_iload_n hx hb dX8_lowestFree_13 rfl (lv_at hl 3 rfl) ?_
        have hs1 := hok.1
        have hok := hok.2
        refine g_cIp (g_runV (i := o0) (As := [.int x1, .int x2, .int x3]) (rest := []) X (c_X8_itemAt l G hG σ o0 ho0 x1 x2 x3 hs1) ca_X8_itemAt km_X8_46 rfl rfl ⟨Nat.le_of_ble_eq_true rfl, Nat.le_of_ble_eq_true rfl⟩ hP hS (ty_lt ho0) (cell_8 ho0) rfl rfl rfl hl.1 rfl (Nat.le_of_ble_eq_true rfl) ⟨Nat.le_of_ble_eq_true rfl, Nat.le_of_ble_eq_true rfl⟩ dX8_lowestFree_14) hS (fun H locs hP hS => ?_)
        refine lv_iconst (v := -1) hx hb dX8_lowestFree_17 (by decide) ?_
        refine lv_icmp_ne (tgt := 23) hx hb dX8_lowestFree_18 (by decide) (fun hc => ?_) (fun hc => ?_)
        · have hf := ite_f hc hf
          have hok := hok.2 hc
          refine lv_iinc (v := (x3 + (1 : Int32))) (lv' := [(3, .int (x3 + (1 : Int32))), (0, .ref (G.2.1 o0)), (1, .int x1), (2, .int x2)]) hx hb dX8_lowestFree_23 hl (k := 3) rfl rfl (by decide) rfl (fun ls hl => ?_)
          refine lv_goto (tgt := 2) hx hb dX8_lowestFree_26 (by decide) ?_
          exact ih2 x1 x2 (x3 + (1 : Int32)) hok hf _ _ hP hS ls (lv_sub hl [1, 2, 3, 0] rfl)
        · have hf := ite_t hc hf
          refine lv_iload_n hx hb dX8_lowestFree_21 rfl (lv_at hl 3 rfl) ?_
          exact g_iret X hr hlk hP hS (congrArg (Prod.mk σ) hf) dX8_lowestFree_22
  exact K2 2000 x1 x2 (0 : Int32) hok hf _ _ hP hS ls (lv_sub hl [1, 2, 3, 0] rfl)
def fX8_isBare_L9 (σ : St) (o0 : Nat) (k2 : Int32 → Int32 → Bool) : Nat → Int32 → Int32 → Int32 → Bool
  | 0, _, _, _ => false
  | n9 + 1, x1, x2, x3 => (if (f_X8_holesIn x2) ≤ x3 then (k2 x1 (x2 + (1 : Int32))) else (if (f_X8_itemAt σ o0 x1 x2 x3) = (-1 : Int32) then (fX8_isBare_L9 σ o0 k2 n9 x1 x2 (x3 + (1 : Int32))) else false))
def okX8_isBare_L9 (σ : St) (o0 : Nat) (k2 : Int32 → Int32 → Prop) : Nat → Int32 → Int32 → Int32 → Prop
  | 0, _, _, _ => False
  | n9 + 1, x1, x2, x3 => (((f_X8_holesIn x2) ≤ x3 → (k2 x1 (x2 + (1 : Int32)))) ∧ (¬ (f_X8_holesIn x2) ≤ x3 → (ok_X8_itemAt σ o0 x1 x2 x3 ∧ (((f_X8_itemAt σ o0 x1 x2 x3) = (-1 : Int32) → (okX8_isBare_L9 σ o0 k2 n9 x1 x2 (x3 + (1 : Int32)))) ∧ (¬ (f_X8_itemAt σ o0 x1 x2 x3) = (-1 : Int32) → True)))))
def fX8_isBare_L2 (σ : St) (o0 : Nat) : Nat → Int32 → Int32 → Bool
  | 0, _, _ => false
  | n2 + 1, x1, x2 => (if (1 : Int32) < x2 then true else (fX8_isBare_L9 σ o0 (fun x1 x2 => fX8_isBare_L2 σ o0 n2 x1 x2) 2000 x1 x2 (0 : Int32)))
def okX8_isBare_L2 (σ : St) (o0 : Nat) : Nat → Int32 → Int32 → Prop
  | 0, _, _ => False
  | n2 + 1, x1, x2 => (((1 : Int32) < x2 → True) ∧ (¬ (1 : Int32) < x2 → (okX8_isBare_L9 σ o0 (fun x1 x2 => okX8_isBare_L2 σ o0 n2 x1 x2) 2000 x1 x2 (0 : Int32))))
def f_X8_isBare (σ : St) (o0 : Nat) (x1 : Int32) : Bool := (fX8_isBare_L2 σ o0 2000 x1 (0 : Int32))
def ok_X8_isBare (σ : St) (o0 : Nat) (x1 : Int32) : Prop := (okX8_isBare_L2 σ o0 2000 x1 (0 : Int32))
abbrev rm_X8_isBare : Room := { frames := 2, cells := 0, slots := 0, locals := 45 }
set_option maxHeartbeats 4000000 in
set_option maxRecDepth 100000 in
theorem c_X8_isBare (l : Launch) (G : GE) (hG : Gok G) (σ : St) (o0 : Nat) (ho0 : tyOf o0 = 8) (x1 : Int32) (hok : ok_X8_isBare σ o0 x1) : MtZ l G yX8_isBare cX8_isBare 4 rm_X8_isBare [.ref (G.2.1 o0), .int x1] σ (σ, f_X8_isBare σ o0 x1) := by
  generalize hf : f_X8_isBare σ o0 x1 = fv
  rw [f_X8_isBare] at hf
  rw [ok_X8_isBare] at hok
  refine g_start hG (plainFor_of_name (by decide)) (Nat.le_of_ble_eq_true rfl) ?_
  intro p e s m args below meth c X hr hlk ls hl H locs hP hS
  have X : Cx G p s m args c cX8_isBare 4 RX8 := X
  obtain ⟨hx, hb, hml, hown, hts, hK, hbs, hXW, -⟩ := id X
  have hl : lv_has ls 4 [(0, .ref (G.2.1 o0)), (1, .int x1)] := hl
  refine lv_iconst (v := 0) hx hb dX8_isBare_0 (by decide) ?_
  refine lv_istore_n (lv' := [(2, .int (0 : Int32)), (0, .ref (G.2.1 o0)), (1, .int x1)]) hx hb dX8_isBare_1 rfl hl (by decide) rfl (fun ls hl => ?_)
  have K2 : ∀ (n2 : Nat) (x1 : Int32) (x2 : Int32), okX8_isBare_L2 σ o0 n2 x1 x2 → fX8_isBare_L2 σ o0 n2 x1 x2 = fv → ∀ (H : Heap) (locs : List Loc), va_P G.1 vcl (wl G σ) H → va_S (GA G) s.heap H locs → ∀ (ls : Array Slot), lv_has ls 4 [(0, .ref (G.2.1 o0)), (1, .int x1), (2, .int x2)] → W p l e rm_X8_isBare s m args below meth c H locs 0 0 (MQ below (va_Qi (fun r u => (u, r) = (((σ, fv) : St × Bool).1, bI ((σ, fv) : St × Bool).2)) (PB G) (GA G)) args s 0 0 (GA G)) (F0 m 2 ls []) := by
    intro n2
    induction n2 with
    | zero =>
      intro x1 x2 hok
      exact hok.elim
    | succ n2 ih2 =>
      intro x1 x2 hok hf H locs hP hS ls hl
      rw [okX8_isBare_L2] at hok
      rw [fX8_isBare_L2] at hf
      refine lv_iload_n hx hb dX8_isBare_2 rfl (lv_at hl 2 rfl) ?_
      refine lv_iconst (v := 1) hx hb dX8_isBare_3 (by decide) ?_
      refine lv_icmp_gt (tgt := 42) hx hb dX8_isBare_4 (by decide) (fun hc => ?_) (fun hc => ?_)
      · have hf := ite_t hc hf
        refine lv_iconst (v := 1) hx hb dX8_isBare_42 (by decide) ?_
        exact g_zret (b := true) X hr hlk rfl hP hS (congrArg (Prod.mk σ) hf) dX8_isBare_43
      · have hf := ite_f hc hf
        have hok := hok.2 hc
        refine lv_iconst (v := 0) hx hb dX8_isBare_7 (by decide) ?_
        refine lv_istore_n (lv' := [(3, .int (0 : Int32)), (0, .ref (G.2.1 o0)), (1, .int x1), (2, .int x2)]) hx hb dX8_isBare_8 rfl hl (by decide) rfl (fun ls hl => ?_)
        have K9 : ∀ (n9 : Nat) (x1 : Int32) (x2 : Int32) (x3 : Int32), okX8_isBare_L9 σ o0 (fun x1 x2 => okX8_isBare_L2 σ o0 n2 x1 x2) n9 x1 x2 x3 → fX8_isBare_L9 σ o0 (fun x1 x2 => fX8_isBare_L2 σ o0 n2 x1 x2) n9 x1 x2 x3 = fv → ∀ (H : Heap) (locs : List Loc), va_P G.1 vcl (wl G σ) H → va_S (GA G) s.heap H locs → ∀ (ls : Array Slot), lv_has ls 4 [(0, .ref (G.2.1 o0)), (1, .int x1), (2, .int x2), (3, .int x3)] → W p l e rm_X8_isBare s m args below meth c H locs 0 0 (MQ below (va_Qi (fun r u => (u, r) = (((σ, fv) : St × Bool).1, bI ((σ, fv) : St × Bool).2)) (PB G) (GA G)) args s 0 0 (GA G)) (F0 m 9 ls []) := by
          intro n9
          induction n9 with
          | zero =>
            intro x1 x2 x3 hok
            exact hok.elim
          | succ n9 ih9 =>
            intro x1 x2 x3 hok hf H locs hP hS ls hl
            rw [okX8_isBare_L9] at hok
            rw [fX8_isBare_L9] at hf
            refine lv_iload_n hx hb dX8_isBare_9 rfl (lv_at hl 3 rfl) ?_
            refine lv_iload_n hx hb dX8_isBare_10 rfl (lv_at hl 2 rfl) ?_
            refine g_cIp (g_runS (As := [.int x2]) (rest := [.int x3]) X (c_X8_holesIn l G hG σ x2) ca_X8_holesIn km_X8_38 rfl rfl ⟨Nat.le_of_ble_eq_true rfl, Nat.le_of_ble_eq_true rfl⟩ hP hS rfl hl.1 rfl (Nat.le_of_ble_eq_true rfl) ⟨Nat.le_of_ble_eq_true rfl, Nat.le_of_ble_eq_true rfl⟩ dX8_isBare_11) hS (fun H locs hP hS => ?_)
            refine lv_icmp_ge (tgt := 36) hx hb dX8_isBare_14 (by decide) (fun hc => ?_) (fun hc => ?_)
            · have hf := ite_t hc hf
              have hok := hok.1 hc
              refine lv_iinc (v := (x2 + (1 : Int32))) (lv' := [(2, .int (x2 + (1 : Int32))), (0, .ref (G.2.1 o0)), (1, .int x1), (3, .int x3)]) hx hb dX8_isBare_36 hl (k := 2) rfl rfl (by decide) rfl (fun ls hl => ?_)
              refine lv_goto (tgt := 2) hx hb dX8_isBare_39 (by decide) ?_
              exact ih2 x1 (x2 + (1 : Int32)) hok hf _ _ hP hS ls (lv_sub hl [1, 2, 0] rfl)
            · have hf := ite_f hc hf
              have hok := hok.2 hc
              refine lv_aload_n hx hb dX8_isBare_17 rfl (lv_at hl 0 rfl) ?_
              refine lv_iload_n hx hb dX8_isBare_18 rfl (lv_at hl 1 rfl) ?_
              refine lv_iload_n hx hb dX8_isBare_19 rfl (lv_at hl 2 rfl) ?_
              refine lv_iload_n hx hb dX8_isBare_20 rfl (lv_at hl 3 rfl) ?_
              have hs1 := hok.1
              have hok := hok.2
              refine g_cIp (g_runV (i := o0) (As := [.int x1, .int x2, .int x3]) (rest := []) X (c_X8_itemAt l G hG σ o0 ho0 x1 x2 x3 hs1) ca_X8_itemAt km_X8_46 rfl rfl ⟨Nat.le_of_ble_eq_true rfl, Nat.le_of_ble_eq_true rfl⟩ hP hS (ty_lt ho0) (cell_8 ho0) rfl rfl rfl hl.1 rfl (Nat.le_of_ble_eq_true rfl) ⟨Nat.le_of_ble_eq_true rfl, Nat.le_of_ble_eq_true rfl⟩ dX8_isBare_21) hS (fun H locs hP hS => ?_)
              refine lv_iconst (v := -1) hx hb dX8_isBare_24 (by decide) ?_
              refine lv_icmp_eq (tgt := 30) hx hb dX8_isBare_25 (by decide) (fun hc => ?_) (fun hc => ?_)
              · have hf := ite_t hc hf
                have hok := hok.1 hc
                refine lv_iinc (v := (x3 + (1 : Int32))) (lv' := [(3, .int (x3 + (1 : Int32))), (0, .ref (G.2.1 o0)), (1, .int x1), (2, .int x2)]) hx hb dX8_isBare_30 hl (k := 3) rfl rfl (by decide) rfl (fun ls hl => ?_)
                refine lv_goto (tgt := 9) hx hb dX8_isBare_33 (by decide) ?_
                exact ih9 x1 x2 (x3 + (1 : Int32)) hok hf _ _ hP hS ls (lv_sub hl [1, 2, 3, 0] rfl)
              · have hf := ite_f hc hf
                refine lv_iconst (v := 0) hx hb dX8_isBare_28 (by decide) ?_
                exact g_zret (b := false) X hr hlk rfl hP hS (congrArg (Prod.mk σ) hf) dX8_isBare_29
        exact K9 2000 x1 x2 (0 : Int32) hok hf _ _ hP hS ls (lv_sub hl [1, 2, 3, 0] rfl)
  exact K2 2000 x1 (0 : Int32) hok hf _ _ hP hS ls (lv_sub hl [1, 2, 0] rfl)
def f_X8_copyFrom (σ : St) (o0 : Nat) (o1 : Nat) : St := (bnd (rowI σ (o0 + 1) (va_cpy (σ.1 (o1 + 1)) (σ.1 (o0 + 1)) 0 0 30)) (fun q1 => (bnd (rowI q1 (o0 + 2) (va_cpy (q1.1 (o1 + 2)) (q1.1 (o0 + 2)) 0 0 6)) (fun q2 => q2))))
abbrev rm_X8_copyFrom : Room := { frames := 1, cells := 0, slots := 0, locals := 60 }
set_option maxHeartbeats 4000000 in
set_option maxRecDepth 100000 in
theorem c_X8_copyFrom (l : Launch) (G : GE) (hG : Gok G) (σ : St) (o0 : Nat) (ho0 : tyOf o0 = 8) (o1 : Nat) (ho1 : tyOf o1 = 8) : MtV l G yX8_copyFrom cX8_copyFrom 2 rm_X8_copyFrom [.ref (G.2.1 o0), .ref (G.2.1 o1)] σ (f_X8_copyFrom σ o0 o1) := by
  generalize hf : f_X8_copyFrom σ o0 o1 = fv
  rw [f_X8_copyFrom] at hf
  refine g_start hG (plainFor_of_name (by decide)) (Nat.le_of_ble_eq_true rfl) ?_
  intro p e s m args below meth c X hr hlk ls hl H locs hP hS
  have X : Cx G p s m args c cX8_copyFrom 2 RX8 := X
  obtain ⟨hx, hb, hml, hown, hts, hK, hbs, hXW, -⟩ := id X
  have hl : lv_has ls 2 [(0, .ref (G.2.1 o0)), (1, .ref (G.2.1 o1))] := hl
  refine lv_aload_n hx hb dX8_copyFrom_0 rfl (lv_at hl 1 rfl) ?_
  refine gg_8_0 (j := o1 + 1) rfl X hP ho1 kf_X8_11 dX8_copyFrom_1 ?_
  refine lv_iconst (v := 0) hx hb dX8_copyFrom_4 (by decide) ?_
  refine lv_aload_n hx hb dX8_copyFrom_5 rfl (lv_at hl 0 rfl) ?_
  refine gg_8_0 (j := o0 + 1) rfl X hP ho0 kf_X8_11 dX8_copyFrom_6 ?_
  refine lv_iconst (v := 0) hx hb dX8_copyFrom_9 (by decide) ?_
  refine lv_bipush (v := 30) hx hb dX8_copyFrom_10 (by decide) ?_
  refine g_copyI (N := 30) X hP hS (tc_8_0 ho1) (tc_8_0 ho0) (by rfl) (by decide) (by rw [(lc_8_0 ho1)]; decide) (by rw [(lc_8_0 ho0)]; decide) km_X8_24 hl.1 (Nat.le_of_ble_eq_true rfl) (Nat.le_of_ble_eq_true rfl) dX8_copyFrom_12 (fun H locs hP hS => ?_)
  refine g_name hP (fun q1 hq1 hP => ?_)
  have hf := bnd_go hq1 hf
  refine lv_aload_n hx hb dX8_copyFrom_15 rfl (lv_at hl 1 rfl) ?_
  refine gg_8_1 (j := o1 + 2) rfl X hP ho1 kf_X8_15 dX8_copyFrom_16 ?_
  refine lv_iconst (v := 0) hx hb dX8_copyFrom_19 (by decide) ?_
  refine lv_aload_n hx hb dX8_copyFrom_20 rfl (lv_at hl 0 rfl) ?_
  refine gg_8_1 (j := o0 + 2) rfl X hP ho0 kf_X8_15 dX8_copyFrom_21 ?_
  refine lv_iconst (v := 0) hx hb dX8_copyFrom_24 (by decide) ?_
  refine lv_bipush (v := 6) hx hb dX8_copyFrom_25 (by decide) ?_
  refine g_copyI (N := 6) X hP hS (tc_8_1 ho1) (tc_8_1 ho0) (by rfl) (by decide) (by rw [(lc_8_1 ho1)]; decide) (by rw [(lc_8_1 ho0)]; decide) km_X8_24 hl.1 (Nat.le_of_ble_eq_true rfl) (Nat.le_of_ble_eq_true rfl) dX8_copyFrom_27 (fun H locs hP hS => ?_)
  refine g_name hP (fun q2 hq2 hP => ?_)
  have hf := bnd_go hq2 hf
  exact g_vret X hr hlk hP hS hf dX8_copyFrom_30
def f_X3_copyFrom (σ : St) (o0 : Nat) (o1 : Nat) : St := (bnd (setF σ o0 0 (σ.2.1 o1 0)) (fun q1 => (bnd (setI q1 o0 1 (q1.1 o1 1)) (fun q2 => (bnd (setI q2 o0 2 (q2.1 o1 2)) (fun q3 => (bnd (setI q3 o0 3 (q3.1 o1 3)) (fun q4 => q4))))))))
abbrev rm_X3_copyFrom : Room := { frames := 0, cells := 0, slots := 0, locals := 0 }
set_option maxHeartbeats 4000000 in
set_option maxRecDepth 100000 in
theorem c_X3_copyFrom (l : Launch) (G : GE) (hG : Gok G) (σ : St) (o0 : Nat) (ho0 : tyOf o0 = 3) (o1 : Nat) (ho1 : tyOf o1 = 3) : MtV l G yX3_copyFrom cX3_copyFrom 2 rm_X3_copyFrom [.ref (G.2.1 o0), .ref (G.2.1 o1)] σ (f_X3_copyFrom σ o0 o1) := by
  generalize hf : f_X3_copyFrom σ o0 o1 = fv
  rw [f_X3_copyFrom] at hf
  refine g_start hG (plainFor_of_name (by decide)) (Nat.le_of_ble_eq_true rfl) ?_
  intro p e s m args below meth c X hr hlk ls hl H locs hP hS
  have X : Cx G p s m args c cX3_copyFrom 2 RX3 := X
  obtain ⟨hx, hb, hml, hown, hts, hK, hbs, hXW, -⟩ := id X
  have hl : lv_has ls 2 [(0, .ref (G.2.1 o0)), (1, .ref (G.2.1 o1))] := hl
  refine lv_aload_n hx hb dX3_copyFrom_0 rfl (lv_at hl 0 rfl) ?_
  refine lv_aload_n hx hb dX3_copyFrom_1 rfl (lv_at hl 1 rfl) ?_
  refine gg_3_0 X hP ho1 kf_X3_9 dX3_copyFrom_2 ?_
  refine gp_3_0 X hP hS ho0 kf_X3_9 dX3_copyFrom_5 (fun H locs hP hS => ?_)
  refine g_name hP (fun q1 hq1 hP => ?_)
  have hf := bnd_go hq1 hf
  refine lv_aload_n hx hb dX3_copyFrom_8 rfl (lv_at hl 0 rfl) ?_
  refine lv_aload_n hx hb dX3_copyFrom_9 rfl (lv_at hl 1 rfl) ?_
  refine gg_3_1 X hP ho1 kf_X3_15 dX3_copyFrom_10 ?_
  refine gp_3_1 X hP hS ho0 kf_X3_15 dX3_copyFrom_13 (fun H locs hP hS => ?_)
  refine g_name hP (fun q2 hq2 hP => ?_)
  have hf := bnd_go hq2 hf
  refine lv_aload_n hx hb dX3_copyFrom_16 rfl (lv_at hl 0 rfl) ?_
  refine lv_aload_n hx hb dX3_copyFrom_17 rfl (lv_at hl 1 rfl) ?_
  refine gg_3_2 X hP ho1 kf_X3_19 dX3_copyFrom_18 ?_
  refine gp_3_2 X hP hS ho0 kf_X3_19 dX3_copyFrom_21 (fun H locs hP hS => ?_)
  refine g_name hP (fun q3 hq3 hP => ?_)
  have hf := bnd_go hq3 hf
  refine lv_aload_n hx hb dX3_copyFrom_24 rfl (lv_at hl 0 rfl) ?_
  refine lv_aload_n hx hb dX3_copyFrom_25 rfl (lv_at hl 1 rfl) ?_
  refine gg_3_3 X hP ho1 kf_X3_22 dX3_copyFrom_26 ?_
  refine gp_3_3 X hP hS ho0 kf_X3_22 dX3_copyFrom_29 (fun H locs hP hS => ?_)
  refine g_name hP (fun q4 hq4 hP => ?_)
  have hf := bnd_go hq4 hf
  exact g_vret X hr hlk hP hS hf dX3_copyFrom_32
def f_X3_addSnacks (σ : St) (o0 : Nat) (x1 : Int32) : St := (bnd (setI σ o0 1 (if (50 : Int32) < ((σ.1 o0 1) + x1) then (50 : Int32) else ((σ.1 o0 1) + x1))) (fun q1 => q1))
abbrev rm_X3_addSnacks : Room := { frames := 1, cells := 0, slots := 0, locals := 60 }
set_option maxHeartbeats 4000000 in
set_option maxRecDepth 100000 in
theorem c_X3_addSnacks (l : Launch) (G : GE) (hG : Gok G) (σ : St) (o0 : Nat) (ho0 : tyOf o0 = 3) (x1 : Int32) : MtV l G yX3_addSnacks cX3_addSnacks 2 rm_X3_addSnacks [.ref (G.2.1 o0), .int x1] σ (f_X3_addSnacks σ o0 x1) := by
  generalize hf : f_X3_addSnacks σ o0 x1 = fv
  rw [f_X3_addSnacks] at hf
  refine g_start hG (plainFor_of_name (by decide)) (Nat.le_of_ble_eq_true rfl) ?_
  intro p e s m args below meth c X hr hlk ls hl H locs hP hS
  have X : Cx G p s m args c cX3_addSnacks 2 RX3 := X
  obtain ⟨hx, hb, hml, hown, hts, hK, hbs, hXW, -⟩ := id X
  have hl : lv_has ls 2 [(0, .ref (G.2.1 o0)), (1, .int x1)] := hl
  refine lv_aload_n hx hb dX3_addSnacks_0 rfl (lv_at hl 0 rfl) ?_
  refine lv_aload_n hx hb dX3_addSnacks_1 rfl (lv_at hl 0 rfl) ?_
  refine gg_3_1 X hP ho0 kf_X3_15 dX3_addSnacks_2 ?_
  refine lv_iload_n hx hb dX3_addSnacks_5 rfl (lv_at hl 1 rfl) ?_
  refine lv_iadd hx hb dX3_addSnacks_6 ?_
  refine lv_bipush (v := 50) hx hb dX3_addSnacks_7 (by decide) ?_
  refine g_min X km_X3_25 hl.1 (Nat.le_of_ble_eq_true rfl) (Nat.le_of_ble_eq_true rfl) (Nat.le_of_ble_eq_true rfl) (Nat.le_of_ble_eq_true rfl) dX3_addSnacks_9 ?_
  refine gp_3_1 X hP hS ho0 kf_X3_15 dX3_addSnacks_12 (fun H locs hP hS => ?_)
  refine g_name hP (fun q1 hq1 hP => ?_)
  have hf := bnd_go hq1 hf
  exact g_vret X hr hlk hP hS hf dX3_addSnacks_15
def fX3_eatSnacks_L2 (o0 : Nat) : Nat → St → Int32 → Int32 → St
  | 0, σ, _, _ => σ
  | n2 + 1, σ, x1, x2 => (if x1 ≤ x2 then (bnd (setI σ o0 1 ((σ.1 o0 1) - x1)) (fun q1 => (bnd (setI q1 o0 2 ((q1.1 o0 2) + x1)) (fun q2 => q2)))) else (if 0 ≤ (Op.cmpValue (FP.fcmp (FP.fsub (σ.2.1 o0 0) FP.fconst2) FP.fconst0) CmpOp.g) then (bnd (setF σ o0 0 (FP.fsub (σ.2.1 o0 0) FP.fconst2)) (fun q4 => (fX3_eatSnacks_L2 o0 n2 q4 x1 (x2 + (1 : Int32))))) else (bnd (setF σ o0 0 FP.fconst0) (fun q5 => (fX3_eatSnacks_L2 o0 n2 q5 x1 (x2 + (1 : Int32)))))))
def okX3_eatSnacks_L2 (o0 : Nat) : Nat → St → Int32 → Int32 → Prop
  | 0, _, _, _ => False
  | n2 + 1, σ, x1, x2 => ((x1 ≤ x2 → True) ∧ (¬ x1 ≤ x2 → (vf_n32 (FP.fsub (σ.2.1 o0 0) FP.fconst2) ∧ ((0 ≤ (Op.cmpValue (FP.fcmp (FP.fsub (σ.2.1 o0 0) FP.fconst2) FP.fconst0) CmpOp.g) → (bndP (setF σ o0 0 (FP.fsub (σ.2.1 o0 0) FP.fconst2)) (fun q4 => (okX3_eatSnacks_L2 o0 n2 q4 x1 (x2 + (1 : Int32)))))) ∧ (¬ 0 ≤ (Op.cmpValue (FP.fcmp (FP.fsub (σ.2.1 o0 0) FP.fconst2) FP.fconst0) CmpOp.g) → (bndP (setF σ o0 0 FP.fconst0) (fun q5 => (okX3_eatSnacks_L2 o0 n2 q5 x1 (x2 + (1 : Int32))))))))))
def f_X3_eatSnacks (σ : St) (o0 : Nat) (x1 : Int32) : St := (fX3_eatSnacks_L2 o0 2000 σ x1 (0 : Int32))
def ok_X3_eatSnacks (σ : St) (o0 : Nat) (x1 : Int32) : Prop := (okX3_eatSnacks_L2 o0 2000 σ x1 (0 : Int32))
abbrev rm_X3_eatSnacks : Room := { frames := 0, cells := 0, slots := 0, locals := 0 }
set_option maxHeartbeats 4000000 in
set_option maxRecDepth 100000 in
theorem c_X3_eatSnacks (l : Launch) (G : GE) (hG : Gok G) (σ : St) (o0 : Nat) (ho0 : tyOf o0 = 3) (x1 : Int32) (hok : ok_X3_eatSnacks σ o0 x1) : MtV l G yX3_eatSnacks cX3_eatSnacks 4 rm_X3_eatSnacks [.ref (G.2.1 o0), .int x1] σ (f_X3_eatSnacks σ o0 x1) := by
  generalize hf : f_X3_eatSnacks σ o0 x1 = fv
  rw [f_X3_eatSnacks] at hf
  rw [ok_X3_eatSnacks] at hok
  refine g_start hG (plainFor_of_name (by decide)) (Nat.le_of_ble_eq_true rfl) ?_
  intro p e s m args below meth c X hr hlk ls hl H locs hP hS
  have X : Cx G p s m args c cX3_eatSnacks 4 RX3 := X
  obtain ⟨hx, hb, hml, hown, hts, hK, hbs, hXW, -⟩ := id X
  have hl : lv_has ls 4 [(0, .ref (G.2.1 o0)), (1, .int x1)] := hl
  refine lv_iconst (v := 0) hx hb dX3_eatSnacks_0 (by decide) ?_
  refine lv_istore_n (lv' := [(2, .int (0 : Int32)), (0, .ref (G.2.1 o0)), (1, .int x1)]) hx hb dX3_eatSnacks_1 rfl hl (by decide) rfl (fun ls hl => ?_)
  have K2 : ∀ (n2 : Nat) (σ : St) (x1 : Int32) (x2 : Int32), okX3_eatSnacks_L2 o0 n2 σ x1 x2 → fX3_eatSnacks_L2 o0 n2 σ x1 x2 = fv → ∀ (H : Heap) (locs : List Loc), va_P G.1 vcl (wl G σ) H → va_S (GA G) s.heap H locs → ∀ (ls : Array Slot), lv_has ls 4 [(0, .ref (G.2.1 o0)), (1, .int x1), (2, .int x2)] → W p l e rm_X3_eatSnacks s m args below meth c H locs 0 0 (MQ below (va_Qv (fun u => u = fv) (PB G) (GA G)) args s 0 0 (GA G)) (F0 m 2 ls []) := by
    intro n2
    induction n2 with
    | zero =>
      intro σ x1 x2 hok
      exact hok.elim
    | succ n2 ih2 =>
      intro σ x1 x2 hok hf H locs hP hS ls hl
      rw [okX3_eatSnacks_L2] at hok
      rw [fX3_eatSnacks_L2] at hf
      refine lv_iload_n hx hb dX3_eatSnacks_2 rfl (lv_at hl 2 rfl) ?_
      refine lv_iload_n hx hb dX3_eatSnacks_3 rfl (lv_at hl 1 rfl) ?_
      refine lv_icmp_ge (tgt := 35) hx hb dX3_eatSnacks_4 (by decide) (fun hc => ?_) (fun hc => ?_)
      · have hf := ite_t hc hf
        refine lv_aload_n hx hb dX3_eatSnacks_35 rfl (lv_at hl 0 rfl) ?_
        refine lv_dup hx hb dX3_eatSnacks_36 rfl ?_
        refine gg_3_1 X hP ho0 kf_X3_15 dX3_eatSnacks_37 ?_
        refine lv_iload_n hx hb dX3_eatSnacks_40 rfl (lv_at hl 1 rfl) ?_
        refine lv_isub hx hb dX3_eatSnacks_41 ?_
        refine gp_3_1 X hP hS ho0 kf_X3_15 dX3_eatSnacks_42 (fun H locs hP hS => ?_)
        refine g_name hP (fun q1 hq1 hP => ?_)
        have hf := bnd_go hq1 hf
        refine lv_aload_n hx hb dX3_eatSnacks_45 rfl (lv_at hl 0 rfl) ?_
        refine lv_dup hx hb dX3_eatSnacks_46 rfl ?_
        refine gg_3_2 X hP ho0 kf_X3_19 dX3_eatSnacks_47 ?_
        refine lv_iload_n hx hb dX3_eatSnacks_50 rfl (lv_at hl 1 rfl) ?_
        refine lv_iadd hx hb dX3_eatSnacks_51 ?_
        refine gp_3_2 X hP hS ho0 kf_X3_19 dX3_eatSnacks_52 (fun H locs hP hS => ?_)
        refine g_name hP (fun q2 hq2 hP => ?_)
        have hf := bnd_go hq2 hf
        exact g_vret X hr hlk hP hS hf dX3_eatSnacks_55
      · have hf := ite_f hc hf
        have hok := hok.2 hc
        refine lv_aload_n hx hb dX3_eatSnacks_7 rfl (lv_at hl 0 rfl) ?_
        refine gg_3_0 X hP ho0 kf_X3_9 dX3_eatSnacks_8 ?_
        refine lv_fconst2 hx hb dX3_eatSnacks_11 ?_
        have hs3 := hok.1
        have hok := hok.2
        refine lv_fsub hx hb dX3_eatSnacks_12 hs3 ?_
        refine lv_fstore_n (lv' := [(3, .float (FP.fsub (σ.2.1 o0 0) FP.fconst2)), (0, .ref (G.2.1 o0)), (1, .int x1), (2, .int x2)]) hx hb dX3_eatSnacks_13 rfl hl (by decide) rfl (fun ls hl => ?_)
        refine lv_aload_n hx hb dX3_eatSnacks_14 rfl (lv_at hl 1 rfl) ?_
        refine lv_fload_n hx hb dX3_eatSnacks_15 rfl (lv_at hl 0 rfl) ?_
        refine lv_fconst0 hx hb dX3_eatSnacks_16 ?_
        refine lv_fcmp hx hb dX3_eatSnacks_17 ?_
        refine lv_if_ge (tgt := 25) hx hb dX3_eatSnacks_18 (by decide) (fun hc => ?_) (fun hc => ?_)
        · have hf := ite_t hc hf
          have hok := hok.1 hc
          refine lv_fload_n hx hb dX3_eatSnacks_25 rfl (lv_at hl 0 rfl) ?_
          refine gp_3_0 X hP hS ho0 kf_X3_9 dX3_eatSnacks_26 (fun H locs hP hS => ?_)
          refine g_name hP (fun q4 hq4 hP => ?_)
          have hf := bnd_go hq4 hf
          have hok := bnd_goP hq4 hok
          refine lv_iinc (v := (x2 + (1 : Int32))) (lv' := [(2, .int (x2 + (1 : Int32))), (3, .float (FP.fsub (σ.2.1 o0 0) FP.fconst2)), (0, .ref (G.2.1 o0)), (1, .int x1)]) hx hb dX3_eatSnacks_29 hl (k := 3) rfl rfl (by decide) rfl (fun ls hl => ?_)
          refine lv_goto (tgt := 2) hx hb dX3_eatSnacks_32 (by decide) ?_
          exact ih2 q4 x1 (x2 + (1 : Int32)) hok hf _ _ hP hS ls (lv_sub hl [2, 3, 0] rfl)
        · have hf := ite_f hc hf
          have hok := hok.2 hc
          refine lv_fconst0 hx hb dX3_eatSnacks_21 ?_
          refine lv_goto (tgt := 26) hx hb dX3_eatSnacks_22 (by decide) ?_
          refine gp_3_0 X hP hS ho0 kf_X3_9 dX3_eatSnacks_26 (fun H locs hP hS => ?_)
          refine g_name hP (fun q5 hq5 hP => ?_)
          have hf := bnd_go hq5 hf
          have hok := bnd_goP hq5 hok
          refine lv_iinc (v := (x2 + (1 : Int32))) (lv' := [(2, .int (x2 + (1 : Int32))), (3, .float (FP.fsub (σ.2.1 o0 0) FP.fconst2)), (0, .ref (G.2.1 o0)), (1, .int x1)]) hx hb dX3_eatSnacks_29 hl (k := 3) rfl rfl (by decide) rfl (fun ls hl => ?_)
          refine lv_goto (tgt := 2) hx hb dX3_eatSnacks_32 (by decide) ?_
          exact ih2 q5 x1 (x2 + (1 : Int32)) hok hf _ _ hP hS ls (lv_sub hl [2, 3, 0] rfl)
  exact K2 2000 σ x1 (0 : Int32) hok hf _ _ hP hS ls (lv_sub hl [1, 2, 0] rfl)
