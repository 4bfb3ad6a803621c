def f_X9_orderWriting (σ : St) (x1 : Int32) (x2 : Int32) (x3 : Int32) (x4 : Int32) : St × Int32 := (bnd (f_X1_mayWrite σ x1 x2 x3 x4) (fun q2 => (if q2.2 = 0 then (bnd (f_X6_writeLetter q2.1 2 x1 x2 x3 x4) (fun q4 => (q4.1, q2.2))) else (q2.1, q2.2))))
def ok_X9_orderWriting (σ : St) (x1 : Int32) (x2 : Int32) (x3 : Int32) (x4 : Int32) : Prop := (ok_X1_mayWrite σ x1 x2 x3 x4 ∧ (bndP (f_X1_mayWrite σ x1 x2 x3 x4) (fun q2 => ((q2.2 = 0 → ok_X6_writeLetter q2.1 2 x1 x2 x3 x4) ∧ (¬ q2.2 = 0 → True)))))
abbrev rm_X9_orderWriting : Room := { frames := 3, cells := 0, slots := 0, locals := 69 }
set_option maxHeartbeats 4000000 in
set_option maxRecDepth 100000 in
theorem c_X9_orderWriting (l : Launch) (G : GE) (hG : Gok G) (σ : St) (x1 : Int32) (x2 : Int32) (x3 : Int32) (x4 : Int32) (hok : ok_X9_orderWriting σ x1 x2 x3 x4) : MtI l G yX9_orderWriting cX9_orderWriting 6 rm_X9_orderWriting [.ref (G.2.1 0), .int x1, .int x2, .int x3, .int x4] σ (f_X9_orderWriting σ x1 x2 x3 x4) := by
  generalize hf : f_X9_orderWriting σ x1 x2 x3 x4 = fv
  rw [f_X9_orderWriting] at hf
  rw [ok_X9_orderWriting] at hok
  refine g_start hG (plainFor_of_name (by decide)) (Nat.le_of_ble_eq_true rfl) ?_
  intro p e s m args below meth c X hr hlk ls hl H locs hP hS
  have X : Cx G p s m args c cX9_orderWriting 6 RX9 := X
  obtain ⟨hx, hb, hml, hown, hts, hK, hbs, hXW, -⟩ := id X
  have hl : lv_has ls 6 [(0, .ref (G.2.1 0)), (1, .int x1), (2, .int x2), (3, .int x3), (4, .int x4)] := hl
  refine lv_aload_n hx hb dX9_orderWriting_0 rfl (lv_at hl 0 rfl) ?_
  refine gg_9_0 X hP ab_0 kf_X9_10 dX9_orderWriting_1 ?_
  refine lv_iload_n hx hb dX9_orderWriting_4 rfl (lv_at hl 1 rfl) ?_
  refine lv_iload_n hx hb dX9_orderWriting_5 rfl (lv_at hl 2 rfl) ?_
  refine lv_iload_n hx hb dX9_orderWriting_6 rfl (lv_at hl 3 rfl) ?_
  refine lv_iload hx hb dX9_orderWriting_7 (lv_at hl 4 rfl) ?_
  have hs1 := hok.1
  have hok := hok.2
  refine g_cI (g_runV (i := 1) (As := [.int x1, .int x2, .int x3, .int x4]) (rest := []) X (c_X1_mayWrite l G hG σ x1 x2 x3 x4 hs1) ca_X1_mayWrite km_X9_80 rfl rfl ⟨Nat.le_of_ble_eq_true rfl, Nat.le_of_ble_eq_true rfl⟩ hP hS (ty_lt ab_1) (cell_1 ab_1) rfl rfl rfl hl.1 rfl (Nat.le_of_ble_eq_true rfl) ⟨Nat.le_of_ble_eq_true rfl, Nat.le_of_ble_eq_true rfl⟩ dX9_orderWriting_9) hS (fun q2 hq2 H locs hP hS => ?_)
  have hf := bnd_go hq2 hf
  have hok := bnd_goP hq2 hok
  refine lv_istore (lv' := [(5, .int q2.2), (0, .ref (G.2.1 0)), (1, .int x1), (2, .int x2), (3, .int x3), (4, .int x4)]) hx hb dX9_orderWriting_12 hl (by decide) rfl (fun ls hl => ?_)
  refine lv_iload hx hb dX9_orderWriting_14 (lv_at hl 0 rfl) ?_
  refine lv_if_ne (tgt := 32) hx hb dX9_orderWriting_16 (by decide) (fun hc => ?_) (fun hc => ?_)
  · have hf := ite_f hc hf
    refine lv_iload hx hb dX9_orderWriting_32 (lv_at hl 0 rfl) ?_
    exact g_iret X hr hlk hP hS hf dX9_orderWriting_34
  · have hf := ite_t hc hf
    have hok := hok.1 hc
    refine lv_aload_n hx hb dX9_orderWriting_19 rfl (lv_at hl 1 rfl) ?_
    refine gg_9_1 X hP ab_0 kf_X9_20 dX9_orderWriting_20 ?_
    refine lv_iload_n hx hb dX9_orderWriting_23 rfl (lv_at hl 2 rfl) ?_
    refine lv_iload_n hx hb dX9_orderWriting_24 rfl (lv_at hl 3 rfl) ?_
    refine lv_iload_n hx hb dX9_orderWriting_25 rfl (lv_at hl 4 rfl) ?_
    refine lv_iload hx hb dX9_orderWriting_26 (lv_at hl 5 rfl) ?_
    have hs3 := hok
    refine g_cI (g_runV (i := 2) (As := [.int x1, .int x2, .int x3, .int x4]) (rest := []) X (c_X6_writeLetter l G hG q2.1 2 ab_2 x1 x2 x3 x4 hs3) ca_X6_writeLetter km_X9_84 rfl rfl ⟨Nat.le_of_ble_eq_true rfl, Nat.le_of_ble_eq_true rfl⟩ hP hS (ty_lt ab_2) (cell_6 ab_2) rfl rfl rfl hl.1 rfl (Nat.le_of_ble_eq_true rfl) ⟨Nat.le_of_ble_eq_true rfl, Nat.le_of_ble_eq_true rfl⟩ dX9_orderWriting_28) hS (fun q4 hq4 H locs hP hS => ?_)
    have hf := bnd_go hq4 hf
    refine lv_pop hx hb dX9_orderWriting_31 rfl ?_
    refine lv_iload hx hb dX9_orderWriting_32 (lv_at hl 0 rfl) ?_
    exact g_iret X hr hlk hP hS hf dX9_orderWriting_34
def f_X9_orderStamping (σ : St) (x1 : Int32) (x2 : Int32) : St × Int32 := (bnd (f_X1_mayStamp σ x1 x2) (fun q2 => (if q2.2 = 0 then (bnd (f_X6_stampItem q2.1 2 x1 x2) (fun q4 => (q4.1, q2.2))) else (q2.1, q2.2))))
def ok_X9_orderStamping (σ : St) (x1 : Int32) (x2 : Int32) : Prop := (ok_X1_mayStamp σ x1 x2 ∧ (bndP (f_X1_mayStamp σ x1 x2) (fun q2 => ((q2.2 = 0 → ok_X6_stampItem q2.1 2 x1 x2) ∧ (¬ q2.2 = 0 → True)))))
abbrev rm_X9_orderStamping : Room := { frames := 3, cells := 0, slots := 0, locals := 65 }
set_option maxHeartbeats 4000000 in
set_option maxRecDepth 100000 in
theorem c_X9_orderStamping (l : Launch) (G : GE) (hG : Gok G) (σ : St) (x1 : Int32) (x2 : Int32) (hok : ok_X9_orderStamping σ x1 x2) : MtI l G yX9_orderStamping cX9_orderStamping 4 rm_X9_orderStamping [.ref (G.2.1 0), .int x1, .int x2] σ (f_X9_orderStamping σ x1 x2) := by
  generalize hf : f_X9_orderStamping σ x1 x2 = fv
  rw [f_X9_orderStamping] at hf
  rw [ok_X9_orderStamping] at hok
  refine g_start hG (plainFor_of_name (by decide)) (Nat.le_of_ble_eq_true rfl) ?_
  intro p e s m args below meth c X hr hlk ls hl H locs hP hS
  have X : Cx G p s m args c cX9_orderStamping 4 RX9 := X
  obtain ⟨hx, hb, hml, hown, hts, hK, hbs, hXW, -⟩ := id X
  have hl : lv_has ls 4 [(0, .ref (G.2.1 0)), (1, .int x1), (2, .int x2)] := hl
  refine lv_aload_n hx hb dX9_orderStamping_0 rfl (lv_at hl 0 rfl) ?_
  refine gg_9_0 X hP ab_0 kf_X9_10 dX9_orderStamping_1 ?_
  refine lv_iload_n hx hb dX9_orderStamping_4 rfl (lv_at hl 1 rfl) ?_
  refine lv_iload_n hx hb dX9_orderStamping_5 rfl (lv_at hl 2 rfl) ?_
  have hs1 := hok.1
  have hok := hok.2
  refine g_cI (g_runV (i := 1) (As := [.int x1, .int x2]) (rest := []) X (c_X1_mayStamp l G hG σ x1 x2 hs1) ca_X1_mayStamp km_X9_194 rfl rfl ⟨Nat.le_of_ble_eq_true rfl, Nat.le_of_ble_eq_true rfl⟩ hP hS (ty_lt ab_1) (cell_1 ab_1) rfl rfl rfl hl.1 rfl (Nat.le_of_ble_eq_true rfl) ⟨Nat.le_of_ble_eq_true rfl, Nat.le_of_ble_eq_true rfl⟩ dX9_orderStamping_6) hS (fun q2 hq2 H locs hP hS => ?_)
  have hf := bnd_go hq2 hf
  have hok := bnd_goP hq2 hok
  refine lv_istore_n (lv' := [(3, .int q2.2), (0, .ref (G.2.1 0)), (1, .int x1), (2, .int x2)]) hx hb dX9_orderStamping_9 rfl hl (by decide) rfl (fun ls hl => ?_)
  refine lv_iload_n hx hb dX9_orderStamping_10 rfl (lv_at hl 0 rfl) ?_
  refine lv_if_ne (tgt := 24) hx hb dX9_orderStamping_11 (by decide) (fun hc => ?_) (fun hc => ?_)
  · have hf := ite_f hc hf
    refine lv_iload_n hx hb dX9_orderStamping_24 rfl (lv_at hl 0 rfl) ?_
    exact g_iret X hr hlk hP hS hf dX9_orderStamping_25
  · have hf := ite_t hc hf
    have hok := hok.1 hc
    refine lv_aload_n hx hb dX9_orderStamping_14 rfl (lv_at hl 1 rfl) ?_
    refine gg_9_1 X hP ab_0 kf_X9_20 dX9_orderStamping_15 ?_
    refine lv_iload_n hx hb dX9_orderStamping_18 rfl (lv_at hl 2 rfl) ?_
    refine lv_iload_n hx hb dX9_orderStamping_19 rfl (lv_at hl 3 rfl) ?_
    have hs3 := hok
    refine g_cF (g_runV (i := 2) (As := [.int x1, .int x2]) (rest := []) X (c_X6_stampItem l G hG q2.1 2 ab_2 x1 x2 hs3) ca_X6_stampItem km_X9_197 rfl rfl ⟨Nat.le_of_ble_eq_true rfl, Nat.le_of_ble_eq_true rfl⟩ hP hS (ty_lt ab_2) (cell_6 ab_2) rfl rfl rfl hl.1 rfl (Nat.le_of_ble_eq_true rfl) ⟨Nat.le_of_ble_eq_true rfl, Nat.le_of_ble_eq_true rfl⟩ dX9_orderStamping_20) hS (fun q4 hq4 H locs hP hS => ?_)
    have hf := bnd_go hq4 hf
    refine lv_pop hx hb dX9_orderStamping_23 rfl ?_
    refine lv_iload_n hx hb dX9_orderStamping_24 rfl (lv_at hl 0 rfl) ?_
    exact g_iret X hr hlk hP hS hf dX9_orderStamping_25
def f_X9_orderShelving (σ : St) (x1 : Int32) : St × Int32 := (if (f_X5_has σ 6 x1) = true then (bnd (f_X1_mayShelve σ x1 (σ.1 7 x1.toNatClampNeg)) (fun q3 => (if q3.2 = 0 then (bnd (f_X6_shelveItem q3.1 2 x1 (σ.1 7 x1.toNatClampNeg)) (fun q5 => (q5.1, q3.2))) else (q3.1, q3.2)))) else (σ, (-1 : Int32)))
def ok_X9_orderShelving (σ : St) (x1 : Int32) : Prop := (((f_X5_has σ 6 x1) = true → (vp_in x1 20 ∧ (ok_X1_mayShelve σ x1 (σ.1 7 x1.toNatClampNeg) ∧ (bndP (f_X1_mayShelve σ x1 (σ.1 7 x1.toNatClampNeg)) (fun q3 => ((q3.2 = 0 → ok_X6_shelveItem q3.1 2 x1 (σ.1 7 x1.toNatClampNeg)) ∧ (¬ q3.2 = 0 → True))))))) ∧ ((f_X5_has σ 6 x1) = false → True))
abbrev rm_X9_orderShelving : Room := { frames := 4, cells := 0, slots := 0, locals := 92 }
set_option maxHeartbeats 4000000 in
set_option maxRecDepth 100000 in
theorem c_X9_orderShelving (l : Launch) (G : GE) (hG : Gok G) (σ : St) (x1 : Int32) (hok : ok_X9_orderShelving σ x1) : MtI l G yX9_orderShelving cX9_orderShelving 4 rm_X9_orderShelving [.ref (G.2.1 0), .int x1] σ (f_X9_orderShelving σ x1) := by
  generalize hf : f_X9_orderShelving σ x1 = fv
  rw [f_X9_orderShelving] at hf
  rw [ok_X9_orderShelving] at hok
  refine g_start hG (plainFor_of_name (by decide)) (Nat.le_of_ble_eq_true rfl) ?_
  intro p e s m args below meth c X hr hlk ls hl H locs hP hS
  have X : Cx G p s m args c cX9_orderShelving 4 RX9 := X
  obtain ⟨hx, hb, hml, hown, hts, hK, hbs, hXW, -⟩ := id X
  have hl : lv_has ls 4 [(0, .ref (G.2.1 0)), (1, .int x1)] := hl
  refine lv_aload_n hx hb dX9_orderShelving_0 rfl (lv_at hl 0 rfl) ?_
  refine gg_9_1 X hP ab_0 kf_X9_20 dX9_orderShelving_1 ?_
  refine gg_6_1 (j := 6) rfl X hP ab_2 kf_X9_101 dX9_orderShelving_4 ?_
  refine lv_iload_n hx hb dX9_orderShelving_7 rfl (lv_at hl 1 rfl) ?_
  refine g_cZp (g_runV (i := 6) (As := [.int x1]) (rest := []) X (c_X5_has l G hG σ 6 ab_6 x1) ca_X5_has km_X9_401 rfl rfl ⟨Nat.le_of_ble_eq_true rfl, Nat.le_of_ble_eq_true rfl⟩ hP hS (ty_lt ab_6) (cell_5 ab_6) rfl rfl rfl hl.1 rfl (Nat.le_of_ble_eq_true rfl) ⟨Nat.le_of_ble_eq_true rfl, Nat.le_of_ble_eq_true rfl⟩ dX9_orderShelving_8) hS (fun H locs hP hS => ?_)
  refine g_ifneZ (tgt := 16) X dX9_orderShelving_11 (by decide) (fun hc => ?_) (fun hc => ?_)
  · have hf := ite_t hc hf
    have hok := hok.1 hc
    refine lv_aload_n hx hb dX9_orderShelving_16 rfl (lv_at hl 0 rfl) ?_
    refine gg_9_1 X hP ab_0 kf_X9_20 dX9_orderShelving_17 ?_
    refine gg_6_1 (j := 6) rfl X hP ab_2 kf_X9_101 dX9_orderShelving_20 ?_
    refine gg_5_0 (j := 7) rfl X hP ab_6 kf_X9_111 dX9_orderShelving_23 ?_
    refine lv_iload_n hx hb dX9_orderShelving_26 rfl (lv_at hl 1 rfl) ?_
    have hs1 := hok.1
    have hok := hok.2
    refine g_iald X hP ab_7 (by rw [al_7]; exact hs1) dX9_orderShelving_27 ?_
    refine lv_istore_n (lv' := [(2, .int (σ.1 7 x1.toNatClampNeg)), (0, .ref (G.2.1 0)), (1, .int x1)]) hx hb dX9_orderShelving_28 rfl hl (by decide) rfl (fun ls hl => ?_)
    refine lv_aload_n hx hb dX9_orderShelving_29 rfl (lv_at hl 1 rfl) ?_
    refine gg_9_0 X hP ab_0 kf_X9_10 dX9_orderShelving_30 ?_
    refine lv_iload_n hx hb dX9_orderShelving_33 rfl (lv_at hl 2 rfl) ?_
    refine lv_iload_n hx hb dX9_orderShelving_34 rfl (lv_at hl 0 rfl) ?_
    have hs2 := hok.1
    have hok := hok.2
    refine g_cI (g_runV (i := 1) (As := [.int x1, .int (σ.1 7 x1.toNatClampNeg)]) (rest := []) X (c_X1_mayShelve l G hG σ x1 (σ.1 7 x1.toNatClampNeg) hs2) ca_X1_mayShelve km_X9_201 rfl rfl ⟨Nat.le_of_ble_eq_true rfl, Nat.le_of_ble_eq_true rfl⟩ hP hS (ty_lt ab_1) (cell_1 ab_1) rfl rfl rfl hl.1 rfl (Nat.le_of_ble_eq_true rfl) ⟨Nat.le_of_ble_eq_true rfl, Nat.le_of_ble_eq_true rfl⟩ dX9_orderShelving_35) hS (fun q3 hq3 H locs hP hS => ?_)
    have hf := bnd_go hq3 hf
    have hok := bnd_goP hq3 hok
    refine lv_istore_n (lv' := [(3, .int q3.2), (2, .int (σ.1 7 x1.toNatClampNeg)), (0, .ref (G.2.1 0)), (1, .int x1)]) hx hb dX9_orderShelving_38 rfl hl (by decide) rfl (fun ls hl => ?_)
    refine lv_iload_n hx hb dX9_orderShelving_39 rfl (lv_at hl 0 rfl) ?_
    refine lv_if_ne (tgt := 53) hx hb dX9_orderShelving_40 (by decide) (fun hc => ?_) (fun hc => ?_)
    · have hf := ite_f hc hf
      refine lv_iload_n hx hb dX9_orderShelving_53 rfl (lv_at hl 0 rfl) ?_
      exact g_iret X hr hlk hP hS hf dX9_orderShelving_54
    · have hf := ite_t hc hf
      have hok := hok.1 hc
      refine lv_aload_n hx hb dX9_orderShelving_43 rfl (lv_at hl 2 rfl) ?_
      refine gg_9_1 X hP ab_0 kf_X9_20 dX9_orderShelving_44 ?_
      refine lv_iload_n hx hb dX9_orderShelving_47 rfl (lv_at hl 3 rfl) ?_
      refine lv_iload_n hx hb dX9_orderShelving_48 rfl (lv_at hl 1 rfl) ?_
      have hs4 := hok
      refine g_cI (g_runV (i := 2) (As := [.int x1, .int (σ.1 7 x1.toNatClampNeg)]) (rest := []) X (c_X6_shelveItem l G hG q3.1 2 ab_2 x1 (σ.1 7 x1.toNatClampNeg) hs4) ca_X6_shelveItem km_X9_204 rfl rfl ⟨Nat.le_of_ble_eq_true rfl, Nat.le_of_ble_eq_true rfl⟩ hP hS (ty_lt ab_2) (cell_6 ab_2) rfl rfl rfl hl.1 rfl (Nat.le_of_ble_eq_true rfl) ⟨Nat.le_of_ble_eq_true rfl, Nat.le_of_ble_eq_true rfl⟩ dX9_orderShelving_49) hS (fun q5 hq5 H locs hP hS => ?_)
      have hf := bnd_go hq5 hf
      refine lv_pop hx hb dX9_orderShelving_52 rfl ?_
      refine lv_iload_n hx hb dX9_orderShelving_53 rfl (lv_at hl 0 rfl) ?_
      exact g_iret X hr hlk hP hS hf dX9_orderShelving_54
  · have hf := ite_z hc hf
    refine lv_iconst (v := -1) hx hb dX9_orderShelving_14 (by decide) ?_
    exact g_iret X hr hlk hP hS hf dX9_orderShelving_15
def f_X9_orderTaking (σ : St) (x1 : Int32) : St × Int32 := (bnd (f_X1_mayTake σ x1) (fun q2 => (if q2.2 = 0 then (bnd (f_X6_takeAll q2.1 2 x1) (fun q4 => (q4.1, q2.2))) else (q2.1, q2.2))))
def ok_X9_orderTaking (σ : St) (x1 : Int32) : Prop := (ok_X1_mayTake σ x1 ∧ (bndP (f_X1_mayTake σ x1) (fun q2 => ((q2.2 = 0 → ok_X6_takeAll q2.1 2 x1) ∧ (¬ q2.2 = 0 → True)))))
abbrev rm_X9_orderTaking : Room := { frames := 4, cells := 0, slots := 0, locals := 94 }
set_option maxHeartbeats 4000000 in
set_option maxRecDepth 100000 in
theorem c_X9_orderTaking (l : Launch) (G : GE) (hG : Gok G) (σ : St) (x1 : Int32) (hok : ok_X9_orderTaking σ x1) : MtI l G yX9_orderTaking cX9_orderTaking 3 rm_X9_orderTaking [.ref (G.2.1 0), .int x1] σ (f_X9_orderTaking σ x1) := by
  generalize hf : f_X9_orderTaking σ x1 = fv
  rw [f_X9_orderTaking] at hf
  rw [ok_X9_orderTaking] at hok
  refine g_start hG (plainFor_of_name (by decide)) (Nat.le_of_ble_eq_true rfl) ?_
  intro p e s m args below meth c X hr hlk ls hl H locs hP hS
  have X : Cx G p s m args c cX9_orderTaking 3 RX9 := X
  obtain ⟨hx, hb, hml, hown, hts, hK, hbs, hXW, -⟩ := id X
  have hl : lv_has ls 3 [(0, .ref (G.2.1 0)), (1, .int x1)] := hl
  refine lv_aload_n hx hb dX9_orderTaking_0 rfl (lv_at hl 0 rfl) ?_
  refine gg_9_0 X hP ab_0 kf_X9_10 dX9_orderTaking_1 ?_
  refine lv_iload_n hx hb dX9_orderTaking_4 rfl (lv_at hl 1 rfl) ?_
  have hs1 := hok.1
  have hok := hok.2
  refine g_cI (g_runV (i := 1) (As := [.int x1]) (rest := []) X (c_X1_mayTake l G hG σ x1 hs1) ca_X1_mayTake km_X9_207 rfl rfl ⟨Nat.le_of_ble_eq_true rfl, Nat.le_of_ble_eq_true rfl⟩ hP hS (ty_lt ab_1) (cell_1 ab_1) rfl rfl rfl hl.1 rfl (Nat.le_of_ble_eq_true rfl) ⟨Nat.le_of_ble_eq_true rfl, Nat.le_of_ble_eq_true rfl⟩ dX9_orderTaking_5) hS (fun q2 hq2 H locs hP hS => ?_)
  have hf := bnd_go hq2 hf
  have hok := bnd_goP hq2 hok
  refine lv_istore_n (lv' := [(2, .int q2.2), (0, .ref (G.2.1 0)), (1, .int x1)]) hx hb dX9_orderTaking_8 rfl hl (by decide) rfl (fun ls hl => ?_)
  refine lv_iload_n hx hb dX9_orderTaking_9 rfl (lv_at hl 0 rfl) ?_
  refine lv_if_ne (tgt := 22) hx hb dX9_orderTaking_10 (by decide) (fun hc => ?_) (fun hc => ?_)
  · have hf := ite_f hc hf
    refine lv_iload_n hx hb dX9_orderTaking_22 rfl (lv_at hl 0 rfl) ?_
    exact g_iret X hr hlk hP hS hf dX9_orderTaking_23
  · have hf := ite_t hc hf
    have hok := hok.1 hc
    refine lv_aload_n hx hb dX9_orderTaking_13 rfl (lv_at hl 1 rfl) ?_
    refine gg_9_1 X hP ab_0 kf_X9_20 dX9_orderTaking_14 ?_
    refine lv_iload_n hx hb dX9_orderTaking_17 rfl (lv_at hl 2 rfl) ?_
    have hs3 := hok
    refine g_cI (g_runV (i := 2) (As := [.int x1]) (rest := []) X (c_X6_takeAll l G hG q2.1 2 ab_2 x1 hs3) ca_X6_takeAll km_X9_210 rfl rfl ⟨Nat.le_of_ble_eq_true rfl, Nat.le_of_ble_eq_true rfl⟩ hP hS (ty_lt ab_2) (cell_6 ab_2) rfl rfl rfl hl.1 rfl (Nat.le_of_ble_eq_true rfl) ⟨Nat.le_of_ble_eq_true rfl, Nat.le_of_ble_eq_true rfl⟩ dX9_orderTaking_18) hS (fun q4 hq4 H locs hP hS => ?_)
    have hf := bnd_go hq4 hf
    refine lv_pop hx hb dX9_orderTaking_21 rfl ?_
    refine lv_iload_n hx hb dX9_orderTaking_22 rfl (lv_at hl 0 rfl) ?_
    exact g_iret X hr hlk hP hS hf dX9_orderTaking_23
def f_X9_orderFeeding (σ : St) (x1 : Int32) : St × Int32 := (bnd (f_X1_mayFeed σ x1) (fun q1 => (if q1.2 = 0 then (bnd (f_X3_eatSnacks q1.1 18 x1) (fun q3 => (q3, q1.2))) else (q1.1, q1.2))))
def ok_X9_orderFeeding (σ : St) (x1 : Int32) : Prop := (bndP (f_X1_mayFeed σ x1) (fun q1 => ((q1.2 = 0 → ok_X3_eatSnacks q1.1 18 x1) ∧ (¬ q1.2 = 0 → True))))
abbrev rm_X9_orderFeeding : Room := { frames := 2, cells := 0, slots := 0, locals := 44 }
set_option maxHeartbeats 4000000 in
set_option maxRecDepth 100000 in
theorem c_X9_orderFeeding (l : Launch) (G : GE) (hG : Gok G) (σ : St) (x1 : Int32) (hok : ok_X9_orderFeeding σ x1) : MtI l G yX9_orderFeeding cX9_orderFeeding 3 rm_X9_orderFeeding [.ref (G.2.1 0), .int x1] σ (f_X9_orderFeeding σ x1) := by
  generalize hf : f_X9_orderFeeding σ x1 = fv
  rw [f_X9_orderFeeding] at hf
  rw [ok_X9_orderFeeding] at hok
  refine g_start hG (plainFor_of_name (by decide)) (Nat.le_of_ble_eq_true rfl) ?_
  intro p e s m args below meth c X hr hlk ls hl H locs hP hS
  have X : Cx G p s m args c cX9_orderFeeding 3 RX9 := X
  obtain ⟨hx, hb, hml, hown, hts, hK, hbs, hXW, -⟩ := id X
  have hl : lv_has ls 3 [(0, .ref (G.2.1 0)), (1, .int x1)] := hl
  refine lv_aload_n hx hb dX9_orderFeeding_0 rfl (lv_at hl 0 rfl) ?_
  refine gg_9_0 X hP ab_0 kf_X9_10 dX9_orderFeeding_1 ?_
  refine lv_iload_n hx hb dX9_orderFeeding_4 rfl (lv_at hl 1 rfl) ?_
  refine g_cI (g_runV (i := 1) (As := [.int x1]) (rest := []) X (c_X1_mayFeed l G hG σ x1) ca_X1_mayFeed km_X9_245 rfl rfl ⟨Nat.le_of_ble_eq_true rfl, Nat.le_of_ble_eq_true rfl⟩ hP hS (ty_lt ab_1) (cell_1 ab_1) rfl rfl rfl hl.1 rfl (Nat.le_of_ble_eq_true rfl) ⟨Nat.le_of_ble_eq_true rfl, Nat.le_of_ble_eq_true rfl⟩ dX9_orderFeeding_5) hS (fun q1 hq1 H locs hP hS => ?_)
  have hf := bnd_go hq1 hf
  have hok := bnd_goP hq1 hok
  refine lv_istore_n (lv' := [(2, .int q1.2), (0, .ref (G.2.1 0)), (1, .int x1)]) hx hb dX9_orderFeeding_8 rfl hl (by decide) rfl (fun ls hl => ?_)
  refine lv_iload_n hx hb dX9_orderFeeding_9 rfl (lv_at hl 0 rfl) ?_
  refine lv_if_ne (tgt := 24) hx hb dX9_orderFeeding_10 (by decide) (fun hc => ?_) (fun hc => ?_)
  · have hf := ite_f hc hf
    refine lv_iload_n hx hb dX9_orderFeeding_24 rfl (lv_at hl 0 rfl) ?_
    exact g_iret X hr hlk hP hS hf dX9_orderFeeding_25
  · have hf := ite_t hc hf
    have hok := hok.1 hc
    refine lv_aload_n hx hb dX9_orderFeeding_13 rfl (lv_at hl 1 rfl) ?_
    refine gg_9_1 X hP ab_0 kf_X9_20 dX9_orderFeeding_14 ?_
    refine gg_6_3 (j := 18) rfl X hP ab_2 kf_X9_232 dX9_orderFeeding_17 ?_
    refine lv_iload_n hx hb dX9_orderFeeding_20 rfl (lv_at hl 2 rfl) ?_
    have hs2 := hok
    refine g_cV (g_runV (i := 18) (As := [.int x1]) (rest := []) X (c_X3_eatSnacks l G hG q1.1 18 ab_18 x1 hs2) ca_X3_eatSnacks km_X9_248 rfl rfl ⟨Nat.le_of_ble_eq_true rfl, Nat.le_of_ble_eq_true rfl⟩ hP hS (ty_lt ab_18) (cell_3 ab_18) rfl rfl rfl hl.1 rfl (Nat.le_of_ble_eq_true rfl) ⟨Nat.le_of_ble_eq_true rfl, Nat.le_of_ble_eq_true rfl⟩ dX9_orderFeeding_21) hS (fun q3 hq3 H locs hP hS => ?_)
    have hf := bnd_go hq3 hf
    refine lv_iload_n hx hb dX9_orderFeeding_24 rfl (lv_at hl 0 rfl) ?_
    exact g_iret X hr hlk hP hS hf dX9_orderFeeding_25
def f_X9_orderPassing (σ : St) (x1 : Int32) : St × Int32 := (if (f_X1_mayPass x1) = 0 then (bnd (f_X6_passHours σ 2 x1) (fun q2 => (q2.1, (f_X1_mayPass x1)))) else (σ, (f_X1_mayPass x1)))
def ok_X9_orderPassing (σ : St) (x1 : Int32) : Prop := (((f_X1_mayPass x1) = 0 → ok_X6_passHours σ 2 x1) ∧ (¬ (f_X1_mayPass x1) = 0 → True))
abbrev rm_X9_orderPassing : Room := { frames := 4, cells := 0, slots := 0, locals := 90 }
set_option maxHeartbeats 4000000 in
set_option maxRecDepth 100000 in
theorem c_X9_orderPassing (l : Launch) (G : GE) (hG : Gok G) (σ : St) (x1 : Int32) (hok : ok_X9_orderPassing σ x1) : MtI l G yX9_orderPassing cX9_orderPassing 3 rm_X9_orderPassing [.ref (G.2.1 0), .int x1] σ (f_X9_orderPassing σ x1) := by
  generalize hf : f_X9_orderPassing σ x1 = fv
  rw [f_X9_orderPassing] at hf
  rw [ok_X9_orderPassing] at hok
  refine g_start hG (plainFor_of_name (by decide)) (Nat.le_of_ble_eq_true rfl) ?_
  intro p e s m args below meth c X hr hlk ls hl H locs hP hS
  have X : Cx G p s m args c cX9_orderPassing 3 RX9 := X
  obtain ⟨hx, hb, hml, hown, hts, hK, hbs, hXW, -⟩ := id X
  have hl : lv_has ls 3 [(0, .ref (G.2.1 0)), (1, .int x1)] := hl
  refine lv_aload_n hx hb dX9_orderPassing_0 rfl (lv_at hl 0 rfl) ?_
  refine gg_9_0 X hP ab_0 kf_X9_10 dX9_orderPassing_1 ?_
  refine lv_iload_n hx hb dX9_orderPassing_4 rfl (lv_at hl 1 rfl) ?_
  refine g_cIp (g_runV (i := 1) (As := [.int x1]) (rest := []) X (c_X1_mayPass l G hG σ x1) ca_X1_mayPass km_X9_263 rfl rfl ⟨Nat.le_of_ble_eq_true rfl, Nat.le_of_ble_eq_true rfl⟩ hP hS (ty_lt ab_1) (cell_1 ab_1) rfl rfl rfl hl.1 rfl (Nat.le_of_ble_eq_true rfl) ⟨Nat.le_of_ble_eq_true rfl, Nat.le_of_ble_eq_true rfl⟩ dX9_orderPassing_5) hS (fun H locs hP hS => ?_)
  refine lv_istore_n (lv' := [(2, .int (f_X1_mayPass x1)), (0, .ref (G.2.1 0)), (1, .int x1)]) hx hb dX9_orderPassing_8 rfl hl (by decide) rfl (fun ls hl => ?_)
  refine lv_iload_n hx hb dX9_orderPassing_9 rfl (lv_at hl 0 rfl) ?_
  refine lv_if_ne (tgt := 22) hx hb dX9_orderPassing_10 (by decide) (fun hc => ?_) (fun hc => ?_)
  · have hf := ite_f hc hf
    refine lv_iload_n hx hb dX9_orderPassing_22 rfl (lv_at hl 0 rfl) ?_
    exact g_iret X hr hlk hP hS hf dX9_orderPassing_23
  · have hf := ite_t hc hf
    have hok := hok.1 hc
    refine lv_aload_n hx hb dX9_orderPassing_13 rfl (lv_at hl 1 rfl) ?_
    refine gg_9_1 X hP ab_0 kf_X9_20 dX9_orderPassing_14 ?_
    refine lv_iload_n hx hb dX9_orderPassing_17 rfl (lv_at hl 2 rfl) ?_
    have hs1 := hok
    refine g_cI (g_runV (i := 2) (As := [.int x1]) (rest := []) X (c_X6_passHours l G hG σ 2 ab_2 x1 hs1) ca_X6_passHours km_X9_266 rfl rfl ⟨Nat.le_of_ble_eq_true rfl, Nat.le_of_ble_eq_true rfl⟩ hP hS (ty_lt ab_2) (cell_6 ab_2) rfl rfl rfl hl.1 rfl (Nat.le_of_ble_eq_true rfl) ⟨Nat.le_of_ble_eq_true rfl, Nat.le_of_ble_eq_true rfl⟩ dX9_orderPassing_18) hS (fun q2 hq2 H locs hP hS => ?_)
    have hf := bnd_go hq2 hf
    refine lv_pop hx hb dX9_orderPassing_21 rfl ?_
    refine lv_iload_n hx hb dX9_orderPassing_22 rfl (lv_at hl 0 rfl) ?_
    exact g_iret X hr hlk hP hS hf dX9_orderPassing_23
def f_X9_carryOut (σ : St) (x1 : Int32) : St × Int32 := (if (σ.1 193 x1.toNatClampNeg) = (0 : Int32) then (bnd (f_X9_orderWriting σ (f_X7_numberOf σ x1 (0 : Int32)) (f_X7_numberOf σ x1 (1 : Int32)) (f_X7_numberOf σ x1 (2 : Int32)) (f_X7_numberOf σ x1 (3 : Int32))) (fun q7 => (q7.1, q7.2))) else (if (σ.1 193 x1.toNatClampNeg) = (1 : Int32) then (bnd (f_X9_orderStamping σ (f_X7_numberOf σ x1 (0 : Int32)) (f_X7_numberOf σ x1 (1 : Int32))) (fun q9 => (q9.1, q9.2))) else (if (σ.1 193 x1.toNatClampNeg) = (2 : Int32) then (bnd (f_X9_orderShelving σ (f_X7_numberOf σ x1 (0 : Int32))) (fun q11 => (q11.1, q11.2))) else (if (σ.1 193 x1.toNatClampNeg) = (3 : Int32) then (bnd (f_X9_orderTaking σ (f_X7_numberOf σ x1 (0 : Int32))) (fun q13 => (q13.1, q13.2))) else (if (σ.1 193 x1.toNatClampNeg) = (4 : Int32) then (bnd (f_X9_orderFeeding σ (f_X7_numberOf σ x1 (0 : Int32))) (fun q15 => (q15.1, q15.2))) else (if (σ.1 193 x1.toNatClampNeg) = (5 : Int32) then (bnd (f_X9_orderPassing σ (f_X7_numberOf σ x1 (0 : Int32))) (fun q17 => (q17.1, q17.2))) else (σ, (-2 : Int32))))))))
def ok_X9_carryOut (σ : St) (x1 : Int32) : Prop := (ok_X7_numberOf σ x1 (0 : Int32) ∧ (ok_X7_numberOf σ x1 (1 : Int32) ∧ (vp_in x1 21 ∧ (((σ.1 193 x1.toNatClampNeg) = (0 : Int32) → (ok_X7_numberOf σ x1 (2 : Int32) ∧ (ok_X7_numberOf σ x1 (3 : Int32) ∧ ok_X9_orderWriting σ (f_X7_numberOf σ x1 (0 : Int32)) (f_X7_numberOf σ x1 (1 : Int32)) (f_X7_numberOf σ x1 (2 : Int32)) (f_X7_numberOf σ x1 (3 : Int32))))) ∧ (¬ (σ.1 193 x1.toNatClampNeg) = (0 : Int32) → (((σ.1 193 x1.toNatClampNeg) = (1 : Int32) → ok_X9_orderStamping σ (f_X7_numberOf σ x1 (0 : Int32)) (f_X7_numberOf σ x1 (1 : Int32))) ∧ (¬ (σ.1 193 x1.toNatClampNeg) = (1 : Int32) → (((σ.1 193 x1.toNatClampNeg) = (2 : Int32) → ok_X9_orderShelving σ (f_X7_numberOf σ x1 (0 : Int32))) ∧ (¬ (σ.1 193 x1.toNatClampNeg) = (2 : Int32) → (((σ.1 193 x1.toNatClampNeg) = (3 : Int32) → ok_X9_orderTaking σ (f_X7_numberOf σ x1 (0 : Int32))) ∧ (¬ (σ.1 193 x1.toNatClampNeg) = (3 : Int32) → (((σ.1 193 x1.toNatClampNeg) = (4 : Int32) → ok_X9_orderFeeding σ (f_X7_numberOf σ x1 (0 : Int32))) ∧ (¬ (σ.1 193 x1.toNatClampNeg) = (4 : Int32) → (((σ.1 193 x1.toNatClampNeg) = (5 : Int32) → ok_X9_orderPassing σ (f_X7_numberOf σ x1 (0 : Int32))) ∧ (¬ (σ.1 193 x1.toNatClampNeg) = (5 : Int32) → True)))))))))))))))
abbrev rm_X9_carryOut : Room := { frames := 5, cells := 0, slots := 0, locals := 116 }
set_option maxHeartbeats 4000000 in
set_option maxRecDepth 100000 in
theorem c_X9_carryOut (l : Launch) (G : GE) (hG : Gok G) (σ : St) (x1 : Int32) (hok : ok_X9_carryOut σ x1) : MtI l G yX9_carryOut cX9_carryOut 4 rm_X9_carryOut [.ref (G.2.1 0), .int x1] σ (f_X9_carryOut σ x1) := by
  generalize hf : f_X9_carryOut σ x1 = fv
  rw [f_X9_carryOut] at hf
  rw [ok_X9_carryOut] at hok
  refine g_start hG (plainFor_of_name (by decide)) (Nat.le_of_ble_eq_true rfl) ?_
  intro p e s m args below meth c X hr hlk ls hl H locs hP hS
  have X : Cx G p s m args c cX9_carryOut 4 RX9 := X
  obtain ⟨hx, hb, hml, hown, hts, hK, hbs, hXW, -⟩ := id X
  have hl : lv_has ls 4 [(0, .ref (G.2.1 0)), (1, .int x1)] := hl
  refine lv_aload_n hx hb dX9_carryOut_0 rfl (lv_at hl 0 rfl) ?_
  refine gg_9_5 X hP ab_0 kf_X9_42 dX9_carryOut_1 ?_
  refine lv_iload_n hx hb dX9_carryOut_4 rfl (lv_at hl 1 rfl) ?_
  refine lv_iconst (v := 0) hx hb dX9_carryOut_5 (by decide) ?_
  have hs1 := hok.1
  have hok := hok.2
  refine g_cIp (g_runV (i := 191) (As := [.int x1, .int (0 : Int32)]) (rest := []) X (c_X7_numberOf l G hG σ x1 (0 : Int32) hs1) ca_X7_numberOf km_X9_407 rfl rfl ⟨Nat.le_of_ble_eq_true rfl, Nat.le_of_ble_eq_true rfl⟩ hP hS (ty_lt ab_191) (cell_7 ab_191) rfl rfl rfl hl.1 rfl (Nat.le_of_ble_eq_true rfl) ⟨Nat.le_of_ble_eq_true rfl, Nat.le_of_ble_eq_true rfl⟩ dX9_carryOut_6) hS (fun H locs hP hS => ?_)
  refine lv_istore_n (lv' := [(2, .int (f_X7_numberOf σ x1 (0 : Int32))), (0, .ref (G.2.1 0)), (1, .int x1)]) hx hb dX9_carryOut_9 rfl hl (by decide) rfl (fun ls hl => ?_)
  refine lv_aload_n hx hb dX9_carryOut_10 rfl (lv_at hl 1 rfl) ?_
  refine gg_9_5 X hP ab_0 kf_X9_42 dX9_carryOut_11 ?_
  refine lv_iload_n hx hb dX9_carryOut_14 rfl (lv_at hl 2 rfl) ?_
  refine lv_iconst (v := 1) hx hb dX9_carryOut_15 (by decide) ?_
  have hs2 := hok.1
  have hok := hok.2
  refine g_cIp (g_runV (i := 191) (As := [.int x1, .int (1 : Int32)]) (rest := []) X (c_X7_numberOf l G hG σ x1 (1 : Int32) hs2) ca_X7_numberOf km_X9_407 rfl rfl ⟨Nat.le_of_ble_eq_true rfl, Nat.le_of_ble_eq_true rfl⟩ hP hS (ty_lt ab_191) (cell_7 ab_191) rfl rfl rfl hl.1 rfl (Nat.le_of_ble_eq_true rfl) ⟨Nat.le_of_ble_eq_true rfl, Nat.le_of_ble_eq_true rfl⟩ dX9_carryOut_16) hS (fun H locs hP hS => ?_)
  refine lv_istore_n (lv' := [(3, .int (f_X7_numberOf σ x1 (1 : Int32))), (2, .int (f_X7_numberOf σ x1 (0 : Int32))), (0, .ref (G.2.1 0)), (1, .int x1)]) hx hb dX9_carryOut_19 rfl hl (by decide) rfl (fun ls hl => ?_)
  refine lv_aload_n hx hb dX9_carryOut_20 rfl (lv_at hl 2 rfl) ?_
  refine gg_9_5 X hP ab_0 kf_X9_42 dX9_carryOut_21 ?_
  refine gg_7_1 (j := 193) rfl X hP ab_191 kf_X9_408 dX9_carryOut_24 ?_
  refine lv_iload_n hx hb dX9_carryOut_27 rfl (lv_at hl 3 rfl) ?_
  have hs3 := hok.1
  have hok := hok.2
  refine g_iald X hP ab_193 (by rw [al_193]; exact hs3) dX9_carryOut_28 ?_
  by_cases hd0 : (σ.1 193 x1.toNatClampNeg) = (0 : Int32)
  · have hf := ite_t hd0 hf
    have hok := hok.1 hd0
    refine lv_tableIn (off := 39) (tgt := 68) hx hb dX9_carryOut_29 (by rw [hd0]; decide) (by rw [hd0]; decide) (by rw [hd0]; rfl) (by decide) ?_
    refine lv_aload_n hx hb dX9_carryOut_68 rfl (lv_at hl 2 rfl) ?_
    refine lv_iload_n hx hb dX9_carryOut_69 rfl (lv_at hl 1 rfl) ?_
    refine lv_iload_n hx hb dX9_carryOut_70 rfl (lv_at hl 0 rfl) ?_
    refine lv_aload_n hx hb dX9_carryOut_71 rfl (lv_at hl 2 rfl) ?_
    refine gg_9_5 X hP ab_0 kf_X9_42 dX9_carryOut_72 ?_
    refine lv_iload_n hx hb dX9_carryOut_75 rfl (lv_at hl 3 rfl) ?_
    refine lv_iconst (v := 2) hx hb dX9_carryOut_76 (by decide) ?_
    have hs4 := hok.1
    have hok := hok.2
    refine g_cIp (g_runV (i := 191) (As := [.int x1, .int (2 : Int32)]) (rest := [.int (f_X7_numberOf σ x1 (1 : Int32)), .int (f_X7_numberOf σ x1 (0 : Int32)), .ref (G.2.1 0)]) X (c_X7_numberOf l G hG σ x1 (2 : Int32) hs4) ca_X7_numberOf km_X9_407 rfl rfl ⟨Nat.le_of_ble_eq_true rfl, Nat.le_of_ble_eq_true rfl⟩ hP hS (ty_lt ab_191) (cell_7 ab_191) rfl rfl rfl hl.1 rfl (Nat.le_of_ble_eq_true rfl) ⟨Nat.le_of_ble_eq_true rfl, Nat.le_of_ble_eq_true rfl⟩ dX9_carryOut_77) hS (fun H locs hP hS => ?_)
    refine lv_aload_n hx hb dX9_carryOut_80 rfl (lv_at hl 2 rfl) ?_
    refine gg_9_5 X hP ab_0 kf_X9_42 dX9_carryOut_81 ?_
    refine lv_iload_n hx hb dX9_carryOut_84 rfl (lv_at hl 3 rfl) ?_
    refine lv_iconst (v := 3) hx hb dX9_carryOut_85 (by decide) ?_
    have hs5 := hok.1
    have hok := hok.2
    refine g_cIp (g_runV (i := 191) (As := [.int x1, .int (3 : Int32)]) (rest := [.int (f_X7_numberOf σ x1 (2 : Int32)), .int (f_X7_numberOf σ x1 (1 : Int32)), .int (f_X7_numberOf σ x1 (0 : Int32)), .ref (G.2.1 0)]) X (c_X7_numberOf l G hG σ x1 (3 : Int32) hs5) ca_X7_numberOf km_X9_407 rfl rfl ⟨Nat.le_of_ble_eq_true rfl, Nat.le_of_ble_eq_true rfl⟩ hP hS (ty_lt ab_191) (cell_7 ab_191) rfl rfl rfl hl.1 rfl (Nat.le_of_ble_eq_true rfl) ⟨Nat.le_of_ble_eq_true rfl, Nat.le_of_ble_eq_true rfl⟩ dX9_carryOut_86) hS (fun H locs hP hS => ?_)
    have hs6 := hok
    refine g_cI (g_runV (i := 0) (As := [.int (f_X7_numberOf σ x1 (0 : Int32)), .int (f_X7_numberOf σ x1 (1 : Int32)), .int (f_X7_numberOf σ x1 (2 : Int32)), .int (f_X7_numberOf σ x1 (3 : Int32))]) (rest := []) X (c_X9_orderWriting l G hG σ (f_X7_numberOf σ x1 (0 : Int32)) (f_X7_numberOf σ x1 (1 : Int32)) (f_X7_numberOf σ x1 (2 : Int32)) (f_X7_numberOf σ x1 (3 : Int32)) hs6) ca_X9_orderWriting km_X9_409 rfl rfl ⟨Nat.le_of_ble_eq_true rfl, Nat.le_of_ble_eq_true rfl⟩ hP hS (ty_lt ab_0) (cell_9 ab_0) rfl rfl rfl hl.1 rfl (Nat.le_of_ble_eq_true rfl) ⟨Nat.le_of_ble_eq_true rfl, Nat.le_of_ble_eq_true rfl⟩ dX9_carryOut_89) hS (fun q7 hq7 H locs hP hS => ?_)
    have hf := bnd_go hq7 hf
    exact g_iret X hr hlk hP hS hf dX9_carryOut_92
  · have hf := ite_f hd0 hf
    have hok := hok.2 hd0
    by_cases hd1 : (σ.1 193 x1.toNatClampNeg) = (1 : Int32)
    · have hf := ite_t hd1 hf
      have hok := hok.1 hd1
      refine lv_tableIn (off := 64) (tgt := 93) hx hb dX9_carryOut_29 (by rw [hd1]; decide) (by rw [hd1]; decide) (by rw [hd1]; rfl) (by decide) ?_
      refine lv_aload_n hx hb dX9_carryOut_93 rfl (lv_at hl 2 rfl) ?_
      refine lv_iload_n hx hb dX9_carryOut_94 rfl (lv_at hl 1 rfl) ?_
      refine lv_iload_n hx hb dX9_carryOut_95 rfl (lv_at hl 0 rfl) ?_
      have hs8 := hok
      refine g_cI (g_runV (i := 0) (As := [.int (f_X7_numberOf σ x1 (0 : Int32)), .int (f_X7_numberOf σ x1 (1 : Int32))]) (rest := []) X (c_X9_orderStamping l G hG σ (f_X7_numberOf σ x1 (0 : Int32)) (f_X7_numberOf σ x1 (1 : Int32)) hs8) ca_X9_orderStamping km_X9_412 rfl rfl ⟨Nat.le_of_ble_eq_true rfl, Nat.le_of_ble_eq_true rfl⟩ hP hS (ty_lt ab_0) (cell_9 ab_0) rfl rfl rfl hl.1 rfl (Nat.le_of_ble_eq_true rfl) ⟨Nat.le_of_ble_eq_true rfl, Nat.le_of_ble_eq_true rfl⟩ dX9_carryOut_96) hS (fun q9 hq9 H locs hP hS => ?_)
      have hf := bnd_go hq9 hf
      exact g_iret X hr hlk hP hS hf dX9_carryOut_99
    · have hf := ite_f hd1 hf
      have hok := hok.2 hd1
      by_cases hd2 : (σ.1 193 x1.toNatClampNeg) = (2 : Int32)
      · have hf := ite_t hd2 hf
        have hok := hok.1 hd2
        refine lv_tableIn (off := 71) (tgt := 100) hx hb dX9_carryOut_29 (by rw [hd2]; decide) (by rw [hd2]; decide) (by rw [hd2]; rfl) (by decide) ?_
        refine lv_aload_n hx hb dX9_carryOut_100 rfl (lv_at hl 2 rfl) ?_
        refine lv_iload_n hx hb dX9_carryOut_101 rfl (lv_at hl 1 rfl) ?_
        have hs10 := hok
        refine g_cI (g_runV (i := 0) (As := [.int (f_X7_numberOf σ x1 (0 : Int32))]) (rest := []) X (c_X9_orderShelving l G hG σ (f_X7_numberOf σ x1 (0 : Int32)) hs10) ca_X9_orderShelving km_X9_415 rfl rfl ⟨Nat.le_of_ble_eq_true rfl, Nat.le_of_ble_eq_true rfl⟩ hP hS (ty_lt ab_0) (cell_9 ab_0) rfl rfl rfl hl.1 rfl (Nat.le_of_ble_eq_true rfl) ⟨Nat.le_of_ble_eq_true rfl, Nat.le_of_ble_eq_true rfl⟩ dX9_carryOut_102) hS (fun q11 hq11 H locs hP hS => ?_)
        have hf := bnd_go hq11 hf
        exact g_iret X hr hlk hP hS hf dX9_carryOut_105
      · have hf := ite_f hd2 hf
        have hok := hok.2 hd2
        by_cases hd3 : (σ.1 193 x1.toNatClampNeg) = (3 : Int32)
        · have hf := ite_t hd3 hf
          have hok := hok.1 hd3
          refine lv_tableIn (off := 77) (tgt := 106) hx hb dX9_carryOut_29 (by rw [hd3]; decide) (by rw [hd3]; decide) (by rw [hd3]; rfl) (by decide) ?_
          refine lv_aload_n hx hb dX9_carryOut_106 rfl (lv_at hl 2 rfl) ?_
          refine lv_iload_n hx hb dX9_carryOut_107 rfl (lv_at hl 1 rfl) ?_
          have hs12 := hok
          refine g_cI (g_runV (i := 0) (As := [.int (f_X7_numberOf σ x1 (0 : Int32))]) (rest := []) X (c_X9_orderTaking l G hG σ (f_X7_numberOf σ x1 (0 : Int32)) hs12) ca_X9_orderTaking km_X9_418 rfl rfl ⟨Nat.le_of_ble_eq_true rfl, Nat.le_of_ble_eq_true rfl⟩ hP hS (ty_lt ab_0) (cell_9 ab_0) rfl rfl rfl hl.1 rfl (Nat.le_of_ble_eq_true rfl) ⟨Nat.le_of_ble_eq_true rfl, Nat.le_of_ble_eq_true rfl⟩ dX9_carryOut_108) hS (fun q13 hq13 H locs hP hS => ?_)
          have hf := bnd_go hq13 hf
          exact g_iret X hr hlk hP hS hf dX9_carryOut_111
        · have hf := ite_f hd3 hf
          have hok := hok.2 hd3
          by_cases hd4 : (σ.1 193 x1.toNatClampNeg) = (4 : Int32)
          · have hf := ite_t hd4 hf
            have hok := hok.1 hd4
            refine lv_tableIn (off := 83) (tgt := 112) hx hb dX9_carryOut_29 (by rw [hd4]; decide) (by rw [hd4]; decide) (by rw [hd4]; rfl) (by decide) ?_
            refine lv_aload_n hx hb dX9_carryOut_112 rfl (lv_at hl 2 rfl) ?_
            refine lv_iload_n hx hb dX9_carryOut_113 rfl (lv_at hl 1 rfl) ?_
            have hs14 := hok
            refine g_cI (g_runV (i := 0) (As := [.int (f_X7_numberOf σ x1 (0 : Int32))]) (rest := []) X (c_X9_orderFeeding l G hG σ (f_X7_numberOf σ x1 (0 : Int32)) hs14) ca_X9_orderFeeding km_X9_421 rfl rfl ⟨Nat.le_of_ble_eq_true rfl, Nat.le_of_ble_eq_true rfl⟩ hP hS (ty_lt ab_0) (cell_9 ab_0) rfl rfl rfl hl.1 rfl (Nat.le_of_ble_eq_true rfl) ⟨Nat.le_of_ble_eq_true rfl, Nat.le_of_ble_eq_true rfl⟩ dX9_carryOut_114) hS (fun q15 hq15 H locs hP hS => ?_)
            have hf := bnd_go hq15 hf
            exact g_iret X hr hlk hP hS hf dX9_carryOut_117
          · have hf := ite_f hd4 hf
            have hok := hok.2 hd4
            by_cases hd5 : (σ.1 193 x1.toNatClampNeg) = (5 : Int32)
            · have hf := ite_t hd5 hf
              have hok := hok.1 hd5
              refine lv_tableIn (off := 89) (tgt := 118) hx hb dX9_carryOut_29 (by rw [hd5]; decide) (by rw [hd5]; decide) (by rw [hd5]; rfl) (by decide) ?_
              refine lv_aload_n hx hb dX9_carryOut_118 rfl (lv_at hl 2 rfl) ?_
              refine lv_iload_n hx hb dX9_carryOut_119 rfl (lv_at hl 1 rfl) ?_
              have hs16 := hok
              refine g_cI (g_runV (i := 0) (As := [.int (f_X7_numberOf σ x1 (0 : Int32))]) (rest := []) X (c_X9_orderPassing l G hG σ (f_X7_numberOf σ x1 (0 : Int32)) hs16) ca_X9_orderPassing km_X9_424 rfl rfl ⟨Nat.le_of_ble_eq_true rfl, Nat.le_of_ble_eq_true rfl⟩ hP hS (ty_lt ab_0) (cell_9 ab_0) rfl rfl rfl hl.1 rfl (Nat.le_of_ble_eq_true rfl) ⟨Nat.le_of_ble_eq_true rfl, Nat.le_of_ble_eq_true rfl⟩ dX9_carryOut_120) hS (fun q17 hq17 H locs hP hS => ?_)
              have hf := bnd_go hq17 hf
              exact g_iret X hr hlk hP hS hf dX9_carryOut_123
            · have hf := ite_f hd5 hf
              refine lv_tableOut (tgt := 124) hx hb dX9_carryOut_29 (by have z0 : (σ.1 193 x1.toNatClampNeg).toInt ≠ 0 := sw_ne hd0; have z1 : (σ.1 193 x1.toNatClampNeg).toInt ≠ 1 := sw_ne hd1; have z2 : (σ.1 193 x1.toNatClampNeg).toInt ≠ 2 := sw_ne hd2; have z3 : (σ.1 193 x1.toNatClampNeg).toInt ≠ 3 := sw_ne hd3; have z4 : (σ.1 193 x1.toNatClampNeg).toInt ≠ 4 := sw_ne hd4; have z5 : (σ.1 193 x1.toNatClampNeg).toInt ≠ 5 := sw_ne hd5; show (σ.1 193 x1.toNatClampNeg).toInt < 0 ∨ 5 < (σ.1 193 x1.toNatClampNeg).toInt; omega) (by decide) ?_
              refine lv_bipush (v := -2) hx hb dX9_carryOut_124 (by decide) ?_
              exact g_iret X hr hlk hP hS hf dX9_carryOut_126
