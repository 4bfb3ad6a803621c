def f_L_crayon (σ : St) (x1 : Int32) : St × Int64 := bnd (f_X9_crayon σ x1) (fun q => if q.1 = 0 then (q.2.1, (q.2.2).toInt64) else if q.1 = 1 then (q.2.1, (-4000000000000000001 : Int64)) else if q.1 = 3 then (q.2.1, (-4000000000000000002 : Int64)) else (q.2.1, (0 : Int64)))
def ok_L_crayon (σ : St) (x1 : Int32) : Prop := (ok_X9_crayon σ x1) ∧ ((f_X9_crayon σ x1).1 = 0 ∨ (f_X9_crayon σ x1).1 = 1 ∨ (f_X9_crayon σ x1).1 = 3)
abbrev rm_L_crayon : Room := { frames := 8, cells := 1, slots := 6, locals := 144 }
set_option maxHeartbeats 4000000 in
set_option maxRecDepth 100000 in
theorem c_L_crayon (l : Launch) (hfl : l.stackTraces = false) (G : GE) (hG : Gok G) (σ : St) (x1 : Int32) (hok : ok_L_crayon σ x1) : Met l yL_crayon (wsW yL_crayon cL_crayon 3 [(0, 6, 7, 13), (0, 6, 12, 19)]) rm_L_crayon (va_Pc [.ref (G.2.1 0), .int x1] (Wd G σ)) (va_Ql (fun r u => (u, r) = f_L_crayon σ x1) (PB G) (GA G)) 1 6 (GA G) := by
  generalize hf : f_L_crayon σ x1 = fv
  rw [f_L_crayon] at hf
  rw [ok_L_crayon] at hok
  obtain ⟨hs1, hk1⟩ := hok
  refine gl_start hG (by decide) (Nat.le_of_ble_eq_true rfl) ?_
  intro p e s m args below meth c X hr hlk hex ls hl H locs hP hS
  have X : Cx G p s m args c cL_crayon 3 RL := X
  obtain ⟨hx, hb, hml, hown, hts, hK, hbs, hXW, -⟩ := id X
  have hl : lv_has ls 3 [(0, .ref (G.2.1 0)), (1, .int x1)] := hl
  refine lv_aload_n hx hb dL_crayon_0 rfl (lv_at hl 0 rfl) ?_
  refine lv_iload_n hx hb dL_crayon_1 rfl (lv_at hl 1 rfl) ?_
  refine gl_cI (gx_runV (i := 0) (As := [.int x1]) (rest := []) X (c_X9_crayon l hfl G hG σ x1 hs1) ca_X9_crayon km_L_7 rfl rfl ⟨Nat.le_of_ble_eq_true rfl, Nat.le_of_ble_eq_true rfl⟩ hP hS (ty_lt ab_0) (cell_9 ab_0) rfl rfl rfl hl.1 rfl (Nat.le_of_ble_eq_true rfl) ⟨Nat.le_of_ble_eq_true rfl, Nat.le_of_ble_eq_true rfl⟩ dL_crayon_2) hS (fun q hq hc H locs hP hS ce q9 hce hcv hcl => ?_) (fun q hq hc H locs hP hS => ?_)
  · have hf := bnd_go hq hf
    have hf := ite_f hc hf
    rw [← hq] at hk1
    rcases hk1 with h1 | h1 | h1
    · exact absurd h1 hc
    · have hf := ite_t h1 hf
      have hcl : s.vm.findClass "java/lang/IllegalArgumentException" = some ce.cls := by rw [h1] at hcl; exact hcl
      refine vx_catch (E := "java/lang/IllegalArgumentException") (name := "java/lang/IllegalArgumentException") hown [] ⟨0, 6, 7, 13⟩ [⟨0, 6, 12, 19⟩] (hex.trans rfl) (fun z hz => absurd hz List.not_mem_nil) (by decide) (by decide) (hts _ kt_L_13) (va_Nw.use rfl (hXW.2.2.2.2.2.2.2.1 "java/lang/IllegalArgumentException" (by decide))) hce hcv hcl ?_
      refine lv_astore_n (lv' := [(2, .ref q9), (0, .ref (G.2.1 0)), (1, .int x1)]) hx hb dL_crayon_7 rfl hl (by decide) rfl (fun ls hl => ?_)
      refine lv_ldc2 hx hb hown (hts _ kc_L_17) dL_crayon_8 ?_
      exact gl_lret X hr hlk hP hS hf (Nat.le_of_ble_eq_true rfl) (Nat.le_of_ble_eq_true rfl) dL_crayon_11
    · have hf := ite_f (by rw [h1]; decide) hf
      have hf := ite_t h1 hf
      have hcl : s.vm.findClass "java/lang/UnsupportedOperationException" = some ce.cls := by rw [h1] at hcl; exact hcl
      refine vx_catch (E := "java/lang/UnsupportedOperationException") (name := "java/lang/UnsupportedOperationException") hown [⟨0, 6, 7, 13⟩] ⟨0, 6, 12, 19⟩ [] (hex.trans rfl) (List.forall_mem_cons.mpr ⟨Or.inr ⟨by decide, "java/lang/IllegalArgumentException", hts _ kt_L_13, hXW.2.2.2.2.2.2.2.2.2.1 _ (List.mem_of_getElem? (i := 2) rfl)⟩, fun z hz => absurd hz List.not_mem_nil⟩) (by decide) (by decide) (hts _ kt_L_19) (va_Nw.use rfl (hXW.2.2.2.2.2.2.2.1 "java/lang/UnsupportedOperationException" (by decide))) hce hcv hcl ?_
      refine lv_astore_n (lv' := [(2, .ref q9), (0, .ref (G.2.1 0)), (1, .int x1)]) hx hb dL_crayon_12 rfl hl (by decide) rfl (fun ls hl => ?_)
      refine lv_ldc2 hx hb hown (hts _ kc_L_21) dL_crayon_13 ?_
      exact gl_lret X hr hlk hP hS hf (Nat.le_of_ble_eq_true rfl) (Nat.le_of_ble_eq_true rfl) dL_crayon_16
  · have hf := bnd_go hq hf
    have hf := ite_t hc hf
    refine lv_i2l (v := (q.2.2).toInt64) hx hb dL_crayon_5 rfl ?_
    exact gl_lret X hr hlk hP hS hf (Nat.le_of_ble_eq_true rfl) (Nat.le_of_ble_eq_true rfl) dL_crayon_6
def f_L_crayonOf (σ : St) (x1 : Int32) : St × Int64 := bnd (f_X9_crayonOf σ x1) (fun q => if q.1 = 0 then (q.2.1, (f_Jxf58ca_floatToIntBits_5c35a q.2.2).toInt64) else if q.1 = 2 then (q.2.1, (-4000000000000000001 : Int64)) else (q.2.1, (0 : Int64)))
def ok_L_crayonOf (σ : St) (x1 : Int32) : Prop := (ok_X9_crayonOf σ x1) ∧ ((f_X9_crayonOf σ x1).1 = 0 ∨ (f_X9_crayonOf σ x1).1 = 2)
abbrev rm_L_crayonOf : Room := { frames := 8, cells := 1, slots := 6, locals := 141 }
set_option maxHeartbeats 4000000 in
set_option maxRecDepth 100000 in
theorem c_L_crayonOf (l : Launch) (hfl : l.stackTraces = false) (G : GE) (hG : Gok G) (σ : St) (x1 : Int32) (hok : ok_L_crayonOf σ x1) : Met l yL_crayonOf (wsW yL_crayonOf cL_crayonOf 3 [(0, 9, 10, 33)]) rm_L_crayonOf (va_Pc [.ref (G.2.1 0), .int x1] (Wd G σ)) (va_Ql (fun r u => (u, r) = f_L_crayonOf σ x1) (PB G) (GA G)) 1 6 (GA G) := by
  generalize hf : f_L_crayonOf σ x1 = fv
  rw [f_L_crayonOf] at hf
  rw [ok_L_crayonOf] at hok
  obtain ⟨hs1, hk1⟩ := hok
  refine gl_start hG (by decide) (Nat.le_of_ble_eq_true rfl) ?_
  intro p e s m args below meth c X hr hlk hex ls hl H locs hP hS
  have X : Cx G p s m args c cL_crayonOf 3 RL := X
  obtain ⟨hx, hb, hml, hown, hts, hK, hbs, hXW, -⟩ := id X
  have hl : lv_has ls 3 [(0, .ref (G.2.1 0)), (1, .int x1)] := hl
  refine lv_aload_n hx hb dL_crayonOf_0 rfl (lv_at hl 0 rfl) ?_
  refine lv_iload_n hx hb dL_crayonOf_1 rfl (lv_at hl 1 rfl) ?_
  refine gl_cF (gx_runV (i := 0) (As := [.int x1]) (rest := []) X (c_X9_crayonOf l hfl G hG σ x1 hs1) ca_X9_crayonOf km_L_23 rfl rfl ⟨Nat.le_of_ble_eq_true rfl, Nat.le_of_ble_eq_true rfl⟩ hP hS (ty_lt ab_0) (cell_9 ab_0) rfl rfl rfl hl.1 rfl (Nat.le_of_ble_eq_true rfl) ⟨Nat.le_of_ble_eq_true rfl, Nat.le_of_ble_eq_true rfl⟩ dL_crayonOf_2) hS (fun q hq hc H locs hP hS ce q9 hce hcv hcl => ?_) (fun q hq hc H locs hP hS => ?_)
  · have hf := bnd_go hq hf
    have hf := ite_f hc hf
    rw [← hq] at hk1
    rcases hk1 with h1 | h1
    · exact absurd h1 hc
    · have hf := ite_t h1 hf
      have hcl : s.vm.findClass "java/lang/IndexOutOfBoundsException" = some ce.cls := by rw [h1] at hcl; exact hcl
      refine vx_catch (E := "java/lang/IndexOutOfBoundsException") (name := "java/lang/IndexOutOfBoundsException") hown [] ⟨0, 9, 10, 33⟩ [] (hex.trans rfl) (fun z hz => absurd hz List.not_mem_nil) (by decide) (by decide) (hts _ kt_L_33) (va_Nw.use rfl (hXW.2.2.2.2.2.2.2.1 "java/lang/IndexOutOfBoundsException" (by decide))) hce hcv hcl ?_
      refine lv_astore_n (lv' := [(2, .ref q9), (0, .ref (G.2.1 0)), (1, .int x1)]) hx hb dL_crayonOf_10 rfl hl (by decide) rfl (fun ls hl => ?_)
      refine lv_ldc2 hx hb hown (hts _ kc_L_17) dL_crayonOf_11 ?_
      exact gl_lret X hr hlk hP hS hf (Nat.le_of_ble_eq_true rfl) (Nat.le_of_ble_eq_true rfl) dL_crayonOf_14
  · have hf := bnd_go hq hf
    have hf := ite_t hc hf
    refine g_cIp (g_runS (As := [.float q.2.2]) (rest := []) X (c_Jxf58ca_floatToIntBits_5c35a l G hG q.2.1 q.2.2) ca_Jxf58ca_floatToIntBits_5c35a km_L_27 rfl rfl ⟨Nat.le_of_ble_eq_true rfl, Nat.le_of_ble_eq_true rfl⟩ hP hS rfl hl.1 rfl (Nat.le_of_ble_eq_true rfl) ⟨Nat.le_of_ble_eq_true rfl, Nat.le_of_ble_eq_true rfl⟩ dL_crayonOf_5) hS (fun H locs hP hS => ?_)
    refine lv_i2l (v := (f_Jxf58ca_floatToIntBits_5c35a q.2.2).toInt64) hx hb dL_crayonOf_8 rfl ?_
    exact gl_lret X hr hlk hP hS hf (Nat.le_of_ble_eq_true rfl) (Nat.le_of_ble_eq_true rfl) dL_crayonOf_9
def f_L_letter (σ : St) (x1 : Int32) (x2 : Int32) (x3 : Int32) (x4 : Int32) : St × Int64 := bnd (f_X9_letter σ x1 x2 x3 x4) (fun q => if q.1 = 0 then (q.2.1, (q.2.2).toInt64) else if q.1 = 2 then (q.2.1, (-4000000000000000001 : Int64)) else if q.1 = 1 then (q.2.1, (-4000000000000000002 : Int64)) else if q.1 = 3 then (q.2.1, (-4000000000000000003 : Int64)) else (q.2.1, (0 : Int64)))
def ok_L_letter (σ : St) (x1 : Int32) (x2 : Int32) (x3 : Int32) (x4 : Int32) : Prop := (ok_X9_letter σ x1 x2 x3 x4) ∧ ((f_X9_letter σ x1 x2 x3 x4).1 = 0 ∨ (f_X9_letter σ x1 x2 x3 x4).1 = 2 ∨ (f_X9_letter σ x1 x2 x3 x4).1 = 1 ∨ (f_X9_letter σ x1 x2 x3 x4).1 = 3)
abbrev rm_L_letter : Room := { frames := 8, cells := 1, slots := 6, locals := 147 }
set_option maxHeartbeats 4000000 in
set_option maxRecDepth 100000 in
theorem c_L_letter (l : Launch) (hfl : l.stackTraces = false) (G : GE) (hG : Gok G) (σ : St) (x1 : Int32) (x2 : Int32) (x3 : Int32) (x4 : Int32) (hok : ok_L_letter σ x1 x2 x3 x4) : Met l yL_letter (wsW yL_letter cL_letter 6 [(0, 10, 11, 33), (0, 10, 17, 13), (0, 10, 23, 19)]) rm_L_letter (va_Pc [.ref (G.2.1 0), .int x1, .int x2, .int x3, .int x4] (Wd G σ)) (va_Ql (fun r u => (u, r) = f_L_letter σ x1 x2 x3 x4) (PB G) (GA G)) 1 6 (GA G) := by
  generalize hf : f_L_letter σ x1 x2 x3 x4 = fv
  rw [f_L_letter] at hf
  rw [ok_L_letter] at hok
  obtain ⟨hs1, hk1⟩ := hok
  refine gl_start hG (by decide) (Nat.le_of_ble_eq_true rfl) ?_
  intro p e s m args below meth c X hr hlk hex ls hl H locs hP hS
  have X : Cx G p s m args c cL_letter 6 RL := X
  obtain ⟨hx, hb, hml, hown, hts, hK, hbs, hXW, -⟩ := id X
  have hl : lv_has ls 6 [(0, .ref (G.2.1 0)), (1, .int x1), (2, .int x2), (3, .int x3), (4, .int x4)] := hl
  refine lv_aload_n hx hb dL_letter_0 rfl (lv_at hl 0 rfl) ?_
  refine lv_iload_n hx hb dL_letter_1 rfl (lv_at hl 1 rfl) ?_
  refine lv_iload_n hx hb dL_letter_2 rfl (lv_at hl 2 rfl) ?_
  refine lv_iload_n hx hb dL_letter_3 rfl (lv_at hl 3 rfl) ?_
  refine lv_iload hx hb dL_letter_4 (lv_at hl 4 rfl) ?_
  refine gl_cI (gx_runV (i := 0) (As := [.int x1, .int x2, .int x3, .int x4]) (rest := []) X (c_X9_letter l hfl G hG σ x1 x2 x3 x4 hs1) ca_X9_letter km_L_35 rfl rfl ⟨Nat.le_of_ble_eq_true rfl, Nat.le_of_ble_eq_true rfl⟩ hP hS (ty_lt ab_0) (cell_9 ab_0) rfl rfl rfl hl.1 rfl (Nat.le_of_ble_eq_true rfl) ⟨Nat.le_of_ble_eq_true rfl, Nat.le_of_ble_eq_true rfl⟩ dL_letter_6) hS (fun q hq hc H locs hP hS ce q9 hce hcv hcl => ?_) (fun q hq hc H locs hP hS => ?_)
  · have hf := bnd_go hq hf
    have hf := ite_f hc hf
    rw [← hq] at hk1
    rcases hk1 with h1 | h1 | h1 | h1
    · exact absurd h1 hc
    · have hf := ite_t h1 hf
      have hcl : s.vm.findClass "java/lang/IndexOutOfBoundsException" = some ce.cls := by rw [h1] at hcl; exact hcl
      refine vx_catch (E := "java/lang/IndexOutOfBoundsException") (name := "java/lang/IndexOutOfBoundsException") hown [] ⟨0, 10, 11, 33⟩ [⟨0, 10, 17, 13⟩, ⟨0, 10, 23, 19⟩] (hex.trans rfl) (fun z hz => absurd hz List.not_mem_nil) (by decide) (by decide) (hts _ kt_L_33) (va_Nw.use rfl (hXW.2.2.2.2.2.2.2.1 "java/lang/IndexOutOfBoundsException" (by decide))) hce hcv hcl ?_
      refine lv_astore (lv' := [(5, .ref q9), (0, .ref (G.2.1 0)), (1, .int x1), (2, .int x2), (3, .int x3), (4, .int x4)]) hx hb dL_letter_11 hl (by decide) rfl (fun ls hl => ?_)
      refine lv_ldc2 hx hb hown (hts _ kc_L_17) dL_letter_13 ?_
      exact gl_lret X hr hlk hP hS hf (Nat.le_of_ble_eq_true rfl) (Nat.le_of_ble_eq_true rfl) dL_letter_16
    · have hf := ite_f (by rw [h1]; decide) hf
      have hf := ite_t h1 hf
      have hcl : s.vm.findClass "java/lang/IllegalArgumentException" = some ce.cls := by rw [h1] at hcl; exact hcl
      refine vx_catch (E := "java/lang/IllegalArgumentException") (name := "java/lang/IllegalArgumentException") hown [⟨0, 10, 11, 33⟩] ⟨0, 10, 17, 13⟩ [⟨0, 10, 23, 19⟩] (hex.trans rfl) (List.forall_mem_cons.mpr ⟨Or.inr ⟨by decide, "java/lang/IndexOutOfBoundsException", hts _ kt_L_33, hXW.2.2.2.2.2.2.2.2.2.1 _ (List.mem_of_getElem? (i := 0) rfl)⟩, fun z hz => absurd hz List.not_mem_nil⟩) (by decide) (by decide) (hts _ kt_L_13) (va_Nw.use rfl (hXW.2.2.2.2.2.2.2.1 "java/lang/IllegalArgumentException" (by decide))) hce hcv hcl ?_
      refine lv_astore (lv' := [(5, .ref q9), (0, .ref (G.2.1 0)), (1, .int x1), (2, .int x2), (3, .int x3), (4, .int x4)]) hx hb dL_letter_17 hl (by decide) rfl (fun ls hl => ?_)
      refine lv_ldc2 hx hb hown (hts _ kc_L_21) dL_letter_19 ?_
      exact gl_lret X hr hlk hP hS hf (Nat.le_of_ble_eq_true rfl) (Nat.le_of_ble_eq_true rfl) dL_letter_22
    · have hf := ite_f (by rw [h1]; decide) hf
      have hf := ite_f (by rw [h1]; decide) hf
      have hf := ite_t h1 hf
      have hcl : s.vm.findClass "java/lang/UnsupportedOperationException" = some ce.cls := by rw [h1] at hcl; exact hcl
      refine vx_catch (E := "java/lang/UnsupportedOperationException") (name := "java/lang/UnsupportedOperationException") hown [⟨0, 10, 11, 33⟩, ⟨0, 10, 17, 13⟩] ⟨0, 10, 23, 19⟩ [] (hex.trans rfl) (List.forall_mem_cons.mpr ⟨Or.inr ⟨by decide, "java/lang/IndexOutOfBoundsException", hts _ kt_L_33, hXW.2.2.2.2.2.2.2.2.2.1 _ (List.mem_of_getElem? (i := 1) rfl)⟩, List.forall_mem_cons.mpr ⟨Or.inr ⟨by decide, "java/lang/IllegalArgumentException", hts _ kt_L_13, hXW.2.2.2.2.2.2.2.2.2.1 _ (List.mem_of_getElem? (i := 2) rfl)⟩, fun z hz => absurd hz List.not_mem_nil⟩⟩) (by decide) (by decide) (hts _ kt_L_19) (va_Nw.use rfl (hXW.2.2.2.2.2.2.2.1 "java/lang/UnsupportedOperationException" (by decide))) hce hcv hcl ?_
      refine lv_astore (lv' := [(5, .ref q9), (0, .ref (G.2.1 0)), (1, .int x1), (2, .int x2), (3, .int x3), (4, .int x4)]) hx hb dL_letter_23 hl (by decide) rfl (fun ls hl => ?_)
      refine lv_ldc2 hx hb hown (hts _ kc_L_39) dL_letter_25 ?_
      exact gl_lret X hr hlk hP hS hf (Nat.le_of_ble_eq_true rfl) (Nat.le_of_ble_eq_true rfl) dL_letter_28
  · have hf := bnd_go hq hf
    have hf := ite_t hc hf
    refine lv_i2l (v := (q.2.2).toInt64) hx hb dL_letter_9 rfl ?_
    exact gl_lret X hr hlk hP hS hf (Nat.le_of_ble_eq_true rfl) (Nat.le_of_ble_eq_true rfl) dL_letter_10
def f_L_parcel (σ : St) (x1 : Int32) (x2 : Int32) (x3 : Int32) (x4 : Int32) (x5 : Int32) : St × Int64 := bnd (f_X9_parcel σ x1 x2 x3 x4 x5) (fun q => if q.1 = 0 then (q.2.1, (q.2.2).toInt64) else if q.1 = 2 then (q.2.1, (-4000000000000000001 : Int64)) else if q.1 = 1 then (q.2.1, (-4000000000000000002 : Int64)) else if q.1 = 3 then (q.2.1, (-4000000000000000003 : Int64)) else (q.2.1, (0 : Int64)))
def ok_L_parcel (σ : St) (x1 : Int32) (x2 : Int32) (x3 : Int32) (x4 : Int32) (x5 : Int32) : Prop := (ok_X9_parcel σ x1 x2 x3 x4 x5) ∧ ((f_X9_parcel σ x1 x2 x3 x4 x5).1 = 0 ∨ (f_X9_parcel σ x1 x2 x3 x4 x5).1 = 2 ∨ (f_X9_parcel σ x1 x2 x3 x4 x5).1 = 1 ∨ (f_X9_parcel σ x1 x2 x3 x4 x5).1 = 3)
abbrev rm_L_parcel : Room := { frames := 8, cells := 1, slots := 6, locals := 148 }
set_option maxHeartbeats 4000000 in
set_option maxRecDepth 100000 in
theorem c_L_parcel (l : Launch) (hfl : l.stackTraces = false) (G : GE) (hG : Gok G) (σ : St) (x1 : Int32) (x2 : Int32) (x3 : Int32) (x4 : Int32) (x5 : Int32) (hok : ok_L_parcel σ x1 x2 x3 x4 x5) : Met l yL_parcel (wsW yL_parcel cL_parcel 7 [(0, 12, 13, 33), (0, 12, 19, 13), (0, 12, 25, 19)]) rm_L_parcel (va_Pc [.ref (G.2.1 0), .int x1, .int x2, .int x3, .int x4, .int x5] (Wd G σ)) (va_Ql (fun r u => (u, r) = f_L_parcel σ x1 x2 x3 x4 x5) (PB G) (GA G)) 1 6 (GA G) := by
  generalize hf : f_L_parcel σ x1 x2 x3 x4 x5 = fv
  rw [f_L_parcel] at hf
  rw [ok_L_parcel] at hok
  obtain ⟨hs1, hk1⟩ := hok
  refine gl_start hG (by decide) (Nat.le_of_ble_eq_true rfl) ?_
  intro p e s m args below meth c X hr hlk hex ls hl H locs hP hS
  have X : Cx G p s m args c cL_parcel 7 RL := X
  obtain ⟨hx, hb, hml, hown, hts, hK, hbs, hXW, -⟩ := id X
  have hl : lv_has ls 7 [(0, .ref (G.2.1 0)), (1, .int x1), (2, .int x2), (3, .int x3), (4, .int x4), (5, .int x5)] := hl
  refine lv_aload_n hx hb dL_parcel_0 rfl (lv_at hl 0 rfl) ?_
  refine lv_iload_n hx hb dL_parcel_1 rfl (lv_at hl 1 rfl) ?_
  refine lv_iload_n hx hb dL_parcel_2 rfl (lv_at hl 2 rfl) ?_
  refine lv_iload_n hx hb dL_parcel_3 rfl (lv_at hl 3 rfl) ?_
  refine lv_iload hx hb dL_parcel_4 (lv_at hl 4 rfl) ?_
  refine lv_iload hx hb dL_parcel_6 (lv_at hl 5 rfl) ?_
  refine gl_cI (gx_runV (i := 0) (As := [.int x1, .int x2, .int x3, .int x4, .int x5]) (rest := []) X (c_X9_parcel l hfl G hG σ x1 x2 x3 x4 x5 hs1) ca_X9_parcel km_L_41 rfl rfl ⟨Nat.le_of_ble_eq_true rfl, Nat.le_of_ble_eq_true rfl⟩ hP hS (ty_lt ab_0) (cell_9 ab_0) rfl rfl rfl hl.1 rfl (Nat.le_of_ble_eq_true rfl) ⟨Nat.le_of_ble_eq_true rfl, Nat.le_of_ble_eq_true rfl⟩ dL_parcel_8) hS (fun q hq hc H locs hP hS ce q9 hce hcv hcl => ?_) (fun q hq hc H locs hP hS => ?_)
  · have hf := bnd_go hq hf
    have hf := ite_f hc hf
    rw [← hq] at hk1
    rcases hk1 with h1 | h1 | h1 | h1
    · exact absurd h1 hc
    · have hf := ite_t h1 hf
      have hcl : s.vm.findClass "java/lang/IndexOutOfBoundsException" = some ce.cls := by rw [h1] at hcl; exact hcl
      refine vx_catch (E := "java/lang/IndexOutOfBoundsException") (name := "java/lang/IndexOutOfBoundsException") hown [] ⟨0, 12, 13, 33⟩ [⟨0, 12, 19, 13⟩, ⟨0, 12, 25, 19⟩] (hex.trans rfl) (fun z hz => absurd hz List.not_mem_nil) (by decide) (by decide) (hts _ kt_L_33) (va_Nw.use rfl (hXW.2.2.2.2.2.2.2.1 "java/lang/IndexOutOfBoundsException" (by decide))) hce hcv hcl ?_
      refine lv_astore (lv' := [(6, .ref q9), (0, .ref (G.2.1 0)), (1, .int x1), (2, .int x2), (3, .int x3), (4, .int x4), (5, .int x5)]) hx hb dL_parcel_13 hl (by decide) rfl (fun ls hl => ?_)
      refine lv_ldc2 hx hb hown (hts _ kc_L_17) dL_parcel_15 ?_
      exact gl_lret X hr hlk hP hS hf (Nat.le_of_ble_eq_true rfl) (Nat.le_of_ble_eq_true rfl) dL_parcel_18
    · have hf := ite_f (by rw [h1]; decide) hf
      have hf := ite_t h1 hf
      have hcl : s.vm.findClass "java/lang/IllegalArgumentException" = some ce.cls := by rw [h1] at hcl; exact hcl
      refine vx_catch (E := "java/lang/IllegalArgumentException") (name := "java/lang/IllegalArgumentException") hown [⟨0, 12, 13, 33⟩] ⟨0, 12, 19, 13⟩ [⟨0, 12, 25, 19⟩] (hex.trans rfl) (List.forall_mem_cons.mpr ⟨Or.inr ⟨by decide, "java/lang/IndexOutOfBoundsException", hts _ kt_L_33, hXW.2.2.2.2.2.2.2.2.2.1 _ (List.mem_of_getElem? (i := 0) rfl)⟩, fun z hz => absurd hz List.not_mem_nil⟩) (by decide) (by decide) (hts _ kt_L_13) (va_Nw.use rfl (hXW.2.2.2.2.2.2.2.1 "java/lang/IllegalArgumentException" (by decide))) hce hcv hcl ?_
      refine lv_astore (lv' := [(6, .ref q9), (0, .ref (G.2.1 0)), (1, .int x1), (2, .int x2), (3, .int x3), (4, .int x4), (5, .int x5)]) hx hb dL_parcel_19 hl (by decide) rfl (fun ls hl => ?_)
      refine lv_ldc2 hx hb hown (hts _ kc_L_21) dL_parcel_21 ?_
      exact gl_lret X hr hlk hP hS hf (Nat.le_of_ble_eq_true rfl) (Nat.le_of_ble_eq_true rfl) dL_parcel_24
    · have hf := ite_f (by rw [h1]; decide) hf
      have hf := ite_f (by rw [h1]; decide) hf
      have hf := ite_t h1 hf
      have hcl : s.vm.findClass "java/lang/UnsupportedOperationException" = some ce.cls := by rw [h1] at hcl; exact hcl
      refine vx_catch (E := "java/lang/UnsupportedOperationException") (name := "java/lang/UnsupportedOperationException") hown [⟨0, 12, 13, 33⟩, ⟨0, 12, 19, 13⟩] ⟨0, 12, 25, 19⟩ [] (hex.trans rfl) (List.forall_mem_cons.mpr ⟨Or.inr ⟨by decide, "java/lang/IndexOutOfBoundsException", hts _ kt_L_33, hXW.2.2.2.2.2.2.2.2.2.1 _ (List.mem_of_getElem? (i := 1) rfl)⟩, List.forall_mem_cons.mpr ⟨Or.inr ⟨by decide, "java/lang/IllegalArgumentException", hts _ kt_L_13, hXW.2.2.2.2.2.2.2.2.2.1 _ (List.mem_of_getElem? (i := 2) rfl)⟩, fun z hz => absurd hz List.not_mem_nil⟩⟩) (by decide) (by decide) (hts _ kt_L_19) (va_Nw.use rfl (hXW.2.2.2.2.2.2.2.1 "java/lang/UnsupportedOperationException" (by decide))) hce hcv hcl ?_
      refine lv_astore (lv' := [(6, .ref q9), (0, .ref (G.2.1 0)), (1, .int x1), (2, .int x2), (3, .int x3), (4, .int x4), (5, .int x5)]) hx hb dL_parcel_25 hl (by decide) rfl (fun ls hl => ?_)
      refine lv_ldc2 hx hb hown (hts _ kc_L_39) dL_parcel_27 ?_
      exact gl_lret X hr hlk hP hS hf (Nat.le_of_ble_eq_true rfl) (Nat.le_of_ble_eq_true rfl) dL_parcel_30
  · have hf := bnd_go hq hf
    have hf := ite_t hc hf
    refine lv_i2l (v := (q.2.2).toInt64) hx hb dL_parcel_11 rfl ?_
    exact gl_lret X hr hlk hP hS hf (Nat.le_of_ble_eq_true rfl) (Nat.le_of_ble_eq_true rfl) dL_parcel_12
def f_L_itemOf (σ : St) (x1 : Int32) (x2 : Int32) : St × Int64 := bnd (f_X9_itemOf σ x1 x2) (fun q => if q.1 = 0 then (q.2.1, (q.2.2).toInt64) else if q.1 = 2 then (q.2.1, (-4000000000000000001 : Int64)) else if q.1 = 1 then (q.2.1, (-4000000000000000002 : Int64)) else (q.2.1, (0 : Int64)))
def ok_L_itemOf (σ : St) (x1 : Int32) (x2 : Int32) : Prop := (ok_X9_itemOf σ x1 x2) ∧ ((f_X9_itemOf σ x1 x2).1 = 0 ∨ (f_X9_itemOf σ x1 x2).1 = 2 ∨ (f_X9_itemOf σ x1 x2).1 = 1)
abbrev rm_L_itemOf : Room := { frames := 9, cells := 2, slots := 12, locals := 163 }
set_option maxHeartbeats 4000000 in
set_option maxRecDepth 100000 in
theorem c_L_itemOf (l : Launch) (hfl : l.stackTraces = false) (G : GE) (hG : Gok G) (σ : St) (x1 : Int32) (x2 : Int32) (hok : ok_L_itemOf σ x1 x2) : Met l yL_itemOf (wsW yL_itemOf cL_itemOf 4 [(0, 7, 8, 33), (0, 7, 13, 13)]) rm_L_itemOf (va_Pc [.ref (G.2.1 0), .int x1, .int x2] (Wd G σ)) (va_Ql (fun r u => (u, r) = f_L_itemOf σ x1 x2) (PB G) (GA G)) 2 12 (GA G) := by
  generalize hf : f_L_itemOf σ x1 x2 = fv
  rw [f_L_itemOf] at hf
  rw [ok_L_itemOf] at hok
  obtain ⟨hs1, hk1⟩ := hok
  refine gl_start hG (by decide) (Nat.le_of_ble_eq_true rfl) ?_
  intro p e s m args below meth c X hr hlk hex ls hl H locs hP hS
  have X : Cx G p s m args c cL_itemOf 4 RL := X
  obtain ⟨hx, hb, hml, hown, hts, hK, hbs, hXW, -⟩ := id X
  have hl : lv_has ls 4 [(0, .ref (G.2.1 0)), (1, .int x1), (2, .int x2)] := hl
  refine lv_aload_n hx hb dL_itemOf_0 rfl (lv_at hl 0 rfl) ?_
  refine lv_iload_n hx hb dL_itemOf_1 rfl (lv_at hl 1 rfl) ?_
  refine lv_iload_n hx hb dL_itemOf_2 rfl (lv_at hl 2 rfl) ?_
  refine gl_cI (gx_runV (i := 0) (As := [.int x1, .int x2]) (rest := []) X (c_X9_itemOf l hfl G hG σ x1 x2 hs1) ca_X9_itemOf km_L_45 rfl rfl ⟨Nat.le_of_ble_eq_true rfl, Nat.le_of_ble_eq_true rfl⟩ hP hS (ty_lt ab_0) (cell_9 ab_0) rfl rfl rfl hl.1 rfl (Nat.le_of_ble_eq_true rfl) ⟨Nat.le_of_ble_eq_true rfl, Nat.le_of_ble_eq_true rfl⟩ dL_itemOf_3) hS (fun q hq hc H locs hP hS ce q9 hce hcv hcl => ?_) (fun q hq hc H locs hP hS => ?_)
  · have hf := bnd_go hq hf
    have hf := ite_f hc hf
    rw [← hq] at hk1
    rcases hk1 with h1 | h1 | h1
    · exact absurd h1 hc
    · have hf := ite_t h1 hf
      have hcl : s.vm.findClass "java/lang/IndexOutOfBoundsException" = some ce.cls := by rw [h1] at hcl; exact hcl
      refine vx_catch (E := "java/lang/IndexOutOfBoundsException") (name := "java/lang/IndexOutOfBoundsException") hown [] ⟨0, 7, 8, 33⟩ [⟨0, 7, 13, 13⟩] (hex.trans rfl) (fun z hz => absurd hz List.not_mem_nil) (by decide) (by decide) (hts _ kt_L_33) (va_Nw.use rfl (hXW.2.2.2.2.2.2.2.1 "java/lang/IndexOutOfBoundsException" (by decide))) hce hcv hcl ?_
      refine lv_astore_n (lv' := [(3, .ref q9), (0, .ref (G.2.1 0)), (1, .int x1), (2, .int x2)]) hx hb dL_itemOf_8 rfl hl (by decide) rfl (fun ls hl => ?_)
      refine lv_ldc2 hx hb hown (hts _ kc_L_17) dL_itemOf_9 ?_
      exact gl_lret X hr hlk hP hS hf (Nat.le_of_ble_eq_true rfl) (Nat.le_of_ble_eq_true rfl) dL_itemOf_12
    · have hf := ite_f (by rw [h1]; decide) hf
      have hf := ite_t h1 hf
      have hcl : s.vm.findClass "java/lang/IllegalArgumentException" = some ce.cls := by rw [h1] at hcl; exact hcl
      refine vx_catch (E := "java/lang/IllegalArgumentException") (name := "java/lang/IllegalArgumentException") hown [⟨0, 7, 8, 33⟩] ⟨0, 7, 13, 13⟩ [] (hex.trans rfl) (List.forall_mem_cons.mpr ⟨Or.inr ⟨by decide, "java/lang/IndexOutOfBoundsException", hts _ kt_L_33, hXW.2.2.2.2.2.2.2.2.2.1 _ (List.mem_of_getElem? (i := 0) rfl)⟩, fun z hz => absurd hz List.not_mem_nil⟩) (by decide) (by decide) (hts _ kt_L_13) (va_Nw.use rfl (hXW.2.2.2.2.2.2.2.1 "java/lang/IllegalArgumentException" (by decide))) hce hcv hcl ?_
      refine lv_astore_n (lv' := [(3, .ref q9), (0, .ref (G.2.1 0)), (1, .int x1), (2, .int x2)]) hx hb dL_itemOf_13 rfl hl (by decide) rfl (fun ls hl => ?_)
      refine lv_ldc2 hx hb hown (hts _ kc_L_21) dL_itemOf_14 ?_
      exact gl_lret X hr hlk hP hS hf (Nat.le_of_ble_eq_true rfl) (Nat.le_of_ble_eq_true rfl) dL_itemOf_17
  · have hf := bnd_go hq hf
    have hf := ite_t hc hf
    refine lv_i2l (v := (q.2.2).toInt64) hx hb dL_itemOf_6 rfl ?_
    exact gl_lret X hr hlk hP hS hf (Nat.le_of_ble_eq_true rfl) (Nat.le_of_ble_eq_true rfl) dL_itemOf_7
def f_L_reads (σ : St) (x1 : Int32) : St × Int64 := bnd (f_X9_reads σ x1) (fun q => if q.1 = 0 then (q.2.1, (q.2.2).toInt64) else if q.1 = 2 then (q.2.1, (-4000000000000000001 : Int64)) else if q.1 = 4 then (q.2.1, (-4000000000000000002 : Int64)) else (q.2.1, (0 : Int64)))
def ok_L_reads (σ : St) (x1 : Int32) : Prop := (ok_X9_reads σ x1) ∧ ((f_X9_reads σ x1).1 = 0 ∨ (f_X9_reads σ x1).1 = 2 ∨ (f_X9_reads σ x1).1 = 4)
abbrev rm_L_reads : Room := { frames := 9, cells := 2, slots := 12, locals := 162 }
set_option maxHeartbeats 4000000 in
set_option maxRecDepth 100000 in
theorem c_L_reads (l : Launch) (hfl : l.stackTraces = false) (G : GE) (hG : Gok G) (σ : St) (x1 : Int32) (hok : ok_L_reads σ x1) : Met l yL_reads (wsW yL_reads cL_reads 3 [(0, 6, 7, 33), (0, 6, 12, 52)]) rm_L_reads (va_Pc [.ref (G.2.1 0), .int x1] (Wd G σ)) (va_Ql (fun r u => (u, r) = f_L_reads σ x1) (PB G) (GA G)) 2 12 (GA G) := by
  generalize hf : f_L_reads σ x1 = fv
  rw [f_L_reads] at hf
  rw [ok_L_reads] at hok
  obtain ⟨hs1, hk1⟩ := hok
  refine gl_start hG (by decide) (Nat.le_of_ble_eq_true rfl) ?_
  intro p e s m args below meth c X hr hlk hex ls hl H locs hP hS
  have X : Cx G p s m args c cL_reads 3 RL := X
  obtain ⟨hx, hb, hml, hown, hts, hK, hbs, hXW, -⟩ := id X
  have hl : lv_has ls 3 [(0, .ref (G.2.1 0)), (1, .int x1)] := hl
  refine lv_aload_n hx hb dL_reads_0 rfl (lv_at hl 0 rfl) ?_
  refine lv_iload_n hx hb dL_reads_1 rfl (lv_at hl 1 rfl) ?_
  refine gl_cI (gx_runV (i := 0) (As := [.int x1]) (rest := []) X (c_X9_reads l hfl G hG σ x1 hs1) ca_X9_reads km_L_49 rfl rfl ⟨Nat.le_of_ble_eq_true rfl, Nat.le_of_ble_eq_true rfl⟩ hP hS (ty_lt ab_0) (cell_9 ab_0) rfl rfl rfl hl.1 rfl (Nat.le_of_ble_eq_true rfl) ⟨Nat.le_of_ble_eq_true rfl, Nat.le_of_ble_eq_true rfl⟩ dL_reads_2) hS (fun q hq hc H locs hP hS ce q9 hce hcv hcl => ?_) (fun q hq hc H locs hP hS => ?_)
  · have hf := bnd_go hq hf
    have hf := ite_f hc hf
    rw [← hq] at hk1
    rcases hk1 with h1 | h1 | h1
    · exact absurd h1 hc
    · have hf := ite_t h1 hf
      have hcl : s.vm.findClass "java/lang/IndexOutOfBoundsException" = some ce.cls := by rw [h1] at hcl; exact hcl
      refine vx_catch (E := "java/lang/IndexOutOfBoundsException") (name := "java/lang/IndexOutOfBoundsException") hown [] ⟨0, 6, 7, 33⟩ [⟨0, 6, 12, 52⟩] (hex.trans rfl) (fun z hz => absurd hz List.not_mem_nil) (by decide) (by decide) (hts _ kt_L_33) (va_Nw.use rfl (hXW.2.2.2.2.2.2.2.1 "java/lang/IndexOutOfBoundsException" (by decide))) hce hcv hcl ?_
      refine lv_astore_n (lv' := [(2, .ref q9), (0, .ref (G.2.1 0)), (1, .int x1)]) hx hb dL_reads_7 rfl hl (by decide) rfl (fun ls hl => ?_)
      refine lv_ldc2 hx hb hown (hts _ kc_L_17) dL_reads_8 ?_
      exact gl_lret X hr hlk hP hS hf (Nat.le_of_ble_eq_true rfl) (Nat.le_of_ble_eq_true rfl) dL_reads_11
    · have hf := ite_f (by rw [h1]; decide) hf
      have hf := ite_t h1 hf
      have hcl : s.vm.findClass "java/util/NoSuchElementException" = some ce.cls := by rw [h1] at hcl; exact hcl
      refine vx_catch (E := "java/util/NoSuchElementException") (name := "java/util/NoSuchElementException") hown [⟨0, 6, 7, 33⟩] ⟨0, 6, 12, 52⟩ [] (hex.trans rfl) (List.forall_mem_cons.mpr ⟨Or.inr ⟨by decide, "java/lang/IndexOutOfBoundsException", hts _ kt_L_33, hXW.2.2.2.2.2.2.2.2.2.1 _ (List.mem_of_getElem? (i := 3) rfl)⟩, fun z hz => absurd hz List.not_mem_nil⟩) (by decide) (by decide) (hts _ kt_L_52) (va_Nw.use rfl (hXW.2.2.2.2.2.2.2.1 "java/util/NoSuchElementException" (by decide))) hce hcv hcl ?_
      refine lv_astore_n (lv' := [(2, .ref q9), (0, .ref (G.2.1 0)), (1, .int x1)]) hx hb dL_reads_12 rfl hl (by decide) rfl (fun ls hl => ?_)
      refine lv_ldc2 hx hb hown (hts _ kc_L_21) dL_reads_13 ?_
      exact gl_lret X hr hlk hP hS hf (Nat.le_of_ble_eq_true rfl) (Nat.le_of_ble_eq_true rfl) dL_reads_16
  · have hf := bnd_go hq hf
    have hf := ite_t hc hf
    refine lv_i2l (v := (q.2.2).toInt64) hx hb dL_reads_5 rfl ?_
    exact gl_lret X hr hlk hP hS hf (Nat.le_of_ble_eq_true rfl) (Nat.le_of_ble_eq_true rfl) dL_reads_6
def f_L_string (σ : St) (x1 : Int32) : St × Int64 := bnd (f_X9_string σ x1) (fun q => if q.1 = 0 then (q.2.1, (q.2.2).toInt64) else if q.1 = 1 then (q.2.1, (-4000000000000000001 : Int64)) else (q.2.1, (0 : Int64)))
def ok_L_string (σ : St) (x1 : Int32) : Prop := (ok_X9_string σ x1) ∧ ((f_X9_string σ x1).1 = 0 ∨ (f_X9_string σ x1).1 = 1)
abbrev rm_L_string : Room := { frames := 8, cells := 1, slots := 6, locals := 144 }
set_option maxHeartbeats 4000000 in
set_option maxRecDepth 100000 in
theorem c_L_string (l : Launch) (hfl : l.stackTraces = false) (G : GE) (hG : Gok G) (σ : St) (x1 : Int32) (hok : ok_L_string σ x1) : Met l yL_string (wsW yL_string cL_string 3 [(0, 6, 7, 13)]) rm_L_string (va_Pc [.ref (G.2.1 0), .int x1] (Wd G σ)) (va_Ql (fun r u => (u, r) = f_L_string σ x1) (PB G) (GA G)) 1 6 (GA G) := by
  generalize hf : f_L_string σ x1 = fv
  rw [f_L_string] at hf
  rw [ok_L_string] at hok
  obtain ⟨hs1, hk1⟩ := hok
  refine gl_start hG (by decide) (Nat.le_of_ble_eq_true rfl) ?_
  intro p e s m args below meth c X hr hlk hex ls hl H locs hP hS
  have X : Cx G p s m args c cL_string 3 RL := X
  obtain ⟨hx, hb, hml, hown, hts, hK, hbs, hXW, -⟩ := id X
  have hl : lv_has ls 3 [(0, .ref (G.2.1 0)), (1, .int x1)] := hl
  refine lv_aload_n hx hb dL_string_0 rfl (lv_at hl 0 rfl) ?_
  refine lv_iload_n hx hb dL_string_1 rfl (lv_at hl 1 rfl) ?_
  refine gl_cI (gx_runV (i := 0) (As := [.int x1]) (rest := []) X (c_X9_string l hfl G hG σ x1 hs1) ca_X9_string km_L_58 rfl rfl ⟨Nat.le_of_ble_eq_true rfl, Nat.le_of_ble_eq_true rfl⟩ hP hS (ty_lt ab_0) (cell_9 ab_0) rfl rfl rfl hl.1 rfl (Nat.le_of_ble_eq_true rfl) ⟨Nat.le_of_ble_eq_true rfl, Nat.le_of_ble_eq_true rfl⟩ dL_string_2) hS (fun q hq hc H locs hP hS ce q9 hce hcv hcl => ?_) (fun q hq hc H locs hP hS => ?_)
  · have hf := bnd_go hq hf
    have hf := ite_f hc hf
    rw [← hq] at hk1
    rcases hk1 with h1 | h1
    · exact absurd h1 hc
    · have hf := ite_t h1 hf
      have hcl : s.vm.findClass "java/lang/IllegalArgumentException" = some ce.cls := by rw [h1] at hcl; exact hcl
      refine vx_catch (E := "java/lang/IllegalArgumentException") (name := "java/lang/IllegalArgumentException") hown [] ⟨0, 6, 7, 13⟩ [] (hex.trans rfl) (fun z hz => absurd hz List.not_mem_nil) (by decide) (by decide) (hts _ kt_L_13) (va_Nw.use rfl (hXW.2.2.2.2.2.2.2.1 "java/lang/IllegalArgumentException" (by decide))) hce hcv hcl ?_
      refine lv_astore_n (lv' := [(2, .ref q9), (0, .ref (G.2.1 0)), (1, .int x1)]) hx hb dL_string_7 rfl hl (by decide) rfl (fun ls hl => ?_)
      refine lv_ldc2 hx hb hown (hts _ kc_L_17) dL_string_8 ?_
      exact gl_lret X hr hlk hP hS hf (Nat.le_of_ble_eq_true rfl) (Nat.le_of_ble_eq_true rfl) dL_string_11
  · have hf := bnd_go hq hf
    have hf := ite_t hc hf
    refine lv_i2l (v := (q.2.2).toInt64) hx hb dL_string_5 rfl ?_
    exact gl_lret X hr hlk hP hS hf (Nat.le_of_ble_eq_true rfl) (Nat.le_of_ble_eq_true rfl) dL_string_6
def f_L_lettersOf (σ : St) (x1 : Int32) (x2 : Int32) : St × Int64 := bnd (f_X9_lettersOf σ x1 x2) (fun q => if q.1 = 0 then (q.2.1, (q.2.2).toInt64) else if q.1 = 2 then (q.2.1, (-4000000000000000001 : Int64)) else if q.1 = 1 then (q.2.1, (-4000000000000000002 : Int64)) else (q.2.1, (0 : Int64)))
def ok_L_lettersOf (σ : St) (x1 : Int32) (x2 : Int32) : Prop := (ok_X9_lettersOf σ x1 x2) ∧ ((f_X9_lettersOf σ x1 x2).1 = 0 ∨ (f_X9_lettersOf σ x1 x2).1 = 2 ∨ (f_X9_lettersOf σ x1 x2).1 = 1)
abbrev rm_L_lettersOf : Room := { frames := 9, cells := 2, slots := 12, locals := 167 }
set_option maxHeartbeats 4000000 in
set_option maxRecDepth 100000 in
theorem c_L_lettersOf (l : Launch) (hfl : l.stackTraces = false) (G : GE) (hG : Gok G) (σ : St) (x1 : Int32) (x2 : Int32) (hok : ok_L_lettersOf σ x1 x2) : Met l yL_lettersOf (wsW yL_lettersOf cL_lettersOf 4 [(0, 7, 8, 33), (0, 7, 13, 13)]) rm_L_lettersOf (va_Pc [.ref (G.2.1 0), .int x1, .int x2] (Wd G σ)) (va_Ql (fun r u => (u, r) = f_L_lettersOf σ x1 x2) (PB G) (GA G)) 2 12 (GA G) := by
  generalize hf : f_L_lettersOf σ x1 x2 = fv
  rw [f_L_lettersOf] at hf
  rw [ok_L_lettersOf] at hok
  obtain ⟨hs1, hk1⟩ := hok
  refine gl_start hG (by decide) (Nat.le_of_ble_eq_true rfl) ?_
  intro p e s m args below meth c X hr hlk hex ls hl H locs hP hS
  have X : Cx G p s m args c cL_lettersOf 4 RL := X
  obtain ⟨hx, hb, hml, hown, hts, hK, hbs, hXW, -⟩ := id X
  have hl : lv_has ls 4 [(0, .ref (G.2.1 0)), (1, .int x1), (2, .int x2)] := hl
  refine lv_aload_n hx hb dL_lettersOf_0 rfl (lv_at hl 0 rfl) ?_
  refine lv_iload_n hx hb dL_lettersOf_1 rfl (lv_at hl 1 rfl) ?_
  refine lv_iload_n hx hb dL_lettersOf_2 rfl (lv_at hl 2 rfl) ?_
  refine gl_cI (gx_runV (i := 0) (As := [.int x1, .int x2]) (rest := []) X (c_X9_lettersOf l hfl G hG σ x1 x2 hs1) ca_X9_lettersOf km_L_61 rfl rfl ⟨Nat.le_of_ble_eq_true rfl, Nat.le_of_ble_eq_true rfl⟩ hP hS (ty_lt ab_0) (cell_9 ab_0) rfl rfl rfl hl.1 rfl (Nat.le_of_ble_eq_true rfl) ⟨Nat.le_of_ble_eq_true rfl, Nat.le_of_ble_eq_true rfl⟩ dL_lettersOf_3) hS (fun q hq hc H locs hP hS ce q9 hce hcv hcl => ?_) (fun q hq hc H locs hP hS => ?_)
  · have hf := bnd_go hq hf
    have hf := ite_f hc hf
    rw [← hq] at hk1
    rcases hk1 with h1 | h1 | h1
    · exact absurd h1 hc
    · have hf := ite_t h1 hf
      have hcl : s.vm.findClass "java/lang/IndexOutOfBoundsException" = some ce.cls := by rw [h1] at hcl; exact hcl
      refine vx_catch (E := "java/lang/IndexOutOfBoundsException") (name := "java/lang/IndexOutOfBoundsException") hown [] ⟨0, 7, 8, 33⟩ [⟨0, 7, 13, 13⟩] (hex.trans rfl) (fun z hz => absurd hz List.not_mem_nil) (by decide) (by decide) (hts _ kt_L_33) (va_Nw.use rfl (hXW.2.2.2.2.2.2.2.1 "java/lang/IndexOutOfBoundsException" (by decide))) hce hcv hcl ?_
      refine lv_astore_n (lv' := [(3, .ref q9), (0, .ref (G.2.1 0)), (1, .int x1), (2, .int x2)]) hx hb dL_lettersOf_8 rfl hl (by decide) rfl (fun ls hl => ?_)
      refine lv_ldc2 hx hb hown (hts _ kc_L_17) dL_lettersOf_9 ?_
      exact gl_lret X hr hlk hP hS hf (Nat.le_of_ble_eq_true rfl) (Nat.le_of_ble_eq_true rfl) dL_lettersOf_12
    · have hf := ite_f (by rw [h1]; decide) hf
      have hf := ite_t h1 hf
      have hcl : s.vm.findClass "java/lang/IllegalArgumentException" = some ce.cls := by rw [h1] at hcl; exact hcl
      refine vx_catch (E := "java/lang/IllegalArgumentException") (name := "java/lang/IllegalArgumentException") hown [⟨0, 7, 8, 33⟩] ⟨0, 7, 13, 13⟩ [] (hex.trans rfl) (List.forall_mem_cons.mpr ⟨Or.inr ⟨by decide, "java/lang/IndexOutOfBoundsException", hts _ kt_L_33, hXW.2.2.2.2.2.2.2.2.2.1 _ (List.mem_of_getElem? (i := 0) rfl)⟩, fun z hz => absurd hz List.not_mem_nil⟩) (by decide) (by decide) (hts _ kt_L_13) (va_Nw.use rfl (hXW.2.2.2.2.2.2.2.1 "java/lang/IllegalArgumentException" (by decide))) hce hcv hcl ?_
      refine lv_astore_n (lv' := [(3, .ref q9), (0, .ref (G.2.1 0)), (1, .int x1), (2, .int x2)]) hx hb dL_lettersOf_13 rfl hl (by decide) rfl (fun ls hl => ?_)
      refine lv_ldc2 hx hb hown (hts _ kc_L_21) dL_lettersOf_14 ?_
      exact gl_lret X hr hlk hP hS hf (Nat.le_of_ble_eq_true rfl) (Nat.le_of_ble_eq_true rfl) dL_lettersOf_17
  · have hf := bnd_go hq hf
    have hf := ite_t hc hf
    refine lv_i2l (v := (q.2.2).toInt64) hx hb dL_lettersOf_6 rfl ?_
    exact gl_lret X hr hlk hP hS hf (Nat.le_of_ble_eq_true rfl) (Nat.le_of_ble_eq_true rfl) dL_lettersOf_7
def f_L_lettersAgain (σ : St) (x1 : Int32) (x2 : Int32) : St × Int64 := bnd (f_X9_lettersAgain σ x1 x2) (fun q => if q.1 = 0 then (q.2.1, (q.2.2).toInt64) else if q.1 = 2 then (q.2.1, (-4000000000000000001 : Int64)) else if q.1 = 1 then (q.2.1, (-4000000000000000002 : Int64)) else (q.2.1, (0 : Int64)))
def ok_L_lettersAgain (σ : St) (x1 : Int32) (x2 : Int32) : Prop := (ok_X9_lettersAgain σ x1 x2) ∧ ((f_X9_lettersAgain σ x1 x2).1 = 0 ∨ (f_X9_lettersAgain σ x1 x2).1 = 2 ∨ (f_X9_lettersAgain σ x1 x2).1 = 1)
abbrev rm_L_lettersAgain : Room := { frames := 9, cells := 2, slots := 12, locals := 166 }
set_option maxHeartbeats 4000000 in
set_option maxRecDepth 100000 in
theorem c_L_lettersAgain (l : Launch) (hfl : l.stackTraces = false) (G : GE) (hG : Gok G) (σ : St) (x1 : Int32) (x2 : Int32) (hok : ok_L_lettersAgain σ x1 x2) : Met l yL_lettersAgain (wsW yL_lettersAgain cL_lettersAgain 4 [(0, 7, 8, 33), (0, 7, 13, 13)]) rm_L_lettersAgain (va_Pc [.ref (G.2.1 0), .int x1, .int x2] (Wd G σ)) (va_Ql (fun r u => (u, r) = f_L_lettersAgain σ x1 x2) (PB G) (GA G)) 2 12 (GA G) := by
  generalize hf : f_L_lettersAgain σ x1 x2 = fv
  rw [f_L_lettersAgain] at hf
  rw [ok_L_lettersAgain] at hok
  obtain ⟨hs1, hk1⟩ := hok
  refine gl_start hG (by decide) (Nat.le_of_ble_eq_true rfl) ?_
  intro p e s m args below meth c X hr hlk hex ls hl H locs hP hS
  have X : Cx G p s m args c cL_lettersAgain 4 RL := X
  obtain ⟨hx, hb, hml, hown, hts, hK, hbs, hXW, -⟩ := id X
  have hl : lv_has ls 4 [(0, .ref (G.2.1 0)), (1, .int x1), (2, .int x2)] := hl
  refine lv_aload_n hx hb dL_lettersAgain_0 rfl (lv_at hl 0 rfl) ?_
  refine lv_iload_n hx hb dL_lettersAgain_1 rfl (lv_at hl 1 rfl) ?_
  refine lv_iload_n hx hb dL_lettersAgain_2 rfl (lv_at hl 2 rfl) ?_
  refine gl_cI (gx_runV (i := 0) (As := [.int x1, .int x2]) (rest := []) X (c_X9_lettersAgain l hfl G hG σ x1 x2 hs1) ca_X9_lettersAgain km_L_64 rfl rfl ⟨Nat.le_of_ble_eq_true rfl, Nat.le_of_ble_eq_true rfl⟩ hP hS (ty_lt ab_0) (cell_9 ab_0) rfl rfl rfl hl.1 rfl (Nat.le_of_ble_eq_true rfl) ⟨Nat.le_of_ble_eq_true rfl, Nat.le_of_ble_eq_true rfl⟩ dL_lettersAgain_3) hS (fun q hq hc H locs hP hS ce q9 hce hcv hcl => ?_) (fun q hq hc H locs hP hS => ?_)
  · have hf := bnd_go hq hf
    have hf := ite_f hc hf
    rw [← hq] at hk1
    rcases hk1 with h1 | h1 | h1
    · exact absurd h1 hc
    · have hf := ite_t h1 hf
      have hcl : s.vm.findClass "java/lang/IndexOutOfBoundsException" = some ce.cls := by rw [h1] at hcl; exact hcl
      refine vx_catch (E := "java/lang/IndexOutOfBoundsException") (name := "java/lang/IndexOutOfBoundsException") hown [] ⟨0, 7, 8, 33⟩ [⟨0, 7, 13, 13⟩] (hex.trans rfl) (fun z hz => absurd hz List.not_mem_nil) (by decide) (by decide) (hts _ kt_L_33) (va_Nw.use rfl (hXW.2.2.2.2.2.2.2.1 "java/lang/IndexOutOfBoundsException" (by decide))) hce hcv hcl ?_
      refine lv_astore_n (lv' := [(3, .ref q9), (0, .ref (G.2.1 0)), (1, .int x1), (2, .int x2)]) hx hb dL_lettersAgain_8 rfl hl (by decide) rfl (fun ls hl => ?_)
      refine lv_ldc2 hx hb hown (hts _ kc_L_17) dL_lettersAgain_9 ?_
      exact gl_lret X hr hlk hP hS hf (Nat.le_of_ble_eq_true rfl) (Nat.le_of_ble_eq_true rfl) dL_lettersAgain_12
    · have hf := ite_f (by rw [h1]; decide) hf
      have hf := ite_t h1 hf
      have hcl : s.vm.findClass "java/lang/IllegalArgumentException" = some ce.cls := by rw [h1] at hcl; exact hcl
      refine vx_catch (E := "java/lang/IllegalArgumentException") (name := "java/lang/IllegalArgumentException") hown [⟨0, 7, 8, 33⟩] ⟨0, 7, 13, 13⟩ [] (hex.trans rfl) (List.forall_mem_cons.mpr ⟨Or.inr ⟨by decide, "java/lang/IndexOutOfBoundsException", hts _ kt_L_33, hXW.2.2.2.2.2.2.2.2.2.1 _ (List.mem_of_getElem? (i := 0) rfl)⟩, fun z hz => absurd hz List.not_mem_nil⟩) (by decide) (by decide) (hts _ kt_L_13) (va_Nw.use rfl (hXW.2.2.2.2.2.2.2.1 "java/lang/IllegalArgumentException" (by decide))) hce hcv hcl ?_
      refine lv_astore_n (lv' := [(3, .ref q9), (0, .ref (G.2.1 0)), (1, .int x1), (2, .int x2)]) hx hb dL_lettersAgain_13 rfl hl (by decide) rfl (fun ls hl => ?_)
      refine lv_ldc2 hx hb hown (hts _ kc_L_21) dL_lettersAgain_14 ?_
      exact gl_lret X hr hlk hP hS hf (Nat.le_of_ble_eq_true rfl) (Nat.le_of_ble_eq_true rfl) dL_lettersAgain_17
  · have hf := bnd_go hq hf
    have hf := ite_t hc hf
    refine lv_i2l (v := (q.2.2).toInt64) hx hb dL_lettersAgain_6 rfl ?_
    exact gl_lret X hr hlk hP hS hf (Nat.le_of_ble_eq_true rfl) (Nat.le_of_ble_eq_true rfl) dL_lettersAgain_7
def f_L_ranked (σ : St) (x1 : Int32) : St × Int64 := bnd (f_X9_ranked σ x1) (fun q => if q.1 = 0 then (q.2.1, (q.2.2).toInt64) else if q.1 = 4 then (q.2.1, (-4000000000000000001 : Int64)) else (q.2.1, (0 : Int64)))
def ok_L_ranked (σ : St) (x1 : Int32) : Prop := (ok_X9_ranked σ x1) ∧ ((f_X9_ranked σ x1).1 = 0 ∨ (f_X9_ranked σ x1).1 = 4)
abbrev rm_L_ranked : Room := { frames := 8, cells := 1, slots := 6, locals := 142 }
set_option maxHeartbeats 4000000 in
set_option maxRecDepth 100000 in
theorem c_L_ranked (l : Launch) (hfl : l.stackTraces = false) (G : GE) (hG : Gok G) (σ : St) (x1 : Int32) (hok : ok_L_ranked σ x1) : Met l yL_ranked (wsW yL_ranked cL_ranked 3 [(0, 6, 7, 52)]) rm_L_ranked (va_Pc [.ref (G.2.1 0), .int x1] (Wd G σ)) (va_Ql (fun r u => (u, r) = f_L_ranked σ x1) (PB G) (GA G)) 1 6 (GA G) := by
  generalize hf : f_L_ranked σ x1 = fv
  rw [f_L_ranked] at hf
  rw [ok_L_ranked] at hok
  obtain ⟨hs1, hk1⟩ := hok
  refine gl_start hG (by decide) (Nat.le_of_ble_eq_true rfl) ?_
  intro p e s m args below meth c X hr hlk hex ls hl H locs hP hS
  have X : Cx G p s m args c cL_ranked 3 RL := X
  obtain ⟨hx, hb, hml, hown, hts, hK, hbs, hXW, -⟩ := id X
  have hl : lv_has ls 3 [(0, .ref (G.2.1 0)), (1, .int x1)] := hl
  refine lv_aload_n hx hb dL_ranked_0 rfl (lv_at hl 0 rfl) ?_
  refine lv_iload_n hx hb dL_ranked_1 rfl (lv_at hl 1 rfl) ?_
  refine gl_cI (gx_runV (i := 0) (As := [.int x1]) (rest := []) X (c_X9_ranked l hfl G hG σ x1 hs1) ca_X9_ranked km_L_67 rfl rfl ⟨Nat.le_of_ble_eq_true rfl, Nat.le_of_ble_eq_true rfl⟩ hP hS (ty_lt ab_0) (cell_9 ab_0) rfl rfl rfl hl.1 rfl (Nat.le_of_ble_eq_true rfl) ⟨Nat.le_of_ble_eq_true rfl, Nat.le_of_ble_eq_true rfl⟩ dL_ranked_2) hS (fun q hq hc H locs hP hS ce q9 hce hcv hcl => ?_) (fun q hq hc H locs hP hS => ?_)
  · have hf := bnd_go hq hf
    have hf := ite_f hc hf
    rw [← hq] at hk1
    rcases hk1 with h1 | h1
    · exact absurd h1 hc
    · have hf := ite_t h1 hf
      have hcl : s.vm.findClass "java/util/NoSuchElementException" = some ce.cls := by rw [h1] at hcl; exact hcl
      refine vx_catch (E := "java/util/NoSuchElementException") (name := "java/util/NoSuchElementException") hown [] ⟨0, 6, 7, 52⟩ [] (hex.trans rfl) (fun z hz => absurd hz List.not_mem_nil) (by decide) (by decide) (hts _ kt_L_52) (va_Nw.use rfl (hXW.2.2.2.2.2.2.2.1 "java/util/NoSuchElementException" (by decide))) hce hcv hcl ?_
      refine lv_astore_n (lv' := [(2, .ref q9), (0, .ref (G.2.1 0)), (1, .int x1)]) hx hb dL_ranked_7 rfl hl (by decide) rfl (fun ls hl => ?_)
      refine lv_ldc2 hx hb hown (hts _ kc_L_17) dL_ranked_8 ?_
      exact gl_lret X hr hlk hP hS hf (Nat.le_of_ble_eq_true rfl) (Nat.le_of_ble_eq_true rfl) dL_ranked_11
  · have hf := bnd_go hq hf
    have hf := ite_t hc hf
    refine lv_i2l (v := (q.2.2).toInt64) hx hb dL_ranked_5 rfl ?_
    exact gl_lret X hr hlk hP hS hf (Nat.le_of_ble_eq_true rfl) (Nat.le_of_ble_eq_true rfl) dL_ranked_6
def f_L_potato (σ : St) : St × Int64 := bnd (f_X9_potato σ) (fun q => if q.1 = 0 then (q.2.1, (q.2.2).toInt64) else if q.1 = 3 then (q.2.1, (-4000000000000000001 : Int64)) else (q.2.1, (0 : Int64)))
def ok_L_potato (σ : St) : Prop := (ok_X9_potato σ) ∧ ((f_X9_potato σ).1 = 0 ∨ (f_X9_potato σ).1 = 3)
abbrev rm_L_potato : Room := { frames := 8, cells := 1, slots := 6, locals := 143 }
set_option maxHeartbeats 4000000 in
set_option maxRecDepth 100000 in
theorem c_L_potato (l : Launch) (hfl : l.stackTraces = false) (G : GE) (hG : Gok G) (σ : St) (hok : ok_L_potato σ) : Met l yL_potato (wsW yL_potato cL_potato 2 [(0, 5, 6, 19)]) rm_L_potato (va_Pc [.ref (G.2.1 0)] (Wd G σ)) (va_Ql (fun r u => (u, r) = f_L_potato σ) (PB G) (GA G)) 1 6 (GA G) := by
  generalize hf : f_L_potato σ = fv
  rw [f_L_potato] at hf
  rw [ok_L_potato] at hok
  obtain ⟨hs1, hk1⟩ := hok
  refine gl_start hG (by decide) (Nat.le_of_ble_eq_true rfl) ?_
  intro p e s m args below meth c X hr hlk hex ls hl H locs hP hS
  have X : Cx G p s m args c cL_potato 2 RL := X
  obtain ⟨hx, hb, hml, hown, hts, hK, hbs, hXW, -⟩ := id X
  have hl : lv_has ls 2 [(0, .ref (G.2.1 0))] := hl
  refine lv_aload_n hx hb dL_potato_0 rfl (lv_at hl 0 rfl) ?_
  refine gl_cI (gx_runV (i := 0) (As := []) (rest := []) X (c_X9_potato l hfl G hG σ hs1) ca_X9_potato km_L_70 rfl rfl ⟨Nat.le_of_ble_eq_true rfl, Nat.le_of_ble_eq_true rfl⟩ hP hS (ty_lt ab_0) (cell_9 ab_0) rfl rfl rfl hl.1 rfl (Nat.le_of_ble_eq_true rfl) ⟨Nat.le_of_ble_eq_true rfl, Nat.le_of_ble_eq_true rfl⟩ dL_potato_1) hS (fun q hq hc H locs hP hS ce q9 hce hcv hcl => ?_) (fun q hq hc H locs hP hS => ?_)
  · have hf := bnd_go hq hf
    have hf := ite_f hc hf
    rw [← hq] at hk1
    rcases hk1 with h1 | h1
    · exact absurd h1 hc
    · have hf := ite_t h1 hf
      have hcl : s.vm.findClass "java/lang/UnsupportedOperationException" = some ce.cls := by rw [h1] at hcl; exact hcl
      refine vx_catch (E := "java/lang/UnsupportedOperationException") (name := "java/lang/UnsupportedOperationException") hown [] ⟨0, 5, 6, 19⟩ [] (hex.trans rfl) (fun z hz => absurd hz List.not_mem_nil) (by decide) (by decide) (hts _ kt_L_19) (va_Nw.use rfl (hXW.2.2.2.2.2.2.2.1 "java/lang/UnsupportedOperationException" (by decide))) hce hcv hcl ?_
      refine lv_astore_n (lv' := [(1, .ref q9), (0, .ref (G.2.1 0))]) hx hb dL_potato_6 rfl hl (by decide) rfl (fun ls hl => ?_)
      refine lv_ldc2 hx hb hown (hts _ kc_L_17) dL_potato_7 ?_
      exact gl_lret X hr hlk hP hS hf (Nat.le_of_ble_eq_true rfl) (Nat.le_of_ble_eq_true rfl) dL_potato_10
  · have hf := bnd_go hq hf
    have hf := ite_t hc hf
    refine lv_i2l (v := (q.2.2).toInt64) hx hb dL_potato_4 rfl ?_
    exact gl_lret X hr hlk hP hS hf (Nat.le_of_ble_eq_true rfl) (Nat.le_of_ble_eq_true rfl) dL_potato_5
def f_L_firmness (σ : St) (x1 : Int32) : St × Int64 := bnd (f_X9_firmness σ x1) (fun q => if q.1 = 0 then (q.2.1, (f_Jxf58ca_floatToIntBits_5c35a q.2.2).toInt64) else if q.1 = 2 then (q.2.1, (-4000000000000000001 : Int64)) else (q.2.1, (0 : Int64)))
def ok_L_firmness (σ : St) (x1 : Int32) : Prop := (ok_X9_firmness σ x1) ∧ ((f_X9_firmness σ x1).1 = 0 ∨ (f_X9_firmness σ x1).1 = 2)
abbrev rm_L_firmness : Room := { frames := 9, cells := 1, slots := 6, locals := 162 }
set_option maxHeartbeats 4000000 in
set_option maxRecDepth 100000 in
theorem c_L_firmness (l : Launch) (hfl : l.stackTraces = false) (G : GE) (hG : Gok G) (σ : St) (x1 : Int32) (hok : ok_L_firmness σ x1) : Met l yL_firmness (wsW yL_firmness cL_firmness 3 [(0, 9, 10, 33)]) rm_L_firmness (va_Pc [.ref (G.2.1 0), .int x1] (Wd G σ)) (va_Ql (fun r u => (u, r) = f_L_firmness σ x1) (PB G) (GA G)) 1 6 (GA G) := by
  generalize hf : f_L_firmness σ x1 = fv
  rw [f_L_firmness] at hf
  rw [ok_L_firmness] at hok
  obtain ⟨hs1, hk1⟩ := hok
  refine gl_start hG (by decide) (Nat.le_of_ble_eq_true rfl) ?_
  intro p e s m args below meth c X hr hlk hex ls hl H locs hP hS
  have X : Cx G p s m args c cL_firmness 3 RL := X
  obtain ⟨hx, hb, hml, hown, hts, hK, hbs, hXW, -⟩ := id X
  have hl : lv_has ls 3 [(0, .ref (G.2.1 0)), (1, .int x1)] := hl
  refine lv_aload_n hx hb dL_firmness_0 rfl (lv_at hl 0 rfl) ?_
  refine lv_iload_n hx hb dL_firmness_1 rfl (lv_at hl 1 rfl) ?_
  refine gl_cF (gx_runV (i := 0) (As := [.int x1]) (rest := []) X (c_X9_firmness l hfl G hG σ x1 hs1) ca_X9_firmness km_L_74 rfl rfl ⟨Nat.le_of_ble_eq_true rfl, Nat.le_of_ble_eq_true rfl⟩ hP hS (ty_lt ab_0) (cell_9 ab_0) rfl rfl rfl hl.1 rfl (Nat.le_of_ble_eq_true rfl) ⟨Nat.le_of_ble_eq_true rfl, Nat.le_of_ble_eq_true rfl⟩ dL_firmness_2) hS (fun q hq hc H locs hP hS ce q9 hce hcv hcl => ?_) (fun q hq hc H locs hP hS => ?_)
  · have hf := bnd_go hq hf
    have hf := ite_f hc hf
    rw [← hq] at hk1
    rcases hk1 with h1 | h1
    · exact absurd h1 hc
    · have hf := ite_t h1 hf
      have hcl : s.vm.findClass "java/lang/IndexOutOfBoundsException" = some ce.cls := by rw [h1] at hcl; exact hcl
      refine vx_catch (E := "java/lang/IndexOutOfBoundsException") (name := "java/lang/IndexOutOfBoundsException") hown [] ⟨0, 9, 10, 33⟩ [] (hex.trans rfl) (fun z hz => absurd hz List.not_mem_nil) (by decide) (by decide) (hts _ kt_L_33) (va_Nw.use rfl (hXW.2.2.2.2.2.2.2.1 "java/lang/IndexOutOfBoundsException" (by decide))) hce hcv hcl ?_
      refine lv_astore_n (lv' := [(2, .ref q9), (0, .ref (G.2.1 0)), (1, .int x1)]) hx hb dL_firmness_10 rfl hl (by decide) rfl (fun ls hl => ?_)
      refine lv_ldc2 hx hb hown (hts _ kc_L_17) dL_firmness_11 ?_
      exact gl_lret X hr hlk hP hS hf (Nat.le_of_ble_eq_true rfl) (Nat.le_of_ble_eq_true rfl) dL_firmness_14
  · have hf := bnd_go hq hf
    have hf := ite_t hc hf
    refine g_cIp (g_runS (As := [.float q.2.2]) (rest := []) X (c_Jxf58ca_floatToIntBits_5c35a l G hG q.2.1 q.2.2) ca_Jxf58ca_floatToIntBits_5c35a km_L_27 rfl rfl ⟨Nat.le_of_ble_eq_true rfl, Nat.le_of_ble_eq_true rfl⟩ hP hS rfl hl.1 rfl (Nat.le_of_ble_eq_true rfl) ⟨Nat.le_of_ble_eq_true rfl, Nat.le_of_ble_eq_true rfl⟩ dL_firmness_5) hS (fun H locs hP hS => ?_)
    refine lv_i2l (v := (f_Jxf58ca_floatToIntBits_5c35a q.2.2).toInt64) hx hb dL_firmness_8 rfl ?_
    exact gl_lret X hr hlk hP hS hf (Nat.le_of_ble_eq_true rfl) (Nat.le_of_ble_eq_true rfl) dL_firmness_9
def f_L_ink (σ : St) (x1 : Int32) : St × Int64 := bnd (f_X9_ink σ x1) (fun q => if q.1 = 0 then (q.2.1, (q.2.2).toInt64) else if q.1 = 1 then (q.2.1, (-4000000000000000001 : Int64)) else (q.2.1, (0 : Int64)))
def ok_L_ink (σ : St) (x1 : Int32) : Prop := (ok_X9_ink σ x1) ∧ ((f_X9_ink σ x1).1 = 0 ∨ (f_X9_ink σ x1).1 = 1)
abbrev rm_L_ink : Room := { frames := 8, cells := 1, slots := 6, locals := 144 }
set_option maxHeartbeats 4000000 in
set_option maxRecDepth 100000 in
theorem c_L_ink (l : Launch) (hfl : l.stackTraces = false) (G : GE) (hG : Gok G) (σ : St) (x1 : Int32) (hok : ok_L_ink σ x1) : Met l yL_ink (wsW yL_ink cL_ink 3 [(0, 6, 7, 13)]) rm_L_ink (va_Pc [.ref (G.2.1 0), .int x1] (Wd G σ)) (va_Ql (fun r u => (u, r) = f_L_ink σ x1) (PB G) (GA G)) 1 6 (GA G) := by
  generalize hf : f_L_ink σ x1 = fv
  rw [f_L_ink] at hf
  rw [ok_L_ink] at hok
  obtain ⟨hs1, hk1⟩ := hok
  refine gl_start hG (by decide) (Nat.le_of_ble_eq_true rfl) ?_
  intro p e s m args below meth c X hr hlk hex ls hl H locs hP hS
  have X : Cx G p s m args c cL_ink 3 RL := X
  obtain ⟨hx, hb, hml, hown, hts, hK, hbs, hXW, -⟩ := id X
  have hl : lv_has ls 3 [(0, .ref (G.2.1 0)), (1, .int x1)] := hl
  refine lv_aload_n hx hb dL_ink_0 rfl (lv_at hl 0 rfl) ?_
  refine lv_iload_n hx hb dL_ink_1 rfl (lv_at hl 1 rfl) ?_
  refine gl_cI (gx_runV (i := 0) (As := [.int x1]) (rest := []) X (c_X9_ink l hfl G hG σ x1 hs1) ca_X9_ink km_L_86 rfl rfl ⟨Nat.le_of_ble_eq_true rfl, Nat.le_of_ble_eq_true rfl⟩ hP hS (ty_lt ab_0) (cell_9 ab_0) rfl rfl rfl hl.1 rfl (Nat.le_of_ble_eq_true rfl) ⟨Nat.le_of_ble_eq_true rfl, Nat.le_of_ble_eq_true rfl⟩ dL_ink_2) hS (fun q hq hc H locs hP hS ce q9 hce hcv hcl => ?_) (fun q hq hc H locs hP hS => ?_)
  · have hf := bnd_go hq hf
    have hf := ite_f hc hf
    rw [← hq] at hk1
    rcases hk1 with h1 | h1
    · exact absurd h1 hc
    · have hf := ite_t h1 hf
      have hcl : s.vm.findClass "java/lang/IllegalArgumentException" = some ce.cls := by rw [h1] at hcl; exact hcl
      refine vx_catch (E := "java/lang/IllegalArgumentException") (name := "java/lang/IllegalArgumentException") hown [] ⟨0, 6, 7, 13⟩ [] (hex.trans rfl) (fun z hz => absurd hz List.not_mem_nil) (by decide) (by decide) (hts _ kt_L_13) (va_Nw.use rfl (hXW.2.2.2.2.2.2.2.1 "java/lang/IllegalArgumentException" (by decide))) hce hcv hcl ?_
      refine lv_astore_n (lv' := [(2, .ref q9), (0, .ref (G.2.1 0)), (1, .int x1)]) hx hb dL_ink_7 rfl hl (by decide) rfl (fun ls hl => ?_)
      refine lv_ldc2 hx hb hown (hts _ kc_L_17) dL_ink_8 ?_
      exact gl_lret X hr hlk hP hS hf (Nat.le_of_ble_eq_true rfl) (Nat.le_of_ble_eq_true rfl) dL_ink_11
  · have hf := bnd_go hq hf
    have hf := ite_t hc hf
    refine lv_i2l (v := (q.2.2).toInt64) hx hb dL_ink_5 rfl ?_
    exact gl_lret X hr hlk hP hS hf (Nat.le_of_ble_eq_true rfl) (Nat.le_of_ble_eq_true rfl) dL_ink_6
def f_L_stamp (σ : St) (x1 : Int32) (x2 : Int32) : St × Int64 := bnd (f_X9_stamp σ x1 x2) (fun q => if q.1 = 0 then (q.2.1, (q.2.2).toInt64) else if q.1 = 2 then (q.2.1, (-4000000000000000001 : Int64)) else if q.1 = 3 then (q.2.1, (-4000000000000000002 : Int64)) else (q.2.1, (0 : Int64)))
def ok_L_stamp (σ : St) (x1 : Int32) (x2 : Int32) : Prop := (ok_X9_stamp σ x1 x2) ∧ ((f_X9_stamp σ x1 x2).1 = 0 ∨ (f_X9_stamp σ x1 x2).1 = 2 ∨ (f_X9_stamp σ x1 x2).1 = 3)
abbrev rm_L_stamp : Room := { frames := 8, cells := 1, slots := 6, locals := 145 }
set_option maxHeartbeats 4000000 in
set_option maxRecDepth 100000 in
theorem c_L_stamp (l : Launch) (hfl : l.stackTraces = false) (G : GE) (hG : Gok G) (σ : St) (x1 : Int32) (x2 : Int32) (hok : ok_L_stamp σ x1 x2) : Met l yL_stamp (wsW yL_stamp cL_stamp 4 [(0, 7, 8, 33), (0, 7, 13, 19)]) rm_L_stamp (va_Pc [.ref (G.2.1 0), .int x1, .int x2] (Wd G σ)) (va_Ql (fun r u => (u, r) = f_L_stamp σ x1 x2) (PB G) (GA G)) 1 6 (GA G) := by
  generalize hf : f_L_stamp σ x1 x2 = fv
  rw [f_L_stamp] at hf
  rw [ok_L_stamp] at hok
  obtain ⟨hs1, hk1⟩ := hok
  refine gl_start hG (by decide) (Nat.le_of_ble_eq_true rfl) ?_
  intro p e s m args below meth c X hr hlk hex ls hl H locs hP hS
  have X : Cx G p s m args c cL_stamp 4 RL := X
  obtain ⟨hx, hb, hml, hown, hts, hK, hbs, hXW, -⟩ := id X
  have hl : lv_has ls 4 [(0, .ref (G.2.1 0)), (1, .int x1), (2, .int x2)] := hl
  refine lv_aload_n hx hb dL_stamp_0 rfl (lv_at hl 0 rfl) ?_
  refine lv_iload_n hx hb dL_stamp_1 rfl (lv_at hl 1 rfl) ?_
  refine lv_iload_n hx hb dL_stamp_2 rfl (lv_at hl 2 rfl) ?_
  refine gl_cI (gx_runV (i := 0) (As := [.int x1, .int x2]) (rest := []) X (c_X9_stamp l hfl G hG σ x1 x2 hs1) ca_X9_stamp km_L_93 rfl rfl ⟨Nat.le_of_ble_eq_true rfl, Nat.le_of_ble_eq_true rfl⟩ hP hS (ty_lt ab_0) (cell_9 ab_0) rfl rfl rfl hl.1 rfl (Nat.le_of_ble_eq_true rfl) ⟨Nat.le_of_ble_eq_true rfl, Nat.le_of_ble_eq_true rfl⟩ dL_stamp_3) hS (fun q hq hc H locs hP hS ce q9 hce hcv hcl => ?_) (fun q hq hc H locs hP hS => ?_)
  · have hf := bnd_go hq hf
    have hf := ite_f hc hf
    rw [← hq] at hk1
    rcases hk1 with h1 | h1 | h1
    · exact absurd h1 hc
    · have hf := ite_t h1 hf
      have hcl : s.vm.findClass "java/lang/IndexOutOfBoundsException" = some ce.cls := by rw [h1] at hcl; exact hcl
      refine vx_catch (E := "java/lang/IndexOutOfBoundsException") (name := "java/lang/IndexOutOfBoundsException") hown [] ⟨0, 7, 8, 33⟩ [⟨0, 7, 13, 19⟩] (hex.trans rfl) (fun z hz => absurd hz List.not_mem_nil) (by decide) (by decide) (hts _ kt_L_33) (va_Nw.use rfl (hXW.2.2.2.2.2.2.2.1 "java/lang/IndexOutOfBoundsException" (by decide))) hce hcv hcl ?_
      refine lv_astore_n (lv' := [(3, .ref q9), (0, .ref (G.2.1 0)), (1, .int x1), (2, .int x2)]) hx hb dL_stamp_8 rfl hl (by decide) rfl (fun ls hl => ?_)
      refine lv_ldc2 hx hb hown (hts _ kc_L_17) dL_stamp_9 ?_
      exact gl_lret X hr hlk hP hS hf (Nat.le_of_ble_eq_true rfl) (Nat.le_of_ble_eq_true rfl) dL_stamp_12
    · have hf := ite_f (by rw [h1]; decide) hf
      have hf := ite_t h1 hf
      have hcl : s.vm.findClass "java/lang/UnsupportedOperationException" = some ce.cls := by rw [h1] at hcl; exact hcl
      refine vx_catch (E := "java/lang/UnsupportedOperationException") (name := "java/lang/UnsupportedOperationException") hown [⟨0, 7, 8, 33⟩] ⟨0, 7, 13, 19⟩ [] (hex.trans rfl) (List.forall_mem_cons.mpr ⟨Or.inr ⟨by decide, "java/lang/IndexOutOfBoundsException", hts _ kt_L_33, hXW.2.2.2.2.2.2.2.2.2.1 _ (List.mem_of_getElem? (i := 1) rfl)⟩, fun z hz => absurd hz List.not_mem_nil⟩) (by decide) (by decide) (hts _ kt_L_19) (va_Nw.use rfl (hXW.2.2.2.2.2.2.2.1 "java/lang/UnsupportedOperationException" (by decide))) hce hcv hcl ?_
      refine lv_astore_n (lv' := [(3, .ref q9), (0, .ref (G.2.1 0)), (1, .int x1), (2, .int x2)]) hx hb dL_stamp_13 rfl hl (by decide) rfl (fun ls hl => ?_)
      refine lv_ldc2 hx hb hown (hts _ kc_L_21) dL_stamp_14 ?_
      exact gl_lret X hr hlk hP hS hf (Nat.le_of_ble_eq_true rfl) (Nat.le_of_ble_eq_true rfl) dL_stamp_17
  · have hf := bnd_go hq hf
    have hf := ite_t hc hf
    refine lv_i2l (v := (q.2.2).toInt64) hx hb dL_stamp_6 rfl ?_
    exact gl_lret X hr hlk hP hS hf (Nat.le_of_ble_eq_true rfl) (Nat.le_of_ble_eq_true rfl) dL_stamp_7
def f_L_shelve (σ : St) (x1 : Int32) (x2 : Int32) : St × Int64 := bnd (f_X9_shelve σ x1 x2) (fun q => if q.1 = 0 then (q.2.1, (q.2.2).toInt64) else if q.1 = 2 then (q.2.1, (-4000000000000000001 : Int64)) else if q.1 = 3 then (q.2.1, (-4000000000000000002 : Int64)) else (q.2.1, (0 : Int64)))
def ok_L_shelve (σ : St) (x1 : Int32) (x2 : Int32) : Prop := (ok_X9_shelve σ x1 x2) ∧ ((f_X9_shelve σ x1 x2).1 = 0 ∨ (f_X9_shelve σ x1 x2).1 = 2 ∨ (f_X9_shelve σ x1 x2).1 = 3)
abbrev rm_L_shelve : Room := { frames := 8, cells := 1, slots := 6, locals := 145 }
set_option maxHeartbeats 4000000 in
set_option maxRecDepth 100000 in
theorem c_L_shelve (l : Launch) (hfl : l.stackTraces = false) (G : GE) (hG : Gok G) (σ : St) (x1 : Int32) (x2 : Int32) (hok : ok_L_shelve σ x1 x2) : Met l yL_shelve (wsW yL_shelve cL_shelve 4 [(0, 7, 8, 33), (0, 7, 13, 19)]) rm_L_shelve (va_Pc [.ref (G.2.1 0), .int x1, .int x2] (Wd G σ)) (va_Ql (fun r u => (u, r) = f_L_shelve σ x1 x2) (PB G) (GA G)) 1 6 (GA G) := by
  generalize hf : f_L_shelve σ x1 x2 = fv
  rw [f_L_shelve] at hf
  rw [ok_L_shelve] at hok
  obtain ⟨hs1, hk1⟩ := hok
  refine gl_start hG (by decide) (Nat.le_of_ble_eq_true rfl) ?_
  intro p e s m args below meth c X hr hlk hex ls hl H locs hP hS
  have X : Cx G p s m args c cL_shelve 4 RL := X
  obtain ⟨hx, hb, hml, hown, hts, hK, hbs, hXW, -⟩ := id X
  have hl : lv_has ls 4 [(0, .ref (G.2.1 0)), (1, .int x1), (2, .int x2)] := hl
  refine lv_aload_n hx hb dL_shelve_0 rfl (lv_at hl 0 rfl) ?_
  refine lv_iload_n hx hb dL_shelve_1 rfl (lv_at hl 1 rfl) ?_
  refine lv_iload_n hx hb dL_shelve_2 rfl (lv_at hl 2 rfl) ?_
  refine gl_cI (gx_runV (i := 0) (As := [.int x1, .int x2]) (rest := []) X (c_X9_shelve l hfl G hG σ x1 x2 hs1) ca_X9_shelve km_L_96 rfl rfl ⟨Nat.le_of_ble_eq_true rfl, Nat.le_of_ble_eq_true rfl⟩ hP hS (ty_lt ab_0) (cell_9 ab_0) rfl rfl rfl hl.1 rfl (Nat.le_of_ble_eq_true rfl) ⟨Nat.le_of_ble_eq_true rfl, Nat.le_of_ble_eq_true rfl⟩ dL_shelve_3) hS (fun q hq hc H locs hP hS ce q9 hce hcv hcl => ?_) (fun q hq hc H locs hP hS => ?_)
  · have hf := bnd_go hq hf
    have hf := ite_f hc hf
    rw [← hq] at hk1
    rcases hk1 with h1 | h1 | h1
    · exact absurd h1 hc
    · have hf := ite_t h1 hf
      have hcl : s.vm.findClass "java/lang/IndexOutOfBoundsException" = some ce.cls := by rw [h1] at hcl; exact hcl
      refine vx_catch (E := "java/lang/IndexOutOfBoundsException") (name := "java/lang/IndexOutOfBoundsException") hown [] ⟨0, 7, 8, 33⟩ [⟨0, 7, 13, 19⟩] (hex.trans rfl) (fun z hz => absurd hz List.not_mem_nil) (by decide) (by decide) (hts _ kt_L_33) (va_Nw.use rfl (hXW.2.2.2.2.2.2.2.1 "java/lang/IndexOutOfBoundsException" (by decide))) hce hcv hcl ?_
      refine lv_astore_n (lv' := [(3, .ref q9), (0, .ref (G.2.1 0)), (1, .int x1), (2, .int x2)]) hx hb dL_shelve_8 rfl hl (by decide) rfl (fun ls hl => ?_)
      refine lv_ldc2 hx hb hown (hts _ kc_L_17) dL_shelve_9 ?_
      exact gl_lret X hr hlk hP hS hf (Nat.le_of_ble_eq_true rfl) (Nat.le_of_ble_eq_true rfl) dL_shelve_12
    · have hf := ite_f (by rw [h1]; decide) hf
      have hf := ite_t h1 hf
      have hcl : s.vm.findClass "java/lang/UnsupportedOperationException" = some ce.cls := by rw [h1] at hcl; exact hcl
      refine vx_catch (E := "java/lang/UnsupportedOperationException") (name := "java/lang/UnsupportedOperationException") hown [⟨0, 7, 8, 33⟩] ⟨0, 7, 13, 19⟩ [] (hex.trans rfl) (List.forall_mem_cons.mpr ⟨Or.inr ⟨by decide, "java/lang/IndexOutOfBoundsException", hts _ kt_L_33, hXW.2.2.2.2.2.2.2.2.2.1 _ (List.mem_of_getElem? (i := 1) rfl)⟩, fun z hz => absurd hz List.not_mem_nil⟩) (by decide) (by decide) (hts _ kt_L_19) (va_Nw.use rfl (hXW.2.2.2.2.2.2.2.1 "java/lang/UnsupportedOperationException" (by decide))) hce hcv hcl ?_
      refine lv_astore_n (lv' := [(3, .ref q9), (0, .ref (G.2.1 0)), (1, .int x1), (2, .int x2)]) hx hb dL_shelve_13 rfl hl (by decide) rfl (fun ls hl => ?_)
      refine lv_ldc2 hx hb hown (hts _ kc_L_21) dL_shelve_14 ?_
      exact gl_lret X hr hlk hP hS hf (Nat.le_of_ble_eq_true rfl) (Nat.le_of_ble_eq_true rfl) dL_shelve_17
  · have hf := bnd_go hq hf
    have hf := ite_t hc hf
    refine lv_i2l (v := (q.2.2).toInt64) hx hb dL_shelve_6 rfl ?_
    exact gl_lret X hr hlk hP hS hf (Nat.le_of_ble_eq_true rfl) (Nat.le_of_ble_eq_true rfl) dL_shelve_7
def f_L_take (σ : St) (x1 : Int32) : St × Int64 := bnd (f_X9_take σ x1) (fun q => if q.1 = 0 then (q.2.1, (q.2.2).toInt64) else if q.1 = 2 then (q.2.1, (-4000000000000000001 : Int64)) else if q.1 = 3 then (q.2.1, (-4000000000000000002 : Int64)) else (q.2.1, (0 : Int64)))
def ok_L_take (σ : St) (x1 : Int32) : Prop := (ok_X9_take σ x1) ∧ ((f_X9_take σ x1).1 = 0 ∨ (f_X9_take σ x1).1 = 2 ∨ (f_X9_take σ x1).1 = 3)
abbrev rm_L_take : Room := { frames := 8, cells := 1, slots := 6, locals := 144 }
set_option maxHeartbeats 4000000 in
set_option maxRecDepth 100000 in
theorem c_L_take (l : Launch) (hfl : l.stackTraces = false) (G : GE) (hG : Gok G) (σ : St) (x1 : Int32) (hok : ok_L_take σ x1) : Met l yL_take (wsW yL_take cL_take 3 [(0, 6, 7, 33), (0, 6, 12, 19)]) rm_L_take (va_Pc [.ref (G.2.1 0), .int x1] (Wd G σ)) (va_Ql (fun r u => (u, r) = f_L_take σ x1) (PB G) (GA G)) 1 6 (GA G) := by
  generalize hf : f_L_take σ x1 = fv
  rw [f_L_take] at hf
  rw [ok_L_take] at hok
  obtain ⟨hs1, hk1⟩ := hok
  refine gl_start hG (by decide) (Nat.le_of_ble_eq_true rfl) ?_
  intro p e s m args below meth c X hr hlk hex ls hl H locs hP hS
  have X : Cx G p s m args c cL_take 3 RL := X
  obtain ⟨hx, hb, hml, hown, hts, hK, hbs, hXW, -⟩ := id X
  have hl : lv_has ls 3 [(0, .ref (G.2.1 0)), (1, .int x1)] := hl
  refine lv_aload_n hx hb dL_take_0 rfl (lv_at hl 0 rfl) ?_
  refine lv_iload_n hx hb dL_take_1 rfl (lv_at hl 1 rfl) ?_
  refine gl_cI (gx_runV (i := 0) (As := [.int x1]) (rest := []) X (c_X9_take l hfl G hG σ x1 hs1) ca_X9_take km_L_99 rfl rfl ⟨Nat.le_of_ble_eq_true rfl, Nat.le_of_ble_eq_true rfl⟩ hP hS (ty_lt ab_0) (cell_9 ab_0) rfl rfl rfl hl.1 rfl (Nat.le_of_ble_eq_true rfl) ⟨Nat.le_of_ble_eq_true rfl, Nat.le_of_ble_eq_true rfl⟩ dL_take_2) hS (fun q hq hc H locs hP hS ce q9 hce hcv hcl => ?_) (fun q hq hc H locs hP hS => ?_)
  · have hf := bnd_go hq hf
    have hf := ite_f hc hf
    rw [← hq] at hk1
    rcases hk1 with h1 | h1 | h1
    · exact absurd h1 hc
    · have hf := ite_t h1 hf
      have hcl : s.vm.findClass "java/lang/IndexOutOfBoundsException" = some ce.cls := by rw [h1] at hcl; exact hcl
      refine vx_catch (E := "java/lang/IndexOutOfBoundsException") (name := "java/lang/IndexOutOfBoundsException") hown [] ⟨0, 6, 7, 33⟩ [⟨0, 6, 12, 19⟩] (hex.trans rfl) (fun z hz => absurd hz List.not_mem_nil) (by decide) (by decide) (hts _ kt_L_33) (va_Nw.use rfl (hXW.2.2.2.2.2.2.2.1 "java/lang/IndexOutOfBoundsException" (by decide))) hce hcv hcl ?_
      refine lv_astore_n (lv' := [(2, .ref q9), (0, .ref (G.2.1 0)), (1, .int x1)]) hx hb dL_take_7 rfl hl (by decide) rfl (fun ls hl => ?_)
      refine lv_ldc2 hx hb hown (hts _ kc_L_17) dL_take_8 ?_
      exact gl_lret X hr hlk hP hS hf (Nat.le_of_ble_eq_true rfl) (Nat.le_of_ble_eq_true rfl) dL_take_11
    · have hf := ite_f (by rw [h1]; decide) hf
      have hf := ite_t h1 hf
      have hcl : s.vm.findClass "java/lang/UnsupportedOperationException" = some ce.cls := by rw [h1] at hcl; exact hcl
      refine vx_catch (E := "java/lang/UnsupportedOperationException") (name := "java/lang/UnsupportedOperationException") hown [⟨0, 6, 7, 33⟩] ⟨0, 6, 12, 19⟩ [] (hex.trans rfl) (List.forall_mem_cons.mpr ⟨Or.inr ⟨by decide, "java/lang/IndexOutOfBoundsException", hts _ kt_L_33, hXW.2.2.2.2.2.2.2.2.2.1 _ (List.mem_of_getElem? (i := 1) rfl)⟩, fun z hz => absurd hz List.not_mem_nil⟩) (by decide) (by decide) (hts _ kt_L_19) (va_Nw.use rfl (hXW.2.2.2.2.2.2.2.1 "java/lang/UnsupportedOperationException" (by decide))) hce hcv hcl ?_
      refine lv_astore_n (lv' := [(2, .ref q9), (0, .ref (G.2.1 0)), (1, .int x1)]) hx hb dL_take_12 rfl hl (by decide) rfl (fun ls hl => ?_)
      refine lv_ldc2 hx hb hown (hts _ kc_L_21) dL_take_13 ?_
      exact gl_lret X hr hlk hP hS hf (Nat.le_of_ble_eq_true rfl) (Nat.le_of_ble_eq_true rfl) dL_take_16
  · have hf := bnd_go hq hf
    have hf := ite_t hc hf
    refine lv_i2l (v := (q.2.2).toInt64) hx hb dL_take_5 rfl ?_
    exact gl_lret X hr hlk hP hS hf (Nat.le_of_ble_eq_true rfl) (Nat.le_of_ble_eq_true rfl) dL_take_6
def f_L_inHole (σ : St) (x1 : Int32) (x2 : Int32) (x3 : Int32) : St × Int64 := bnd (f_X9_inHole σ x1 x2 x3) (fun q => if q.1 = 0 then (q.2.1, (q.2.2).toInt64) else if q.1 = 2 then (q.2.1, (-4000000000000000001 : Int64)) else if q.1 = 4 then (q.2.1, (-4000000000000000002 : Int64)) else (q.2.1, (0 : Int64)))
def ok_L_inHole (σ : St) (x1 : Int32) (x2 : Int32) (x3 : Int32) : Prop := (ok_X9_inHole σ x1 x2 x3) ∧ ((f_X9_inHole σ x1 x2 x3).1 = 0 ∨ (f_X9_inHole σ x1 x2 x3).1 = 2 ∨ (f_X9_inHole σ x1 x2 x3).1 = 4)
abbrev rm_L_inHole : Room := { frames := 8, cells := 2, slots := 12, locals := 144 }
set_option maxHeartbeats 4000000 in
set_option maxRecDepth 100000 in
theorem c_L_inHole (l : Launch) (hfl : l.stackTraces = false) (G : GE) (hG : Gok G) (σ : St) (x1 : Int32) (x2 : Int32) (x3 : Int32) (hok : ok_L_inHole σ x1 x2 x3) : Met l yL_inHole (wsW yL_inHole cL_inHole 5 [(0, 8, 9, 33), (0, 8, 15, 52)]) rm_L_inHole (va_Pc [.ref (G.2.1 0), .int x1, .int x2, .int x3] (Wd G σ)) (va_Ql (fun r u => (u, r) = f_L_inHole σ x1 x2 x3) (PB G) (GA G)) 2 12 (GA G) := by
  generalize hf : f_L_inHole σ x1 x2 x3 = fv
  rw [f_L_inHole] at hf
  rw [ok_L_inHole] at hok
  obtain ⟨hs1, hk1⟩ := hok
  refine gl_start hG (by decide) (Nat.le_of_ble_eq_true rfl) ?_
  intro p e s m args below meth c X hr hlk hex ls hl H locs hP hS
  have X : Cx G p s m args c cL_inHole 5 RL := X
  obtain ⟨hx, hb, hml, hown, hts, hK, hbs, hXW, -⟩ := id X
  have hl : lv_has ls 5 [(0, .ref (G.2.1 0)), (1, .int x1), (2, .int x2), (3, .int x3)] := hl
  refine lv_aload_n hx hb dL_inHole_0 rfl (lv_at hl 0 rfl) ?_
  refine lv_iload_n hx hb dL_inHole_1 rfl (lv_at hl 1 rfl) ?_
  refine lv_iload_n hx hb dL_inHole_2 rfl (lv_at hl 2 rfl) ?_
  refine lv_iload_n hx hb dL_inHole_3 rfl (lv_at hl 3 rfl) ?_
  refine gl_cI (gx_runV (i := 0) (As := [.int x1, .int x2, .int x3]) (rest := []) X (c_X9_inHole l hfl G hG σ x1 x2 x3 hs1) ca_X9_inHole km_L_102 rfl rfl ⟨Nat.le_of_ble_eq_true rfl, Nat.le_of_ble_eq_true rfl⟩ hP hS (ty_lt ab_0) (cell_9 ab_0) rfl rfl rfl hl.1 rfl (Nat.le_of_ble_eq_true rfl) ⟨Nat.le_of_ble_eq_true rfl, Nat.le_of_ble_eq_true rfl⟩ dL_inHole_4) hS (fun q hq hc H locs hP hS ce q9 hce hcv hcl => ?_) (fun q hq hc H locs hP hS => ?_)
  · have hf := bnd_go hq hf
    have hf := ite_f hc hf
    rw [← hq] at hk1
    rcases hk1 with h1 | h1 | h1
    · exact absurd h1 hc
    · have hf := ite_t h1 hf
      have hcl : s.vm.findClass "java/lang/IndexOutOfBoundsException" = some ce.cls := by rw [h1] at hcl; exact hcl
      refine vx_catch (E := "java/lang/IndexOutOfBoundsException") (name := "java/lang/IndexOutOfBoundsException") hown [] ⟨0, 8, 9, 33⟩ [⟨0, 8, 15, 52⟩] (hex.trans rfl) (fun z hz => absurd hz List.not_mem_nil) (by decide) (by decide) (hts _ kt_L_33) (va_Nw.use rfl (hXW.2.2.2.2.2.2.2.1 "java/lang/IndexOutOfBoundsException" (by decide))) hce hcv hcl ?_
      refine lv_astore (lv' := [(4, .ref q9), (0, .ref (G.2.1 0)), (1, .int x1), (2, .int x2), (3, .int x3)]) hx hb dL_inHole_9 hl (by decide) rfl (fun ls hl => ?_)
      refine lv_ldc2 hx hb hown (hts _ kc_L_17) dL_inHole_11 ?_
      exact gl_lret X hr hlk hP hS hf (Nat.le_of_ble_eq_true rfl) (Nat.le_of_ble_eq_true rfl) dL_inHole_14
    · have hf := ite_f (by rw [h1]; decide) hf
      have hf := ite_t h1 hf
      have hcl : s.vm.findClass "java/util/NoSuchElementException" = some ce.cls := by rw [h1] at hcl; exact hcl
      refine vx_catch (E := "java/util/NoSuchElementException") (name := "java/util/NoSuchElementException") hown [⟨0, 8, 9, 33⟩] ⟨0, 8, 15, 52⟩ [] (hex.trans rfl) (List.forall_mem_cons.mpr ⟨Or.inr ⟨by decide, "java/lang/IndexOutOfBoundsException", hts _ kt_L_33, hXW.2.2.2.2.2.2.2.2.2.1 _ (List.mem_of_getElem? (i := 3) rfl)⟩, fun z hz => absurd hz List.not_mem_nil⟩) (by decide) (by decide) (hts _ kt_L_52) (va_Nw.use rfl (hXW.2.2.2.2.2.2.2.1 "java/util/NoSuchElementException" (by decide))) hce hcv hcl ?_
      refine lv_astore (lv' := [(4, .ref q9), (0, .ref (G.2.1 0)), (1, .int x1), (2, .int x2), (3, .int x3)]) hx hb dL_inHole_15 hl (by decide) rfl (fun ls hl => ?_)
      refine lv_ldc2 hx hb hown (hts _ kc_L_21) dL_inHole_17 ?_
      exact gl_lret X hr hlk hP hS hf (Nat.le_of_ble_eq_true rfl) (Nat.le_of_ble_eq_true rfl) dL_inHole_20
  · have hf := bnd_go hq hf
    have hf := ite_t hc hf
    refine lv_i2l (v := (q.2.2).toInt64) hx hb dL_inHole_7 rfl ?_
    exact gl_lret X hr hlk hP hS hf (Nat.le_of_ble_eq_true rfl) (Nat.le_of_ble_eq_true rfl) dL_inHole_8
def f_L_read (σ : St) (x1 : Int32) : St × Int64 := bnd (f_X9_read σ x1) (fun q => if q.1 = 0 then (q.2.1, (q.2.2).toInt64) else if q.1 = 2 then (q.2.1, (-4000000000000000001 : Int64)) else (q.2.1, (0 : Int64)))
def ok_L_read (σ : St) (x1 : Int32) : Prop := (ok_X9_read σ x1) ∧ ((f_X9_read σ x1).1 = 0 ∨ (f_X9_read σ x1).1 = 2)
abbrev rm_L_read : Room := { frames := 8, cells := 1, slots := 6, locals := 141 }
set_option maxHeartbeats 4000000 in
set_option maxRecDepth 100000 in
theorem c_L_read (l : Launch) (hfl : l.stackTraces = false) (G : GE) (hG : Gok G) (σ : St) (x1 : Int32) (hok : ok_L_read σ x1) : Met l yL_read (wsW yL_read cL_read 3 [(0, 6, 7, 33)]) rm_L_read (va_Pc [.ref (G.2.1 0), .int x1] (Wd G σ)) (va_Ql (fun r u => (u, r) = f_L_read σ x1) (PB G) (GA G)) 1 6 (GA G) := by
  generalize hf : f_L_read σ x1 = fv
  rw [f_L_read] at hf
  rw [ok_L_read] at hok
  obtain ⟨hs1, hk1⟩ := hok
  refine gl_start hG (by decide) (Nat.le_of_ble_eq_true rfl) ?_
  intro p e s m args below meth c X hr hlk hex ls hl H locs hP hS
  have X : Cx G p s m args c cL_read 3 RL := X
  obtain ⟨hx, hb, hml, hown, hts, hK, hbs, hXW, -⟩ := id X
  have hl : lv_has ls 3 [(0, .ref (G.2.1 0)), (1, .int x1)] := hl
  refine lv_aload_n hx hb dL_read_0 rfl (lv_at hl 0 rfl) ?_
  refine lv_iload_n hx hb dL_read_1 rfl (lv_at hl 1 rfl) ?_
  refine gl_cI (gx_runV (i := 0) (As := [.int x1]) (rest := []) X (c_X9_read l hfl G hG σ x1 hs1) ca_X9_read km_L_105 rfl rfl ⟨Nat.le_of_ble_eq_true rfl, Nat.le_of_ble_eq_true rfl⟩ hP hS (ty_lt ab_0) (cell_9 ab_0) rfl rfl rfl hl.1 rfl (Nat.le_of_ble_eq_true rfl) ⟨Nat.le_of_ble_eq_true rfl, Nat.le_of_ble_eq_true rfl⟩ dL_read_2) hS (fun q hq hc H locs hP hS ce q9 hce hcv hcl => ?_) (fun q hq hc H locs hP hS => ?_)
  · have hf := bnd_go hq hf
    have hf := ite_f hc hf
    rw [← hq] at hk1
    rcases hk1 with h1 | h1
    · exact absurd h1 hc
    · have hf := ite_t h1 hf
      have hcl : s.vm.findClass "java/lang/IndexOutOfBoundsException" = some ce.cls := by rw [h1] at hcl; exact hcl
      refine vx_catch (E := "java/lang/IndexOutOfBoundsException") (name := "java/lang/IndexOutOfBoundsException") hown [] ⟨0, 6, 7, 33⟩ [] (hex.trans rfl) (fun z hz => absurd hz List.not_mem_nil) (by decide) (by decide) (hts _ kt_L_33) (va_Nw.use rfl (hXW.2.2.2.2.2.2.2.1 "java/lang/IndexOutOfBoundsException" (by decide))) hce hcv hcl ?_
      refine lv_astore_n (lv' := [(2, .ref q9), (0, .ref (G.2.1 0)), (1, .int x1)]) hx hb dL_read_7 rfl hl (by decide) rfl (fun ls hl => ?_)
      refine lv_ldc2 hx hb hown (hts _ kc_L_17) dL_read_8 ?_
      exact gl_lret X hr hlk hP hS hf (Nat.le_of_ble_eq_true rfl) (Nat.le_of_ble_eq_true rfl) dL_read_11
  · have hf := bnd_go hq hf
    have hf := ite_t hc hf
    refine lv_i2l (v := (q.2.2).toInt64) hx hb dL_read_5 rfl ?_
    exact gl_lret X hr hlk hP hS hf (Nat.le_of_ble_eq_true rfl) (Nat.le_of_ble_eq_true rfl) dL_read_6
def f_L_snacks (σ : St) (x1 : Int32) : St × Int64 := bnd (f_X9_snacks σ x1) (fun q => if q.1 = 0 then (q.2.1, (q.2.2).toInt64) else if q.1 = 1 then (q.2.1, (-4000000000000000001 : Int64)) else (q.2.1, (0 : Int64)))
def ok_L_snacks (σ : St) (x1 : Int32) : Prop := (ok_X9_snacks σ x1) ∧ ((f_X9_snacks σ x1).1 = 0 ∨ (f_X9_snacks σ x1).1 = 1)
abbrev rm_L_snacks : Room := { frames := 8, cells := 1, slots := 6, locals := 144 }
set_option maxHeartbeats 4000000 in
set_option maxRecDepth 100000 in
theorem c_L_snacks (l : Launch) (hfl : l.stackTraces = false) (G : GE) (hG : Gok G) (σ : St) (x1 : Int32) (hok : ok_L_snacks σ x1) : Met l yL_snacks (wsW yL_snacks cL_snacks 3 [(0, 6, 7, 13)]) rm_L_snacks (va_Pc [.ref (G.2.1 0), .int x1] (Wd G σ)) (va_Ql (fun r u => (u, r) = f_L_snacks σ x1) (PB G) (GA G)) 1 6 (GA G) := by
  generalize hf : f_L_snacks σ x1 = fv
  rw [f_L_snacks] at hf
  rw [ok_L_snacks] at hok
  obtain ⟨hs1, hk1⟩ := hok
  refine gl_start hG (by decide) (Nat.le_of_ble_eq_true rfl) ?_
  intro p e s m args below meth c X hr hlk hex ls hl H locs hP hS
  have X : Cx G p s m args c cL_snacks 3 RL := X
  obtain ⟨hx, hb, hml, hown, hts, hK, hbs, hXW, -⟩ := id X
  have hl : lv_has ls 3 [(0, .ref (G.2.1 0)), (1, .int x1)] := hl
  refine lv_aload_n hx hb dL_snacks_0 rfl (lv_at hl 0 rfl) ?_
  refine lv_iload_n hx hb dL_snacks_1 rfl (lv_at hl 1 rfl) ?_
  refine gl_cI (gx_runV (i := 0) (As := [.int x1]) (rest := []) X (c_X9_snacks l hfl G hG σ x1 hs1) ca_X9_snacks km_L_108 rfl rfl ⟨Nat.le_of_ble_eq_true rfl, Nat.le_of_ble_eq_true rfl⟩ hP hS (ty_lt ab_0) (cell_9 ab_0) rfl rfl rfl hl.1 rfl (Nat.le_of_ble_eq_true rfl) ⟨Nat.le_of_ble_eq_true rfl, Nat.le_of_ble_eq_true rfl⟩ dL_snacks_2) hS (fun q hq hc H locs hP hS ce q9 hce hcv hcl => ?_) (fun q hq hc H locs hP hS => ?_)
  · have hf := bnd_go hq hf
    have hf := ite_f hc hf
    rw [← hq] at hk1
    rcases hk1 with h1 | h1
    · exact absurd h1 hc
    · have hf := ite_t h1 hf
      have hcl : s.vm.findClass "java/lang/IllegalArgumentException" = some ce.cls := by rw [h1] at hcl; exact hcl
      refine vx_catch (E := "java/lang/IllegalArgumentException") (name := "java/lang/IllegalArgumentException") hown [] ⟨0, 6, 7, 13⟩ [] (hex.trans rfl) (fun z hz => absurd hz List.not_mem_nil) (by decide) (by decide) (hts _ kt_L_13) (va_Nw.use rfl (hXW.2.2.2.2.2.2.2.1 "java/lang/IllegalArgumentException" (by decide))) hce hcv hcl ?_
      refine lv_astore_n (lv' := [(2, .ref q9), (0, .ref (G.2.1 0)), (1, .int x1)]) hx hb dL_snacks_7 rfl hl (by decide) rfl (fun ls hl => ?_)
      refine lv_ldc2 hx hb hown (hts _ kc_L_17) dL_snacks_8 ?_
      exact gl_lret X hr hlk hP hS hf (Nat.le_of_ble_eq_true rfl) (Nat.le_of_ble_eq_true rfl) dL_snacks_11
  · have hf := bnd_go hq hf
    have hf := ite_t hc hf
    refine lv_i2l (v := (q.2.2).toInt64) hx hb dL_snacks_5 rfl ?_
    exact gl_lret X hr hlk hP hS hf (Nat.le_of_ble_eq_true rfl) (Nat.le_of_ble_eq_true rfl) dL_snacks_6
def f_L_feed (σ : St) (x1 : Int32) : St × Int64 := bnd (f_X9_feed σ x1) (fun q => if q.1 = 0 then (q.2.1, (q.2.2).toInt64) else if q.1 = 1 then (q.2.1, (-4000000000000000001 : Int64)) else if q.1 = 3 then (q.2.1, (-4000000000000000002 : Int64)) else (q.2.1, (0 : Int64)))
def ok_L_feed (σ : St) (x1 : Int32) : Prop := (ok_X9_feed σ x1) ∧ ((f_X9_feed σ x1).1 = 0 ∨ (f_X9_feed σ x1).1 = 1 ∨ (f_X9_feed σ x1).1 = 3)
abbrev rm_L_feed : Room := { frames := 8, cells := 1, slots := 6, locals := 144 }
set_option maxHeartbeats 4000000 in
set_option maxRecDepth 100000 in
theorem c_L_feed (l : Launch) (hfl : l.stackTraces = false) (G : GE) (hG : Gok G) (σ : St) (x1 : Int32) (hok : ok_L_feed σ x1) : Met l yL_feed (wsW yL_feed cL_feed 3 [(0, 6, 7, 13), (0, 6, 12, 19)]) rm_L_feed (va_Pc [.ref (G.2.1 0), .int x1] (Wd G σ)) (va_Ql (fun r u => (u, r) = f_L_feed σ x1) (PB G) (GA G)) 1 6 (GA G) := by
  generalize hf : f_L_feed σ x1 = fv
  rw [f_L_feed] at hf
  rw [ok_L_feed] at hok
  obtain ⟨hs1, hk1⟩ := hok
  refine gl_start hG (by decide) (Nat.le_of_ble_eq_true rfl) ?_
  intro p e s m args below meth c X hr hlk hex ls hl H locs hP hS
  have X : Cx G p s m args c cL_feed 3 RL := X
  obtain ⟨hx, hb, hml, hown, hts, hK, hbs, hXW, -⟩ := id X
  have hl : lv_has ls 3 [(0, .ref (G.2.1 0)), (1, .int x1)] := hl
  refine lv_aload_n hx hb dL_feed_0 rfl (lv_at hl 0 rfl) ?_
  refine lv_iload_n hx hb dL_feed_1 rfl (lv_at hl 1 rfl) ?_
  refine gl_cI (gx_runV (i := 0) (As := [.int x1]) (rest := []) X (c_X9_feed l hfl G hG σ x1 hs1) ca_X9_feed km_L_111 rfl rfl ⟨Nat.le_of_ble_eq_true rfl, Nat.le_of_ble_eq_true rfl⟩ hP hS (ty_lt ab_0) (cell_9 ab_0) rfl rfl rfl hl.1 rfl (Nat.le_of_ble_eq_true rfl) ⟨Nat.le_of_ble_eq_true rfl, Nat.le_of_ble_eq_true rfl⟩ dL_feed_2) hS (fun q hq hc H locs hP hS ce q9 hce hcv hcl => ?_) (fun q hq hc H locs hP hS => ?_)
  · have hf := bnd_go hq hf
    have hf := ite_f hc hf
    rw [← hq] at hk1
    rcases hk1 with h1 | h1 | h1
    · exact absurd h1 hc
    · have hf := ite_t h1 hf
      have hcl : s.vm.findClass "java/lang/IllegalArgumentException" = some ce.cls := by rw [h1] at hcl; exact hcl
      refine vx_catch (E := "java/lang/IllegalArgumentException") (name := "java/lang/IllegalArgumentException") hown [] ⟨0, 6, 7, 13⟩ [⟨0, 6, 12, 19⟩] (hex.trans rfl) (fun z hz => absurd hz List.not_mem_nil) (by decide) (by decide) (hts _ kt_L_13) (va_Nw.use rfl (hXW.2.2.2.2.2.2.2.1 "java/lang/IllegalArgumentException" (by decide))) hce hcv hcl ?_
      refine lv_astore_n (lv' := [(2, .ref q9), (0, .ref (G.2.1 0)), (1, .int x1)]) hx hb dL_feed_7 rfl hl (by decide) rfl (fun ls hl => ?_)
      refine lv_ldc2 hx hb hown (hts _ kc_L_17) dL_feed_8 ?_
      exact gl_lret X hr hlk hP hS hf (Nat.le_of_ble_eq_true rfl) (Nat.le_of_ble_eq_true rfl) dL_feed_11
    · have hf := ite_f (by rw [h1]; decide) hf
      have hf := ite_t h1 hf
      have hcl : s.vm.findClass "java/lang/UnsupportedOperationException" = some ce.cls := by rw [h1] at hcl; exact hcl
      refine vx_catch (E := "java/lang/UnsupportedOperationException") (name := "java/lang/UnsupportedOperationException") hown [⟨0, 6, 7, 13⟩] ⟨0, 6, 12, 19⟩ [] (hex.trans rfl) (List.forall_mem_cons.mpr ⟨Or.inr ⟨by decide, "java/lang/IllegalArgumentException", hts _ kt_L_13, hXW.2.2.2.2.2.2.2.2.2.1 _ (List.mem_of_getElem? (i := 2) rfl)⟩, fun z hz => absurd hz List.not_mem_nil⟩) (by decide) (by decide) (hts _ kt_L_19) (va_Nw.use rfl (hXW.2.2.2.2.2.2.2.1 "java/lang/UnsupportedOperationException" (by decide))) hce hcv hcl ?_
      refine lv_astore_n (lv' := [(2, .ref q9), (0, .ref (G.2.1 0)), (1, .int x1)]) hx hb dL_feed_12 rfl hl (by decide) rfl (fun ls hl => ?_)
      refine lv_ldc2 hx hb hown (hts _ kc_L_21) dL_feed_13 ?_
      exact gl_lret X hr hlk hP hS hf (Nat.le_of_ble_eq_true rfl) (Nat.le_of_ble_eq_true rfl) dL_feed_16
  · have hf := bnd_go hq hf
    have hf := ite_t hc hf
    refine lv_i2l (v := (q.2.2).toInt64) hx hb dL_feed_5 rfl ?_
    exact gl_lret X hr hlk hP hS hf (Nat.le_of_ble_eq_true rfl) (Nat.le_of_ble_eq_true rfl) dL_feed_6
def f_L_prey (σ : St) : St × Int64 := bnd (f_X9_prey σ) (fun q => if q.1 = 0 then (q.2.1, (q.2.2).toInt64) else if q.1 = 4 then (q.2.1, (-4000000000000000001 : Int64)) else (q.2.1, (0 : Int64)))
def ok_L_prey (σ : St) : Prop := (ok_X9_prey σ) ∧ ((f_X9_prey σ).1 = 0 ∨ (f_X9_prey σ).1 = 4)
abbrev rm_L_prey : Room := { frames := 8, cells := 1, slots := 6, locals := 141 }
set_option maxHeartbeats 4000000 in
set_option maxRecDepth 100000 in
theorem c_L_prey (l : Launch) (hfl : l.stackTraces = false) (G : GE) (hG : Gok G) (σ : St) (hok : ok_L_prey σ) : Met l yL_prey (wsW yL_prey cL_prey 2 [(0, 5, 6, 52)]) rm_L_prey (va_Pc [.ref (G.2.1 0)] (Wd G σ)) (va_Ql (fun r u => (u, r) = f_L_prey σ) (PB G) (GA G)) 1 6 (GA G) := by
  generalize hf : f_L_prey σ = fv
  rw [f_L_prey] at hf
  rw [ok_L_prey] at hok
  obtain ⟨hs1, hk1⟩ := hok
  refine gl_start hG (by decide) (Nat.le_of_ble_eq_true rfl) ?_
  intro p e s m args below meth c X hr hlk hex ls hl H locs hP hS
  have X : Cx G p s m args c cL_prey 2 RL := X
  obtain ⟨hx, hb, hml, hown, hts, hK, hbs, hXW, -⟩ := id X
  have hl : lv_has ls 2 [(0, .ref (G.2.1 0))] := hl
  refine lv_aload_n hx hb dL_prey_0 rfl (lv_at hl 0 rfl) ?_
  refine gl_cI (gx_runV (i := 0) (As := []) (rest := []) X (c_X9_prey l hfl G hG σ hs1) ca_X9_prey km_L_117 rfl rfl ⟨Nat.le_of_ble_eq_true rfl, Nat.le_of_ble_eq_true rfl⟩ hP hS (ty_lt ab_0) (cell_9 ab_0) rfl rfl rfl hl.1 rfl (Nat.le_of_ble_eq_true rfl) ⟨Nat.le_of_ble_eq_true rfl, Nat.le_of_ble_eq_true rfl⟩ dL_prey_1) hS (fun q hq hc H locs hP hS ce q9 hce hcv hcl => ?_) (fun q hq hc H locs hP hS => ?_)
  · have hf := bnd_go hq hf
    have hf := ite_f hc hf
    rw [← hq] at hk1
    rcases hk1 with h1 | h1
    · exact absurd h1 hc
    · have hf := ite_t h1 hf
      have hcl : s.vm.findClass "java/util/NoSuchElementException" = some ce.cls := by rw [h1] at hcl; exact hcl
      refine vx_catch (E := "java/util/NoSuchElementException") (name := "java/util/NoSuchElementException") hown [] ⟨0, 5, 6, 52⟩ [] (hex.trans rfl) (fun z hz => absurd hz List.not_mem_nil) (by decide) (by decide) (hts _ kt_L_52) (va_Nw.use rfl (hXW.2.2.2.2.2.2.2.1 "java/util/NoSuchElementException" (by decide))) hce hcv hcl ?_
      refine lv_astore_n (lv' := [(1, .ref q9), (0, .ref (G.2.1 0))]) hx hb dL_prey_6 rfl hl (by decide) rfl (fun ls hl => ?_)
      refine lv_ldc2 hx hb hown (hts _ kc_L_17) dL_prey_7 ?_
      exact gl_lret X hr hlk hP hS hf (Nat.le_of_ble_eq_true rfl) (Nat.le_of_ble_eq_true rfl) dL_prey_10
  · have hf := bnd_go hq hf
    have hf := ite_t hc hf
    refine lv_i2l (v := (q.2.2).toInt64) hx hb dL_prey_4 rfl ?_
    exact gl_lret X hr hlk hP hS hf (Nat.le_of_ble_eq_true rfl) (Nat.le_of_ble_eq_true rfl) dL_prey_5
def f_L_eatsIn (σ : St) : St × Int64 := bnd (f_X9_eatsIn σ) (fun q => if q.1 = 0 then (q.2.1, (q.2.2).toInt64) else if q.1 = 4 then (q.2.1, (-4000000000000000001 : Int64)) else (q.2.1, (0 : Int64)))
def ok_L_eatsIn (σ : St) : Prop := (ok_X9_eatsIn σ) ∧ ((f_X9_eatsIn σ).1 = 0 ∨ (f_X9_eatsIn σ).1 = 4)
abbrev rm_L_eatsIn : Room := { frames := 8, cells := 1, slots := 6, locals := 142 }
set_option maxHeartbeats 4000000 in
set_option maxRecDepth 100000 in
theorem c_L_eatsIn (l : Launch) (hfl : l.stackTraces = false) (G : GE) (hG : Gok G) (σ : St) (hok : ok_L_eatsIn σ) : Met l yL_eatsIn (wsW yL_eatsIn cL_eatsIn 2 [(0, 5, 6, 52)]) rm_L_eatsIn (va_Pc [.ref (G.2.1 0)] (Wd G σ)) (va_Ql (fun r u => (u, r) = f_L_eatsIn σ) (PB G) (GA G)) 1 6 (GA G) := by
  generalize hf : f_L_eatsIn σ = fv
  rw [f_L_eatsIn] at hf
  rw [ok_L_eatsIn] at hok
  obtain ⟨hs1, hk1⟩ := hok
  refine gl_start hG (by decide) (Nat.le_of_ble_eq_true rfl) ?_
  intro p e s m args below meth c X hr hlk hex ls hl H locs hP hS
  have X : Cx G p s m args c cL_eatsIn 2 RL := X
  obtain ⟨hx, hb, hml, hown, hts, hK, hbs, hXW, -⟩ := id X
  have hl : lv_has ls 2 [(0, .ref (G.2.1 0))] := hl
  refine lv_aload_n hx hb dL_eatsIn_0 rfl (lv_at hl 0 rfl) ?_
  refine gl_cI (gx_runV (i := 0) (As := []) (rest := []) X (c_X9_eatsIn l hfl G hG σ hs1) ca_X9_eatsIn km_L_120 rfl rfl ⟨Nat.le_of_ble_eq_true rfl, Nat.le_of_ble_eq_true rfl⟩ hP hS (ty_lt ab_0) (cell_9 ab_0) rfl rfl rfl hl.1 rfl (Nat.le_of_ble_eq_true rfl) ⟨Nat.le_of_ble_eq_true rfl, Nat.le_of_ble_eq_true rfl⟩ dL_eatsIn_1) hS (fun q hq hc H locs hP hS ce q9 hce hcv hcl => ?_) (fun q hq hc H locs hP hS => ?_)
  · have hf := bnd_go hq hf
    have hf := ite_f hc hf
    rw [← hq] at hk1
    rcases hk1 with h1 | h1
    · exact absurd h1 hc
    · have hf := ite_t h1 hf
      have hcl : s.vm.findClass "java/util/NoSuchElementException" = some ce.cls := by rw [h1] at hcl; exact hcl
      refine vx_catch (E := "java/util/NoSuchElementException") (name := "java/util/NoSuchElementException") hown [] ⟨0, 5, 6, 52⟩ [] (hex.trans rfl) (fun z hz => absurd hz List.not_mem_nil) (by decide) (by decide) (hts _ kt_L_52) (va_Nw.use rfl (hXW.2.2.2.2.2.2.2.1 "java/util/NoSuchElementException" (by decide))) hce hcv hcl ?_
      refine lv_astore_n (lv' := [(1, .ref q9), (0, .ref (G.2.1 0))]) hx hb dL_eatsIn_6 rfl hl (by decide) rfl (fun ls hl => ?_)
      refine lv_ldc2 hx hb hown (hts _ kc_L_17) dL_eatsIn_7 ?_
      exact gl_lret X hr hlk hP hS hf (Nat.le_of_ble_eq_true rfl) (Nat.le_of_ble_eq_true rfl) dL_eatsIn_10
  · have hf := bnd_go hq hf
    have hf := ite_t hc hf
    refine lv_i2l (v := (q.2.2).toInt64) hx hb dL_eatsIn_4 rfl ?_
    exact gl_lret X hr hlk hP hS hf (Nat.le_of_ble_eq_true rfl) (Nat.le_of_ble_eq_true rfl) dL_eatsIn_5
def f_L_pass (σ : St) (x1 : Int32) : St × Int64 := bnd (f_X9_pass σ x1) (fun q => if q.1 = 0 then (q.2.1, (q.2.2).toInt64) else if q.1 = 1 then (q.2.1, (-4000000000000000001 : Int64)) else (q.2.1, (0 : Int64)))
def ok_L_pass (σ : St) (x1 : Int32) : Prop := (ok_X9_pass σ x1) ∧ ((f_X9_pass σ x1).1 = 0 ∨ (f_X9_pass σ x1).1 = 1)
abbrev rm_L_pass : Room := { frames := 8, cells := 1, slots := 6, locals := 144 }
set_option maxHeartbeats 4000000 in
set_option maxRecDepth 100000 in
theorem c_L_pass (l : Launch) (hfl : l.stackTraces = false) (G : GE) (hG : Gok G) (σ : St) (x1 : Int32) (hok : ok_L_pass σ x1) : Met l yL_pass (wsW yL_pass cL_pass 3 [(0, 6, 7, 13)]) rm_L_pass (va_Pc [.ref (G.2.1 0), .int x1] (Wd G σ)) (va_Ql (fun r u => (u, r) = f_L_pass σ x1) (PB G) (GA G)) 1 6 (GA G) := by
  generalize hf : f_L_pass σ x1 = fv
  rw [f_L_pass] at hf
  rw [ok_L_pass] at hok
  obtain ⟨hs1, hk1⟩ := hok
  refine gl_start hG (by decide) (Nat.le_of_ble_eq_true rfl) ?_
  intro p e s m args below meth c X hr hlk hex ls hl H locs hP hS
  have X : Cx G p s m args c cL_pass 3 RL := X
  obtain ⟨hx, hb, hml, hown, hts, hK, hbs, hXW, -⟩ := id X
  have hl : lv_has ls 3 [(0, .ref (G.2.1 0)), (1, .int x1)] := hl
  refine lv_aload_n hx hb dL_pass_0 rfl (lv_at hl 0 rfl) ?_
  refine lv_iload_n hx hb dL_pass_1 rfl (lv_at hl 1 rfl) ?_
  refine gl_cI (gx_runV (i := 0) (As := [.int x1]) (rest := []) X (c_X9_pass l hfl G hG σ x1 hs1) ca_X9_pass km_L_123 rfl rfl ⟨Nat.le_of_ble_eq_true rfl, Nat.le_of_ble_eq_true rfl⟩ hP hS (ty_lt ab_0) (cell_9 ab_0) rfl rfl rfl hl.1 rfl (Nat.le_of_ble_eq_true rfl) ⟨Nat.le_of_ble_eq_true rfl, Nat.le_of_ble_eq_true rfl⟩ dL_pass_2) hS (fun q hq hc H locs hP hS ce q9 hce hcv hcl => ?_) (fun q hq hc H locs hP hS => ?_)
  · have hf := bnd_go hq hf
    have hf := ite_f hc hf
    rw [← hq] at hk1
    rcases hk1 with h1 | h1
    · exact absurd h1 hc
    · have hf := ite_t h1 hf
      have hcl : s.vm.findClass "java/lang/IllegalArgumentException" = some ce.cls := by rw [h1] at hcl; exact hcl
      refine vx_catch (E := "java/lang/IllegalArgumentException") (name := "java/lang/IllegalArgumentException") hown [] ⟨0, 6, 7, 13⟩ [] (hex.trans rfl) (fun z hz => absurd hz List.not_mem_nil) (by decide) (by decide) (hts _ kt_L_13) (va_Nw.use rfl (hXW.2.2.2.2.2.2.2.1 "java/lang/IllegalArgumentException" (by decide))) hce hcv hcl ?_
      refine lv_astore_n (lv' := [(2, .ref q9), (0, .ref (G.2.1 0)), (1, .int x1)]) hx hb dL_pass_7 rfl hl (by decide) rfl (fun ls hl => ?_)
      refine lv_ldc2 hx hb hown (hts _ kc_L_17) dL_pass_8 ?_
      exact gl_lret X hr hlk hP hS hf (Nat.le_of_ble_eq_true rfl) (Nat.le_of_ble_eq_true rfl) dL_pass_11
  · have hf := bnd_go hq hf
    have hf := ite_t hc hf
    refine lv_i2l (v := (q.2.2).toInt64) hx hb dL_pass_5 rfl ?_
    exact gl_lret X hr hlk hP hS hf (Nat.le_of_ble_eq_true rfl) (Nat.le_of_ble_eq_true rfl) dL_pass_6
def f_L_run (σ : St) : St × Int64 := bnd (f_X9_run σ) (fun q => if q.1 = 0 then (q.2.1, (q.2.2).toInt64) else if q.1 = 1 then (q.2.1, (-4000000000000000001 : Int64)) else if q.1 = 3 then (q.2.1, (-4000000000000000002 : Int64)) else (q.2.1, (0 : Int64)))
def ok_L_run (σ : St) : Prop := (ok_X9_run σ) ∧ ((f_X9_run σ).1 = 0 ∨ (f_X9_run σ).1 = 1 ∨ (f_X9_run σ).1 = 3)
abbrev rm_L_run : Room := { frames := 9, cells := 2, slots := 12, locals := 191 }
set_option maxHeartbeats 4000000 in
set_option maxRecDepth 100000 in
theorem c_L_run (l : Launch) (hfl : l.stackTraces = false) (G : GE) (hG : Gok G) (σ : St) (hok : ok_L_run σ) : Met l yL_run (wsW yL_run cL_run 2 [(0, 5, 6, 13), (0, 5, 11, 19)]) rm_L_run (va_Pc [.ref (G.2.1 0)] (Wd G σ)) (va_Ql (fun r u => (u, r) = f_L_run σ) (PB G) (GA G)) 2 12 (GA G) := by
  generalize hf : f_L_run σ = fv
  rw [f_L_run] at hf
  rw [ok_L_run] at hok
  obtain ⟨hs1, hk1⟩ := hok
  refine gl_start hG (by decide) (Nat.le_of_ble_eq_true rfl) ?_
  intro p e s m args below meth c X hr hlk hex ls hl H locs hP hS
  have X : Cx G p s m args c cL_run 2 RL := X
  obtain ⟨hx, hb, hml, hown, hts, hK, hbs, hXW, -⟩ := id X
  have hl : lv_has ls 2 [(0, .ref (G.2.1 0))] := hl
  refine lv_aload_n hx hb dL_run_0 rfl (lv_at hl 0 rfl) ?_
  refine gl_cI (gx_runV (i := 0) (As := []) (rest := []) X (c_X9_run l hfl G hG σ hs1) ca_X9_run km_L_136 rfl rfl ⟨Nat.le_of_ble_eq_true rfl, Nat.le_of_ble_eq_true rfl⟩ hP hS (ty_lt ab_0) (cell_9 ab_0) rfl rfl rfl hl.1 rfl (Nat.le_of_ble_eq_true rfl) ⟨Nat.le_of_ble_eq_true rfl, Nat.le_of_ble_eq_true rfl⟩ dL_run_1) hS (fun q hq hc H locs hP hS ce q9 hce hcv hcl => ?_) (fun q hq hc H locs hP hS => ?_)
  · have hf := bnd_go hq hf
    have hf := ite_f hc hf
    rw [← hq] at hk1
    rcases hk1 with h1 | h1 | h1
    · exact absurd h1 hc
    · have hf := ite_t h1 hf
      have hcl : s.vm.findClass "java/lang/IllegalArgumentException" = some ce.cls := by rw [h1] at hcl; exact hcl
      refine vx_catch (E := "java/lang/IllegalArgumentException") (name := "java/lang/IllegalArgumentException") hown [] ⟨0, 5, 6, 13⟩ [⟨0, 5, 11, 19⟩] (hex.trans rfl) (fun z hz => absurd hz List.not_mem_nil) (by decide) (by decide) (hts _ kt_L_13) (va_Nw.use rfl (hXW.2.2.2.2.2.2.2.1 "java/lang/IllegalArgumentException" (by decide))) hce hcv hcl ?_
      refine lv_astore_n (lv' := [(1, .ref q9), (0, .ref (G.2.1 0))]) hx hb dL_run_6 rfl hl (by decide) rfl (fun ls hl => ?_)
      refine lv_ldc2 hx hb hown (hts _ kc_L_17) dL_run_7 ?_
      exact gl_lret X hr hlk hP hS hf (Nat.le_of_ble_eq_true rfl) (Nat.le_of_ble_eq_true rfl) dL_run_10
    · have hf := ite_f (by rw [h1]; decide) hf
      have hf := ite_t h1 hf
      have hcl : s.vm.findClass "java/lang/UnsupportedOperationException" = some ce.cls := by rw [h1] at hcl; exact hcl
      refine vx_catch (E := "java/lang/UnsupportedOperationException") (name := "java/lang/UnsupportedOperationException") hown [⟨0, 5, 6, 13⟩] ⟨0, 5, 11, 19⟩ [] (hex.trans rfl) (List.forall_mem_cons.mpr ⟨Or.inr ⟨by decide, "java/lang/IllegalArgumentException", hts _ kt_L_13, hXW.2.2.2.2.2.2.2.2.2.1 _ (List.mem_of_getElem? (i := 2) rfl)⟩, fun z hz => absurd hz List.not_mem_nil⟩) (by decide) (by decide) (hts _ kt_L_19) (va_Nw.use rfl (hXW.2.2.2.2.2.2.2.1 "java/lang/UnsupportedOperationException" (by decide))) hce hcv hcl ?_
      refine lv_astore_n (lv' := [(1, .ref q9), (0, .ref (G.2.1 0))]) hx hb dL_run_11 rfl hl (by decide) rfl (fun ls hl => ?_)
      refine lv_ldc2 hx hb hown (hts _ kc_L_21) dL_run_12 ?_
      exact gl_lret X hr hlk hP hS hf (Nat.le_of_ble_eq_true rfl) (Nat.le_of_ble_eq_true rfl) dL_run_15
  · have hf := bnd_go hq hf
    have hf := ite_t hc hf
    refine lv_i2l (v := (q.2.2).toInt64) hx hb dL_run_4 rfl ?_
    exact gl_lret X hr hlk hP hS hf (Nat.le_of_ble_eq_true rfl) (Nat.le_of_ble_eq_true rfl) dL_run_5
def f_L_account (σ : St) (x1 : Int32) : St × Int64 := bnd (f_X9_account σ x1) (fun q => if q.1 = 0 then (q.2.1, (q.2.2).toInt64) else if q.1 = 1 then (q.2.1, (-4000000000000000001 : Int64)) else (q.2.1, (0 : Int64)))
def ok_L_account (σ : St) (x1 : Int32) : Prop := (ok_X9_account σ x1) ∧ ((f_X9_account σ x1).1 = 0 ∨ (f_X9_account σ x1).1 = 1)
abbrev rm_L_account : Room := { frames := 7, cells := 1, slots := 6, locals := 121 }
set_option maxHeartbeats 4000000 in
set_option maxRecDepth 100000 in
theorem c_L_account (l : Launch) (hfl : l.stackTraces = false) (G : GE) (hG : Gok G) (σ : St) (x1 : Int32) (hok : ok_L_account σ x1) : Met l yL_account (wsW yL_account cL_account 3 [(0, 6, 7, 13)]) rm_L_account (va_Pc [.ref (G.2.1 0), .int x1] (Wd G σ)) (va_Ql (fun r u => (u, r) = f_L_account σ x1) (PB G) (GA G)) 1 6 (GA G) := by
  generalize hf : f_L_account σ x1 = fv
  rw [f_L_account] at hf
  rw [ok_L_account] at hok
  obtain ⟨hs1, hk1⟩ := hok
  refine gl_start hG (by decide) (Nat.le_of_ble_eq_true rfl) ?_
  intro p e s m args below meth c X hr hlk hex ls hl H locs hP hS
  have X : Cx G p s m args c cL_account 3 RL := X
  obtain ⟨hx, hb, hml, hown, hts, hK, hbs, hXW, -⟩ := id X
  have hl : lv_has ls 3 [(0, .ref (G.2.1 0)), (1, .int x1)] := hl
  refine lv_aload_n hx hb dL_account_0 rfl (lv_at hl 0 rfl) ?_
  refine lv_iload_n hx hb dL_account_1 rfl (lv_at hl 1 rfl) ?_
  refine gl_cI (gx_runV (i := 0) (As := [.int x1]) (rest := []) X (c_X9_account l hfl G hG σ x1 hs1) ca_X9_account km_L_146 rfl rfl ⟨Nat.le_of_ble_eq_true rfl, Nat.le_of_ble_eq_true rfl⟩ hP hS (ty_lt ab_0) (cell_9 ab_0) rfl rfl rfl hl.1 rfl (Nat.le_of_ble_eq_true rfl) ⟨Nat.le_of_ble_eq_true rfl, Nat.le_of_ble_eq_true rfl⟩ dL_account_2) hS (fun q hq hc H locs hP hS ce q9 hce hcv hcl => ?_) (fun q hq hc H locs hP hS => ?_)
  · have hf := bnd_go hq hf
    have hf := ite_f hc hf
    rw [← hq] at hk1
    rcases hk1 with h1 | h1
    · exact absurd h1 hc
    · have hf := ite_t h1 hf
      have hcl : s.vm.findClass "java/lang/IllegalArgumentException" = some ce.cls := by rw [h1] at hcl; exact hcl
      refine vx_catch (E := "java/lang/IllegalArgumentException") (name := "java/lang/IllegalArgumentException") hown [] ⟨0, 6, 7, 13⟩ [] (hex.trans rfl) (fun z hz => absurd hz List.not_mem_nil) (by decide) (by decide) (hts _ kt_L_13) (va_Nw.use rfl (hXW.2.2.2.2.2.2.2.1 "java/lang/IllegalArgumentException" (by decide))) hce hcv hcl ?_
      refine lv_astore_n (lv' := [(2, .ref q9), (0, .ref (G.2.1 0)), (1, .int x1)]) hx hb dL_account_7 rfl hl (by decide) rfl (fun ls hl => ?_)
      refine lv_ldc2 hx hb hown (hts _ kc_L_17) dL_account_8 ?_
      exact gl_lret X hr hlk hP hS hf (Nat.le_of_ble_eq_true rfl) (Nat.le_of_ble_eq_true rfl) dL_account_11
  · have hf := bnd_go hq hf
    have hf := ite_t hc hf
    refine lv_i2l (v := (q.2.2).toInt64) hx hb dL_account_5 rfl ?_
    exact gl_lret X hr hlk hP hS hf (Nat.le_of_ble_eq_true rfl) (Nat.le_of_ble_eq_true rfl) dL_account_6
def f_L_undo (σ : St) : St × Int64 := bnd (f_X9_undo σ) (fun q => if q.1 = 0 then (q.2.1, (q.2.2).toInt64) else if q.1 = 5 then (q.2.1, (-4000000000000000001 : Int64)) else (q.2.1, (0 : Int64)))
def ok_L_undo (σ : St) : Prop := (ok_X9_undo σ) ∧ ((f_X9_undo σ).1 = 0 ∨ (f_X9_undo σ).1 = 5)
abbrev rm_L_undo : Room := { frames := 7, cells := 1, slots := 6, locals := 143 }
set_option maxHeartbeats 4000000 in
set_option maxRecDepth 100000 in
theorem c_L_undo (l : Launch) (hfl : l.stackTraces = false) (G : GE) (hG : Gok G) (σ : St) (hok : ok_L_undo σ) : Met l yL_undo (wsW yL_undo cL_undo 2 [(0, 5, 6, 134)]) rm_L_undo (va_Pc [.ref (G.2.1 0)] (Wd G σ)) (va_Ql (fun r u => (u, r) = f_L_undo σ) (PB G) (GA G)) 1 6 (GA G) := by
  generalize hf : f_L_undo σ = fv
  rw [f_L_undo] at hf
  rw [ok_L_undo] at hok
  obtain ⟨hs1, hk1⟩ := hok
  refine gl_start hG (by decide) (Nat.le_of_ble_eq_true rfl) ?_
  intro p e s m args below meth c X hr hlk hex ls hl H locs hP hS
  have X : Cx G p s m args c cL_undo 2 RL := X
  obtain ⟨hx, hb, hml, hown, hts, hK, hbs, hXW, -⟩ := id X
  have hl : lv_has ls 2 [(0, .ref (G.2.1 0))] := hl
  refine lv_aload_n hx hb dL_undo_0 rfl (lv_at hl 0 rfl) ?_
  refine gl_cI (gx_runV (i := 0) (As := []) (rest := []) X (c_X9_undo l hfl G hG σ hs1) ca_X9_undo km_L_159 rfl rfl ⟨Nat.le_of_ble_eq_true rfl, Nat.le_of_ble_eq_true rfl⟩ hP hS (ty_lt ab_0) (cell_9 ab_0) rfl rfl rfl hl.1 rfl (Nat.le_of_ble_eq_true rfl) ⟨Nat.le_of_ble_eq_true rfl, Nat.le_of_ble_eq_true rfl⟩ dL_undo_1) hS (fun q hq hc H locs hP hS ce q9 hce hcv hcl => ?_) (fun q hq hc H locs hP hS => ?_)
  · have hf := bnd_go hq hf
    have hf := ite_f hc hf
    rw [← hq] at hk1
    rcases hk1 with h1 | h1
    · exact absurd h1 hc
    · have hf := ite_t h1 hf
      have hcl : s.vm.findClass "java/lang/IllegalStateException" = some ce.cls := by rw [h1] at hcl; exact hcl
      refine vx_catch (E := "java/lang/IllegalStateException") (name := "java/lang/IllegalStateException") hown [] ⟨0, 5, 6, 134⟩ [] (hex.trans rfl) (fun z hz => absurd hz List.not_mem_nil) (by decide) (by decide) (hts _ kt_L_134) (va_Nw.use rfl (hXW.2.2.2.2.2.2.2.1 "java/lang/IllegalStateException" (by decide))) hce hcv hcl ?_
      refine lv_astore_n (lv' := [(1, .ref q9), (0, .ref (G.2.1 0))]) hx hb dL_undo_6 rfl hl (by decide) rfl (fun ls hl => ?_)
      refine lv_ldc2 hx hb hown (hts _ kc_L_17) dL_undo_7 ?_
      exact gl_lret X hr hlk hP hS hf (Nat.le_of_ble_eq_true rfl) (Nat.le_of_ble_eq_true rfl) dL_undo_10
  · have hf := bnd_go hq hf
    have hf := ite_t hc hf
    refine lv_i2l (v := (q.2.2).toInt64) hx hb dL_undo_4 rfl ?_
    exact gl_lret X hr hlk hP hS hf (Nat.le_of_ble_eq_true rfl) (Nat.le_of_ble_eq_true rfl) dL_undo_5
def f_L_restore (σ : St) : St × Int64 := bnd (f_X9_restore σ) (fun q => if q.1 = 0 then (q.2.1, (q.2.2).toInt64) else if q.1 = 5 then (q.2.1, (-4000000000000000001 : Int64)) else (q.2.1, (0 : Int64)))
def ok_L_restore (σ : St) : Prop := ((f_X9_restore σ).1 = 0 ∨ (f_X9_restore σ).1 = 5)
abbrev rm_L_restore : Room := { frames := 7, cells := 1, slots := 6, locals := 122 }
set_option maxHeartbeats 4000000 in
set_option maxRecDepth 100000 in
theorem c_L_restore (l : Launch) (hfl : l.stackTraces = false) (G : GE) (hG : Gok G) (σ : St) (hok : ok_L_restore σ) : Met l yL_restore (wsW yL_restore cL_restore 2 [(0, 5, 6, 134)]) rm_L_restore (va_Pc [.ref (G.2.1 0)] (Wd G σ)) (va_Ql (fun r u => (u, r) = f_L_restore σ) (PB G) (GA G)) 1 6 (GA G) := by
  generalize hf : f_L_restore σ = fv
  rw [f_L_restore] at hf
  rw [ok_L_restore] at hok
  have hk1 := hok
  refine gl_start hG (by decide) (Nat.le_of_ble_eq_true rfl) ?_
  intro p e s m args below meth c X hr hlk hex ls hl H locs hP hS
  have X : Cx G p s m args c cL_restore 2 RL := X
  obtain ⟨hx, hb, hml, hown, hts, hK, hbs, hXW, -⟩ := id X
  have hl : lv_has ls 2 [(0, .ref (G.2.1 0))] := hl
  refine lv_aload_n hx hb dL_restore_0 rfl (lv_at hl 0 rfl) ?_
  refine gl_cI (gx_runV (i := 0) (As := []) (rest := []) X (c_X9_restore l hfl G hG σ) ca_X9_restore km_L_165 rfl rfl ⟨Nat.le_of_ble_eq_true rfl, Nat.le_of_ble_eq_true rfl⟩ hP hS (ty_lt ab_0) (cell_9 ab_0) rfl rfl rfl hl.1 rfl (Nat.le_of_ble_eq_true rfl) ⟨Nat.le_of_ble_eq_true rfl, Nat.le_of_ble_eq_true rfl⟩ dL_restore_1) hS (fun q hq hc H locs hP hS ce q9 hce hcv hcl => ?_) (fun q hq hc H locs hP hS => ?_)
  · have hf := bnd_go hq hf
    have hf := ite_f hc hf
    rw [← hq] at hk1
    rcases hk1 with h1 | h1
    · exact absurd h1 hc
    · have hf := ite_t h1 hf
      have hcl : s.vm.findClass "java/lang/IllegalStateException" = some ce.cls := by rw [h1] at hcl; exact hcl
      refine vx_catch (E := "java/lang/IllegalStateException") (name := "java/lang/IllegalStateException") hown [] ⟨0, 5, 6, 134⟩ [] (hex.trans rfl) (fun z hz => absurd hz List.not_mem_nil) (by decide) (by decide) (hts _ kt_L_134) (va_Nw.use rfl (hXW.2.2.2.2.2.2.2.1 "java/lang/IllegalStateException" (by decide))) hce hcv hcl ?_
      refine lv_astore_n (lv' := [(1, .ref q9), (0, .ref (G.2.1 0))]) hx hb dL_restore_6 rfl hl (by decide) rfl (fun ls hl => ?_)
      refine lv_ldc2 hx hb hown (hts _ kc_L_17) dL_restore_7 ?_
      exact gl_lret X hr hlk hP hS hf (Nat.le_of_ble_eq_true rfl) (Nat.le_of_ble_eq_true rfl) dL_restore_10
  · have hf := bnd_go hq hf
    have hf := ite_t hc hf
    refine lv_i2l (v := (q.2.2).toInt64) hx hb dL_restore_4 rfl ?_
    exact gl_lret X hr hlk hP hS hf (Nat.le_of_ble_eq_true rfl) (Nat.le_of_ble_eq_true rfl) dL_restore_5
