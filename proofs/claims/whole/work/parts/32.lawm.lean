def f_L_crayon (σ : St) (x1 : Int32) : St × Int32 := bnd (f_X9_crayon σ x1) (fun q => if q.1 = 0 then (setJ q.2.1 208 0 (q.2.2).toInt64, (0 : Int32)) else if q.1 = 1 then (q.2.1, (1 : Int32)) else if q.1 = 3 then (q.2.1, (2 : Int32)) else (q.2.1, (0 : Int32)))
def ok_L_crayon (σ : St) (x1 : Int32) : Prop := (ok_X9_crayon σ x1) ∧ ((f_X9_crayon σ x1).1 = 0 ∨ (f_X9_crayon σ x1).1 = 1 ∨ (f_X9_crayon σ x1).1 = 3)
abbrev rm_L_crayon : Room := { frames := 8, cells := 1, slots := 6, locals := 144 }
set_option maxHeartbeats 4000000 in
set_option maxRecDepth 100000 in
theorem c_L_crayon (l : Launch) (hfl : l.stackTraces = false) (G : GE) (hG : Gok G) (σ : St) (x1 : Int32) (hok : ok_L_crayon σ x1) : Met l yL_crayon (wsW yL_crayon cL_crayon 4 [(0, 9, 12, 13), (0, 9, 15, 15)]) rm_L_crayon (va_Pc [.ref (G.2.1 0), .int x1, .ref (G.2.1 208)] (Wd G σ)) (va_Qi (fun r u => (u, r) = f_L_crayon σ x1) (PB G) (GA G)) 1 6 (GA G) := by
  generalize hf : f_L_crayon σ x1 = fv
  rw [f_L_crayon] at hf
  rw [ok_L_crayon] at hok
  obtain ⟨hs1, hk1⟩ := hok
  refine gl_start hG (by decide) (Nat.le_of_ble_eq_true rfl) ?_
  intro p e s m args below meth c X hr hlk hex ls hl H locs hP hS
  have X : Cx G p s m args c cL_crayon 4 RL := X
  obtain ⟨hx, hb, hml, hown, hts, hK, hbs, hXW, -⟩ := id X
  have hl : lv_has ls 4 [(0, .ref (G.2.1 0)), (1, .int x1), (2, .ref (G.2.1 208))] := hl
  refine lv_aload_n hx hb dL_crayon_0 rfl (lv_at hl 2 rfl) ?_
  refine lv_iconst (v := 0) hx hb dL_crayon_1 (by decide) ?_
  refine lv_aload_n hx hb dL_crayon_2 rfl (lv_at hl 0 rfl) ?_
  refine lv_iload_n hx hb dL_crayon_3 rfl (lv_at hl 1 rfl) ?_
  refine gl_cI (gx_runV (i := 0) (As := [.int x1]) (rest := [.int (0 : Int32), .ref (G.2.1 208)]) X (c_X9_crayon l hfl G hG σ x1 hs1) ca_X9_crayon km_L_7 rfl rfl ⟨Nat.le_of_ble_eq_true rfl, Nat.le_of_ble_eq_true rfl⟩ hP hS (ty_lt ab_0) (cell_9 ab_0) rfl rfl rfl hl.1 rfl (Nat.le_of_ble_eq_true rfl) ⟨Nat.le_of_ble_eq_true rfl, Nat.le_of_ble_eq_true rfl⟩ dL_crayon_4) hS (fun q hq hc H locs hP hS ce q9 hce hcv hcl => ?_) (fun q hq hc H locs hP hS => ?_)
  · have hf := bnd_go hq hf
    have hf := ite_f hc hf
    rw [← hq] at hk1
    rcases hk1 with h1 | h1 | h1
    · exact absurd h1 hc
    · have hf := ite_t h1 hf
      have hcl : s.vm.findClass "java/lang/IllegalArgumentException" = some ce.cls := by rw [h1] at hcl; exact hcl
      refine vx_catch (E := "java/lang/IllegalArgumentException") (name := "java/lang/IllegalArgumentException") hown [] ⟨0, 9, 12, 13⟩ [⟨0, 9, 15, 15⟩] (hex.trans rfl) (fun z hz => absurd hz List.not_mem_nil) (by decide) (by decide) (hts _ kt_L_13) (va_Nw.use rfl (hXW.2.2.2.2.2.2.2.1 "java/lang/IllegalArgumentException" (by decide))) hce hcv hcl ?_
      refine lv_astore_n (lv' := [(3, .ref q9), (0, .ref (G.2.1 0)), (1, .int x1), (2, .ref (G.2.1 208))]) hx hb dL_crayon_12 rfl hl (by decide) rfl (fun ls hl => ?_)
      refine lv_iconst (v := 1) hx hb dL_crayon_13 (by decide) ?_
      exact gl_iret X hr hlk hP hS hf (Nat.le_of_ble_eq_true rfl) (Nat.le_of_ble_eq_true rfl) dL_crayon_14
    · have hf := ite_f (by rw [h1]; decide) hf
      have hf := ite_t h1 hf
      have hcl : s.vm.findClass "java/lang/UnsupportedOperationException" = some ce.cls := by rw [h1] at hcl; exact hcl
      refine vx_catch (E := "java/lang/UnsupportedOperationException") (name := "java/lang/UnsupportedOperationException") hown [⟨0, 9, 12, 13⟩] ⟨0, 9, 15, 15⟩ [] (hex.trans rfl) (List.forall_mem_cons.mpr ⟨Or.inr ⟨by decide, "java/lang/IllegalArgumentException", hts _ kt_L_13, hXW.2.2.2.2.2.2.2.2.2 _ (List.mem_of_getElem? (i := 2) rfl)⟩, fun z hz => absurd hz List.not_mem_nil⟩) (by decide) (by decide) (hts _ kt_L_15) (va_Nw.use rfl (hXW.2.2.2.2.2.2.2.1 "java/lang/UnsupportedOperationException" (by decide))) hce hcv hcl ?_
      refine lv_astore_n (lv' := [(3, .ref q9), (0, .ref (G.2.1 0)), (1, .int x1), (2, .ref (G.2.1 208))]) hx hb dL_crayon_15 rfl hl (by decide) rfl (fun ls hl => ?_)
      refine lv_iconst (v := 2) hx hb dL_crayon_16 (by decide) ?_
      exact gl_iret X hr hlk hP hS hf (Nat.le_of_ble_eq_true rfl) (Nat.le_of_ble_eq_true rfl) dL_crayon_17
  · have hf := bnd_go hq hf
    have hf := ite_t hc hf
    refine lv_i2l (v := (q.2.2).toInt64) hx hb dL_crayon_7 rfl ?_
    refine g_last X hP hS ab_208 (by rw [al_208]; unfold vp_in; decide) dL_crayon_8 (fun H locs hP hS => ?_)
    refine lv_goto (tgt := 18) hx hb dL_crayon_9 (by decide) ?_
    refine lv_iconst (v := 0) hx hb dL_crayon_18 (by decide) ?_
    exact gl_iret X hr hlk hP hS hf (Nat.le_of_ble_eq_true rfl) (Nat.le_of_ble_eq_true rfl) dL_crayon_19
def f_L_crayonOf (σ : St) (x1 : Int32) : St × Int32 := bnd (f_X9_crayonOf σ x1) (fun q => if q.1 = 0 then (setD q.2.1 209 0 (FP.f2d q.2.2), (0 : Int32)) else if q.1 = 2 then (q.2.1, (1 : Int32)) else (q.2.1, (0 : Int32)))
def ok_L_crayonOf (σ : St) (x1 : Int32) : Prop := (ok_X9_crayonOf σ x1) ∧ ((f_X9_crayonOf σ x1).1 = 0 ∨ (f_X9_crayonOf σ x1).1 = 2) ∧ (vf_n64 (FP.f2d (f_X9_crayonOf σ x1).2.2))
abbrev rm_L_crayonOf : Room := { frames := 8, cells := 1, slots := 6, locals := 141 }
set_option maxHeartbeats 4000000 in
set_option maxRecDepth 100000 in
theorem c_L_crayonOf (l : Launch) (hfl : l.stackTraces = false) (G : GE) (hG : Gok G) (σ : St) (x1 : Int32) (hok : ok_L_crayonOf σ x1) : Met l yL_crayonOf (wsW yL_crayonOf cL_crayonOf 4 [(0, 9, 12, 21)]) rm_L_crayonOf (va_Pc [.ref (G.2.1 0), .int x1, .ref (G.2.1 209)] (Wd G σ)) (va_Qi (fun r u => (u, r) = f_L_crayonOf σ x1) (PB G) (GA G)) 1 6 (GA G) := by
  generalize hf : f_L_crayonOf σ x1 = fv
  rw [f_L_crayonOf] at hf
  rw [ok_L_crayonOf] at hok
  obtain ⟨hs1, hk1, hn1⟩ := hok
  refine gl_start hG (by decide) (Nat.le_of_ble_eq_true rfl) ?_
  intro p e s m args below meth c X hr hlk hex ls hl H locs hP hS
  have X : Cx G p s m args c cL_crayonOf 4 RL := X
  obtain ⟨hx, hb, hml, hown, hts, hK, hbs, hXW, -⟩ := id X
  have hl : lv_has ls 4 [(0, .ref (G.2.1 0)), (1, .int x1), (2, .ref (G.2.1 209))] := hl
  refine lv_aload_n hx hb dL_crayonOf_0 rfl (lv_at hl 2 rfl) ?_
  refine lv_iconst (v := 0) hx hb dL_crayonOf_1 (by decide) ?_
  refine lv_aload_n hx hb dL_crayonOf_2 rfl (lv_at hl 0 rfl) ?_
  refine lv_iload_n hx hb dL_crayonOf_3 rfl (lv_at hl 1 rfl) ?_
  refine gl_cF (gx_runV (i := 0) (As := [.int x1]) (rest := [.int (0 : Int32), .ref (G.2.1 209)]) X (c_X9_crayonOf l hfl G hG σ x1 hs1) ca_X9_crayonOf km_L_17 rfl rfl ⟨Nat.le_of_ble_eq_true rfl, Nat.le_of_ble_eq_true rfl⟩ hP hS (ty_lt ab_0) (cell_9 ab_0) rfl rfl rfl hl.1 rfl (Nat.le_of_ble_eq_true rfl) ⟨Nat.le_of_ble_eq_true rfl, Nat.le_of_ble_eq_true rfl⟩ dL_crayonOf_4) hS (fun q hq hc H locs hP hS ce q9 hce hcv hcl => ?_) (fun q hq hc H locs hP hS => ?_)
  · have hf := bnd_go hq hf
    have hf := ite_f hc hf
    rw [← hq] at hk1
    rcases hk1 with h1 | h1
    · exact absurd h1 hc
    · have hf := ite_t h1 hf
      have hcl : s.vm.findClass "java/lang/IndexOutOfBoundsException" = some ce.cls := by rw [h1] at hcl; exact hcl
      refine vx_catch (E := "java/lang/IndexOutOfBoundsException") (name := "java/lang/IndexOutOfBoundsException") hown [] ⟨0, 9, 12, 21⟩ [] (hex.trans rfl) (fun z hz => absurd hz List.not_mem_nil) (by decide) (by decide) (hts _ kt_L_21) (va_Nw.use rfl (hXW.2.2.2.2.2.2.2.1 "java/lang/IndexOutOfBoundsException" (by decide))) hce hcv hcl ?_
      refine lv_astore_n (lv' := [(3, .ref q9), (0, .ref (G.2.1 0)), (1, .int x1), (2, .ref (G.2.1 209))]) hx hb dL_crayonOf_12 rfl hl (by decide) rfl (fun ls hl => ?_)
      refine lv_iconst (v := 1) hx hb dL_crayonOf_13 (by decide) ?_
      exact gl_iret X hr hlk hP hS hf (Nat.le_of_ble_eq_true rfl) (Nat.le_of_ble_eq_true rfl) dL_crayonOf_14
  · have hf := bnd_go hq hf
    have hf := ite_t hc hf
    refine lv_f2d hx hb dL_crayonOf_7 (by rw [hq]; exact hn1) ?_
    refine g_dast X hP hS ab_209 (by rw [al_209]; unfold vp_in; decide) dL_crayonOf_8 (fun H locs hP hS => ?_)
    refine lv_goto (tgt := 15) hx hb dL_crayonOf_9 (by decide) ?_
    refine lv_iconst (v := 0) hx hb dL_crayonOf_15 (by decide) ?_
    exact gl_iret X hr hlk hP hS hf (Nat.le_of_ble_eq_true rfl) (Nat.le_of_ble_eq_true rfl) dL_crayonOf_16
def f_L_letter (σ : St) (x1 : Int32) (x2 : Int32) (x3 : Int32) (x4 : Int32) : St × Int32 := bnd (f_X9_letter σ x1 x2 x3 x4) (fun q => if q.1 = 0 then (setJ q.2.1 208 0 (q.2.2).toInt64, (0 : Int32)) else if q.1 = 2 then (q.2.1, (1 : Int32)) else if q.1 = 1 then (q.2.1, (2 : Int32)) else if q.1 = 3 then (q.2.1, (3 : Int32)) else (q.2.1, (0 : Int32)))
def ok_L_letter (σ : St) (x1 : Int32) (x2 : Int32) (x3 : Int32) (x4 : Int32) : Prop := (ok_X9_letter σ x1 x2 x3 x4) ∧ ((f_X9_letter σ x1 x2 x3 x4).1 = 0 ∨ (f_X9_letter σ x1 x2 x3 x4).1 = 2 ∨ (f_X9_letter σ x1 x2 x3 x4).1 = 1 ∨ (f_X9_letter σ x1 x2 x3 x4).1 = 3)
abbrev rm_L_letter : Room := { frames := 8, cells := 1, slots := 6, locals := 147 }
set_option maxHeartbeats 4000000 in
set_option maxRecDepth 100000 in
theorem c_L_letter (l : Launch) (hfl : l.stackTraces = false) (G : GE) (hG : Gok G) (σ : St) (x1 : Int32) (x2 : Int32) (x3 : Int32) (x4 : Int32) (hok : ok_L_letter σ x1 x2 x3 x4) : Met l yL_letter (wsW yL_letter cL_letter 7 [(0, 14, 17, 21), (0, 14, 21, 13), (0, 14, 25, 15)]) rm_L_letter (va_Pc [.ref (G.2.1 0), .int x1, .int x2, .int x3, .int x4, .ref (G.2.1 208)] (Wd G σ)) (va_Qi (fun r u => (u, r) = f_L_letter σ x1 x2 x3 x4) (PB G) (GA G)) 1 6 (GA G) := by
  generalize hf : f_L_letter σ x1 x2 x3 x4 = fv
  rw [f_L_letter] at hf
  rw [ok_L_letter] at hok
  obtain ⟨hs1, hk1⟩ := hok
  refine gl_start hG (by decide) (Nat.le_of_ble_eq_true rfl) ?_
  intro p e s m args below meth c X hr hlk hex ls hl H locs hP hS
  have X : Cx G p s m args c cL_letter 7 RL := X
  obtain ⟨hx, hb, hml, hown, hts, hK, hbs, hXW, -⟩ := id X
  have hl : lv_has ls 7 [(0, .ref (G.2.1 0)), (1, .int x1), (2, .int x2), (3, .int x3), (4, .int x4), (5, .ref (G.2.1 208))] := hl
  refine lv_aload hx hb dL_letter_0 (lv_at hl 5 rfl) ?_
  refine lv_iconst (v := 0) hx hb dL_letter_2 (by decide) ?_
  refine lv_aload_n hx hb dL_letter_3 rfl (lv_at hl 0 rfl) ?_
  refine lv_iload_n hx hb dL_letter_4 rfl (lv_at hl 1 rfl) ?_
  refine lv_iload_n hx hb dL_letter_5 rfl (lv_at hl 2 rfl) ?_
  refine lv_iload_n hx hb dL_letter_6 rfl (lv_at hl 3 rfl) ?_
  refine lv_iload hx hb dL_letter_7 (lv_at hl 4 rfl) ?_
  refine gl_cI (gx_runV (i := 0) (As := [.int x1, .int x2, .int x3, .int x4]) (rest := [.int (0 : Int32), .ref (G.2.1 208)]) X (c_X9_letter l hfl G hG σ x1 x2 x3 x4 hs1) ca_X9_letter km_L_23 rfl rfl ⟨Nat.le_of_ble_eq_true rfl, Nat.le_of_ble_eq_true rfl⟩ hP hS (ty_lt ab_0) (cell_9 ab_0) rfl rfl rfl hl.1 rfl (Nat.le_of_ble_eq_true rfl) ⟨Nat.le_of_ble_eq_true rfl, Nat.le_of_ble_eq_true rfl⟩ dL_letter_9) hS (fun q hq hc H locs hP hS ce q9 hce hcv hcl => ?_) (fun q hq hc H locs hP hS => ?_)
  · have hf := bnd_go hq hf
    have hf := ite_f hc hf
    rw [← hq] at hk1
    rcases hk1 with h1 | h1 | h1 | h1
    · exact absurd h1 hc
    · have hf := ite_t h1 hf
      have hcl : s.vm.findClass "java/lang/IndexOutOfBoundsException" = some ce.cls := by rw [h1] at hcl; exact hcl
      refine vx_catch (E := "java/lang/IndexOutOfBoundsException") (name := "java/lang/IndexOutOfBoundsException") hown [] ⟨0, 14, 17, 21⟩ [⟨0, 14, 21, 13⟩, ⟨0, 14, 25, 15⟩] (hex.trans rfl) (fun z hz => absurd hz List.not_mem_nil) (by decide) (by decide) (hts _ kt_L_21) (va_Nw.use rfl (hXW.2.2.2.2.2.2.2.1 "java/lang/IndexOutOfBoundsException" (by decide))) hce hcv hcl ?_
      refine lv_astore (lv' := [(6, .ref q9), (0, .ref (G.2.1 0)), (1, .int x1), (2, .int x2), (3, .int x3), (4, .int x4), (5, .ref (G.2.1 208))]) hx hb dL_letter_17 hl (by decide) rfl (fun ls hl => ?_)
      refine lv_iconst (v := 1) hx hb dL_letter_19 (by decide) ?_
      exact gl_iret X hr hlk hP hS hf (Nat.le_of_ble_eq_true rfl) (Nat.le_of_ble_eq_true rfl) dL_letter_20
    · have hf := ite_f (by rw [h1]; decide) hf
      have hf := ite_t h1 hf
      have hcl : s.vm.findClass "java/lang/IllegalArgumentException" = some ce.cls := by rw [h1] at hcl; exact hcl
      refine vx_catch (E := "java/lang/IllegalArgumentException") (name := "java/lang/IllegalArgumentException") hown [⟨0, 14, 17, 21⟩] ⟨0, 14, 21, 13⟩ [⟨0, 14, 25, 15⟩] (hex.trans rfl) (List.forall_mem_cons.mpr ⟨Or.inr ⟨by decide, "java/lang/IndexOutOfBoundsException", hts _ kt_L_21, hXW.2.2.2.2.2.2.2.2.2 _ (List.mem_of_getElem? (i := 0) rfl)⟩, fun z hz => absurd hz List.not_mem_nil⟩) (by decide) (by decide) (hts _ kt_L_13) (va_Nw.use rfl (hXW.2.2.2.2.2.2.2.1 "java/lang/IllegalArgumentException" (by decide))) hce hcv hcl ?_
      refine lv_astore (lv' := [(6, .ref q9), (0, .ref (G.2.1 0)), (1, .int x1), (2, .int x2), (3, .int x3), (4, .int x4), (5, .ref (G.2.1 208))]) hx hb dL_letter_21 hl (by decide) rfl (fun ls hl => ?_)
      refine lv_iconst (v := 2) hx hb dL_letter_23 (by decide) ?_
      exact gl_iret X hr hlk hP hS hf (Nat.le_of_ble_eq_true rfl) (Nat.le_of_ble_eq_true rfl) dL_letter_24
    · have hf := ite_f (by rw [h1]; decide) hf
      have hf := ite_f (by rw [h1]; decide) hf
      have hf := ite_t h1 hf
      have hcl : s.vm.findClass "java/lang/UnsupportedOperationException" = some ce.cls := by rw [h1] at hcl; exact hcl
      refine vx_catch (E := "java/lang/UnsupportedOperationException") (name := "java/lang/UnsupportedOperationException") hown [⟨0, 14, 17, 21⟩, ⟨0, 14, 21, 13⟩] ⟨0, 14, 25, 15⟩ [] (hex.trans rfl) (List.forall_mem_cons.mpr ⟨Or.inr ⟨by decide, "java/lang/IndexOutOfBoundsException", hts _ kt_L_21, hXW.2.2.2.2.2.2.2.2.2 _ (List.mem_of_getElem? (i := 1) rfl)⟩, List.forall_mem_cons.mpr ⟨Or.inr ⟨by decide, "java/lang/IllegalArgumentException", hts _ kt_L_13, hXW.2.2.2.2.2.2.2.2.2 _ (List.mem_of_getElem? (i := 2) rfl)⟩, fun z hz => absurd hz List.not_mem_nil⟩⟩) (by decide) (by decide) (hts _ kt_L_15) (va_Nw.use rfl (hXW.2.2.2.2.2.2.2.1 "java/lang/UnsupportedOperationException" (by decide))) hce hcv hcl ?_
      refine lv_astore (lv' := [(6, .ref q9), (0, .ref (G.2.1 0)), (1, .int x1), (2, .int x2), (3, .int x3), (4, .int x4), (5, .ref (G.2.1 208))]) hx hb dL_letter_25 hl (by decide) rfl (fun ls hl => ?_)
      refine lv_iconst (v := 3) hx hb dL_letter_27 (by decide) ?_
      exact gl_iret X hr hlk hP hS hf (Nat.le_of_ble_eq_true rfl) (Nat.le_of_ble_eq_true rfl) dL_letter_28
  · have hf := bnd_go hq hf
    have hf := ite_t hc hf
    refine lv_i2l (v := (q.2.2).toInt64) hx hb dL_letter_12 rfl ?_
    refine g_last X hP hS ab_208 (by rw [al_208]; unfold vp_in; decide) dL_letter_13 (fun H locs hP hS => ?_)
    refine lv_goto (tgt := 29) hx hb dL_letter_14 (by decide) ?_
    refine lv_iconst (v := 0) hx hb dL_letter_29 (by decide) ?_
    exact gl_iret X hr hlk hP hS hf (Nat.le_of_ble_eq_true rfl) (Nat.le_of_ble_eq_true rfl) dL_letter_30
def f_L_parcel (σ : St) (x1 : Int32) (x2 : Int32) (x3 : Int32) (x4 : Int32) (x5 : Int32) : St × Int32 := bnd (f_X9_parcel σ x1 x2 x3 x4 x5) (fun q => if q.1 = 0 then (setJ q.2.1 208 0 (q.2.2).toInt64, (0 : Int32)) else if q.1 = 2 then (q.2.1, (1 : Int32)) else if q.1 = 1 then (q.2.1, (2 : Int32)) else if q.1 = 3 then (q.2.1, (3 : Int32)) else (q.2.1, (0 : Int32)))
def ok_L_parcel (σ : St) (x1 : Int32) (x2 : Int32) (x3 : Int32) (x4 : Int32) (x5 : Int32) : Prop := (ok_X9_parcel σ x1 x2 x3 x4 x5) ∧ ((f_X9_parcel σ x1 x2 x3 x4 x5).1 = 0 ∨ (f_X9_parcel σ x1 x2 x3 x4 x5).1 = 2 ∨ (f_X9_parcel σ x1 x2 x3 x4 x5).1 = 1 ∨ (f_X9_parcel σ x1 x2 x3 x4 x5).1 = 3)
abbrev rm_L_parcel : Room := { frames := 8, cells := 1, slots := 6, locals := 148 }
set_option maxHeartbeats 4000000 in
set_option maxRecDepth 100000 in
theorem c_L_parcel (l : Launch) (hfl : l.stackTraces = false) (G : GE) (hG : Gok G) (σ : St) (x1 : Int32) (x2 : Int32) (x3 : Int32) (x4 : Int32) (x5 : Int32) (hok : ok_L_parcel σ x1 x2 x3 x4 x5) : Met l yL_parcel (wsW yL_parcel cL_parcel 8 [(0, 16, 19, 21), (0, 16, 23, 13), (0, 16, 27, 15)]) rm_L_parcel (va_Pc [.ref (G.2.1 0), .int x1, .int x2, .int x3, .int x4, .int x5, .ref (G.2.1 208)] (Wd G σ)) (va_Qi (fun r u => (u, r) = f_L_parcel σ x1 x2 x3 x4 x5) (PB G) (GA G)) 1 6 (GA G) := by
  generalize hf : f_L_parcel σ x1 x2 x3 x4 x5 = fv
  rw [f_L_parcel] at hf
  rw [ok_L_parcel] at hok
  obtain ⟨hs1, hk1⟩ := hok
  refine gl_start hG (by decide) (Nat.le_of_ble_eq_true rfl) ?_
  intro p e s m args below meth c X hr hlk hex ls hl H locs hP hS
  have X : Cx G p s m args c cL_parcel 8 RL := X
  obtain ⟨hx, hb, hml, hown, hts, hK, hbs, hXW, -⟩ := id X
  have hl : lv_has ls 8 [(0, .ref (G.2.1 0)), (1, .int x1), (2, .int x2), (3, .int x3), (4, .int x4), (5, .int x5), (6, .ref (G.2.1 208))] := hl
  refine lv_aload hx hb dL_parcel_0 (lv_at hl 6 rfl) ?_
  refine lv_iconst (v := 0) hx hb dL_parcel_2 (by decide) ?_
  refine lv_aload_n hx hb dL_parcel_3 rfl (lv_at hl 0 rfl) ?_
  refine lv_iload_n hx hb dL_parcel_4 rfl (lv_at hl 1 rfl) ?_
  refine lv_iload_n hx hb dL_parcel_5 rfl (lv_at hl 2 rfl) ?_
  refine lv_iload_n hx hb dL_parcel_6 rfl (lv_at hl 3 rfl) ?_
  refine lv_iload hx hb dL_parcel_7 (lv_at hl 4 rfl) ?_
  refine lv_iload hx hb dL_parcel_9 (lv_at hl 5 rfl) ?_
  refine gl_cI (gx_runV (i := 0) (As := [.int x1, .int x2, .int x3, .int x4, .int x5]) (rest := [.int (0 : Int32), .ref (G.2.1 208)]) X (c_X9_parcel l hfl G hG σ x1 x2 x3 x4 x5 hs1) ca_X9_parcel km_L_27 rfl rfl ⟨Nat.le_of_ble_eq_true rfl, Nat.le_of_ble_eq_true rfl⟩ hP hS (ty_lt ab_0) (cell_9 ab_0) rfl rfl rfl hl.1 rfl (Nat.le_of_ble_eq_true rfl) ⟨Nat.le_of_ble_eq_true rfl, Nat.le_of_ble_eq_true rfl⟩ dL_parcel_11) hS (fun q hq hc H locs hP hS ce q9 hce hcv hcl => ?_) (fun q hq hc H locs hP hS => ?_)
  · have hf := bnd_go hq hf
    have hf := ite_f hc hf
    rw [← hq] at hk1
    rcases hk1 with h1 | h1 | h1 | h1
    · exact absurd h1 hc
    · have hf := ite_t h1 hf
      have hcl : s.vm.findClass "java/lang/IndexOutOfBoundsException" = some ce.cls := by rw [h1] at hcl; exact hcl
      refine vx_catch (E := "java/lang/IndexOutOfBoundsException") (name := "java/lang/IndexOutOfBoundsException") hown [] ⟨0, 16, 19, 21⟩ [⟨0, 16, 23, 13⟩, ⟨0, 16, 27, 15⟩] (hex.trans rfl) (fun z hz => absurd hz List.not_mem_nil) (by decide) (by decide) (hts _ kt_L_21) (va_Nw.use rfl (hXW.2.2.2.2.2.2.2.1 "java/lang/IndexOutOfBoundsException" (by decide))) hce hcv hcl ?_
      refine lv_astore (lv' := [(7, .ref q9), (0, .ref (G.2.1 0)), (1, .int x1), (2, .int x2), (3, .int x3), (4, .int x4), (5, .int x5), (6, .ref (G.2.1 208))]) hx hb dL_parcel_19 hl (by decide) rfl (fun ls hl => ?_)
      refine lv_iconst (v := 1) hx hb dL_parcel_21 (by decide) ?_
      exact gl_iret X hr hlk hP hS hf (Nat.le_of_ble_eq_true rfl) (Nat.le_of_ble_eq_true rfl) dL_parcel_22
    · have hf := ite_f (by rw [h1]; decide) hf
      have hf := ite_t h1 hf
      have hcl : s.vm.findClass "java/lang/IllegalArgumentException" = some ce.cls := by rw [h1] at hcl; exact hcl
      refine vx_catch (E := "java/lang/IllegalArgumentException") (name := "java/lang/IllegalArgumentException") hown [⟨0, 16, 19, 21⟩] ⟨0, 16, 23, 13⟩ [⟨0, 16, 27, 15⟩] (hex.trans rfl) (List.forall_mem_cons.mpr ⟨Or.inr ⟨by decide, "java/lang/IndexOutOfBoundsException", hts _ kt_L_21, hXW.2.2.2.2.2.2.2.2.2 _ (List.mem_of_getElem? (i := 0) rfl)⟩, fun z hz => absurd hz List.not_mem_nil⟩) (by decide) (by decide) (hts _ kt_L_13) (va_Nw.use rfl (hXW.2.2.2.2.2.2.2.1 "java/lang/IllegalArgumentException" (by decide))) hce hcv hcl ?_
      refine lv_astore (lv' := [(7, .ref q9), (0, .ref (G.2.1 0)), (1, .int x1), (2, .int x2), (3, .int x3), (4, .int x4), (5, .int x5), (6, .ref (G.2.1 208))]) hx hb dL_parcel_23 hl (by decide) rfl (fun ls hl => ?_)
      refine lv_iconst (v := 2) hx hb dL_parcel_25 (by decide) ?_
      exact gl_iret X hr hlk hP hS hf (Nat.le_of_ble_eq_true rfl) (Nat.le_of_ble_eq_true rfl) dL_parcel_26
    · have hf := ite_f (by rw [h1]; decide) hf
      have hf := ite_f (by rw [h1]; decide) hf
      have hf := ite_t h1 hf
      have hcl : s.vm.findClass "java/lang/UnsupportedOperationException" = some ce.cls := by rw [h1] at hcl; exact hcl
      refine vx_catch (E := "java/lang/UnsupportedOperationException") (name := "java/lang/UnsupportedOperationException") hown [⟨0, 16, 19, 21⟩, ⟨0, 16, 23, 13⟩] ⟨0, 16, 27, 15⟩ [] (hex.trans rfl) (List.forall_mem_cons.mpr ⟨Or.inr ⟨by decide, "java/lang/IndexOutOfBoundsException", hts _ kt_L_21, hXW.2.2.2.2.2.2.2.2.2 _ (List.mem_of_getElem? (i := 1) rfl)⟩, List.forall_mem_cons.mpr ⟨Or.inr ⟨by decide, "java/lang/IllegalArgumentException", hts _ kt_L_13, hXW.2.2.2.2.2.2.2.2.2 _ (List.mem_of_getElem? (i := 2) rfl)⟩, fun z hz => absurd hz List.not_mem_nil⟩⟩) (by decide) (by decide) (hts _ kt_L_15) (va_Nw.use rfl (hXW.2.2.2.2.2.2.2.1 "java/lang/UnsupportedOperationException" (by decide))) hce hcv hcl ?_
      refine lv_astore (lv' := [(7, .ref q9), (0, .ref (G.2.1 0)), (1, .int x1), (2, .int x2), (3, .int x3), (4, .int x4), (5, .int x5), (6, .ref (G.2.1 208))]) hx hb dL_parcel_27 hl (by decide) rfl (fun ls hl => ?_)
      refine lv_iconst (v := 3) hx hb dL_parcel_29 (by decide) ?_
      exact gl_iret X hr hlk hP hS hf (Nat.le_of_ble_eq_true rfl) (Nat.le_of_ble_eq_true rfl) dL_parcel_30
  · have hf := bnd_go hq hf
    have hf := ite_t hc hf
    refine lv_i2l (v := (q.2.2).toInt64) hx hb dL_parcel_14 rfl ?_
    refine g_last X hP hS ab_208 (by rw [al_208]; unfold vp_in; decide) dL_parcel_15 (fun H locs hP hS => ?_)
    refine lv_goto (tgt := 31) hx hb dL_parcel_16 (by decide) ?_
    refine lv_iconst (v := 0) hx hb dL_parcel_31 (by decide) ?_
    exact gl_iret X hr hlk hP hS hf (Nat.le_of_ble_eq_true rfl) (Nat.le_of_ble_eq_true rfl) dL_parcel_32
def f_L_itemOf (σ : St) (x1 : Int32) (x2 : Int32) : St × Int32 := bnd (f_X9_itemOf σ x1 x2) (fun q => if q.1 = 0 then (setJ q.2.1 208 0 (q.2.2).toInt64, (0 : Int32)) else if q.1 = 2 then (q.2.1, (1 : Int32)) else if q.1 = 1 then (q.2.1, (2 : Int32)) else (q.2.1, (0 : Int32)))
def ok_L_itemOf (σ : St) (x1 : Int32) (x2 : Int32) : Prop := (ok_X9_itemOf σ x1 x2) ∧ ((f_X9_itemOf σ x1 x2).1 = 0 ∨ (f_X9_itemOf σ x1 x2).1 = 2 ∨ (f_X9_itemOf σ x1 x2).1 = 1)
abbrev rm_L_itemOf : Room := { frames := 9, cells := 2, slots := 12, locals := 163 }
set_option maxHeartbeats 4000000 in
set_option maxRecDepth 100000 in
theorem c_L_itemOf (l : Launch) (hfl : l.stackTraces = false) (G : GE) (hG : Gok G) (σ : St) (x1 : Int32) (x2 : Int32) (hok : ok_L_itemOf σ x1 x2) : Met l yL_itemOf (wsW yL_itemOf cL_itemOf 5 [(0, 10, 13, 21), (0, 10, 17, 13)]) rm_L_itemOf (va_Pc [.ref (G.2.1 0), .int x1, .int x2, .ref (G.2.1 208)] (Wd G σ)) (va_Qi (fun r u => (u, r) = f_L_itemOf σ x1 x2) (PB G) (GA G)) 2 12 (GA G) := by
  generalize hf : f_L_itemOf σ x1 x2 = fv
  rw [f_L_itemOf] at hf
  rw [ok_L_itemOf] at hok
  obtain ⟨hs1, hk1⟩ := hok
  refine gl_start hG (by decide) (Nat.le_of_ble_eq_true rfl) ?_
  intro p e s m args below meth c X hr hlk hex ls hl H locs hP hS
  have X : Cx G p s m args c cL_itemOf 5 RL := X
  obtain ⟨hx, hb, hml, hown, hts, hK, hbs, hXW, -⟩ := id X
  have hl : lv_has ls 5 [(0, .ref (G.2.1 0)), (1, .int x1), (2, .int x2), (3, .ref (G.2.1 208))] := hl
  refine lv_aload_n hx hb dL_itemOf_0 rfl (lv_at hl 3 rfl) ?_
  refine lv_iconst (v := 0) hx hb dL_itemOf_1 (by decide) ?_
  refine lv_aload_n hx hb dL_itemOf_2 rfl (lv_at hl 0 rfl) ?_
  refine lv_iload_n hx hb dL_itemOf_3 rfl (lv_at hl 1 rfl) ?_
  refine lv_iload_n hx hb dL_itemOf_4 rfl (lv_at hl 2 rfl) ?_
  refine gl_cI (gx_runV (i := 0) (As := [.int x1, .int x2]) (rest := [.int (0 : Int32), .ref (G.2.1 208)]) X (c_X9_itemOf l hfl G hG σ x1 x2 hs1) ca_X9_itemOf km_L_31 rfl rfl ⟨Nat.le_of_ble_eq_true rfl, Nat.le_of_ble_eq_true rfl⟩ hP hS (ty_lt ab_0) (cell_9 ab_0) rfl rfl rfl hl.1 rfl (Nat.le_of_ble_eq_true rfl) ⟨Nat.le_of_ble_eq_true rfl, Nat.le_of_ble_eq_true rfl⟩ dL_itemOf_5) hS (fun q hq hc H locs hP hS ce q9 hce hcv hcl => ?_) (fun q hq hc H locs hP hS => ?_)
  · have hf := bnd_go hq hf
    have hf := ite_f hc hf
    rw [← hq] at hk1
    rcases hk1 with h1 | h1 | h1
    · exact absurd h1 hc
    · have hf := ite_t h1 hf
      have hcl : s.vm.findClass "java/lang/IndexOutOfBoundsException" = some ce.cls := by rw [h1] at hcl; exact hcl
      refine vx_catch (E := "java/lang/IndexOutOfBoundsException") (name := "java/lang/IndexOutOfBoundsException") hown [] ⟨0, 10, 13, 21⟩ [⟨0, 10, 17, 13⟩] (hex.trans rfl) (fun z hz => absurd hz List.not_mem_nil) (by decide) (by decide) (hts _ kt_L_21) (va_Nw.use rfl (hXW.2.2.2.2.2.2.2.1 "java/lang/IndexOutOfBoundsException" (by decide))) hce hcv hcl ?_
      refine lv_astore (lv' := [(4, .ref q9), (0, .ref (G.2.1 0)), (1, .int x1), (2, .int x2), (3, .ref (G.2.1 208))]) hx hb dL_itemOf_13 hl (by decide) rfl (fun ls hl => ?_)
      refine lv_iconst (v := 1) hx hb dL_itemOf_15 (by decide) ?_
      exact gl_iret X hr hlk hP hS hf (Nat.le_of_ble_eq_true rfl) (Nat.le_of_ble_eq_true rfl) dL_itemOf_16
    · have hf := ite_f (by rw [h1]; decide) hf
      have hf := ite_t h1 hf
      have hcl : s.vm.findClass "java/lang/IllegalArgumentException" = some ce.cls := by rw [h1] at hcl; exact hcl
      refine vx_catch (E := "java/lang/IllegalArgumentException") (name := "java/lang/IllegalArgumentException") hown [⟨0, 10, 13, 21⟩] ⟨0, 10, 17, 13⟩ [] (hex.trans rfl) (List.forall_mem_cons.mpr ⟨Or.inr ⟨by decide, "java/lang/IndexOutOfBoundsException", hts _ kt_L_21, hXW.2.2.2.2.2.2.2.2.2 _ (List.mem_of_getElem? (i := 0) rfl)⟩, fun z hz => absurd hz List.not_mem_nil⟩) (by decide) (by decide) (hts _ kt_L_13) (va_Nw.use rfl (hXW.2.2.2.2.2.2.2.1 "java/lang/IllegalArgumentException" (by decide))) hce hcv hcl ?_
      refine lv_astore (lv' := [(4, .ref q9), (0, .ref (G.2.1 0)), (1, .int x1), (2, .int x2), (3, .ref (G.2.1 208))]) hx hb dL_itemOf_17 hl (by decide) rfl (fun ls hl => ?_)
      refine lv_iconst (v := 2) hx hb dL_itemOf_19 (by decide) ?_
      exact gl_iret X hr hlk hP hS hf (Nat.le_of_ble_eq_true rfl) (Nat.le_of_ble_eq_true rfl) dL_itemOf_20
  · have hf := bnd_go hq hf
    have hf := ite_t hc hf
    refine lv_i2l (v := (q.2.2).toInt64) hx hb dL_itemOf_8 rfl ?_
    refine g_last X hP hS ab_208 (by rw [al_208]; unfold vp_in; decide) dL_itemOf_9 (fun H locs hP hS => ?_)
    refine lv_goto (tgt := 21) hx hb dL_itemOf_10 (by decide) ?_
    refine lv_iconst (v := 0) hx hb dL_itemOf_21 (by decide) ?_
    exact gl_iret X hr hlk hP hS hf (Nat.le_of_ble_eq_true rfl) (Nat.le_of_ble_eq_true rfl) dL_itemOf_22
def f_L_reads (σ : St) (x1 : Int32) : St × Int32 := bnd (f_X9_reads σ x1) (fun q => if q.1 = 0 then (setJ q.2.1 208 0 (q.2.2).toInt64, (0 : Int32)) else if q.1 = 2 then (q.2.1, (1 : Int32)) else if q.1 = 4 then (q.2.1, (2 : Int32)) else (q.2.1, (0 : Int32)))
def ok_L_reads (σ : St) (x1 : Int32) : Prop := (ok_X9_reads σ x1) ∧ ((f_X9_reads σ x1).1 = 0 ∨ (f_X9_reads σ x1).1 = 2 ∨ (f_X9_reads σ x1).1 = 4)
abbrev rm_L_reads : Room := { frames := 9, cells := 2, slots := 12, locals := 162 }
set_option maxHeartbeats 4000000 in
set_option maxRecDepth 100000 in
theorem c_L_reads (l : Launch) (hfl : l.stackTraces = false) (G : GE) (hG : Gok G) (σ : St) (x1 : Int32) (hok : ok_L_reads σ x1) : Met l yL_reads (wsW yL_reads cL_reads 4 [(0, 9, 12, 21), (0, 9, 15, 38)]) rm_L_reads (va_Pc [.ref (G.2.1 0), .int x1, .ref (G.2.1 208)] (Wd G σ)) (va_Qi (fun r u => (u, r) = f_L_reads σ x1) (PB G) (GA G)) 2 12 (GA G) := by
  generalize hf : f_L_reads σ x1 = fv
  rw [f_L_reads] at hf
  rw [ok_L_reads] at hok
  obtain ⟨hs1, hk1⟩ := hok
  refine gl_start hG (by decide) (Nat.le_of_ble_eq_true rfl) ?_
  intro p e s m args below meth c X hr hlk hex ls hl H locs hP hS
  have X : Cx G p s m args c cL_reads 4 RL := X
  obtain ⟨hx, hb, hml, hown, hts, hK, hbs, hXW, -⟩ := id X
  have hl : lv_has ls 4 [(0, .ref (G.2.1 0)), (1, .int x1), (2, .ref (G.2.1 208))] := hl
  refine lv_aload_n hx hb dL_reads_0 rfl (lv_at hl 2 rfl) ?_
  refine lv_iconst (v := 0) hx hb dL_reads_1 (by decide) ?_
  refine lv_aload_n hx hb dL_reads_2 rfl (lv_at hl 0 rfl) ?_
  refine lv_iload_n hx hb dL_reads_3 rfl (lv_at hl 1 rfl) ?_
  refine gl_cI (gx_runV (i := 0) (As := [.int x1]) (rest := [.int (0 : Int32), .ref (G.2.1 208)]) X (c_X9_reads l hfl G hG σ x1 hs1) ca_X9_reads km_L_35 rfl rfl ⟨Nat.le_of_ble_eq_true rfl, Nat.le_of_ble_eq_true rfl⟩ hP hS (ty_lt ab_0) (cell_9 ab_0) rfl rfl rfl hl.1 rfl (Nat.le_of_ble_eq_true rfl) ⟨Nat.le_of_ble_eq_true rfl, Nat.le_of_ble_eq_true rfl⟩ dL_reads_4) hS (fun q hq hc H locs hP hS ce q9 hce hcv hcl => ?_) (fun q hq hc H locs hP hS => ?_)
  · have hf := bnd_go hq hf
    have hf := ite_f hc hf
    rw [← hq] at hk1
    rcases hk1 with h1 | h1 | h1
    · exact absurd h1 hc
    · have hf := ite_t h1 hf
      have hcl : s.vm.findClass "java/lang/IndexOutOfBoundsException" = some ce.cls := by rw [h1] at hcl; exact hcl
      refine vx_catch (E := "java/lang/IndexOutOfBoundsException") (name := "java/lang/IndexOutOfBoundsException") hown [] ⟨0, 9, 12, 21⟩ [⟨0, 9, 15, 38⟩] (hex.trans rfl) (fun z hz => absurd hz List.not_mem_nil) (by decide) (by decide) (hts _ kt_L_21) (va_Nw.use rfl (hXW.2.2.2.2.2.2.2.1 "java/lang/IndexOutOfBoundsException" (by decide))) hce hcv hcl ?_
      refine lv_astore_n (lv' := [(3, .ref q9), (0, .ref (G.2.1 0)), (1, .int x1), (2, .ref (G.2.1 208))]) hx hb dL_reads_12 rfl hl (by decide) rfl (fun ls hl => ?_)
      refine lv_iconst (v := 1) hx hb dL_reads_13 (by decide) ?_
      exact gl_iret X hr hlk hP hS hf (Nat.le_of_ble_eq_true rfl) (Nat.le_of_ble_eq_true rfl) dL_reads_14
    · have hf := ite_f (by rw [h1]; decide) hf
      have hf := ite_t h1 hf
      have hcl : s.vm.findClass "java/util/NoSuchElementException" = some ce.cls := by rw [h1] at hcl; exact hcl
      refine vx_catch (E := "java/util/NoSuchElementException") (name := "java/util/NoSuchElementException") hown [⟨0, 9, 12, 21⟩] ⟨0, 9, 15, 38⟩ [] (hex.trans rfl) (List.forall_mem_cons.mpr ⟨Or.inr ⟨by decide, "java/lang/IndexOutOfBoundsException", hts _ kt_L_21, hXW.2.2.2.2.2.2.2.2.2 _ (List.mem_of_getElem? (i := 3) rfl)⟩, fun z hz => absurd hz List.not_mem_nil⟩) (by decide) (by decide) (hts _ kt_L_38) (va_Nw.use rfl (hXW.2.2.2.2.2.2.2.1 "java/util/NoSuchElementException" (by decide))) hce hcv hcl ?_
      refine lv_astore_n (lv' := [(3, .ref q9), (0, .ref (G.2.1 0)), (1, .int x1), (2, .ref (G.2.1 208))]) hx hb dL_reads_15 rfl hl (by decide) rfl (fun ls hl => ?_)
      refine lv_iconst (v := 2) hx hb dL_reads_16 (by decide) ?_
      exact gl_iret X hr hlk hP hS hf (Nat.le_of_ble_eq_true rfl) (Nat.le_of_ble_eq_true rfl) dL_reads_17
  · have hf := bnd_go hq hf
    have hf := ite_t hc hf
    refine lv_i2l (v := (q.2.2).toInt64) hx hb dL_reads_7 rfl ?_
    refine g_last X hP hS ab_208 (by rw [al_208]; unfold vp_in; decide) dL_reads_8 (fun H locs hP hS => ?_)
    refine lv_goto (tgt := 18) hx hb dL_reads_9 (by decide) ?_
    refine lv_iconst (v := 0) hx hb dL_reads_18 (by decide) ?_
    exact gl_iret X hr hlk hP hS hf (Nat.le_of_ble_eq_true rfl) (Nat.le_of_ble_eq_true rfl) dL_reads_19
def f_L_stringFor (σ : St) (x1 : Int32) (x2 : Int32) (x3 : Int32) : St × Int32 := bnd (f_X9_stringFor σ x1 x2 x3) (fun q => if q.1 = 0 then (setJ q.2.1 208 0 (q.2.2).toInt64, (0 : Int32)) else if q.1 = 1 then (q.2.1, (1 : Int32)) else (q.2.1, (0 : Int32)))
def ok_L_stringFor (σ : St) (x1 : Int32) (x2 : Int32) (x3 : Int32) : Prop := (ok_X9_stringFor σ x1 x2 x3) ∧ ((f_X9_stringFor σ x1 x2 x3).1 = 0 ∨ (f_X9_stringFor σ x1 x2 x3).1 = 1)
abbrev rm_L_stringFor : Room := { frames := 8, cells := 1, slots := 6, locals := 143 }
set_option maxHeartbeats 4000000 in
set_option maxRecDepth 100000 in
theorem c_L_stringFor (l : Launch) (hfl : l.stackTraces = false) (G : GE) (hG : Gok G) (σ : St) (x1 : Int32) (x2 : Int32) (x3 : Int32) (hok : ok_L_stringFor σ x1 x2 x3) : Met l yL_stringFor (wsW yL_stringFor cL_stringFor 6 [(0, 12, 15, 13)]) rm_L_stringFor (va_Pc [.ref (G.2.1 0), .int x1, .int x2, .int x3, .ref (G.2.1 208)] (Wd G σ)) (va_Qi (fun r u => (u, r) = f_L_stringFor σ x1 x2 x3) (PB G) (GA G)) 1 6 (GA G) := by
  generalize hf : f_L_stringFor σ x1 x2 x3 = fv
  rw [f_L_stringFor] at hf
  rw [ok_L_stringFor] at hok
  obtain ⟨hs1, hk1⟩ := hok
  refine gl_start hG (by decide) (Nat.le_of_ble_eq_true rfl) ?_
  intro p e s m args below meth c X hr hlk hex ls hl H locs hP hS
  have X : Cx G p s m args c cL_stringFor 6 RL := X
  obtain ⟨hx, hb, hml, hown, hts, hK, hbs, hXW, -⟩ := id X
  have hl : lv_has ls 6 [(0, .ref (G.2.1 0)), (1, .int x1), (2, .int x2), (3, .int x3), (4, .ref (G.2.1 208))] := hl
  refine lv_aload hx hb dL_stringFor_0 (lv_at hl 4 rfl) ?_
  refine lv_iconst (v := 0) hx hb dL_stringFor_2 (by decide) ?_
  refine lv_aload_n hx hb dL_stringFor_3 rfl (lv_at hl 0 rfl) ?_
  refine lv_iload_n hx hb dL_stringFor_4 rfl (lv_at hl 1 rfl) ?_
  refine lv_iload_n hx hb dL_stringFor_5 rfl (lv_at hl 2 rfl) ?_
  refine lv_iload_n hx hb dL_stringFor_6 rfl (lv_at hl 3 rfl) ?_
  refine gl_cI (gx_runV (i := 0) (As := [.int x1, .int x2, .int x3]) (rest := [.int (0 : Int32), .ref (G.2.1 208)]) X (c_X9_stringFor l hfl G hG σ x1 x2 x3 hs1) ca_X9_stringFor km_L_40 rfl rfl ⟨Nat.le_of_ble_eq_true rfl, Nat.le_of_ble_eq_true rfl⟩ hP hS (ty_lt ab_0) (cell_9 ab_0) rfl rfl rfl hl.1 rfl (Nat.le_of_ble_eq_true rfl) ⟨Nat.le_of_ble_eq_true rfl, Nat.le_of_ble_eq_true rfl⟩ dL_stringFor_7) hS (fun q hq hc H locs hP hS ce q9 hce hcv hcl => ?_) (fun q hq hc H locs hP hS => ?_)
  · have hf := bnd_go hq hf
    have hf := ite_f hc hf
    rw [← hq] at hk1
    rcases hk1 with h1 | h1
    · exact absurd h1 hc
    · have hf := ite_t h1 hf
      have hcl : s.vm.findClass "java/lang/IllegalArgumentException" = some ce.cls := by rw [h1] at hcl; exact hcl
      refine vx_catch (E := "java/lang/IllegalArgumentException") (name := "java/lang/IllegalArgumentException") hown [] ⟨0, 12, 15, 13⟩ [] (hex.trans rfl) (fun z hz => absurd hz List.not_mem_nil) (by decide) (by decide) (hts _ kt_L_13) (va_Nw.use rfl (hXW.2.2.2.2.2.2.2.1 "java/lang/IllegalArgumentException" (by decide))) hce hcv hcl ?_
      refine lv_astore (lv' := [(5, .ref q9), (0, .ref (G.2.1 0)), (1, .int x1), (2, .int x2), (3, .int x3), (4, .ref (G.2.1 208))]) hx hb dL_stringFor_15 hl (by decide) rfl (fun ls hl => ?_)
      refine lv_iconst (v := 1) hx hb dL_stringFor_17 (by decide) ?_
      exact gl_iret X hr hlk hP hS hf (Nat.le_of_ble_eq_true rfl) (Nat.le_of_ble_eq_true rfl) dL_stringFor_18
  · have hf := bnd_go hq hf
    have hf := ite_t hc hf
    refine lv_i2l (v := (q.2.2).toInt64) hx hb dL_stringFor_10 rfl ?_
    refine g_last X hP hS ab_208 (by rw [al_208]; unfold vp_in; decide) dL_stringFor_11 (fun H locs hP hS => ?_)
    refine lv_goto (tgt := 19) hx hb dL_stringFor_12 (by decide) ?_
    refine lv_iconst (v := 0) hx hb dL_stringFor_19 (by decide) ?_
    exact gl_iret X hr hlk hP hS hf (Nat.le_of_ble_eq_true rfl) (Nat.le_of_ble_eq_true rfl) dL_stringFor_20
def f_L_string (σ : St) (x1 : Int32) : St × Int32 := bnd (f_X9_string σ x1) (fun q => if q.1 = 0 then (setJ q.2.1 208 0 (q.2.2).toInt64, (0 : Int32)) else if q.1 = 1 then (q.2.1, (1 : Int32)) else (q.2.1, (0 : Int32)))
def ok_L_string (σ : St) (x1 : Int32) : Prop := (ok_X9_string σ x1) ∧ ((f_X9_string σ x1).1 = 0 ∨ (f_X9_string σ x1).1 = 1)
abbrev rm_L_string : Room := { frames := 8, cells := 1, slots := 6, locals := 144 }
set_option maxHeartbeats 4000000 in
set_option maxRecDepth 100000 in
theorem c_L_string (l : Launch) (hfl : l.stackTraces = false) (G : GE) (hG : Gok G) (σ : St) (x1 : Int32) (hok : ok_L_string σ x1) : Met l yL_string (wsW yL_string cL_string 4 [(0, 9, 12, 13)]) rm_L_string (va_Pc [.ref (G.2.1 0), .int x1, .ref (G.2.1 208)] (Wd G σ)) (va_Qi (fun r u => (u, r) = f_L_string σ x1) (PB G) (GA G)) 1 6 (GA G) := by
  generalize hf : f_L_string σ x1 = fv
  rw [f_L_string] at hf
  rw [ok_L_string] at hok
  obtain ⟨hs1, hk1⟩ := hok
  refine gl_start hG (by decide) (Nat.le_of_ble_eq_true rfl) ?_
  intro p e s m args below meth c X hr hlk hex ls hl H locs hP hS
  have X : Cx G p s m args c cL_string 4 RL := X
  obtain ⟨hx, hb, hml, hown, hts, hK, hbs, hXW, -⟩ := id X
  have hl : lv_has ls 4 [(0, .ref (G.2.1 0)), (1, .int x1), (2, .ref (G.2.1 208))] := hl
  refine lv_aload_n hx hb dL_string_0 rfl (lv_at hl 2 rfl) ?_
  refine lv_iconst (v := 0) hx hb dL_string_1 (by decide) ?_
  refine lv_aload_n hx hb dL_string_2 rfl (lv_at hl 0 rfl) ?_
  refine lv_iload_n hx hb dL_string_3 rfl (lv_at hl 1 rfl) ?_
  refine gl_cI (gx_runV (i := 0) (As := [.int x1]) (rest := [.int (0 : Int32), .ref (G.2.1 208)]) X (c_X9_string l hfl G hG σ x1 hs1) ca_X9_string km_L_44 rfl rfl ⟨Nat.le_of_ble_eq_true rfl, Nat.le_of_ble_eq_true rfl⟩ hP hS (ty_lt ab_0) (cell_9 ab_0) rfl rfl rfl hl.1 rfl (Nat.le_of_ble_eq_true rfl) ⟨Nat.le_of_ble_eq_true rfl, Nat.le_of_ble_eq_true rfl⟩ dL_string_4) hS (fun q hq hc H locs hP hS ce q9 hce hcv hcl => ?_) (fun q hq hc H locs hP hS => ?_)
  · have hf := bnd_go hq hf
    have hf := ite_f hc hf
    rw [← hq] at hk1
    rcases hk1 with h1 | h1
    · exact absurd h1 hc
    · have hf := ite_t h1 hf
      have hcl : s.vm.findClass "java/lang/IllegalArgumentException" = some ce.cls := by rw [h1] at hcl; exact hcl
      refine vx_catch (E := "java/lang/IllegalArgumentException") (name := "java/lang/IllegalArgumentException") hown [] ⟨0, 9, 12, 13⟩ [] (hex.trans rfl) (fun z hz => absurd hz List.not_mem_nil) (by decide) (by decide) (hts _ kt_L_13) (va_Nw.use rfl (hXW.2.2.2.2.2.2.2.1 "java/lang/IllegalArgumentException" (by decide))) hce hcv hcl ?_
      refine lv_astore_n (lv' := [(3, .ref q9), (0, .ref (G.2.1 0)), (1, .int x1), (2, .ref (G.2.1 208))]) hx hb dL_string_12 rfl hl (by decide) rfl (fun ls hl => ?_)
      refine lv_iconst (v := 1) hx hb dL_string_13 (by decide) ?_
      exact gl_iret X hr hlk hP hS hf (Nat.le_of_ble_eq_true rfl) (Nat.le_of_ble_eq_true rfl) dL_string_14
  · have hf := bnd_go hq hf
    have hf := ite_t hc hf
    refine lv_i2l (v := (q.2.2).toInt64) hx hb dL_string_7 rfl ?_
    refine g_last X hP hS ab_208 (by rw [al_208]; unfold vp_in; decide) dL_string_8 (fun H locs hP hS => ?_)
    refine lv_goto (tgt := 15) hx hb dL_string_9 (by decide) ?_
    refine lv_iconst (v := 0) hx hb dL_string_15 (by decide) ?_
    exact gl_iret X hr hlk hP hS hf (Nat.le_of_ble_eq_true rfl) (Nat.le_of_ble_eq_true rfl) dL_string_16
def f_L_lettersOf (σ : St) (x1 : Int32) (x2 : Int32) : St × Int32 := bnd (f_X9_lettersOf σ x1 x2) (fun q => if q.1 = 0 then (setJ q.2.1 208 0 (q.2.2).toInt64, (0 : Int32)) else if q.1 = 2 then (q.2.1, (1 : Int32)) else if q.1 = 1 then (q.2.1, (2 : Int32)) else (q.2.1, (0 : Int32)))
def ok_L_lettersOf (σ : St) (x1 : Int32) (x2 : Int32) : Prop := (ok_X9_lettersOf σ x1 x2) ∧ ((f_X9_lettersOf σ x1 x2).1 = 0 ∨ (f_X9_lettersOf σ x1 x2).1 = 2 ∨ (f_X9_lettersOf σ x1 x2).1 = 1)
abbrev rm_L_lettersOf : Room := { frames := 9, cells := 2, slots := 12, locals := 167 }
set_option maxHeartbeats 4000000 in
set_option maxRecDepth 100000 in
theorem c_L_lettersOf (l : Launch) (hfl : l.stackTraces = false) (G : GE) (hG : Gok G) (σ : St) (x1 : Int32) (x2 : Int32) (hok : ok_L_lettersOf σ x1 x2) : Met l yL_lettersOf (wsW yL_lettersOf cL_lettersOf 5 [(0, 10, 13, 21), (0, 10, 17, 13)]) rm_L_lettersOf (va_Pc [.ref (G.2.1 0), .int x1, .int x2, .ref (G.2.1 208)] (Wd G σ)) (va_Qi (fun r u => (u, r) = f_L_lettersOf σ x1 x2) (PB G) (GA G)) 2 12 (GA G) := by
  generalize hf : f_L_lettersOf σ x1 x2 = fv
  rw [f_L_lettersOf] at hf
  rw [ok_L_lettersOf] at hok
  obtain ⟨hs1, hk1⟩ := hok
  refine gl_start hG (by decide) (Nat.le_of_ble_eq_true rfl) ?_
  intro p e s m args below meth c X hr hlk hex ls hl H locs hP hS
  have X : Cx G p s m args c cL_lettersOf 5 RL := X
  obtain ⟨hx, hb, hml, hown, hts, hK, hbs, hXW, -⟩ := id X
  have hl : lv_has ls 5 [(0, .ref (G.2.1 0)), (1, .int x1), (2, .int x2), (3, .ref (G.2.1 208))] := hl
  refine lv_aload_n hx hb dL_lettersOf_0 rfl (lv_at hl 3 rfl) ?_
  refine lv_iconst (v := 0) hx hb dL_lettersOf_1 (by decide) ?_
  refine lv_aload_n hx hb dL_lettersOf_2 rfl (lv_at hl 0 rfl) ?_
  refine lv_iload_n hx hb dL_lettersOf_3 rfl (lv_at hl 1 rfl) ?_
  refine lv_iload_n hx hb dL_lettersOf_4 rfl (lv_at hl 2 rfl) ?_
  refine gl_cI (gx_runV (i := 0) (As := [.int x1, .int x2]) (rest := [.int (0 : Int32), .ref (G.2.1 208)]) X (c_X9_lettersOf l hfl G hG σ x1 x2 hs1) ca_X9_lettersOf km_L_47 rfl rfl ⟨Nat.le_of_ble_eq_true rfl, Nat.le_of_ble_eq_true rfl⟩ hP hS (ty_lt ab_0) (cell_9 ab_0) rfl rfl rfl hl.1 rfl (Nat.le_of_ble_eq_true rfl) ⟨Nat.le_of_ble_eq_true rfl, Nat.le_of_ble_eq_true rfl⟩ dL_lettersOf_5) hS (fun q hq hc H locs hP hS ce q9 hce hcv hcl => ?_) (fun q hq hc H locs hP hS => ?_)
  · have hf := bnd_go hq hf
    have hf := ite_f hc hf
    rw [← hq] at hk1
    rcases hk1 with h1 | h1 | h1
    · exact absurd h1 hc
    · have hf := ite_t h1 hf
      have hcl : s.vm.findClass "java/lang/IndexOutOfBoundsException" = some ce.cls := by rw [h1] at hcl; exact hcl
      refine vx_catch (E := "java/lang/IndexOutOfBoundsException") (name := "java/lang/IndexOutOfBoundsException") hown [] ⟨0, 10, 13, 21⟩ [⟨0, 10, 17, 13⟩] (hex.trans rfl) (fun z hz => absurd hz List.not_mem_nil) (by decide) (by decide) (hts _ kt_L_21) (va_Nw.use rfl (hXW.2.2.2.2.2.2.2.1 "java/lang/IndexOutOfBoundsException" (by decide))) hce hcv hcl ?_
      refine lv_astore (lv' := [(4, .ref q9), (0, .ref (G.2.1 0)), (1, .int x1), (2, .int x2), (3, .ref (G.2.1 208))]) hx hb dL_lettersOf_13 hl (by decide) rfl (fun ls hl => ?_)
      refine lv_iconst (v := 1) hx hb dL_lettersOf_15 (by decide) ?_
      exact gl_iret X hr hlk hP hS hf (Nat.le_of_ble_eq_true rfl) (Nat.le_of_ble_eq_true rfl) dL_lettersOf_16
    · have hf := ite_f (by rw [h1]; decide) hf
      have hf := ite_t h1 hf
      have hcl : s.vm.findClass "java/lang/IllegalArgumentException" = some ce.cls := by rw [h1] at hcl; exact hcl
      refine vx_catch (E := "java/lang/IllegalArgumentException") (name := "java/lang/IllegalArgumentException") hown [⟨0, 10, 13, 21⟩] ⟨0, 10, 17, 13⟩ [] (hex.trans rfl) (List.forall_mem_cons.mpr ⟨Or.inr ⟨by decide, "java/lang/IndexOutOfBoundsException", hts _ kt_L_21, hXW.2.2.2.2.2.2.2.2.2 _ (List.mem_of_getElem? (i := 0) rfl)⟩, fun z hz => absurd hz List.not_mem_nil⟩) (by decide) (by decide) (hts _ kt_L_13) (va_Nw.use rfl (hXW.2.2.2.2.2.2.2.1 "java/lang/IllegalArgumentException" (by decide))) hce hcv hcl ?_
      refine lv_astore (lv' := [(4, .ref q9), (0, .ref (G.2.1 0)), (1, .int x1), (2, .int x2), (3, .ref (G.2.1 208))]) hx hb dL_lettersOf_17 hl (by decide) rfl (fun ls hl => ?_)
      refine lv_iconst (v := 2) hx hb dL_lettersOf_19 (by decide) ?_
      exact gl_iret X hr hlk hP hS hf (Nat.le_of_ble_eq_true rfl) (Nat.le_of_ble_eq_true rfl) dL_lettersOf_20
  · have hf := bnd_go hq hf
    have hf := ite_t hc hf
    refine lv_i2l (v := (q.2.2).toInt64) hx hb dL_lettersOf_8 rfl ?_
    refine g_last X hP hS ab_208 (by rw [al_208]; unfold vp_in; decide) dL_lettersOf_9 (fun H locs hP hS => ?_)
    refine lv_goto (tgt := 21) hx hb dL_lettersOf_10 (by decide) ?_
    refine lv_iconst (v := 0) hx hb dL_lettersOf_21 (by decide) ?_
    exact gl_iret X hr hlk hP hS hf (Nat.le_of_ble_eq_true rfl) (Nat.le_of_ble_eq_true rfl) dL_lettersOf_22
def f_L_lettersAgain (σ : St) (x1 : Int32) (x2 : Int32) : St × Int32 := bnd (f_X9_lettersAgain σ x1 x2) (fun q => if q.1 = 0 then (setJ q.2.1 208 0 (q.2.2).toInt64, (0 : Int32)) else if q.1 = 2 then (q.2.1, (1 : Int32)) else if q.1 = 1 then (q.2.1, (2 : Int32)) else (q.2.1, (0 : Int32)))
def ok_L_lettersAgain (σ : St) (x1 : Int32) (x2 : Int32) : Prop := (ok_X9_lettersAgain σ x1 x2) ∧ ((f_X9_lettersAgain σ x1 x2).1 = 0 ∨ (f_X9_lettersAgain σ x1 x2).1 = 2 ∨ (f_X9_lettersAgain σ x1 x2).1 = 1)
abbrev rm_L_lettersAgain : Room := { frames := 9, cells := 2, slots := 12, locals := 166 }
set_option maxHeartbeats 4000000 in
set_option maxRecDepth 100000 in
theorem c_L_lettersAgain (l : Launch) (hfl : l.stackTraces = false) (G : GE) (hG : Gok G) (σ : St) (x1 : Int32) (x2 : Int32) (hok : ok_L_lettersAgain σ x1 x2) : Met l yL_lettersAgain (wsW yL_lettersAgain cL_lettersAgain 5 [(0, 10, 13, 21), (0, 10, 17, 13)]) rm_L_lettersAgain (va_Pc [.ref (G.2.1 0), .int x1, .int x2, .ref (G.2.1 208)] (Wd G σ)) (va_Qi (fun r u => (u, r) = f_L_lettersAgain σ x1 x2) (PB G) (GA G)) 2 12 (GA G) := by
  generalize hf : f_L_lettersAgain σ x1 x2 = fv
  rw [f_L_lettersAgain] at hf
  rw [ok_L_lettersAgain] at hok
  obtain ⟨hs1, hk1⟩ := hok
  refine gl_start hG (by decide) (Nat.le_of_ble_eq_true rfl) ?_
  intro p e s m args below meth c X hr hlk hex ls hl H locs hP hS
  have X : Cx G p s m args c cL_lettersAgain 5 RL := X
  obtain ⟨hx, hb, hml, hown, hts, hK, hbs, hXW, -⟩ := id X
  have hl : lv_has ls 5 [(0, .ref (G.2.1 0)), (1, .int x1), (2, .int x2), (3, .ref (G.2.1 208))] := hl
  refine lv_aload_n hx hb dL_lettersAgain_0 rfl (lv_at hl 3 rfl) ?_
  refine lv_iconst (v := 0) hx hb dL_lettersAgain_1 (by decide) ?_
  refine lv_aload_n hx hb dL_lettersAgain_2 rfl (lv_at hl 0 rfl) ?_
  refine lv_iload_n hx hb dL_lettersAgain_3 rfl (lv_at hl 1 rfl) ?_
  refine lv_iload_n hx hb dL_lettersAgain_4 rfl (lv_at hl 2 rfl) ?_
  refine gl_cI (gx_runV (i := 0) (As := [.int x1, .int x2]) (rest := [.int (0 : Int32), .ref (G.2.1 208)]) X (c_X9_lettersAgain l hfl G hG σ x1 x2 hs1) ca_X9_lettersAgain km_L_50 rfl rfl ⟨Nat.le_of_ble_eq_true rfl, Nat.le_of_ble_eq_true rfl⟩ hP hS (ty_lt ab_0) (cell_9 ab_0) rfl rfl rfl hl.1 rfl (Nat.le_of_ble_eq_true rfl) ⟨Nat.le_of_ble_eq_true rfl, Nat.le_of_ble_eq_true rfl⟩ dL_lettersAgain_5) hS (fun q hq hc H locs hP hS ce q9 hce hcv hcl => ?_) (fun q hq hc H locs hP hS => ?_)
  · have hf := bnd_go hq hf
    have hf := ite_f hc hf
    rw [← hq] at hk1
    rcases hk1 with h1 | h1 | h1
    · exact absurd h1 hc
    · have hf := ite_t h1 hf
      have hcl : s.vm.findClass "java/lang/IndexOutOfBoundsException" = some ce.cls := by rw [h1] at hcl; exact hcl
      refine vx_catch (E := "java/lang/IndexOutOfBoundsException") (name := "java/lang/IndexOutOfBoundsException") hown [] ⟨0, 10, 13, 21⟩ [⟨0, 10, 17, 13⟩] (hex.trans rfl) (fun z hz => absurd hz List.not_mem_nil) (by decide) (by decide) (hts _ kt_L_21) (va_Nw.use rfl (hXW.2.2.2.2.2.2.2.1 "java/lang/IndexOutOfBoundsException" (by decide))) hce hcv hcl ?_
      refine lv_astore (lv' := [(4, .ref q9), (0, .ref (G.2.1 0)), (1, .int x1), (2, .int x2), (3, .ref (G.2.1 208))]) hx hb dL_lettersAgain_13 hl (by decide) rfl (fun ls hl => ?_)
      refine lv_iconst (v := 1) hx hb dL_lettersAgain_15 (by decide) ?_
      exact gl_iret X hr hlk hP hS hf (Nat.le_of_ble_eq_true rfl) (Nat.le_of_ble_eq_true rfl) dL_lettersAgain_16
    · have hf := ite_f (by rw [h1]; decide) hf
      have hf := ite_t h1 hf
      have hcl : s.vm.findClass "java/lang/IllegalArgumentException" = some ce.cls := by rw [h1] at hcl; exact hcl
      refine vx_catch (E := "java/lang/IllegalArgumentException") (name := "java/lang/IllegalArgumentException") hown [⟨0, 10, 13, 21⟩] ⟨0, 10, 17, 13⟩ [] (hex.trans rfl) (List.forall_mem_cons.mpr ⟨Or.inr ⟨by decide, "java/lang/IndexOutOfBoundsException", hts _ kt_L_21, hXW.2.2.2.2.2.2.2.2.2 _ (List.mem_of_getElem? (i := 0) rfl)⟩, fun z hz => absurd hz List.not_mem_nil⟩) (by decide) (by decide) (hts _ kt_L_13) (va_Nw.use rfl (hXW.2.2.2.2.2.2.2.1 "java/lang/IllegalArgumentException" (by decide))) hce hcv hcl ?_
      refine lv_astore (lv' := [(4, .ref q9), (0, .ref (G.2.1 0)), (1, .int x1), (2, .int x2), (3, .ref (G.2.1 208))]) hx hb dL_lettersAgain_17 hl (by decide) rfl (fun ls hl => ?_)
      refine lv_iconst (v := 2) hx hb dL_lettersAgain_19 (by decide) ?_
      exact gl_iret X hr hlk hP hS hf (Nat.le_of_ble_eq_true rfl) (Nat.le_of_ble_eq_true rfl) dL_lettersAgain_20
  · have hf := bnd_go hq hf
    have hf := ite_t hc hf
    refine lv_i2l (v := (q.2.2).toInt64) hx hb dL_lettersAgain_8 rfl ?_
    refine g_last X hP hS ab_208 (by rw [al_208]; unfold vp_in; decide) dL_lettersAgain_9 (fun H locs hP hS => ?_)
    refine lv_goto (tgt := 21) hx hb dL_lettersAgain_10 (by decide) ?_
    refine lv_iconst (v := 0) hx hb dL_lettersAgain_21 (by decide) ?_
    exact gl_iret X hr hlk hP hS hf (Nat.le_of_ble_eq_true rfl) (Nat.le_of_ble_eq_true rfl) dL_lettersAgain_22
def f_L_ranked (σ : St) (x1 : Int32) : St × Int32 := bnd (f_X9_ranked σ x1) (fun q => if q.1 = 0 then (setJ q.2.1 208 0 (q.2.2).toInt64, (0 : Int32)) else if q.1 = 4 then (q.2.1, (1 : Int32)) else (q.2.1, (0 : Int32)))
def ok_L_ranked (σ : St) (x1 : Int32) : Prop := (ok_X9_ranked σ x1) ∧ ((f_X9_ranked σ x1).1 = 0 ∨ (f_X9_ranked σ x1).1 = 4)
abbrev rm_L_ranked : Room := { frames := 8, cells := 1, slots := 6, locals := 142 }
set_option maxHeartbeats 4000000 in
set_option maxRecDepth 100000 in
theorem c_L_ranked (l : Launch) (hfl : l.stackTraces = false) (G : GE) (hG : Gok G) (σ : St) (x1 : Int32) (hok : ok_L_ranked σ x1) : Met l yL_ranked (wsW yL_ranked cL_ranked 4 [(0, 9, 12, 38)]) rm_L_ranked (va_Pc [.ref (G.2.1 0), .int x1, .ref (G.2.1 208)] (Wd G σ)) (va_Qi (fun r u => (u, r) = f_L_ranked σ x1) (PB G) (GA G)) 1 6 (GA G) := by
  generalize hf : f_L_ranked σ x1 = fv
  rw [f_L_ranked] at hf
  rw [ok_L_ranked] at hok
  obtain ⟨hs1, hk1⟩ := hok
  refine gl_start hG (by decide) (Nat.le_of_ble_eq_true rfl) ?_
  intro p e s m args below meth c X hr hlk hex ls hl H locs hP hS
  have X : Cx G p s m args c cL_ranked 4 RL := X
  obtain ⟨hx, hb, hml, hown, hts, hK, hbs, hXW, -⟩ := id X
  have hl : lv_has ls 4 [(0, .ref (G.2.1 0)), (1, .int x1), (2, .ref (G.2.1 208))] := hl
  refine lv_aload_n hx hb dL_ranked_0 rfl (lv_at hl 2 rfl) ?_
  refine lv_iconst (v := 0) hx hb dL_ranked_1 (by decide) ?_
  refine lv_aload_n hx hb dL_ranked_2 rfl (lv_at hl 0 rfl) ?_
  refine lv_iload_n hx hb dL_ranked_3 rfl (lv_at hl 1 rfl) ?_
  refine gl_cI (gx_runV (i := 0) (As := [.int x1]) (rest := [.int (0 : Int32), .ref (G.2.1 208)]) X (c_X9_ranked l hfl G hG σ x1 hs1) ca_X9_ranked km_L_53 rfl rfl ⟨Nat.le_of_ble_eq_true rfl, Nat.le_of_ble_eq_true rfl⟩ hP hS (ty_lt ab_0) (cell_9 ab_0) rfl rfl rfl hl.1 rfl (Nat.le_of_ble_eq_true rfl) ⟨Nat.le_of_ble_eq_true rfl, Nat.le_of_ble_eq_true rfl⟩ dL_ranked_4) hS (fun q hq hc H locs hP hS ce q9 hce hcv hcl => ?_) (fun q hq hc H locs hP hS => ?_)
  · have hf := bnd_go hq hf
    have hf := ite_f hc hf
    rw [← hq] at hk1
    rcases hk1 with h1 | h1
    · exact absurd h1 hc
    · have hf := ite_t h1 hf
      have hcl : s.vm.findClass "java/util/NoSuchElementException" = some ce.cls := by rw [h1] at hcl; exact hcl
      refine vx_catch (E := "java/util/NoSuchElementException") (name := "java/util/NoSuchElementException") hown [] ⟨0, 9, 12, 38⟩ [] (hex.trans rfl) (fun z hz => absurd hz List.not_mem_nil) (by decide) (by decide) (hts _ kt_L_38) (va_Nw.use rfl (hXW.2.2.2.2.2.2.2.1 "java/util/NoSuchElementException" (by decide))) hce hcv hcl ?_
      refine lv_astore_n (lv' := [(3, .ref q9), (0, .ref (G.2.1 0)), (1, .int x1), (2, .ref (G.2.1 208))]) hx hb dL_ranked_12 rfl hl (by decide) rfl (fun ls hl => ?_)
      refine lv_iconst (v := 1) hx hb dL_ranked_13 (by decide) ?_
      exact gl_iret X hr hlk hP hS hf (Nat.le_of_ble_eq_true rfl) (Nat.le_of_ble_eq_true rfl) dL_ranked_14
  · have hf := bnd_go hq hf
    have hf := ite_t hc hf
    refine lv_i2l (v := (q.2.2).toInt64) hx hb dL_ranked_7 rfl ?_
    refine g_last X hP hS ab_208 (by rw [al_208]; unfold vp_in; decide) dL_ranked_8 (fun H locs hP hS => ?_)
    refine lv_goto (tgt := 15) hx hb dL_ranked_9 (by decide) ?_
    refine lv_iconst (v := 0) hx hb dL_ranked_15 (by decide) ?_
    exact gl_iret X hr hlk hP hS hf (Nat.le_of_ble_eq_true rfl) (Nat.le_of_ble_eq_true rfl) dL_ranked_16
def f_L_potato (σ : St) : St × Int32 := bnd (f_X9_potato σ) (fun q => if q.1 = 0 then (setJ q.2.1 208 0 (q.2.2).toInt64, (0 : Int32)) else if q.1 = 3 then (q.2.1, (1 : Int32)) else (q.2.1, (0 : Int32)))
def ok_L_potato (σ : St) : Prop := (ok_X9_potato σ) ∧ ((f_X9_potato σ).1 = 0 ∨ (f_X9_potato σ).1 = 3)
abbrev rm_L_potato : Room := { frames := 8, cells := 1, slots := 6, locals := 143 }
set_option maxHeartbeats 4000000 in
set_option maxRecDepth 100000 in
theorem c_L_potato (l : Launch) (hfl : l.stackTraces = false) (G : GE) (hG : Gok G) (σ : St) (hok : ok_L_potato σ) : Met l yL_potato (wsW yL_potato cL_potato 3 [(0, 8, 11, 15)]) rm_L_potato (va_Pc [.ref (G.2.1 0), .ref (G.2.1 208)] (Wd G σ)) (va_Qi (fun r u => (u, r) = f_L_potato σ) (PB G) (GA G)) 1 6 (GA G) := by
  generalize hf : f_L_potato σ = fv
  rw [f_L_potato] at hf
  rw [ok_L_potato] at hok
  obtain ⟨hs1, hk1⟩ := hok
  refine gl_start hG (by decide) (Nat.le_of_ble_eq_true rfl) ?_
  intro p e s m args below meth c X hr hlk hex ls hl H locs hP hS
  have X : Cx G p s m args c cL_potato 3 RL := X
  obtain ⟨hx, hb, hml, hown, hts, hK, hbs, hXW, -⟩ := id X
  have hl : lv_has ls 3 [(0, .ref (G.2.1 0)), (1, .ref (G.2.1 208))] := hl
  refine lv_aload_n hx hb dL_potato_0 rfl (lv_at hl 1 rfl) ?_
  refine lv_iconst (v := 0) hx hb dL_potato_1 (by decide) ?_
  refine lv_aload_n hx hb dL_potato_2 rfl (lv_at hl 0 rfl) ?_
  refine gl_cI (gx_runV (i := 0) (As := []) (rest := [.int (0 : Int32), .ref (G.2.1 208)]) X (c_X9_potato l hfl G hG σ hs1) ca_X9_potato km_L_56 rfl rfl ⟨Nat.le_of_ble_eq_true rfl, Nat.le_of_ble_eq_true rfl⟩ hP hS (ty_lt ab_0) (cell_9 ab_0) rfl rfl rfl hl.1 rfl (Nat.le_of_ble_eq_true rfl) ⟨Nat.le_of_ble_eq_true rfl, Nat.le_of_ble_eq_true rfl⟩ dL_potato_3) hS (fun q hq hc H locs hP hS ce q9 hce hcv hcl => ?_) (fun q hq hc H locs hP hS => ?_)
  · have hf := bnd_go hq hf
    have hf := ite_f hc hf
    rw [← hq] at hk1
    rcases hk1 with h1 | h1
    · exact absurd h1 hc
    · have hf := ite_t h1 hf
      have hcl : s.vm.findClass "java/lang/UnsupportedOperationException" = some ce.cls := by rw [h1] at hcl; exact hcl
      refine vx_catch (E := "java/lang/UnsupportedOperationException") (name := "java/lang/UnsupportedOperationException") hown [] ⟨0, 8, 11, 15⟩ [] (hex.trans rfl) (fun z hz => absurd hz List.not_mem_nil) (by decide) (by decide) (hts _ kt_L_15) (va_Nw.use rfl (hXW.2.2.2.2.2.2.2.1 "java/lang/UnsupportedOperationException" (by decide))) hce hcv hcl ?_
      refine lv_astore_n (lv' := [(2, .ref q9), (0, .ref (G.2.1 0)), (1, .ref (G.2.1 208))]) hx hb dL_potato_11 rfl hl (by decide) rfl (fun ls hl => ?_)
      refine lv_iconst (v := 1) hx hb dL_potato_12 (by decide) ?_
      exact gl_iret X hr hlk hP hS hf (Nat.le_of_ble_eq_true rfl) (Nat.le_of_ble_eq_true rfl) dL_potato_13
  · have hf := bnd_go hq hf
    have hf := ite_t hc hf
    refine lv_i2l (v := (q.2.2).toInt64) hx hb dL_potato_6 rfl ?_
    refine g_last X hP hS ab_208 (by rw [al_208]; unfold vp_in; decide) dL_potato_7 (fun H locs hP hS => ?_)
    refine lv_goto (tgt := 14) hx hb dL_potato_8 (by decide) ?_
    refine lv_iconst (v := 0) hx hb dL_potato_14 (by decide) ?_
    exact gl_iret X hr hlk hP hS hf (Nat.le_of_ble_eq_true rfl) (Nat.le_of_ble_eq_true rfl) dL_potato_15
def f_L_firmness (σ : St) (x1 : Int32) : St × Int32 := bnd (f_X9_firmness σ x1) (fun q => if q.1 = 0 then (setD q.2.1 209 0 (FP.f2d q.2.2), (0 : Int32)) else if q.1 = 2 then (q.2.1, (1 : Int32)) else (q.2.1, (0 : Int32)))
def ok_L_firmness (σ : St) (x1 : Int32) : Prop := (ok_X9_firmness σ x1) ∧ ((f_X9_firmness σ x1).1 = 0 ∨ (f_X9_firmness σ x1).1 = 2) ∧ (vf_n64 (FP.f2d (f_X9_firmness σ x1).2.2))
abbrev rm_L_firmness : Room := { frames := 9, cells := 1, slots := 6, locals := 162 }
set_option maxHeartbeats 4000000 in
set_option maxRecDepth 100000 in
theorem c_L_firmness (l : Launch) (hfl : l.stackTraces = false) (G : GE) (hG : Gok G) (σ : St) (x1 : Int32) (hok : ok_L_firmness σ x1) : Met l yL_firmness (wsW yL_firmness cL_firmness 4 [(0, 9, 12, 21)]) rm_L_firmness (va_Pc [.ref (G.2.1 0), .int x1, .ref (G.2.1 209)] (Wd G σ)) (va_Qi (fun r u => (u, r) = f_L_firmness σ x1) (PB G) (GA G)) 1 6 (GA G) := by
  generalize hf : f_L_firmness σ x1 = fv
  rw [f_L_firmness] at hf
  rw [ok_L_firmness] at hok
  obtain ⟨hs1, hk1, hn1⟩ := hok
  refine gl_start hG (by decide) (Nat.le_of_ble_eq_true rfl) ?_
  intro p e s m args below meth c X hr hlk hex ls hl H locs hP hS
  have X : Cx G p s m args c cL_firmness 4 RL := X
  obtain ⟨hx, hb, hml, hown, hts, hK, hbs, hXW, -⟩ := id X
  have hl : lv_has ls 4 [(0, .ref (G.2.1 0)), (1, .int x1), (2, .ref (G.2.1 209))] := hl
  refine lv_aload_n hx hb dL_firmness_0 rfl (lv_at hl 2 rfl) ?_
  refine lv_iconst (v := 0) hx hb dL_firmness_1 (by decide) ?_
  refine lv_aload_n hx hb dL_firmness_2 rfl (lv_at hl 0 rfl) ?_
  refine lv_iload_n hx hb dL_firmness_3 rfl (lv_at hl 1 rfl) ?_
  refine gl_cF (gx_runV (i := 0) (As := [.int x1]) (rest := [.int (0 : Int32), .ref (G.2.1 209)]) X (c_X9_firmness l hfl G hG σ x1 hs1) ca_X9_firmness km_L_60 rfl rfl ⟨Nat.le_of_ble_eq_true rfl, Nat.le_of_ble_eq_true rfl⟩ hP hS (ty_lt ab_0) (cell_9 ab_0) rfl rfl rfl hl.1 rfl (Nat.le_of_ble_eq_true rfl) ⟨Nat.le_of_ble_eq_true rfl, Nat.le_of_ble_eq_true rfl⟩ dL_firmness_4) hS (fun q hq hc H locs hP hS ce q9 hce hcv hcl => ?_) (fun q hq hc H locs hP hS => ?_)
  · have hf := bnd_go hq hf
    have hf := ite_f hc hf
    rw [← hq] at hk1
    rcases hk1 with h1 | h1
    · exact absurd h1 hc
    · have hf := ite_t h1 hf
      have hcl : s.vm.findClass "java/lang/IndexOutOfBoundsException" = some ce.cls := by rw [h1] at hcl; exact hcl
      refine vx_catch (E := "java/lang/IndexOutOfBoundsException") (name := "java/lang/IndexOutOfBoundsException") hown [] ⟨0, 9, 12, 21⟩ [] (hex.trans rfl) (fun z hz => absurd hz List.not_mem_nil) (by decide) (by decide) (hts _ kt_L_21) (va_Nw.use rfl (hXW.2.2.2.2.2.2.2.1 "java/lang/IndexOutOfBoundsException" (by decide))) hce hcv hcl ?_
      refine lv_astore_n (lv' := [(3, .ref q9), (0, .ref (G.2.1 0)), (1, .int x1), (2, .ref (G.2.1 209))]) hx hb dL_firmness_12 rfl hl (by decide) rfl (fun ls hl => ?_)
      refine lv_iconst (v := 1) hx hb dL_firmness_13 (by decide) ?_
      exact gl_iret X hr hlk hP hS hf (Nat.le_of_ble_eq_true rfl) (Nat.le_of_ble_eq_true rfl) dL_firmness_14
  · have hf := bnd_go hq hf
    have hf := ite_t hc hf
    refine lv_f2d hx hb dL_firmness_7 (by rw [hq]; exact hn1) ?_
    refine g_dast X hP hS ab_209 (by rw [al_209]; unfold vp_in; decide) dL_firmness_8 (fun H locs hP hS => ?_)
    refine lv_goto (tgt := 15) hx hb dL_firmness_9 (by decide) ?_
    refine lv_iconst (v := 0) hx hb dL_firmness_15 (by decide) ?_
    exact gl_iret X hr hlk hP hS hf (Nat.le_of_ble_eq_true rfl) (Nat.le_of_ble_eq_true rfl) dL_firmness_16
def f_L_print (σ : St) (x1 : Int32) : St × Int32 := bnd (f_X9_print σ x1) (fun q => if q.1 = 0 then (setJ q.2.1 208 0 (q.2.2).toInt64, (0 : Int32)) else if q.1 = 2 then (q.2.1, (1 : Int32)) else (q.2.1, (0 : Int32)))
def ok_L_print (σ : St) (x1 : Int32) : Prop := (ok_X9_print σ x1) ∧ ((f_X9_print σ x1).1 = 0 ∨ (f_X9_print σ x1).1 = 2)
abbrev rm_L_print : Room := { frames := 9, cells := 1, slots := 6, locals := 162 }
set_option maxHeartbeats 4000000 in
set_option maxRecDepth 100000 in
theorem c_L_print (l : Launch) (hfl : l.stackTraces = false) (G : GE) (hG : Gok G) (σ : St) (x1 : Int32) (hok : ok_L_print σ x1) : Met l yL_print (wsW yL_print cL_print 4 [(0, 9, 12, 21)]) rm_L_print (va_Pc [.ref (G.2.1 0), .int x1, .ref (G.2.1 208)] (Wd G σ)) (va_Qi (fun r u => (u, r) = f_L_print σ x1) (PB G) (GA G)) 1 6 (GA G) := by
  generalize hf : f_L_print σ x1 = fv
  rw [f_L_print] at hf
  rw [ok_L_print] at hok
  obtain ⟨hs1, hk1⟩ := hok
  refine gl_start hG (by decide) (Nat.le_of_ble_eq_true rfl) ?_
  intro p e s m args below meth c X hr hlk hex ls hl H locs hP hS
  have X : Cx G p s m args c cL_print 4 RL := X
  obtain ⟨hx, hb, hml, hown, hts, hK, hbs, hXW, -⟩ := id X
  have hl : lv_has ls 4 [(0, .ref (G.2.1 0)), (1, .int x1), (2, .ref (G.2.1 208))] := hl
  refine lv_aload_n hx hb dL_print_0 rfl (lv_at hl 2 rfl) ?_
  refine lv_iconst (v := 0) hx hb dL_print_1 (by decide) ?_
  refine lv_aload_n hx hb dL_print_2 rfl (lv_at hl 0 rfl) ?_
  refine lv_iload_n hx hb dL_print_3 rfl (lv_at hl 1 rfl) ?_
  refine gl_cI (gx_runV (i := 0) (As := [.int x1]) (rest := [.int (0 : Int32), .ref (G.2.1 208)]) X (c_X9_print l hfl G hG σ x1 hs1) ca_X9_print km_L_63 rfl rfl ⟨Nat.le_of_ble_eq_true rfl, Nat.le_of_ble_eq_true rfl⟩ hP hS (ty_lt ab_0) (cell_9 ab_0) rfl rfl rfl hl.1 rfl (Nat.le_of_ble_eq_true rfl) ⟨Nat.le_of_ble_eq_true rfl, Nat.le_of_ble_eq_true rfl⟩ dL_print_4) hS (fun q hq hc H locs hP hS ce q9 hce hcv hcl => ?_) (fun q hq hc H locs hP hS => ?_)
  · have hf := bnd_go hq hf
    have hf := ite_f hc hf
    rw [← hq] at hk1
    rcases hk1 with h1 | h1
    · exact absurd h1 hc
    · have hf := ite_t h1 hf
      have hcl : s.vm.findClass "java/lang/IndexOutOfBoundsException" = some ce.cls := by rw [h1] at hcl; exact hcl
      refine vx_catch (E := "java/lang/IndexOutOfBoundsException") (name := "java/lang/IndexOutOfBoundsException") hown [] ⟨0, 9, 12, 21⟩ [] (hex.trans rfl) (fun z hz => absurd hz List.not_mem_nil) (by decide) (by decide) (hts _ kt_L_21) (va_Nw.use rfl (hXW.2.2.2.2.2.2.2.1 "java/lang/IndexOutOfBoundsException" (by decide))) hce hcv hcl ?_
      refine lv_astore_n (lv' := [(3, .ref q9), (0, .ref (G.2.1 0)), (1, .int x1), (2, .ref (G.2.1 208))]) hx hb dL_print_12 rfl hl (by decide) rfl (fun ls hl => ?_)
      refine lv_iconst (v := 1) hx hb dL_print_13 (by decide) ?_
      exact gl_iret X hr hlk hP hS hf (Nat.le_of_ble_eq_true rfl) (Nat.le_of_ble_eq_true rfl) dL_print_14
  · have hf := bnd_go hq hf
    have hf := ite_t hc hf
    refine lv_i2l (v := (q.2.2).toInt64) hx hb dL_print_7 rfl ?_
    refine g_last X hP hS ab_208 (by rw [al_208]; unfold vp_in; decide) dL_print_8 (fun H locs hP hS => ?_)
    refine lv_goto (tgt := 15) hx hb dL_print_9 (by decide) ?_
    refine lv_iconst (v := 0) hx hb dL_print_15 (by decide) ?_
    exact gl_iret X hr hlk hP hS hf (Nat.le_of_ble_eq_true rfl) (Nat.le_of_ble_eq_true rfl) dL_print_16
def f_L_stampsOf (σ : St) (x1 : Int32) : St × Int32 := bnd (f_X9_stampsOf σ x1) (fun q => if q.1 = 0 then (setJ q.2.1 208 0 (q.2.2).toInt64, (0 : Int32)) else if q.1 = 2 then (q.2.1, (1 : Int32)) else (q.2.1, (0 : Int32)))
def ok_L_stampsOf (σ : St) (x1 : Int32) : Prop := (ok_X9_stampsOf σ x1) ∧ ((f_X9_stampsOf σ x1).1 = 0 ∨ (f_X9_stampsOf σ x1).1 = 2)
abbrev rm_L_stampsOf : Room := { frames := 9, cells := 1, slots := 6, locals := 165 }
set_option maxHeartbeats 4000000 in
set_option maxRecDepth 100000 in
theorem c_L_stampsOf (l : Launch) (hfl : l.stackTraces = false) (G : GE) (hG : Gok G) (σ : St) (x1 : Int32) (hok : ok_L_stampsOf σ x1) : Met l yL_stampsOf (wsW yL_stampsOf cL_stampsOf 4 [(0, 9, 12, 21)]) rm_L_stampsOf (va_Pc [.ref (G.2.1 0), .int x1, .ref (G.2.1 208)] (Wd G σ)) (va_Qi (fun r u => (u, r) = f_L_stampsOf σ x1) (PB G) (GA G)) 1 6 (GA G) := by
  generalize hf : f_L_stampsOf σ x1 = fv
  rw [f_L_stampsOf] at hf
  rw [ok_L_stampsOf] at hok
  obtain ⟨hs1, hk1⟩ := hok
  refine gl_start hG (by decide) (Nat.le_of_ble_eq_true rfl) ?_
  intro p e s m args below meth c X hr hlk hex ls hl H locs hP hS
  have X : Cx G p s m args c cL_stampsOf 4 RL := X
  obtain ⟨hx, hb, hml, hown, hts, hK, hbs, hXW, -⟩ := id X
  have hl : lv_has ls 4 [(0, .ref (G.2.1 0)), (1, .int x1), (2, .ref (G.2.1 208))] := hl
  refine lv_aload_n hx hb dL_stampsOf_0 rfl (lv_at hl 2 rfl) ?_
  refine lv_iconst (v := 0) hx hb dL_stampsOf_1 (by decide) ?_
  refine lv_aload_n hx hb dL_stampsOf_2 rfl (lv_at hl 0 rfl) ?_
  refine lv_iload_n hx hb dL_stampsOf_3 rfl (lv_at hl 1 rfl) ?_
  refine gl_cI (gx_runV (i := 0) (As := [.int x1]) (rest := [.int (0 : Int32), .ref (G.2.1 208)]) X (c_X9_stampsOf l hfl G hG σ x1 hs1) ca_X9_stampsOf km_L_66 rfl rfl ⟨Nat.le_of_ble_eq_true rfl, Nat.le_of_ble_eq_true rfl⟩ hP hS (ty_lt ab_0) (cell_9 ab_0) rfl rfl rfl hl.1 rfl (Nat.le_of_ble_eq_true rfl) ⟨Nat.le_of_ble_eq_true rfl, Nat.le_of_ble_eq_true rfl⟩ dL_stampsOf_4) hS (fun q hq hc H locs hP hS ce q9 hce hcv hcl => ?_) (fun q hq hc H locs hP hS => ?_)
  · have hf := bnd_go hq hf
    have hf := ite_f hc hf
    rw [← hq] at hk1
    rcases hk1 with h1 | h1
    · exact absurd h1 hc
    · have hf := ite_t h1 hf
      have hcl : s.vm.findClass "java/lang/IndexOutOfBoundsException" = some ce.cls := by rw [h1] at hcl; exact hcl
      refine vx_catch (E := "java/lang/IndexOutOfBoundsException") (name := "java/lang/IndexOutOfBoundsException") hown [] ⟨0, 9, 12, 21⟩ [] (hex.trans rfl) (fun z hz => absurd hz List.not_mem_nil) (by decide) (by decide) (hts _ kt_L_21) (va_Nw.use rfl (hXW.2.2.2.2.2.2.2.1 "java/lang/IndexOutOfBoundsException" (by decide))) hce hcv hcl ?_
      refine lv_astore_n (lv' := [(3, .ref q9), (0, .ref (G.2.1 0)), (1, .int x1), (2, .ref (G.2.1 208))]) hx hb dL_stampsOf_12 rfl hl (by decide) rfl (fun ls hl => ?_)
      refine lv_iconst (v := 1) hx hb dL_stampsOf_13 (by decide) ?_
      exact gl_iret X hr hlk hP hS hf (Nat.le_of_ble_eq_true rfl) (Nat.le_of_ble_eq_true rfl) dL_stampsOf_14
  · have hf := bnd_go hq hf
    have hf := ite_t hc hf
    refine lv_i2l (v := (q.2.2).toInt64) hx hb dL_stampsOf_7 rfl ?_
    refine g_last X hP hS ab_208 (by rw [al_208]; unfold vp_in; decide) dL_stampsOf_8 (fun H locs hP hS => ?_)
    refine lv_goto (tgt := 15) hx hb dL_stampsOf_9 (by decide) ?_
    refine lv_iconst (v := 0) hx hb dL_stampsOf_15 (by decide) ?_
    exact gl_iret X hr hlk hP hS hf (Nat.le_of_ble_eq_true rfl) (Nat.le_of_ble_eq_true rfl) dL_stampsOf_16
def f_L_best (σ : St) : St × Int32 := bnd (f_X9_best σ) (fun q => if q.1 = 0 then (setJ q.2.1 208 0 (q.2.2).toInt64, (0 : Int32)) else if q.1 = 4 then (q.2.1, (1 : Int32)) else (q.2.1, (0 : Int32)))
def ok_L_best (σ : St) : Prop := (ok_X9_best σ) ∧ ((f_X9_best σ).1 = 0 ∨ (f_X9_best σ).1 = 4)
abbrev rm_L_best : Room := { frames := 8, cells := 1, slots := 6, locals := 141 }
set_option maxHeartbeats 4000000 in
set_option maxRecDepth 100000 in
theorem c_L_best (l : Launch) (hfl : l.stackTraces = false) (G : GE) (hG : Gok G) (σ : St) (hok : ok_L_best σ) : Met l yL_best (wsW yL_best cL_best 3 [(0, 8, 11, 38)]) rm_L_best (va_Pc [.ref (G.2.1 0), .ref (G.2.1 208)] (Wd G σ)) (va_Qi (fun r u => (u, r) = f_L_best σ) (PB G) (GA G)) 1 6 (GA G) := by
  generalize hf : f_L_best σ = fv
  rw [f_L_best] at hf
  rw [ok_L_best] at hok
  obtain ⟨hs1, hk1⟩ := hok
  refine gl_start hG (by decide) (Nat.le_of_ble_eq_true rfl) ?_
  intro p e s m args below meth c X hr hlk hex ls hl H locs hP hS
  have X : Cx G p s m args c cL_best 3 RL := X
  obtain ⟨hx, hb, hml, hown, hts, hK, hbs, hXW, -⟩ := id X
  have hl : lv_has ls 3 [(0, .ref (G.2.1 0)), (1, .ref (G.2.1 208))] := hl
  refine lv_aload_n hx hb dL_best_0 rfl (lv_at hl 1 rfl) ?_
  refine lv_iconst (v := 0) hx hb dL_best_1 (by decide) ?_
  refine lv_aload_n hx hb dL_best_2 rfl (lv_at hl 0 rfl) ?_
  refine gl_cI (gx_runV (i := 0) (As := []) (rest := [.int (0 : Int32), .ref (G.2.1 208)]) X (c_X9_best l hfl G hG σ hs1) ca_X9_best km_L_69 rfl rfl ⟨Nat.le_of_ble_eq_true rfl, Nat.le_of_ble_eq_true rfl⟩ hP hS (ty_lt ab_0) (cell_9 ab_0) rfl rfl rfl hl.1 rfl (Nat.le_of_ble_eq_true rfl) ⟨Nat.le_of_ble_eq_true rfl, Nat.le_of_ble_eq_true rfl⟩ dL_best_3) hS (fun q hq hc H locs hP hS ce q9 hce hcv hcl => ?_) (fun q hq hc H locs hP hS => ?_)
  · have hf := bnd_go hq hf
    have hf := ite_f hc hf
    rw [← hq] at hk1
    rcases hk1 with h1 | h1
    · exact absurd h1 hc
    · have hf := ite_t h1 hf
      have hcl : s.vm.findClass "java/util/NoSuchElementException" = some ce.cls := by rw [h1] at hcl; exact hcl
      refine vx_catch (E := "java/util/NoSuchElementException") (name := "java/util/NoSuchElementException") hown [] ⟨0, 8, 11, 38⟩ [] (hex.trans rfl) (fun z hz => absurd hz List.not_mem_nil) (by decide) (by decide) (hts _ kt_L_38) (va_Nw.use rfl (hXW.2.2.2.2.2.2.2.1 "java/util/NoSuchElementException" (by decide))) hce hcv hcl ?_
      refine lv_astore_n (lv' := [(2, .ref q9), (0, .ref (G.2.1 0)), (1, .ref (G.2.1 208))]) hx hb dL_best_11 rfl hl (by decide) rfl (fun ls hl => ?_)
      refine lv_iconst (v := 1) hx hb dL_best_12 (by decide) ?_
      exact gl_iret X hr hlk hP hS hf (Nat.le_of_ble_eq_true rfl) (Nat.le_of_ble_eq_true rfl) dL_best_13
  · have hf := bnd_go hq hf
    have hf := ite_t hc hf
    refine lv_i2l (v := (q.2.2).toInt64) hx hb dL_best_6 rfl ?_
    refine g_last X hP hS ab_208 (by rw [al_208]; unfold vp_in; decide) dL_best_7 (fun H locs hP hS => ?_)
    refine lv_goto (tgt := 14) hx hb dL_best_8 (by decide) ?_
    refine lv_iconst (v := 0) hx hb dL_best_14 (by decide) ?_
    exact gl_iret X hr hlk hP hS hf (Nat.le_of_ble_eq_true rfl) (Nat.le_of_ble_eq_true rfl) dL_best_15
def f_L_ink (σ : St) (x1 : Int32) : St × Int32 := bnd (f_X9_ink σ x1) (fun q => if q.1 = 0 then (setJ q.2.1 208 0 (q.2.2).toInt64, (0 : Int32)) else if q.1 = 1 then (q.2.1, (1 : Int32)) else (q.2.1, (0 : Int32)))
def ok_L_ink (σ : St) (x1 : Int32) : Prop := (ok_X9_ink σ x1) ∧ ((f_X9_ink σ x1).1 = 0 ∨ (f_X9_ink σ x1).1 = 1)
abbrev rm_L_ink : Room := { frames := 8, cells := 1, slots := 6, locals := 144 }
set_option maxHeartbeats 4000000 in
set_option maxRecDepth 100000 in
theorem c_L_ink (l : Launch) (hfl : l.stackTraces = false) (G : GE) (hG : Gok G) (σ : St) (x1 : Int32) (hok : ok_L_ink σ x1) : Met l yL_ink (wsW yL_ink cL_ink 4 [(0, 9, 12, 13)]) rm_L_ink (va_Pc [.ref (G.2.1 0), .int x1, .ref (G.2.1 208)] (Wd G σ)) (va_Qi (fun r u => (u, r) = f_L_ink σ x1) (PB G) (GA G)) 1 6 (GA G) := by
  generalize hf : f_L_ink σ x1 = fv
  rw [f_L_ink] at hf
  rw [ok_L_ink] at hok
  obtain ⟨hs1, hk1⟩ := hok
  refine gl_start hG (by decide) (Nat.le_of_ble_eq_true rfl) ?_
  intro p e s m args below meth c X hr hlk hex ls hl H locs hP hS
  have X : Cx G p s m args c cL_ink 4 RL := X
  obtain ⟨hx, hb, hml, hown, hts, hK, hbs, hXW, -⟩ := id X
  have hl : lv_has ls 4 [(0, .ref (G.2.1 0)), (1, .int x1), (2, .ref (G.2.1 208))] := hl
  refine lv_aload_n hx hb dL_ink_0 rfl (lv_at hl 2 rfl) ?_
  refine lv_iconst (v := 0) hx hb dL_ink_1 (by decide) ?_
  refine lv_aload_n hx hb dL_ink_2 rfl (lv_at hl 0 rfl) ?_
  refine lv_iload_n hx hb dL_ink_3 rfl (lv_at hl 1 rfl) ?_
  refine gl_cI (gx_runV (i := 0) (As := [.int x1]) (rest := [.int (0 : Int32), .ref (G.2.1 208)]) X (c_X9_ink l hfl G hG σ x1 hs1) ca_X9_ink km_L_72 rfl rfl ⟨Nat.le_of_ble_eq_true rfl, Nat.le_of_ble_eq_true rfl⟩ hP hS (ty_lt ab_0) (cell_9 ab_0) rfl rfl rfl hl.1 rfl (Nat.le_of_ble_eq_true rfl) ⟨Nat.le_of_ble_eq_true rfl, Nat.le_of_ble_eq_true rfl⟩ dL_ink_4) hS (fun q hq hc H locs hP hS ce q9 hce hcv hcl => ?_) (fun q hq hc H locs hP hS => ?_)
  · have hf := bnd_go hq hf
    have hf := ite_f hc hf
    rw [← hq] at hk1
    rcases hk1 with h1 | h1
    · exact absurd h1 hc
    · have hf := ite_t h1 hf
      have hcl : s.vm.findClass "java/lang/IllegalArgumentException" = some ce.cls := by rw [h1] at hcl; exact hcl
      refine vx_catch (E := "java/lang/IllegalArgumentException") (name := "java/lang/IllegalArgumentException") hown [] ⟨0, 9, 12, 13⟩ [] (hex.trans rfl) (fun z hz => absurd hz List.not_mem_nil) (by decide) (by decide) (hts _ kt_L_13) (va_Nw.use rfl (hXW.2.2.2.2.2.2.2.1 "java/lang/IllegalArgumentException" (by decide))) hce hcv hcl ?_
      refine lv_astore_n (lv' := [(3, .ref q9), (0, .ref (G.2.1 0)), (1, .int x1), (2, .ref (G.2.1 208))]) hx hb dL_ink_12 rfl hl (by decide) rfl (fun ls hl => ?_)
      refine lv_iconst (v := 1) hx hb dL_ink_13 (by decide) ?_
      exact gl_iret X hr hlk hP hS hf (Nat.le_of_ble_eq_true rfl) (Nat.le_of_ble_eq_true rfl) dL_ink_14
  · have hf := bnd_go hq hf
    have hf := ite_t hc hf
    refine lv_i2l (v := (q.2.2).toInt64) hx hb dL_ink_7 rfl ?_
    refine g_last X hP hS ab_208 (by rw [al_208]; unfold vp_in; decide) dL_ink_8 (fun H locs hP hS => ?_)
    refine lv_goto (tgt := 15) hx hb dL_ink_9 (by decide) ?_
    refine lv_iconst (v := 0) hx hb dL_ink_15 (by decide) ?_
    exact gl_iret X hr hlk hP hS hf (Nat.le_of_ble_eq_true rfl) (Nat.le_of_ble_eq_true rfl) dL_ink_16
def f_L_stamp (σ : St) (x1 : Int32) (x2 : Int32) : St × Int32 := bnd (f_X9_stamp σ x1 x2) (fun q => if q.1 = 0 then (setJ q.2.1 208 0 (q.2.2).toInt64, (0 : Int32)) else if q.1 = 2 then (q.2.1, (1 : Int32)) else if q.1 = 3 then (q.2.1, (2 : Int32)) else (q.2.1, (0 : Int32)))
def ok_L_stamp (σ : St) (x1 : Int32) (x2 : Int32) : Prop := (ok_X9_stamp σ x1 x2) ∧ ((f_X9_stamp σ x1 x2).1 = 0 ∨ (f_X9_stamp σ x1 x2).1 = 2 ∨ (f_X9_stamp σ x1 x2).1 = 3)
abbrev rm_L_stamp : Room := { frames := 8, cells := 1, slots := 6, locals := 145 }
set_option maxHeartbeats 4000000 in
set_option maxRecDepth 100000 in
theorem c_L_stamp (l : Launch) (hfl : l.stackTraces = false) (G : GE) (hG : Gok G) (σ : St) (x1 : Int32) (x2 : Int32) (hok : ok_L_stamp σ x1 x2) : Met l yL_stamp (wsW yL_stamp cL_stamp 5 [(0, 10, 13, 21), (0, 10, 17, 15)]) rm_L_stamp (va_Pc [.ref (G.2.1 0), .int x1, .int x2, .ref (G.2.1 208)] (Wd G σ)) (va_Qi (fun r u => (u, r) = f_L_stamp σ x1 x2) (PB G) (GA G)) 1 6 (GA G) := by
  generalize hf : f_L_stamp σ x1 x2 = fv
  rw [f_L_stamp] at hf
  rw [ok_L_stamp] at hok
  obtain ⟨hs1, hk1⟩ := hok
  refine gl_start hG (by decide) (Nat.le_of_ble_eq_true rfl) ?_
  intro p e s m args below meth c X hr hlk hex ls hl H locs hP hS
  have X : Cx G p s m args c cL_stamp 5 RL := X
  obtain ⟨hx, hb, hml, hown, hts, hK, hbs, hXW, -⟩ := id X
  have hl : lv_has ls 5 [(0, .ref (G.2.1 0)), (1, .int x1), (2, .int x2), (3, .ref (G.2.1 208))] := hl
  refine lv_aload_n hx hb dL_stamp_0 rfl (lv_at hl 3 rfl) ?_
  refine lv_iconst (v := 0) hx hb dL_stamp_1 (by decide) ?_
  refine lv_aload_n hx hb dL_stamp_2 rfl (lv_at hl 0 rfl) ?_
  refine lv_iload_n hx hb dL_stamp_3 rfl (lv_at hl 1 rfl) ?_
  refine lv_iload_n hx hb dL_stamp_4 rfl (lv_at hl 2 rfl) ?_
  refine gl_cI (gx_runV (i := 0) (As := [.int x1, .int x2]) (rest := [.int (0 : Int32), .ref (G.2.1 208)]) X (c_X9_stamp l hfl G hG σ x1 x2 hs1) ca_X9_stamp km_L_75 rfl rfl ⟨Nat.le_of_ble_eq_true rfl, Nat.le_of_ble_eq_true rfl⟩ hP hS (ty_lt ab_0) (cell_9 ab_0) rfl rfl rfl hl.1 rfl (Nat.le_of_ble_eq_true rfl) ⟨Nat.le_of_ble_eq_true rfl, Nat.le_of_ble_eq_true rfl⟩ dL_stamp_5) hS (fun q hq hc H locs hP hS ce q9 hce hcv hcl => ?_) (fun q hq hc H locs hP hS => ?_)
  · have hf := bnd_go hq hf
    have hf := ite_f hc hf
    rw [← hq] at hk1
    rcases hk1 with h1 | h1 | h1
    · exact absurd h1 hc
    · have hf := ite_t h1 hf
      have hcl : s.vm.findClass "java/lang/IndexOutOfBoundsException" = some ce.cls := by rw [h1] at hcl; exact hcl
      refine vx_catch (E := "java/lang/IndexOutOfBoundsException") (name := "java/lang/IndexOutOfBoundsException") hown [] ⟨0, 10, 13, 21⟩ [⟨0, 10, 17, 15⟩] (hex.trans rfl) (fun z hz => absurd hz List.not_mem_nil) (by decide) (by decide) (hts _ kt_L_21) (va_Nw.use rfl (hXW.2.2.2.2.2.2.2.1 "java/lang/IndexOutOfBoundsException" (by decide))) hce hcv hcl ?_
      refine lv_astore (lv' := [(4, .ref q9), (0, .ref (G.2.1 0)), (1, .int x1), (2, .int x2), (3, .ref (G.2.1 208))]) hx hb dL_stamp_13 hl (by decide) rfl (fun ls hl => ?_)
      refine lv_iconst (v := 1) hx hb dL_stamp_15 (by decide) ?_
      exact gl_iret X hr hlk hP hS hf (Nat.le_of_ble_eq_true rfl) (Nat.le_of_ble_eq_true rfl) dL_stamp_16
    · have hf := ite_f (by rw [h1]; decide) hf
      have hf := ite_t h1 hf
      have hcl : s.vm.findClass "java/lang/UnsupportedOperationException" = some ce.cls := by rw [h1] at hcl; exact hcl
      refine vx_catch (E := "java/lang/UnsupportedOperationException") (name := "java/lang/UnsupportedOperationException") hown [⟨0, 10, 13, 21⟩] ⟨0, 10, 17, 15⟩ [] (hex.trans rfl) (List.forall_mem_cons.mpr ⟨Or.inr ⟨by decide, "java/lang/IndexOutOfBoundsException", hts _ kt_L_21, hXW.2.2.2.2.2.2.2.2.2 _ (List.mem_of_getElem? (i := 1) rfl)⟩, fun z hz => absurd hz List.not_mem_nil⟩) (by decide) (by decide) (hts _ kt_L_15) (va_Nw.use rfl (hXW.2.2.2.2.2.2.2.1 "java/lang/UnsupportedOperationException" (by decide))) hce hcv hcl ?_
      refine lv_astore (lv' := [(4, .ref q9), (0, .ref (G.2.1 0)), (1, .int x1), (2, .int x2), (3, .ref (G.2.1 208))]) hx hb dL_stamp_17 hl (by decide) rfl (fun ls hl => ?_)
      refine lv_iconst (v := 2) hx hb dL_stamp_19 (by decide) ?_
      exact gl_iret X hr hlk hP hS hf (Nat.le_of_ble_eq_true rfl) (Nat.le_of_ble_eq_true rfl) dL_stamp_20
  · have hf := bnd_go hq hf
    have hf := ite_t hc hf
    refine lv_i2l (v := (q.2.2).toInt64) hx hb dL_stamp_8 rfl ?_
    refine g_last X hP hS ab_208 (by rw [al_208]; unfold vp_in; decide) dL_stamp_9 (fun H locs hP hS => ?_)
    refine lv_goto (tgt := 21) hx hb dL_stamp_10 (by decide) ?_
    refine lv_iconst (v := 0) hx hb dL_stamp_21 (by decide) ?_
    exact gl_iret X hr hlk hP hS hf (Nat.le_of_ble_eq_true rfl) (Nat.le_of_ble_eq_true rfl) dL_stamp_22
def f_L_shelve (σ : St) (x1 : Int32) (x2 : Int32) : St × Int32 := bnd (f_X9_shelve σ x1 x2) (fun q => if q.1 = 0 then (setJ q.2.1 208 0 (q.2.2).toInt64, (0 : Int32)) else if q.1 = 2 then (q.2.1, (1 : Int32)) else if q.1 = 3 then (q.2.1, (2 : Int32)) else (q.2.1, (0 : Int32)))
def ok_L_shelve (σ : St) (x1 : Int32) (x2 : Int32) : Prop := (ok_X9_shelve σ x1 x2) ∧ ((f_X9_shelve σ x1 x2).1 = 0 ∨ (f_X9_shelve σ x1 x2).1 = 2 ∨ (f_X9_shelve σ x1 x2).1 = 3)
abbrev rm_L_shelve : Room := { frames := 8, cells := 1, slots := 6, locals := 145 }
set_option maxHeartbeats 4000000 in
set_option maxRecDepth 100000 in
theorem c_L_shelve (l : Launch) (hfl : l.stackTraces = false) (G : GE) (hG : Gok G) (σ : St) (x1 : Int32) (x2 : Int32) (hok : ok_L_shelve σ x1 x2) : Met l yL_shelve (wsW yL_shelve cL_shelve 5 [(0, 10, 13, 21), (0, 10, 17, 15)]) rm_L_shelve (va_Pc [.ref (G.2.1 0), .int x1, .int x2, .ref (G.2.1 208)] (Wd G σ)) (va_Qi (fun r u => (u, r) = f_L_shelve σ x1 x2) (PB G) (GA G)) 1 6 (GA G) := by
  generalize hf : f_L_shelve σ x1 x2 = fv
  rw [f_L_shelve] at hf
  rw [ok_L_shelve] at hok
  obtain ⟨hs1, hk1⟩ := hok
  refine gl_start hG (by decide) (Nat.le_of_ble_eq_true rfl) ?_
  intro p e s m args below meth c X hr hlk hex ls hl H locs hP hS
  have X : Cx G p s m args c cL_shelve 5 RL := X
  obtain ⟨hx, hb, hml, hown, hts, hK, hbs, hXW, -⟩ := id X
  have hl : lv_has ls 5 [(0, .ref (G.2.1 0)), (1, .int x1), (2, .int x2), (3, .ref (G.2.1 208))] := hl
  refine lv_aload_n hx hb dL_shelve_0 rfl (lv_at hl 3 rfl) ?_
  refine lv_iconst (v := 0) hx hb dL_shelve_1 (by decide) ?_
  refine lv_aload_n hx hb dL_shelve_2 rfl (lv_at hl 0 rfl) ?_
  refine lv_iload_n hx hb dL_shelve_3 rfl (lv_at hl 1 rfl) ?_
  refine lv_iload_n hx hb dL_shelve_4 rfl (lv_at hl 2 rfl) ?_
  refine gl_cI (gx_runV (i := 0) (As := [.int x1, .int x2]) (rest := [.int (0 : Int32), .ref (G.2.1 208)]) X (c_X9_shelve l hfl G hG σ x1 x2 hs1) ca_X9_shelve km_L_78 rfl rfl ⟨Nat.le_of_ble_eq_true rfl, Nat.le_of_ble_eq_true rfl⟩ hP hS (ty_lt ab_0) (cell_9 ab_0) rfl rfl rfl hl.1 rfl (Nat.le_of_ble_eq_true rfl) ⟨Nat.le_of_ble_eq_true rfl, Nat.le_of_ble_eq_true rfl⟩ dL_shelve_5) hS (fun q hq hc H locs hP hS ce q9 hce hcv hcl => ?_) (fun q hq hc H locs hP hS => ?_)
  · have hf := bnd_go hq hf
    have hf := ite_f hc hf
    rw [← hq] at hk1
    rcases hk1 with h1 | h1 | h1
    · exact absurd h1 hc
    · have hf := ite_t h1 hf
      have hcl : s.vm.findClass "java/lang/IndexOutOfBoundsException" = some ce.cls := by rw [h1] at hcl; exact hcl
      refine vx_catch (E := "java/lang/IndexOutOfBoundsException") (name := "java/lang/IndexOutOfBoundsException") hown [] ⟨0, 10, 13, 21⟩ [⟨0, 10, 17, 15⟩] (hex.trans rfl) (fun z hz => absurd hz List.not_mem_nil) (by decide) (by decide) (hts _ kt_L_21) (va_Nw.use rfl (hXW.2.2.2.2.2.2.2.1 "java/lang/IndexOutOfBoundsException" (by decide))) hce hcv hcl ?_
      refine lv_astore (lv' := [(4, .ref q9), (0, .ref (G.2.1 0)), (1, .int x1), (2, .int x2), (3, .ref (G.2.1 208))]) hx hb dL_shelve_13 hl (by decide) rfl (fun ls hl => ?_)
      refine lv_iconst (v := 1) hx hb dL_shelve_15 (by decide) ?_
      exact gl_iret X hr hlk hP hS hf (Nat.le_of_ble_eq_true rfl) (Nat.le_of_ble_eq_true rfl) dL_shelve_16
    · have hf := ite_f (by rw [h1]; decide) hf
      have hf := ite_t h1 hf
      have hcl : s.vm.findClass "java/lang/UnsupportedOperationException" = some ce.cls := by rw [h1] at hcl; exact hcl
      refine vx_catch (E := "java/lang/UnsupportedOperationException") (name := "java/lang/UnsupportedOperationException") hown [⟨0, 10, 13, 21⟩] ⟨0, 10, 17, 15⟩ [] (hex.trans rfl) (List.forall_mem_cons.mpr ⟨Or.inr ⟨by decide, "java/lang/IndexOutOfBoundsException", hts _ kt_L_21, hXW.2.2.2.2.2.2.2.2.2 _ (List.mem_of_getElem? (i := 1) rfl)⟩, fun z hz => absurd hz List.not_mem_nil⟩) (by decide) (by decide) (hts _ kt_L_15) (va_Nw.use rfl (hXW.2.2.2.2.2.2.2.1 "java/lang/UnsupportedOperationException" (by decide))) hce hcv hcl ?_
      refine lv_astore (lv' := [(4, .ref q9), (0, .ref (G.2.1 0)), (1, .int x1), (2, .int x2), (3, .ref (G.2.1 208))]) hx hb dL_shelve_17 hl (by decide) rfl (fun ls hl => ?_)
      refine lv_iconst (v := 2) hx hb dL_shelve_19 (by decide) ?_
      exact gl_iret X hr hlk hP hS hf (Nat.le_of_ble_eq_true rfl) (Nat.le_of_ble_eq_true rfl) dL_shelve_20
  · have hf := bnd_go hq hf
    have hf := ite_t hc hf
    refine lv_i2l (v := (q.2.2).toInt64) hx hb dL_shelve_8 rfl ?_
    refine g_last X hP hS ab_208 (by rw [al_208]; unfold vp_in; decide) dL_shelve_9 (fun H locs hP hS => ?_)
    refine lv_goto (tgt := 21) hx hb dL_shelve_10 (by decide) ?_
    refine lv_iconst (v := 0) hx hb dL_shelve_21 (by decide) ?_
    exact gl_iret X hr hlk hP hS hf (Nat.le_of_ble_eq_true rfl) (Nat.le_of_ble_eq_true rfl) dL_shelve_22
def f_L_take (σ : St) (x1 : Int32) : St × Int32 := bnd (f_X9_take σ x1) (fun q => if q.1 = 0 then (setJ q.2.1 208 0 (q.2.2).toInt64, (0 : Int32)) else if q.1 = 2 then (q.2.1, (1 : Int32)) else if q.1 = 3 then (q.2.1, (2 : Int32)) else (q.2.1, (0 : Int32)))
def ok_L_take (σ : St) (x1 : Int32) : Prop := (ok_X9_take σ x1) ∧ ((f_X9_take σ x1).1 = 0 ∨ (f_X9_take σ x1).1 = 2 ∨ (f_X9_take σ x1).1 = 3)
abbrev rm_L_take : Room := { frames := 8, cells := 1, slots := 6, locals := 144 }
set_option maxHeartbeats 4000000 in
set_option maxRecDepth 100000 in
theorem c_L_take (l : Launch) (hfl : l.stackTraces = false) (G : GE) (hG : Gok G) (σ : St) (x1 : Int32) (hok : ok_L_take σ x1) : Met l yL_take (wsW yL_take cL_take 4 [(0, 9, 12, 21), (0, 9, 15, 15)]) rm_L_take (va_Pc [.ref (G.2.1 0), .int x1, .ref (G.2.1 208)] (Wd G σ)) (va_Qi (fun r u => (u, r) = f_L_take σ x1) (PB G) (GA G)) 1 6 (GA G) := by
  generalize hf : f_L_take σ x1 = fv
  rw [f_L_take] at hf
  rw [ok_L_take] at hok
  obtain ⟨hs1, hk1⟩ := hok
  refine gl_start hG (by decide) (Nat.le_of_ble_eq_true rfl) ?_
  intro p e s m args below meth c X hr hlk hex ls hl H locs hP hS
  have X : Cx G p s m args c cL_take 4 RL := X
  obtain ⟨hx, hb, hml, hown, hts, hK, hbs, hXW, -⟩ := id X
  have hl : lv_has ls 4 [(0, .ref (G.2.1 0)), (1, .int x1), (2, .ref (G.2.1 208))] := hl
  refine lv_aload_n hx hb dL_take_0 rfl (lv_at hl 2 rfl) ?_
  refine lv_iconst (v := 0) hx hb dL_take_1 (by decide) ?_
  refine lv_aload_n hx hb dL_take_2 rfl (lv_at hl 0 rfl) ?_
  refine lv_iload_n hx hb dL_take_3 rfl (lv_at hl 1 rfl) ?_
  refine gl_cI (gx_runV (i := 0) (As := [.int x1]) (rest := [.int (0 : Int32), .ref (G.2.1 208)]) X (c_X9_take l hfl G hG σ x1 hs1) ca_X9_take km_L_81 rfl rfl ⟨Nat.le_of_ble_eq_true rfl, Nat.le_of_ble_eq_true rfl⟩ hP hS (ty_lt ab_0) (cell_9 ab_0) rfl rfl rfl hl.1 rfl (Nat.le_of_ble_eq_true rfl) ⟨Nat.le_of_ble_eq_true rfl, Nat.le_of_ble_eq_true rfl⟩ dL_take_4) hS (fun q hq hc H locs hP hS ce q9 hce hcv hcl => ?_) (fun q hq hc H locs hP hS => ?_)
  · have hf := bnd_go hq hf
    have hf := ite_f hc hf
    rw [← hq] at hk1
    rcases hk1 with h1 | h1 | h1
    · exact absurd h1 hc
    · have hf := ite_t h1 hf
      have hcl : s.vm.findClass "java/lang/IndexOutOfBoundsException" = some ce.cls := by rw [h1] at hcl; exact hcl
      refine vx_catch (E := "java/lang/IndexOutOfBoundsException") (name := "java/lang/IndexOutOfBoundsException") hown [] ⟨0, 9, 12, 21⟩ [⟨0, 9, 15, 15⟩] (hex.trans rfl) (fun z hz => absurd hz List.not_mem_nil) (by decide) (by decide) (hts _ kt_L_21) (va_Nw.use rfl (hXW.2.2.2.2.2.2.2.1 "java/lang/IndexOutOfBoundsException" (by decide))) hce hcv hcl ?_
      refine lv_astore_n (lv' := [(3, .ref q9), (0, .ref (G.2.1 0)), (1, .int x1), (2, .ref (G.2.1 208))]) hx hb dL_take_12 rfl hl (by decide) rfl (fun ls hl => ?_)
      refine lv_iconst (v := 1) hx hb dL_take_13 (by decide) ?_
      exact gl_iret X hr hlk hP hS hf (Nat.le_of_ble_eq_true rfl) (Nat.le_of_ble_eq_true rfl) dL_take_14
    · have hf := ite_f (by rw [h1]; decide) hf
      have hf := ite_t h1 hf
      have hcl : s.vm.findClass "java/lang/UnsupportedOperationException" = some ce.cls := by rw [h1] at hcl; exact hcl
      refine vx_catch (E := "java/lang/UnsupportedOperationException") (name := "java/lang/UnsupportedOperationException") hown [⟨0, 9, 12, 21⟩] ⟨0, 9, 15, 15⟩ [] (hex.trans rfl) (List.forall_mem_cons.mpr ⟨Or.inr ⟨by decide, "java/lang/IndexOutOfBoundsException", hts _ kt_L_21, hXW.2.2.2.2.2.2.2.2.2 _ (List.mem_of_getElem? (i := 1) rfl)⟩, fun z hz => absurd hz List.not_mem_nil⟩) (by decide) (by decide) (hts _ kt_L_15) (va_Nw.use rfl (hXW.2.2.2.2.2.2.2.1 "java/lang/UnsupportedOperationException" (by decide))) hce hcv hcl ?_
      refine lv_astore_n (lv' := [(3, .ref q9), (0, .ref (G.2.1 0)), (1, .int x1), (2, .ref (G.2.1 208))]) hx hb dL_take_15 rfl hl (by decide) rfl (fun ls hl => ?_)
      refine lv_iconst (v := 2) hx hb dL_take_16 (by decide) ?_
      exact gl_iret X hr hlk hP hS hf (Nat.le_of_ble_eq_true rfl) (Nat.le_of_ble_eq_true rfl) dL_take_17
  · have hf := bnd_go hq hf
    have hf := ite_t hc hf
    refine lv_i2l (v := (q.2.2).toInt64) hx hb dL_take_7 rfl ?_
    refine g_last X hP hS ab_208 (by rw [al_208]; unfold vp_in; decide) dL_take_8 (fun H locs hP hS => ?_)
    refine lv_goto (tgt := 18) hx hb dL_take_9 (by decide) ?_
    refine lv_iconst (v := 0) hx hb dL_take_18 (by decide) ?_
    exact gl_iret X hr hlk hP hS hf (Nat.le_of_ble_eq_true rfl) (Nat.le_of_ble_eq_true rfl) dL_take_19
def f_L_inHole (σ : St) (x1 : Int32) (x2 : Int32) (x3 : Int32) : St × Int32 := bnd (f_X9_inHole σ x1 x2 x3) (fun q => if q.1 = 0 then (setJ q.2.1 208 0 (q.2.2).toInt64, (0 : Int32)) else if q.1 = 2 then (q.2.1, (1 : Int32)) else if q.1 = 4 then (q.2.1, (2 : Int32)) else (q.2.1, (0 : Int32)))
def ok_L_inHole (σ : St) (x1 : Int32) (x2 : Int32) (x3 : Int32) : Prop := (ok_X9_inHole σ x1 x2 x3) ∧ ((f_X9_inHole σ x1 x2 x3).1 = 0 ∨ (f_X9_inHole σ x1 x2 x3).1 = 2 ∨ (f_X9_inHole σ x1 x2 x3).1 = 4)
abbrev rm_L_inHole : Room := { frames := 8, cells := 2, slots := 12, locals := 144 }
set_option maxHeartbeats 4000000 in
set_option maxRecDepth 100000 in
theorem c_L_inHole (l : Launch) (hfl : l.stackTraces = false) (G : GE) (hG : Gok G) (σ : St) (x1 : Int32) (x2 : Int32) (x3 : Int32) (hok : ok_L_inHole σ x1 x2 x3) : Met l yL_inHole (wsW yL_inHole cL_inHole 6 [(0, 12, 15, 21), (0, 12, 19, 38)]) rm_L_inHole (va_Pc [.ref (G.2.1 0), .int x1, .int x2, .int x3, .ref (G.2.1 208)] (Wd G σ)) (va_Qi (fun r u => (u, r) = f_L_inHole σ x1 x2 x3) (PB G) (GA G)) 2 12 (GA G) := by
  generalize hf : f_L_inHole σ x1 x2 x3 = fv
  rw [f_L_inHole] at hf
  rw [ok_L_inHole] at hok
  obtain ⟨hs1, hk1⟩ := hok
  refine gl_start hG (by decide) (Nat.le_of_ble_eq_true rfl) ?_
  intro p e s m args below meth c X hr hlk hex ls hl H locs hP hS
  have X : Cx G p s m args c cL_inHole 6 RL := X
  obtain ⟨hx, hb, hml, hown, hts, hK, hbs, hXW, -⟩ := id X
  have hl : lv_has ls 6 [(0, .ref (G.2.1 0)), (1, .int x1), (2, .int x2), (3, .int x3), (4, .ref (G.2.1 208))] := hl
  refine lv_aload hx hb dL_inHole_0 (lv_at hl 4 rfl) ?_
  refine lv_iconst (v := 0) hx hb dL_inHole_2 (by decide) ?_
  refine lv_aload_n hx hb dL_inHole_3 rfl (lv_at hl 0 rfl) ?_
  refine lv_iload_n hx hb dL_inHole_4 rfl (lv_at hl 1 rfl) ?_
  refine lv_iload_n hx hb dL_inHole_5 rfl (lv_at hl 2 rfl) ?_
  refine lv_iload_n hx hb dL_inHole_6 rfl (lv_at hl 3 rfl) ?_
  refine gl_cI (gx_runV (i := 0) (As := [.int x1, .int x2, .int x3]) (rest := [.int (0 : Int32), .ref (G.2.1 208)]) X (c_X9_inHole l hfl G hG σ x1 x2 x3 hs1) ca_X9_inHole km_L_84 rfl rfl ⟨Nat.le_of_ble_eq_true rfl, Nat.le_of_ble_eq_true rfl⟩ hP hS (ty_lt ab_0) (cell_9 ab_0) rfl rfl rfl hl.1 rfl (Nat.le_of_ble_eq_true rfl) ⟨Nat.le_of_ble_eq_true rfl, Nat.le_of_ble_eq_true rfl⟩ dL_inHole_7) hS (fun q hq hc H locs hP hS ce q9 hce hcv hcl => ?_) (fun q hq hc H locs hP hS => ?_)
  · have hf := bnd_go hq hf
    have hf := ite_f hc hf
    rw [← hq] at hk1
    rcases hk1 with h1 | h1 | h1
    · exact absurd h1 hc
    · have hf := ite_t h1 hf
      have hcl : s.vm.findClass "java/lang/IndexOutOfBoundsException" = some ce.cls := by rw [h1] at hcl; exact hcl
      refine vx_catch (E := "java/lang/IndexOutOfBoundsException") (name := "java/lang/IndexOutOfBoundsException") hown [] ⟨0, 12, 15, 21⟩ [⟨0, 12, 19, 38⟩] (hex.trans rfl) (fun z hz => absurd hz List.not_mem_nil) (by decide) (by decide) (hts _ kt_L_21) (va_Nw.use rfl (hXW.2.2.2.2.2.2.2.1 "java/lang/IndexOutOfBoundsException" (by decide))) hce hcv hcl ?_
      refine lv_astore (lv' := [(5, .ref q9), (0, .ref (G.2.1 0)), (1, .int x1), (2, .int x2), (3, .int x3), (4, .ref (G.2.1 208))]) hx hb dL_inHole_15 hl (by decide) rfl (fun ls hl => ?_)
      refine lv_iconst (v := 1) hx hb dL_inHole_17 (by decide) ?_
      exact gl_iret X hr hlk hP hS hf (Nat.le_of_ble_eq_true rfl) (Nat.le_of_ble_eq_true rfl) dL_inHole_18
    · have hf := ite_f (by rw [h1]; decide) hf
      have hf := ite_t h1 hf
      have hcl : s.vm.findClass "java/util/NoSuchElementException" = some ce.cls := by rw [h1] at hcl; exact hcl
      refine vx_catch (E := "java/util/NoSuchElementException") (name := "java/util/NoSuchElementException") hown [⟨0, 12, 15, 21⟩] ⟨0, 12, 19, 38⟩ [] (hex.trans rfl) (List.forall_mem_cons.mpr ⟨Or.inr ⟨by decide, "java/lang/IndexOutOfBoundsException", hts _ kt_L_21, hXW.2.2.2.2.2.2.2.2.2 _ (List.mem_of_getElem? (i := 3) rfl)⟩, fun z hz => absurd hz List.not_mem_nil⟩) (by decide) (by decide) (hts _ kt_L_38) (va_Nw.use rfl (hXW.2.2.2.2.2.2.2.1 "java/util/NoSuchElementException" (by decide))) hce hcv hcl ?_
      refine lv_astore (lv' := [(5, .ref q9), (0, .ref (G.2.1 0)), (1, .int x1), (2, .int x2), (3, .int x3), (4, .ref (G.2.1 208))]) hx hb dL_inHole_19 hl (by decide) rfl (fun ls hl => ?_)
      refine lv_iconst (v := 2) hx hb dL_inHole_21 (by decide) ?_
      exact gl_iret X hr hlk hP hS hf (Nat.le_of_ble_eq_true rfl) (Nat.le_of_ble_eq_true rfl) dL_inHole_22
  · have hf := bnd_go hq hf
    have hf := ite_t hc hf
    refine lv_i2l (v := (q.2.2).toInt64) hx hb dL_inHole_10 rfl ?_
    refine g_last X hP hS ab_208 (by rw [al_208]; unfold vp_in; decide) dL_inHole_11 (fun H locs hP hS => ?_)
    refine lv_goto (tgt := 23) hx hb dL_inHole_12 (by decide) ?_
    refine lv_iconst (v := 0) hx hb dL_inHole_23 (by decide) ?_
    exact gl_iret X hr hlk hP hS hf (Nat.le_of_ble_eq_true rfl) (Nat.le_of_ble_eq_true rfl) dL_inHole_24
def f_L_read (σ : St) (x1 : Int32) : St × Int32 := bnd (f_X9_read σ x1) (fun q => if q.1 = 0 then (setJ q.2.1 208 0 (q.2.2).toInt64, (0 : Int32)) else if q.1 = 2 then (q.2.1, (1 : Int32)) else (q.2.1, (0 : Int32)))
def ok_L_read (σ : St) (x1 : Int32) : Prop := (ok_X9_read σ x1) ∧ ((f_X9_read σ x1).1 = 0 ∨ (f_X9_read σ x1).1 = 2)
abbrev rm_L_read : Room := { frames := 8, cells := 1, slots := 6, locals := 141 }
set_option maxHeartbeats 4000000 in
set_option maxRecDepth 100000 in
theorem c_L_read (l : Launch) (hfl : l.stackTraces = false) (G : GE) (hG : Gok G) (σ : St) (x1 : Int32) (hok : ok_L_read σ x1) : Met l yL_read (wsW yL_read cL_read 4 [(0, 9, 12, 21)]) rm_L_read (va_Pc [.ref (G.2.1 0), .int x1, .ref (G.2.1 208)] (Wd G σ)) (va_Qi (fun r u => (u, r) = f_L_read σ x1) (PB G) (GA G)) 1 6 (GA G) := by
  generalize hf : f_L_read σ x1 = fv
  rw [f_L_read] at hf
  rw [ok_L_read] at hok
  obtain ⟨hs1, hk1⟩ := hok
  refine gl_start hG (by decide) (Nat.le_of_ble_eq_true rfl) ?_
  intro p e s m args below meth c X hr hlk hex ls hl H locs hP hS
  have X : Cx G p s m args c cL_read 4 RL := X
  obtain ⟨hx, hb, hml, hown, hts, hK, hbs, hXW, -⟩ := id X
  have hl : lv_has ls 4 [(0, .ref (G.2.1 0)), (1, .int x1), (2, .ref (G.2.1 208))] := hl
  refine lv_aload_n hx hb dL_read_0 rfl (lv_at hl 2 rfl) ?_
  refine lv_iconst (v := 0) hx hb dL_read_1 (by decide) ?_
  refine lv_aload_n hx hb dL_read_2 rfl (lv_at hl 0 rfl) ?_
  refine lv_iload_n hx hb dL_read_3 rfl (lv_at hl 1 rfl) ?_
  refine gl_cI (gx_runV (i := 0) (As := [.int x1]) (rest := [.int (0 : Int32), .ref (G.2.1 208)]) X (c_X9_read l hfl G hG σ x1 hs1) ca_X9_read km_L_87 rfl rfl ⟨Nat.le_of_ble_eq_true rfl, Nat.le_of_ble_eq_true rfl⟩ hP hS (ty_lt ab_0) (cell_9 ab_0) rfl rfl rfl hl.1 rfl (Nat.le_of_ble_eq_true rfl) ⟨Nat.le_of_ble_eq_true rfl, Nat.le_of_ble_eq_true rfl⟩ dL_read_4) hS (fun q hq hc H locs hP hS ce q9 hce hcv hcl => ?_) (fun q hq hc H locs hP hS => ?_)
  · have hf := bnd_go hq hf
    have hf := ite_f hc hf
    rw [← hq] at hk1
    rcases hk1 with h1 | h1
    · exact absurd h1 hc
    · have hf := ite_t h1 hf
      have hcl : s.vm.findClass "java/lang/IndexOutOfBoundsException" = some ce.cls := by rw [h1] at hcl; exact hcl
      refine vx_catch (E := "java/lang/IndexOutOfBoundsException") (name := "java/lang/IndexOutOfBoundsException") hown [] ⟨0, 9, 12, 21⟩ [] (hex.trans rfl) (fun z hz => absurd hz List.not_mem_nil) (by decide) (by decide) (hts _ kt_L_21) (va_Nw.use rfl (hXW.2.2.2.2.2.2.2.1 "java/lang/IndexOutOfBoundsException" (by decide))) hce hcv hcl ?_
      refine lv_astore_n (lv' := [(3, .ref q9), (0, .ref (G.2.1 0)), (1, .int x1), (2, .ref (G.2.1 208))]) hx hb dL_read_12 rfl hl (by decide) rfl (fun ls hl => ?_)
      refine lv_iconst (v := 1) hx hb dL_read_13 (by decide) ?_
      exact gl_iret X hr hlk hP hS hf (Nat.le_of_ble_eq_true rfl) (Nat.le_of_ble_eq_true rfl) dL_read_14
  · have hf := bnd_go hq hf
    have hf := ite_t hc hf
    refine lv_i2l (v := (q.2.2).toInt64) hx hb dL_read_7 rfl ?_
    refine g_last X hP hS ab_208 (by rw [al_208]; unfold vp_in; decide) dL_read_8 (fun H locs hP hS => ?_)
    refine lv_goto (tgt := 15) hx hb dL_read_9 (by decide) ?_
    refine lv_iconst (v := 0) hx hb dL_read_15 (by decide) ?_
    exact gl_iret X hr hlk hP hS hf (Nat.le_of_ble_eq_true rfl) (Nat.le_of_ble_eq_true rfl) dL_read_16
def f_L_snacks (σ : St) (x1 : Int32) : St × Int32 := bnd (f_X9_snacks σ x1) (fun q => if q.1 = 0 then (setJ q.2.1 208 0 (q.2.2).toInt64, (0 : Int32)) else if q.1 = 1 then (q.2.1, (1 : Int32)) else (q.2.1, (0 : Int32)))
def ok_L_snacks (σ : St) (x1 : Int32) : Prop := (ok_X9_snacks σ x1) ∧ ((f_X9_snacks σ x1).1 = 0 ∨ (f_X9_snacks σ x1).1 = 1)
abbrev rm_L_snacks : Room := { frames := 8, cells := 1, slots := 6, locals := 144 }
set_option maxHeartbeats 4000000 in
set_option maxRecDepth 100000 in
theorem c_L_snacks (l : Launch) (hfl : l.stackTraces = false) (G : GE) (hG : Gok G) (σ : St) (x1 : Int32) (hok : ok_L_snacks σ x1) : Met l yL_snacks (wsW yL_snacks cL_snacks 4 [(0, 9, 12, 13)]) rm_L_snacks (va_Pc [.ref (G.2.1 0), .int x1, .ref (G.2.1 208)] (Wd G σ)) (va_Qi (fun r u => (u, r) = f_L_snacks σ x1) (PB G) (GA G)) 1 6 (GA G) := by
  generalize hf : f_L_snacks σ x1 = fv
  rw [f_L_snacks] at hf
  rw [ok_L_snacks] at hok
  obtain ⟨hs1, hk1⟩ := hok
  refine gl_start hG (by decide) (Nat.le_of_ble_eq_true rfl) ?_
  intro p e s m args below meth c X hr hlk hex ls hl H locs hP hS
  have X : Cx G p s m args c cL_snacks 4 RL := X
  obtain ⟨hx, hb, hml, hown, hts, hK, hbs, hXW, -⟩ := id X
  have hl : lv_has ls 4 [(0, .ref (G.2.1 0)), (1, .int x1), (2, .ref (G.2.1 208))] := hl
  refine lv_aload_n hx hb dL_snacks_0 rfl (lv_at hl 2 rfl) ?_
  refine lv_iconst (v := 0) hx hb dL_snacks_1 (by decide) ?_
  refine lv_aload_n hx hb dL_snacks_2 rfl (lv_at hl 0 rfl) ?_
  refine lv_iload_n hx hb dL_snacks_3 rfl (lv_at hl 1 rfl) ?_
  refine gl_cI (gx_runV (i := 0) (As := [.int x1]) (rest := [.int (0 : Int32), .ref (G.2.1 208)]) X (c_X9_snacks l hfl G hG σ x1 hs1) ca_X9_snacks km_L_90 rfl rfl ⟨Nat.le_of_ble_eq_true rfl, Nat.le_of_ble_eq_true rfl⟩ hP hS (ty_lt ab_0) (cell_9 ab_0) rfl rfl rfl hl.1 rfl (Nat.le_of_ble_eq_true rfl) ⟨Nat.le_of_ble_eq_true rfl, Nat.le_of_ble_eq_true rfl⟩ dL_snacks_4) hS (fun q hq hc H locs hP hS ce q9 hce hcv hcl => ?_) (fun q hq hc H locs hP hS => ?_)
  · have hf := bnd_go hq hf
    have hf := ite_f hc hf
    rw [← hq] at hk1
    rcases hk1 with h1 | h1
    · exact absurd h1 hc
    · have hf := ite_t h1 hf
      have hcl : s.vm.findClass "java/lang/IllegalArgumentException" = some ce.cls := by rw [h1] at hcl; exact hcl
      refine vx_catch (E := "java/lang/IllegalArgumentException") (name := "java/lang/IllegalArgumentException") hown [] ⟨0, 9, 12, 13⟩ [] (hex.trans rfl) (fun z hz => absurd hz List.not_mem_nil) (by decide) (by decide) (hts _ kt_L_13) (va_Nw.use rfl (hXW.2.2.2.2.2.2.2.1 "java/lang/IllegalArgumentException" (by decide))) hce hcv hcl ?_
      refine lv_astore_n (lv' := [(3, .ref q9), (0, .ref (G.2.1 0)), (1, .int x1), (2, .ref (G.2.1 208))]) hx hb dL_snacks_12 rfl hl (by decide) rfl (fun ls hl => ?_)
      refine lv_iconst (v := 1) hx hb dL_snacks_13 (by decide) ?_
      exact gl_iret X hr hlk hP hS hf (Nat.le_of_ble_eq_true rfl) (Nat.le_of_ble_eq_true rfl) dL_snacks_14
  · have hf := bnd_go hq hf
    have hf := ite_t hc hf
    refine lv_i2l (v := (q.2.2).toInt64) hx hb dL_snacks_7 rfl ?_
    refine g_last X hP hS ab_208 (by rw [al_208]; unfold vp_in; decide) dL_snacks_8 (fun H locs hP hS => ?_)
    refine lv_goto (tgt := 15) hx hb dL_snacks_9 (by decide) ?_
    refine lv_iconst (v := 0) hx hb dL_snacks_15 (by decide) ?_
    exact gl_iret X hr hlk hP hS hf (Nat.le_of_ble_eq_true rfl) (Nat.le_of_ble_eq_true rfl) dL_snacks_16
def f_L_feed (σ : St) (x1 : Int32) : St × Int32 := bnd (f_X9_feed σ x1) (fun q => if q.1 = 0 then (setJ q.2.1 208 0 (q.2.2).toInt64, (0 : Int32)) else if q.1 = 1 then (q.2.1, (1 : Int32)) else if q.1 = 3 then (q.2.1, (2 : Int32)) else (q.2.1, (0 : Int32)))
def ok_L_feed (σ : St) (x1 : Int32) : Prop := (ok_X9_feed σ x1) ∧ ((f_X9_feed σ x1).1 = 0 ∨ (f_X9_feed σ x1).1 = 1 ∨ (f_X9_feed σ x1).1 = 3)
abbrev rm_L_feed : Room := { frames := 8, cells := 1, slots := 6, locals := 144 }
set_option maxHeartbeats 4000000 in
set_option maxRecDepth 100000 in
theorem c_L_feed (l : Launch) (hfl : l.stackTraces = false) (G : GE) (hG : Gok G) (σ : St) (x1 : Int32) (hok : ok_L_feed σ x1) : Met l yL_feed (wsW yL_feed cL_feed 4 [(0, 9, 12, 13), (0, 9, 15, 15)]) rm_L_feed (va_Pc [.ref (G.2.1 0), .int x1, .ref (G.2.1 208)] (Wd G σ)) (va_Qi (fun r u => (u, r) = f_L_feed σ x1) (PB G) (GA G)) 1 6 (GA G) := by
  generalize hf : f_L_feed σ x1 = fv
  rw [f_L_feed] at hf
  rw [ok_L_feed] at hok
  obtain ⟨hs1, hk1⟩ := hok
  refine gl_start hG (by decide) (Nat.le_of_ble_eq_true rfl) ?_
  intro p e s m args below meth c X hr hlk hex ls hl H locs hP hS
  have X : Cx G p s m args c cL_feed 4 RL := X
  obtain ⟨hx, hb, hml, hown, hts, hK, hbs, hXW, -⟩ := id X
  have hl : lv_has ls 4 [(0, .ref (G.2.1 0)), (1, .int x1), (2, .ref (G.2.1 208))] := hl
  refine lv_aload_n hx hb dL_feed_0 rfl (lv_at hl 2 rfl) ?_
  refine lv_iconst (v := 0) hx hb dL_feed_1 (by decide) ?_
  refine lv_aload_n hx hb dL_feed_2 rfl (lv_at hl 0 rfl) ?_
  refine lv_iload_n hx hb dL_feed_3 rfl (lv_at hl 1 rfl) ?_
  refine gl_cI (gx_runV (i := 0) (As := [.int x1]) (rest := [.int (0 : Int32), .ref (G.2.1 208)]) X (c_X9_feed l hfl G hG σ x1 hs1) ca_X9_feed km_L_93 rfl rfl ⟨Nat.le_of_ble_eq_true rfl, Nat.le_of_ble_eq_true rfl⟩ hP hS (ty_lt ab_0) (cell_9 ab_0) rfl rfl rfl hl.1 rfl (Nat.le_of_ble_eq_true rfl) ⟨Nat.le_of_ble_eq_true rfl, Nat.le_of_ble_eq_true rfl⟩ dL_feed_4) hS (fun q hq hc H locs hP hS ce q9 hce hcv hcl => ?_) (fun q hq hc H locs hP hS => ?_)
  · have hf := bnd_go hq hf
    have hf := ite_f hc hf
    rw [← hq] at hk1
    rcases hk1 with h1 | h1 | h1
    · exact absurd h1 hc
    · have hf := ite_t h1 hf
      have hcl : s.vm.findClass "java/lang/IllegalArgumentException" = some ce.cls := by rw [h1] at hcl; exact hcl
      refine vx_catch (E := "java/lang/IllegalArgumentException") (name := "java/lang/IllegalArgumentException") hown [] ⟨0, 9, 12, 13⟩ [⟨0, 9, 15, 15⟩] (hex.trans rfl) (fun z hz => absurd hz List.not_mem_nil) (by decide) (by decide) (hts _ kt_L_13) (va_Nw.use rfl (hXW.2.2.2.2.2.2.2.1 "java/lang/IllegalArgumentException" (by decide))) hce hcv hcl ?_
      refine lv_astore_n (lv' := [(3, .ref q9), (0, .ref (G.2.1 0)), (1, .int x1), (2, .ref (G.2.1 208))]) hx hb dL_feed_12 rfl hl (by decide) rfl (fun ls hl => ?_)
      refine lv_iconst (v := 1) hx hb dL_feed_13 (by decide) ?_
      exact gl_iret X hr hlk hP hS hf (Nat.le_of_ble_eq_true rfl) (Nat.le_of_ble_eq_true rfl) dL_feed_14
    · have hf := ite_f (by rw [h1]; decide) hf
      have hf := ite_t h1 hf
      have hcl : s.vm.findClass "java/lang/UnsupportedOperationException" = some ce.cls := by rw [h1] at hcl; exact hcl
      refine vx_catch (E := "java/lang/UnsupportedOperationException") (name := "java/lang/UnsupportedOperationException") hown [⟨0, 9, 12, 13⟩] ⟨0, 9, 15, 15⟩ [] (hex.trans rfl) (List.forall_mem_cons.mpr ⟨Or.inr ⟨by decide, "java/lang/IllegalArgumentException", hts _ kt_L_13, hXW.2.2.2.2.2.2.2.2.2 _ (List.mem_of_getElem? (i := 2) rfl)⟩, fun z hz => absurd hz List.not_mem_nil⟩) (by decide) (by decide) (hts _ kt_L_15) (va_Nw.use rfl (hXW.2.2.2.2.2.2.2.1 "java/lang/UnsupportedOperationException" (by decide))) hce hcv hcl ?_
      refine lv_astore_n (lv' := [(3, .ref q9), (0, .ref (G.2.1 0)), (1, .int x1), (2, .ref (G.2.1 208))]) hx hb dL_feed_15 rfl hl (by decide) rfl (fun ls hl => ?_)
      refine lv_iconst (v := 2) hx hb dL_feed_16 (by decide) ?_
      exact gl_iret X hr hlk hP hS hf (Nat.le_of_ble_eq_true rfl) (Nat.le_of_ble_eq_true rfl) dL_feed_17
  · have hf := bnd_go hq hf
    have hf := ite_t hc hf
    refine lv_i2l (v := (q.2.2).toInt64) hx hb dL_feed_7 rfl ?_
    refine g_last X hP hS ab_208 (by rw [al_208]; unfold vp_in; decide) dL_feed_8 (fun H locs hP hS => ?_)
    refine lv_goto (tgt := 18) hx hb dL_feed_9 (by decide) ?_
    refine lv_iconst (v := 0) hx hb dL_feed_18 (by decide) ?_
    exact gl_iret X hr hlk hP hS hf (Nat.le_of_ble_eq_true rfl) (Nat.le_of_ble_eq_true rfl) dL_feed_19
def f_L_prey (σ : St) : St × Int32 := bnd (f_X9_prey σ) (fun q => if q.1 = 0 then (setJ q.2.1 208 0 (q.2.2).toInt64, (0 : Int32)) else if q.1 = 4 then (q.2.1, (1 : Int32)) else (q.2.1, (0 : Int32)))
def ok_L_prey (σ : St) : Prop := (ok_X9_prey σ) ∧ ((f_X9_prey σ).1 = 0 ∨ (f_X9_prey σ).1 = 4)
abbrev rm_L_prey : Room := { frames := 8, cells := 1, slots := 6, locals := 141 }
set_option maxHeartbeats 4000000 in
set_option maxRecDepth 100000 in
theorem c_L_prey (l : Launch) (hfl : l.stackTraces = false) (G : GE) (hG : Gok G) (σ : St) (hok : ok_L_prey σ) : Met l yL_prey (wsW yL_prey cL_prey 3 [(0, 8, 11, 38)]) rm_L_prey (va_Pc [.ref (G.2.1 0), .ref (G.2.1 208)] (Wd G σ)) (va_Qi (fun r u => (u, r) = f_L_prey σ) (PB G) (GA G)) 1 6 (GA G) := by
  generalize hf : f_L_prey σ = fv
  rw [f_L_prey] at hf
  rw [ok_L_prey] at hok
  obtain ⟨hs1, hk1⟩ := hok
  refine gl_start hG (by decide) (Nat.le_of_ble_eq_true rfl) ?_
  intro p e s m args below meth c X hr hlk hex ls hl H locs hP hS
  have X : Cx G p s m args c cL_prey 3 RL := X
  obtain ⟨hx, hb, hml, hown, hts, hK, hbs, hXW, -⟩ := id X
  have hl : lv_has ls 3 [(0, .ref (G.2.1 0)), (1, .ref (G.2.1 208))] := hl
  refine lv_aload_n hx hb dL_prey_0 rfl (lv_at hl 1 rfl) ?_
  refine lv_iconst (v := 0) hx hb dL_prey_1 (by decide) ?_
  refine lv_aload_n hx hb dL_prey_2 rfl (lv_at hl 0 rfl) ?_
  refine gl_cI (gx_runV (i := 0) (As := []) (rest := [.int (0 : Int32), .ref (G.2.1 208)]) X (c_X9_prey l hfl G hG σ hs1) ca_X9_prey km_L_96 rfl rfl ⟨Nat.le_of_ble_eq_true rfl, Nat.le_of_ble_eq_true rfl⟩ hP hS (ty_lt ab_0) (cell_9 ab_0) rfl rfl rfl hl.1 rfl (Nat.le_of_ble_eq_true rfl) ⟨Nat.le_of_ble_eq_true rfl, Nat.le_of_ble_eq_true rfl⟩ dL_prey_3) hS (fun q hq hc H locs hP hS ce q9 hce hcv hcl => ?_) (fun q hq hc H locs hP hS => ?_)
  · have hf := bnd_go hq hf
    have hf := ite_f hc hf
    rw [← hq] at hk1
    rcases hk1 with h1 | h1
    · exact absurd h1 hc
    · have hf := ite_t h1 hf
      have hcl : s.vm.findClass "java/util/NoSuchElementException" = some ce.cls := by rw [h1] at hcl; exact hcl
      refine vx_catch (E := "java/util/NoSuchElementException") (name := "java/util/NoSuchElementException") hown [] ⟨0, 8, 11, 38⟩ [] (hex.trans rfl) (fun z hz => absurd hz List.not_mem_nil) (by decide) (by decide) (hts _ kt_L_38) (va_Nw.use rfl (hXW.2.2.2.2.2.2.2.1 "java/util/NoSuchElementException" (by decide))) hce hcv hcl ?_
      refine lv_astore_n (lv' := [(2, .ref q9), (0, .ref (G.2.1 0)), (1, .ref (G.2.1 208))]) hx hb dL_prey_11 rfl hl (by decide) rfl (fun ls hl => ?_)
      refine lv_iconst (v := 1) hx hb dL_prey_12 (by decide) ?_
      exact gl_iret X hr hlk hP hS hf (Nat.le_of_ble_eq_true rfl) (Nat.le_of_ble_eq_true rfl) dL_prey_13
  · have hf := bnd_go hq hf
    have hf := ite_t hc hf
    refine lv_i2l (v := (q.2.2).toInt64) hx hb dL_prey_6 rfl ?_
    refine g_last X hP hS ab_208 (by rw [al_208]; unfold vp_in; decide) dL_prey_7 (fun H locs hP hS => ?_)
    refine lv_goto (tgt := 14) hx hb dL_prey_8 (by decide) ?_
    refine lv_iconst (v := 0) hx hb dL_prey_14 (by decide) ?_
    exact gl_iret X hr hlk hP hS hf (Nat.le_of_ble_eq_true rfl) (Nat.le_of_ble_eq_true rfl) dL_prey_15
def f_L_eatsIn (σ : St) : St × Int32 := bnd (f_X9_eatsIn σ) (fun q => if q.1 = 0 then (setJ q.2.1 208 0 (q.2.2).toInt64, (0 : Int32)) else if q.1 = 4 then (q.2.1, (1 : Int32)) else (q.2.1, (0 : Int32)))
def ok_L_eatsIn (σ : St) : Prop := (ok_X9_eatsIn σ) ∧ ((f_X9_eatsIn σ).1 = 0 ∨ (f_X9_eatsIn σ).1 = 4)
abbrev rm_L_eatsIn : Room := { frames := 8, cells := 1, slots := 6, locals := 142 }
set_option maxHeartbeats 4000000 in
set_option maxRecDepth 100000 in
theorem c_L_eatsIn (l : Launch) (hfl : l.stackTraces = false) (G : GE) (hG : Gok G) (σ : St) (hok : ok_L_eatsIn σ) : Met l yL_eatsIn (wsW yL_eatsIn cL_eatsIn 3 [(0, 8, 11, 38)]) rm_L_eatsIn (va_Pc [.ref (G.2.1 0), .ref (G.2.1 208)] (Wd G σ)) (va_Qi (fun r u => (u, r) = f_L_eatsIn σ) (PB G) (GA G)) 1 6 (GA G) := by
  generalize hf : f_L_eatsIn σ = fv
  rw [f_L_eatsIn] at hf
  rw [ok_L_eatsIn] at hok
  obtain ⟨hs1, hk1⟩ := hok
  refine gl_start hG (by decide) (Nat.le_of_ble_eq_true rfl) ?_
  intro p e s m args below meth c X hr hlk hex ls hl H locs hP hS
  have X : Cx G p s m args c cL_eatsIn 3 RL := X
  obtain ⟨hx, hb, hml, hown, hts, hK, hbs, hXW, -⟩ := id X
  have hl : lv_has ls 3 [(0, .ref (G.2.1 0)), (1, .ref (G.2.1 208))] := hl
  refine lv_aload_n hx hb dL_eatsIn_0 rfl (lv_at hl 1 rfl) ?_
  refine lv_iconst (v := 0) hx hb dL_eatsIn_1 (by decide) ?_
  refine lv_aload_n hx hb dL_eatsIn_2 rfl (lv_at hl 0 rfl) ?_
  refine gl_cI (gx_runV (i := 0) (As := []) (rest := [.int (0 : Int32), .ref (G.2.1 208)]) X (c_X9_eatsIn l hfl G hG σ hs1) ca_X9_eatsIn km_L_99 rfl rfl ⟨Nat.le_of_ble_eq_true rfl, Nat.le_of_ble_eq_true rfl⟩ hP hS (ty_lt ab_0) (cell_9 ab_0) rfl rfl rfl hl.1 rfl (Nat.le_of_ble_eq_true rfl) ⟨Nat.le_of_ble_eq_true rfl, Nat.le_of_ble_eq_true rfl⟩ dL_eatsIn_3) hS (fun q hq hc H locs hP hS ce q9 hce hcv hcl => ?_) (fun q hq hc H locs hP hS => ?_)
  · have hf := bnd_go hq hf
    have hf := ite_f hc hf
    rw [← hq] at hk1
    rcases hk1 with h1 | h1
    · exact absurd h1 hc
    · have hf := ite_t h1 hf
      have hcl : s.vm.findClass "java/util/NoSuchElementException" = some ce.cls := by rw [h1] at hcl; exact hcl
      refine vx_catch (E := "java/util/NoSuchElementException") (name := "java/util/NoSuchElementException") hown [] ⟨0, 8, 11, 38⟩ [] (hex.trans rfl) (fun z hz => absurd hz List.not_mem_nil) (by decide) (by decide) (hts _ kt_L_38) (va_Nw.use rfl (hXW.2.2.2.2.2.2.2.1 "java/util/NoSuchElementException" (by decide))) hce hcv hcl ?_
      refine lv_astore_n (lv' := [(2, .ref q9), (0, .ref (G.2.1 0)), (1, .ref (G.2.1 208))]) hx hb dL_eatsIn_11 rfl hl (by decide) rfl (fun ls hl => ?_)
      refine lv_iconst (v := 1) hx hb dL_eatsIn_12 (by decide) ?_
      exact gl_iret X hr hlk hP hS hf (Nat.le_of_ble_eq_true rfl) (Nat.le_of_ble_eq_true rfl) dL_eatsIn_13
  · have hf := bnd_go hq hf
    have hf := ite_t hc hf
    refine lv_i2l (v := (q.2.2).toInt64) hx hb dL_eatsIn_6 rfl ?_
    refine g_last X hP hS ab_208 (by rw [al_208]; unfold vp_in; decide) dL_eatsIn_7 (fun H locs hP hS => ?_)
    refine lv_goto (tgt := 14) hx hb dL_eatsIn_8 (by decide) ?_
    refine lv_iconst (v := 0) hx hb dL_eatsIn_14 (by decide) ?_
    exact gl_iret X hr hlk hP hS hf (Nat.le_of_ble_eq_true rfl) (Nat.le_of_ble_eq_true rfl) dL_eatsIn_15
def f_L_pass (σ : St) (x1 : Int32) : St × Int32 := bnd (f_X9_pass σ x1) (fun q => if q.1 = 0 then (setJ q.2.1 208 0 (q.2.2).toInt64, (0 : Int32)) else if q.1 = 1 then (q.2.1, (1 : Int32)) else (q.2.1, (0 : Int32)))
def ok_L_pass (σ : St) (x1 : Int32) : Prop := (ok_X9_pass σ x1) ∧ ((f_X9_pass σ x1).1 = 0 ∨ (f_X9_pass σ x1).1 = 1)
abbrev rm_L_pass : Room := { frames := 8, cells := 1, slots := 6, locals := 144 }
set_option maxHeartbeats 4000000 in
set_option maxRecDepth 100000 in
theorem c_L_pass (l : Launch) (hfl : l.stackTraces = false) (G : GE) (hG : Gok G) (σ : St) (x1 : Int32) (hok : ok_L_pass σ x1) : Met l yL_pass (wsW yL_pass cL_pass 4 [(0, 9, 12, 13)]) rm_L_pass (va_Pc [.ref (G.2.1 0), .int x1, .ref (G.2.1 208)] (Wd G σ)) (va_Qi (fun r u => (u, r) = f_L_pass σ x1) (PB G) (GA G)) 1 6 (GA G) := by
  generalize hf : f_L_pass σ x1 = fv
  rw [f_L_pass] at hf
  rw [ok_L_pass] at hok
  obtain ⟨hs1, hk1⟩ := hok
  refine gl_start hG (by decide) (Nat.le_of_ble_eq_true rfl) ?_
  intro p e s m args below meth c X hr hlk hex ls hl H locs hP hS
  have X : Cx G p s m args c cL_pass 4 RL := X
  obtain ⟨hx, hb, hml, hown, hts, hK, hbs, hXW, -⟩ := id X
  have hl : lv_has ls 4 [(0, .ref (G.2.1 0)), (1, .int x1), (2, .ref (G.2.1 208))] := hl
  refine lv_aload_n hx hb dL_pass_0 rfl (lv_at hl 2 rfl) ?_
  refine lv_iconst (v := 0) hx hb dL_pass_1 (by decide) ?_
  refine lv_aload_n hx hb dL_pass_2 rfl (lv_at hl 0 rfl) ?_
  refine lv_iload_n hx hb dL_pass_3 rfl (lv_at hl 1 rfl) ?_
  refine gl_cI (gx_runV (i := 0) (As := [.int x1]) (rest := [.int (0 : Int32), .ref (G.2.1 208)]) X (c_X9_pass l hfl G hG σ x1 hs1) ca_X9_pass km_L_102 rfl rfl ⟨Nat.le_of_ble_eq_true rfl, Nat.le_of_ble_eq_true rfl⟩ hP hS (ty_lt ab_0) (cell_9 ab_0) rfl rfl rfl hl.1 rfl (Nat.le_of_ble_eq_true rfl) ⟨Nat.le_of_ble_eq_true rfl, Nat.le_of_ble_eq_true rfl⟩ dL_pass_4) hS (fun q hq hc H locs hP hS ce q9 hce hcv hcl => ?_) (fun q hq hc H locs hP hS => ?_)
  · have hf := bnd_go hq hf
    have hf := ite_f hc hf
    rw [← hq] at hk1
    rcases hk1 with h1 | h1
    · exact absurd h1 hc
    · have hf := ite_t h1 hf
      have hcl : s.vm.findClass "java/lang/IllegalArgumentException" = some ce.cls := by rw [h1] at hcl; exact hcl
      refine vx_catch (E := "java/lang/IllegalArgumentException") (name := "java/lang/IllegalArgumentException") hown [] ⟨0, 9, 12, 13⟩ [] (hex.trans rfl) (fun z hz => absurd hz List.not_mem_nil) (by decide) (by decide) (hts _ kt_L_13) (va_Nw.use rfl (hXW.2.2.2.2.2.2.2.1 "java/lang/IllegalArgumentException" (by decide))) hce hcv hcl ?_
      refine lv_astore_n (lv' := [(3, .ref q9), (0, .ref (G.2.1 0)), (1, .int x1), (2, .ref (G.2.1 208))]) hx hb dL_pass_12 rfl hl (by decide) rfl (fun ls hl => ?_)
      refine lv_iconst (v := 1) hx hb dL_pass_13 (by decide) ?_
      exact gl_iret X hr hlk hP hS hf (Nat.le_of_ble_eq_true rfl) (Nat.le_of_ble_eq_true rfl) dL_pass_14
  · have hf := bnd_go hq hf
    have hf := ite_t hc hf
    refine lv_i2l (v := (q.2.2).toInt64) hx hb dL_pass_7 rfl ?_
    refine g_last X hP hS ab_208 (by rw [al_208]; unfold vp_in; decide) dL_pass_8 (fun H locs hP hS => ?_)
    refine lv_goto (tgt := 15) hx hb dL_pass_9 (by decide) ?_
    refine lv_iconst (v := 0) hx hb dL_pass_15 (by decide) ?_
    exact gl_iret X hr hlk hP hS hf (Nat.le_of_ble_eq_true rfl) (Nat.le_of_ble_eq_true rfl) dL_pass_16
def f_L_sign (σ : St) (x1 : Int32) : St × Int32 := bnd (f_X9_sign σ x1) (fun q => if q.1 = 0 then (setJ q.2.1 208 0 (q.2.2).toInt64, (0 : Int32)) else if q.1 = 2 then (q.2.1, (1 : Int32)) else (q.2.1, (0 : Int32)))
def ok_L_sign (σ : St) (x1 : Int32) : Prop := (ok_X9_sign σ x1) ∧ ((f_X9_sign σ x1).1 = 0 ∨ (f_X9_sign σ x1).1 = 2)
abbrev rm_L_sign : Room := { frames := 9, cells := 1, slots := 6, locals := 163 }
set_option maxHeartbeats 4000000 in
set_option maxRecDepth 100000 in
theorem c_L_sign (l : Launch) (hfl : l.stackTraces = false) (G : GE) (hG : Gok G) (σ : St) (x1 : Int32) (hok : ok_L_sign σ x1) : Met l yL_sign (wsW yL_sign cL_sign 4 [(0, 9, 12, 21)]) rm_L_sign (va_Pc [.ref (G.2.1 0), .int x1, .ref (G.2.1 208)] (Wd G σ)) (va_Qi (fun r u => (u, r) = f_L_sign σ x1) (PB G) (GA G)) 1 6 (GA G) := by
  generalize hf : f_L_sign σ x1 = fv
  rw [f_L_sign] at hf
  rw [ok_L_sign] at hok
  obtain ⟨hs1, hk1⟩ := hok
  refine gl_start hG (by decide) (Nat.le_of_ble_eq_true rfl) ?_
  intro p e s m args below meth c X hr hlk hex ls hl H locs hP hS
  have X : Cx G p s m args c cL_sign 4 RL := X
  obtain ⟨hx, hb, hml, hown, hts, hK, hbs, hXW, -⟩ := id X
  have hl : lv_has ls 4 [(0, .ref (G.2.1 0)), (1, .int x1), (2, .ref (G.2.1 208))] := hl
  refine lv_aload_n hx hb dL_sign_0 rfl (lv_at hl 2 rfl) ?_
  refine lv_iconst (v := 0) hx hb dL_sign_1 (by decide) ?_
  refine lv_aload_n hx hb dL_sign_2 rfl (lv_at hl 0 rfl) ?_
  refine lv_iload_n hx hb dL_sign_3 rfl (lv_at hl 1 rfl) ?_
  refine gl_cI (gx_runV (i := 0) (As := [.int x1]) (rest := [.int (0 : Int32), .ref (G.2.1 208)]) X (c_X9_sign l hfl G hG σ x1 hs1) ca_X9_sign km_L_105 rfl rfl ⟨Nat.le_of_ble_eq_true rfl, Nat.le_of_ble_eq_true rfl⟩ hP hS (ty_lt ab_0) (cell_9 ab_0) rfl rfl rfl hl.1 rfl (Nat.le_of_ble_eq_true rfl) ⟨Nat.le_of_ble_eq_true rfl, Nat.le_of_ble_eq_true rfl⟩ dL_sign_4) hS (fun q hq hc H locs hP hS ce q9 hce hcv hcl => ?_) (fun q hq hc H locs hP hS => ?_)
  · have hf := bnd_go hq hf
    have hf := ite_f hc hf
    rw [← hq] at hk1
    rcases hk1 with h1 | h1
    · exact absurd h1 hc
    · have hf := ite_t h1 hf
      have hcl : s.vm.findClass "java/lang/IndexOutOfBoundsException" = some ce.cls := by rw [h1] at hcl; exact hcl
      refine vx_catch (E := "java/lang/IndexOutOfBoundsException") (name := "java/lang/IndexOutOfBoundsException") hown [] ⟨0, 9, 12, 21⟩ [] (hex.trans rfl) (fun z hz => absurd hz List.not_mem_nil) (by decide) (by decide) (hts _ kt_L_21) (va_Nw.use rfl (hXW.2.2.2.2.2.2.2.1 "java/lang/IndexOutOfBoundsException" (by decide))) hce hcv hcl ?_
      refine lv_astore_n (lv' := [(3, .ref q9), (0, .ref (G.2.1 0)), (1, .int x1), (2, .ref (G.2.1 208))]) hx hb dL_sign_12 rfl hl (by decide) rfl (fun ls hl => ?_)
      refine lv_iconst (v := 1) hx hb dL_sign_13 (by decide) ?_
      exact gl_iret X hr hlk hP hS hf (Nat.le_of_ble_eq_true rfl) (Nat.le_of_ble_eq_true rfl) dL_sign_14
  · have hf := bnd_go hq hf
    have hf := ite_t hc hf
    refine lv_i2l (v := (q.2.2).toInt64) hx hb dL_sign_7 rfl ?_
    refine g_last X hP hS ab_208 (by rw [al_208]; unfold vp_in; decide) dL_sign_8 (fun H locs hP hS => ?_)
    refine lv_goto (tgt := 15) hx hb dL_sign_9 (by decide) ?_
    refine lv_iconst (v := 0) hx hb dL_sign_15 (by decide) ?_
    exact gl_iret X hr hlk hP hS hf (Nat.le_of_ble_eq_true rfl) (Nat.le_of_ble_eq_true rfl) dL_sign_16
def f_L_append (σ : St) (x1 : Int32) : St × Int32 := bnd (f_X9_append σ x1) (fun q => if q.1 = 0 then (setJ q.2.1 208 0 (q.2.2).toInt64, (0 : Int32)) else if q.1 = 5 then (q.2.1, (1 : Int32)) else (q.2.1, (0 : Int32)))
def ok_L_append (σ : St) (x1 : Int32) : Prop := (ok_X9_append σ x1) ∧ ((f_X9_append σ x1).1 = 0 ∨ (f_X9_append σ x1).1 = 5)
abbrev rm_L_append : Room := { frames := 7, cells := 1, slots := 6, locals := 121 }
set_option maxHeartbeats 4000000 in
set_option maxRecDepth 100000 in
theorem c_L_append (l : Launch) (hfl : l.stackTraces = false) (G : GE) (hG : Gok G) (σ : St) (x1 : Int32) (hok : ok_L_append σ x1) : Met l yL_append (wsW yL_append cL_append 4 [(0, 9, 12, 113)]) rm_L_append (va_Pc [.ref (G.2.1 0), .int x1, .ref (G.2.1 208)] (Wd G σ)) (va_Qi (fun r u => (u, r) = f_L_append σ x1) (PB G) (GA G)) 1 6 (GA G) := by
  generalize hf : f_L_append σ x1 = fv
  rw [f_L_append] at hf
  rw [ok_L_append] at hok
  obtain ⟨hs1, hk1⟩ := hok
  refine gl_start hG (by decide) (Nat.le_of_ble_eq_true rfl) ?_
  intro p e s m args below meth c X hr hlk hex ls hl H locs hP hS
  have X : Cx G p s m args c cL_append 4 RL := X
  obtain ⟨hx, hb, hml, hown, hts, hK, hbs, hXW, -⟩ := id X
  have hl : lv_has ls 4 [(0, .ref (G.2.1 0)), (1, .int x1), (2, .ref (G.2.1 208))] := hl
  refine lv_aload_n hx hb dL_append_0 rfl (lv_at hl 2 rfl) ?_
  refine lv_iconst (v := 0) hx hb dL_append_1 (by decide) ?_
  refine lv_aload_n hx hb dL_append_2 rfl (lv_at hl 0 rfl) ?_
  refine lv_iload_n hx hb dL_append_3 rfl (lv_at hl 1 rfl) ?_
  refine gl_cI (gx_runV (i := 0) (As := [.int x1]) (rest := [.int (0 : Int32), .ref (G.2.1 208)]) X (c_X9_append l hfl G hG σ x1 hs1) ca_X9_append km_L_109 rfl rfl ⟨Nat.le_of_ble_eq_true rfl, Nat.le_of_ble_eq_true rfl⟩ hP hS (ty_lt ab_0) (cell_9 ab_0) rfl rfl rfl hl.1 rfl (Nat.le_of_ble_eq_true rfl) ⟨Nat.le_of_ble_eq_true rfl, Nat.le_of_ble_eq_true rfl⟩ dL_append_4) hS (fun q hq hc H locs hP hS ce q9 hce hcv hcl => ?_) (fun q hq hc H locs hP hS => ?_)
  · have hf := bnd_go hq hf
    have hf := ite_f hc hf
    rw [← hq] at hk1
    rcases hk1 with h1 | h1
    · exact absurd h1 hc
    · have hf := ite_t h1 hf
      have hcl : s.vm.findClass "java/lang/IllegalStateException" = some ce.cls := by rw [h1] at hcl; exact hcl
      refine vx_catch (E := "java/lang/IllegalStateException") (name := "java/lang/IllegalStateException") hown [] ⟨0, 9, 12, 113⟩ [] (hex.trans rfl) (fun z hz => absurd hz List.not_mem_nil) (by decide) (by decide) (hts _ kt_L_113) (va_Nw.use rfl (hXW.2.2.2.2.2.2.2.1 "java/lang/IllegalStateException" (by decide))) hce hcv hcl ?_
      refine lv_astore_n (lv' := [(3, .ref q9), (0, .ref (G.2.1 0)), (1, .int x1), (2, .ref (G.2.1 208))]) hx hb dL_append_12 rfl hl (by decide) rfl (fun ls hl => ?_)
      refine lv_iconst (v := 1) hx hb dL_append_13 (by decide) ?_
      exact gl_iret X hr hlk hP hS hf (Nat.le_of_ble_eq_true rfl) (Nat.le_of_ble_eq_true rfl) dL_append_14
  · have hf := bnd_go hq hf
    have hf := ite_t hc hf
    refine lv_i2l (v := (q.2.2).toInt64) hx hb dL_append_7 rfl ?_
    refine g_last X hP hS ab_208 (by rw [al_208]; unfold vp_in; decide) dL_append_8 (fun H locs hP hS => ?_)
    refine lv_goto (tgt := 15) hx hb dL_append_9 (by decide) ?_
    refine lv_iconst (v := 0) hx hb dL_append_15 (by decide) ?_
    exact gl_iret X hr hlk hP hS hf (Nat.le_of_ble_eq_true rfl) (Nat.le_of_ble_eq_true rfl) dL_append_16
def f_L_run (σ : St) : St × Int32 := bnd (f_X9_run σ) (fun q => if q.1 = 0 then (setJ q.2.1 208 0 (q.2.2).toInt64, (0 : Int32)) else if q.1 = 1 then (q.2.1, (1 : Int32)) else if q.1 = 3 then (q.2.1, (2 : Int32)) else (q.2.1, (0 : Int32)))
def ok_L_run (σ : St) : Prop := (ok_X9_run σ) ∧ ((f_X9_run σ).1 = 0 ∨ (f_X9_run σ).1 = 1 ∨ (f_X9_run σ).1 = 3)
abbrev rm_L_run : Room := { frames := 9, cells := 2, slots := 12, locals := 191 }
set_option maxHeartbeats 4000000 in
set_option maxRecDepth 100000 in
theorem c_L_run (l : Launch) (hfl : l.stackTraces = false) (G : GE) (hG : Gok G) (σ : St) (hok : ok_L_run σ) : Met l yL_run (wsW yL_run cL_run 3 [(0, 8, 11, 13), (0, 8, 14, 15)]) rm_L_run (va_Pc [.ref (G.2.1 0), .ref (G.2.1 208)] (Wd G σ)) (va_Qi (fun r u => (u, r) = f_L_run σ) (PB G) (GA G)) 2 12 (GA G) := by
  generalize hf : f_L_run σ = fv
  rw [f_L_run] at hf
  rw [ok_L_run] at hok
  obtain ⟨hs1, hk1⟩ := hok
  refine gl_start hG (by decide) (Nat.le_of_ble_eq_true rfl) ?_
  intro p e s m args below meth c X hr hlk hex ls hl H locs hP hS
  have X : Cx G p s m args c cL_run 3 RL := X
  obtain ⟨hx, hb, hml, hown, hts, hK, hbs, hXW, -⟩ := id X
  have hl : lv_has ls 3 [(0, .ref (G.2.1 0)), (1, .ref (G.2.1 208))] := hl
  refine lv_aload_n hx hb dL_run_0 rfl (lv_at hl 1 rfl) ?_
  refine lv_iconst (v := 0) hx hb dL_run_1 (by decide) ?_
  refine lv_aload_n hx hb dL_run_2 rfl (lv_at hl 0 rfl) ?_
  refine gl_cI (gx_runV (i := 0) (As := []) (rest := [.int (0 : Int32), .ref (G.2.1 208)]) X (c_X9_run l hfl G hG σ hs1) ca_X9_run km_L_115 rfl rfl ⟨Nat.le_of_ble_eq_true rfl, Nat.le_of_ble_eq_true rfl⟩ hP hS (ty_lt ab_0) (cell_9 ab_0) rfl rfl rfl hl.1 rfl (Nat.le_of_ble_eq_true rfl) ⟨Nat.le_of_ble_eq_true rfl, Nat.le_of_ble_eq_true rfl⟩ dL_run_3) hS (fun q hq hc H locs hP hS ce q9 hce hcv hcl => ?_) (fun q hq hc H locs hP hS => ?_)
  · have hf := bnd_go hq hf
    have hf := ite_f hc hf
    rw [← hq] at hk1
    rcases hk1 with h1 | h1 | h1
    · exact absurd h1 hc
    · have hf := ite_t h1 hf
      have hcl : s.vm.findClass "java/lang/IllegalArgumentException" = some ce.cls := by rw [h1] at hcl; exact hcl
      refine vx_catch (E := "java/lang/IllegalArgumentException") (name := "java/lang/IllegalArgumentException") hown [] ⟨0, 8, 11, 13⟩ [⟨0, 8, 14, 15⟩] (hex.trans rfl) (fun z hz => absurd hz List.not_mem_nil) (by decide) (by decide) (hts _ kt_L_13) (va_Nw.use rfl (hXW.2.2.2.2.2.2.2.1 "java/lang/IllegalArgumentException" (by decide))) hce hcv hcl ?_
      refine lv_astore_n (lv' := [(2, .ref q9), (0, .ref (G.2.1 0)), (1, .ref (G.2.1 208))]) hx hb dL_run_11 rfl hl (by decide) rfl (fun ls hl => ?_)
      refine lv_iconst (v := 1) hx hb dL_run_12 (by decide) ?_
      exact gl_iret X hr hlk hP hS hf (Nat.le_of_ble_eq_true rfl) (Nat.le_of_ble_eq_true rfl) dL_run_13
    · have hf := ite_f (by rw [h1]; decide) hf
      have hf := ite_t h1 hf
      have hcl : s.vm.findClass "java/lang/UnsupportedOperationException" = some ce.cls := by rw [h1] at hcl; exact hcl
      refine vx_catch (E := "java/lang/UnsupportedOperationException") (name := "java/lang/UnsupportedOperationException") hown [⟨0, 8, 11, 13⟩] ⟨0, 8, 14, 15⟩ [] (hex.trans rfl) (List.forall_mem_cons.mpr ⟨Or.inr ⟨by decide, "java/lang/IllegalArgumentException", hts _ kt_L_13, hXW.2.2.2.2.2.2.2.2.2 _ (List.mem_of_getElem? (i := 2) rfl)⟩, fun z hz => absurd hz List.not_mem_nil⟩) (by decide) (by decide) (hts _ kt_L_15) (va_Nw.use rfl (hXW.2.2.2.2.2.2.2.1 "java/lang/UnsupportedOperationException" (by decide))) hce hcv hcl ?_
      refine lv_astore_n (lv' := [(2, .ref q9), (0, .ref (G.2.1 0)), (1, .ref (G.2.1 208))]) hx hb dL_run_14 rfl hl (by decide) rfl (fun ls hl => ?_)
      refine lv_iconst (v := 2) hx hb dL_run_15 (by decide) ?_
      exact gl_iret X hr hlk hP hS hf (Nat.le_of_ble_eq_true rfl) (Nat.le_of_ble_eq_true rfl) dL_run_16
  · have hf := bnd_go hq hf
    have hf := ite_t hc hf
    refine lv_i2l (v := (q.2.2).toInt64) hx hb dL_run_6 rfl ?_
    refine g_last X hP hS ab_208 (by rw [al_208]; unfold vp_in; decide) dL_run_7 (fun H locs hP hS => ?_)
    refine lv_goto (tgt := 17) hx hb dL_run_8 (by decide) ?_
    refine lv_iconst (v := 0) hx hb dL_run_17 (by decide) ?_
    exact gl_iret X hr hlk hP hS hf (Nat.le_of_ble_eq_true rfl) (Nat.le_of_ble_eq_true rfl) dL_run_18
def f_L_refusal (σ : St) (x1 : Bool) : St × Int32 := bnd (f_X9_refusal σ x1) (fun q => if q.1 = 0 then (setJ q.2.1 208 0 (q.2.2).toInt64, (0 : Int32)) else if q.1 = 4 then (q.2.1, (1 : Int32)) else (q.2.1, (0 : Int32)))
def ok_L_refusal (σ : St) (x1 : Bool) : Prop := ((f_X9_refusal σ x1).1 = 0 ∨ (f_X9_refusal σ x1).1 = 4)
abbrev rm_L_refusal : Room := { frames := 8, cells := 1, slots := 6, locals := 141 }
set_option maxHeartbeats 4000000 in
set_option maxRecDepth 100000 in
theorem c_L_refusal (l : Launch) (hfl : l.stackTraces = false) (G : GE) (hG : Gok G) (σ : St) (x1 : Bool) (hok : ok_L_refusal σ x1) : Met l yL_refusal (wsW yL_refusal cL_refusal 4 [(0, 9, 12, 38)]) rm_L_refusal (va_Pc [.ref (G.2.1 0), .int (bI x1), .ref (G.2.1 208)] (Wd G σ)) (va_Qi (fun r u => (u, r) = f_L_refusal σ x1) (PB G) (GA G)) 1 6 (GA G) := by
  generalize hf : f_L_refusal σ x1 = fv
  rw [f_L_refusal] at hf
  rw [ok_L_refusal] at hok
  have hk1 := hok
  refine gl_start hG (by decide) (Nat.le_of_ble_eq_true rfl) ?_
  intro p e s m args below meth c X hr hlk hex ls hl H locs hP hS
  have X : Cx G p s m args c cL_refusal 4 RL := X
  obtain ⟨hx, hb, hml, hown, hts, hK, hbs, hXW, -⟩ := id X
  have hl : lv_has ls 4 [(0, .ref (G.2.1 0)), (1, .int (bI x1)), (2, .ref (G.2.1 208))] := hl
  refine lv_aload_n hx hb dL_refusal_0 rfl (lv_at hl 2 rfl) ?_
  refine lv_iconst (v := 0) hx hb dL_refusal_1 (by decide) ?_
  refine lv_aload_n hx hb dL_refusal_2 rfl (lv_at hl 0 rfl) ?_
  refine lv_iload_n hx hb dL_refusal_3 rfl (lv_at hl 1 rfl) ?_
  refine gl_cI (gx_runV (i := 0) (As := [.int (bI x1)]) (rest := [.int (0 : Int32), .ref (G.2.1 208)]) X (c_X9_refusal l hfl G hG σ x1) ca_X9_refusal km_L_118 rfl rfl ⟨Nat.le_of_ble_eq_true rfl, Nat.le_of_ble_eq_true rfl⟩ hP hS (ty_lt ab_0) (cell_9 ab_0) rfl rfl rfl hl.1 rfl (Nat.le_of_ble_eq_true rfl) ⟨Nat.le_of_ble_eq_true rfl, Nat.le_of_ble_eq_true rfl⟩ dL_refusal_4) hS (fun q hq hc H locs hP hS ce q9 hce hcv hcl => ?_) (fun q hq hc H locs hP hS => ?_)
  · have hf := bnd_go hq hf
    have hf := ite_f hc hf
    rw [← hq] at hk1
    rcases hk1 with h1 | h1
    · exact absurd h1 hc
    · have hf := ite_t h1 hf
      have hcl : s.vm.findClass "java/util/NoSuchElementException" = some ce.cls := by rw [h1] at hcl; exact hcl
      refine vx_catch (E := "java/util/NoSuchElementException") (name := "java/util/NoSuchElementException") hown [] ⟨0, 9, 12, 38⟩ [] (hex.trans rfl) (fun z hz => absurd hz List.not_mem_nil) (by decide) (by decide) (hts _ kt_L_38) (va_Nw.use rfl (hXW.2.2.2.2.2.2.2.1 "java/util/NoSuchElementException" (by decide))) hce hcv hcl ?_
      refine lv_astore_n (lv' := [(3, .ref q9), (0, .ref (G.2.1 0)), (1, .int (bI x1)), (2, .ref (G.2.1 208))]) hx hb dL_refusal_12 rfl hl (by decide) rfl (fun ls hl => ?_)
      refine lv_iconst (v := 1) hx hb dL_refusal_13 (by decide) ?_
      exact gl_iret X hr hlk hP hS hf (Nat.le_of_ble_eq_true rfl) (Nat.le_of_ble_eq_true rfl) dL_refusal_14
  · have hf := bnd_go hq hf
    have hf := ite_t hc hf
    refine lv_i2l (v := (q.2.2).toInt64) hx hb dL_refusal_7 rfl ?_
    refine g_last X hP hS ab_208 (by rw [al_208]; unfold vp_in; decide) dL_refusal_8 (fun H locs hP hS => ?_)
    refine lv_goto (tgt := 15) hx hb dL_refusal_9 (by decide) ?_
    refine lv_iconst (v := 0) hx hb dL_refusal_15 (by decide) ?_
    exact gl_iret X hr hlk hP hS hf (Nat.le_of_ble_eq_true rfl) (Nat.le_of_ble_eq_true rfl) dL_refusal_16
def f_L_account (σ : St) (x1 : Int32) : St × Int32 := bnd (f_X9_account σ x1) (fun q => if q.1 = 0 then (setJ q.2.1 208 0 (q.2.2).toInt64, (0 : Int32)) else if q.1 = 1 then (q.2.1, (1 : Int32)) else (q.2.1, (0 : Int32)))
def ok_L_account (σ : St) (x1 : Int32) : Prop := (ok_X9_account σ x1) ∧ ((f_X9_account σ x1).1 = 0 ∨ (f_X9_account σ x1).1 = 1)
abbrev rm_L_account : Room := { frames := 7, cells := 1, slots := 6, locals := 121 }
set_option maxHeartbeats 4000000 in
set_option maxRecDepth 100000 in
theorem c_L_account (l : Launch) (hfl : l.stackTraces = false) (G : GE) (hG : Gok G) (σ : St) (x1 : Int32) (hok : ok_L_account σ x1) : Met l yL_account (wsW yL_account cL_account 4 [(0, 9, 12, 13)]) rm_L_account (va_Pc [.ref (G.2.1 0), .int x1, .ref (G.2.1 208)] (Wd G σ)) (va_Qi (fun r u => (u, r) = f_L_account σ x1) (PB G) (GA G)) 1 6 (GA G) := by
  generalize hf : f_L_account σ x1 = fv
  rw [f_L_account] at hf
  rw [ok_L_account] at hok
  obtain ⟨hs1, hk1⟩ := hok
  refine gl_start hG (by decide) (Nat.le_of_ble_eq_true rfl) ?_
  intro p e s m args below meth c X hr hlk hex ls hl H locs hP hS
  have X : Cx G p s m args c cL_account 4 RL := X
  obtain ⟨hx, hb, hml, hown, hts, hK, hbs, hXW, -⟩ := id X
  have hl : lv_has ls 4 [(0, .ref (G.2.1 0)), (1, .int x1), (2, .ref (G.2.1 208))] := hl
  refine lv_aload_n hx hb dL_account_0 rfl (lv_at hl 2 rfl) ?_
  refine lv_iconst (v := 0) hx hb dL_account_1 (by decide) ?_
  refine lv_aload_n hx hb dL_account_2 rfl (lv_at hl 0 rfl) ?_
  refine lv_iload_n hx hb dL_account_3 rfl (lv_at hl 1 rfl) ?_
  refine gl_cI (gx_runV (i := 0) (As := [.int x1]) (rest := [.int (0 : Int32), .ref (G.2.1 208)]) X (c_X9_account l hfl G hG σ x1 hs1) ca_X9_account km_L_122 rfl rfl ⟨Nat.le_of_ble_eq_true rfl, Nat.le_of_ble_eq_true rfl⟩ hP hS (ty_lt ab_0) (cell_9 ab_0) rfl rfl rfl hl.1 rfl (Nat.le_of_ble_eq_true rfl) ⟨Nat.le_of_ble_eq_true rfl, Nat.le_of_ble_eq_true rfl⟩ dL_account_4) hS (fun q hq hc H locs hP hS ce q9 hce hcv hcl => ?_) (fun q hq hc H locs hP hS => ?_)
  · have hf := bnd_go hq hf
    have hf := ite_f hc hf
    rw [← hq] at hk1
    rcases hk1 with h1 | h1
    · exact absurd h1 hc
    · have hf := ite_t h1 hf
      have hcl : s.vm.findClass "java/lang/IllegalArgumentException" = some ce.cls := by rw [h1] at hcl; exact hcl
      refine vx_catch (E := "java/lang/IllegalArgumentException") (name := "java/lang/IllegalArgumentException") hown [] ⟨0, 9, 12, 13⟩ [] (hex.trans rfl) (fun z hz => absurd hz List.not_mem_nil) (by decide) (by decide) (hts _ kt_L_13) (va_Nw.use rfl (hXW.2.2.2.2.2.2.2.1 "java/lang/IllegalArgumentException" (by decide))) hce hcv hcl ?_
      refine lv_astore_n (lv' := [(3, .ref q9), (0, .ref (G.2.1 0)), (1, .int x1), (2, .ref (G.2.1 208))]) hx hb dL_account_12 rfl hl (by decide) rfl (fun ls hl => ?_)
      refine lv_iconst (v := 1) hx hb dL_account_13 (by decide) ?_
      exact gl_iret X hr hlk hP hS hf (Nat.le_of_ble_eq_true rfl) (Nat.le_of_ble_eq_true rfl) dL_account_14
  · have hf := bnd_go hq hf
    have hf := ite_t hc hf
    refine lv_i2l (v := (q.2.2).toInt64) hx hb dL_account_7 rfl ?_
    refine g_last X hP hS ab_208 (by rw [al_208]; unfold vp_in; decide) dL_account_8 (fun H locs hP hS => ?_)
    refine lv_goto (tgt := 15) hx hb dL_account_9 (by decide) ?_
    refine lv_iconst (v := 0) hx hb dL_account_15 (by decide) ?_
    exact gl_iret X hr hlk hP hS hf (Nat.le_of_ble_eq_true rfl) (Nat.le_of_ble_eq_true rfl) dL_account_16
def f_L_meanBits (σ : St) : St × Int32 := bnd (f_X9_meanBits σ) (fun q => if q.1 = 0 then (setJ q.2.1 208 0 q.2.2, (0 : Int32)) else if q.1 = 6 then (q.2.1, (1 : Int32)) else (q.2.1, (0 : Int32)))
def ok_L_meanBits (σ : St) : Prop := (ok_X9_meanBits σ) ∧ ((f_X9_meanBits σ).1 = 0 ∨ (f_X9_meanBits σ).1 = 6)
abbrev rm_L_meanBits : Room := { frames := 7, cells := 1, slots := 6, locals := 121 }
set_option maxHeartbeats 4000000 in
set_option maxRecDepth 100000 in
theorem c_L_meanBits (l : Launch) (hfl : l.stackTraces = false) (G : GE) (hG : Gok G) (σ : St) (hok : ok_L_meanBits σ) : Met l yL_meanBits (wsW yL_meanBits cL_meanBits 3 [(0, 7, 10, 129)]) rm_L_meanBits (va_Pc [.ref (G.2.1 0), .ref (G.2.1 208)] (Wd G σ)) (va_Qi (fun r u => (u, r) = f_L_meanBits σ) (PB G) (GA G)) 1 6 (GA G) := by
  generalize hf : f_L_meanBits σ = fv
  rw [f_L_meanBits] at hf
  rw [ok_L_meanBits] at hok
  obtain ⟨hs1, hk1⟩ := hok
  refine gl_start hG (by decide) (Nat.le_of_ble_eq_true rfl) ?_
  intro p e s m args below meth c X hr hlk hex ls hl H locs hP hS
  have X : Cx G p s m args c cL_meanBits 3 RL := X
  obtain ⟨hx, hb, hml, hown, hts, hK, hbs, hXW, -⟩ := id X
  have hl : lv_has ls 3 [(0, .ref (G.2.1 0)), (1, .ref (G.2.1 208))] := hl
  refine lv_aload_n hx hb dL_meanBits_0 rfl (lv_at hl 1 rfl) ?_
  refine lv_iconst (v := 0) hx hb dL_meanBits_1 (by decide) ?_
  refine lv_aload_n hx hb dL_meanBits_2 rfl (lv_at hl 0 rfl) ?_
  refine gl_cJ (gx_runV (i := 0) (As := []) (rest := [.int (0 : Int32), .ref (G.2.1 208)]) X (c_X9_meanBits l hfl G hG σ hs1) ca_X9_meanBits km_L_125 rfl rfl ⟨Nat.le_of_ble_eq_true rfl, Nat.le_of_ble_eq_true rfl⟩ hP hS (ty_lt ab_0) (cell_9 ab_0) rfl rfl rfl hl.1 rfl (Nat.le_of_ble_eq_true rfl) ⟨Nat.le_of_ble_eq_true rfl, Nat.le_of_ble_eq_true rfl⟩ dL_meanBits_3) hS (fun q hq hc H locs hP hS ce q9 hce hcv hcl => ?_) (fun q hq hc H locs hP hS => ?_)
  · have hf := bnd_go hq hf
    have hf := ite_f hc hf
    rw [← hq] at hk1
    rcases hk1 with h1 | h1
    · exact absurd h1 hc
    · have hf := ite_t h1 hf
      have hcl : s.vm.findClass "java/lang/ArithmeticException" = some ce.cls := by rw [h1] at hcl; exact hcl
      refine vx_catch (E := "java/lang/ArithmeticException") (name := "java/lang/ArithmeticException") hown [] ⟨0, 7, 10, 129⟩ [] (hex.trans rfl) (fun z hz => absurd hz List.not_mem_nil) (by decide) (by decide) (hts _ kt_L_129) (va_Nw.use rfl (hXW.2.2.2.2.2.2.2.1 "java/lang/ArithmeticException" (by decide))) hce hcv hcl ?_
      refine lv_astore_n (lv' := [(2, .ref q9), (0, .ref (G.2.1 0)), (1, .ref (G.2.1 208))]) hx hb dL_meanBits_10 rfl hl (by decide) rfl (fun ls hl => ?_)
      refine lv_iconst (v := 1) hx hb dL_meanBits_11 (by decide) ?_
      exact gl_iret X hr hlk hP hS hf (Nat.le_of_ble_eq_true rfl) (Nat.le_of_ble_eq_true rfl) dL_meanBits_12
  · have hf := bnd_go hq hf
    have hf := ite_t hc hf
    refine g_last X hP hS ab_208 (by rw [al_208]; unfold vp_in; decide) dL_meanBits_6 (fun H locs hP hS => ?_)
    refine lv_goto (tgt := 13) hx hb dL_meanBits_7 (by decide) ?_
    refine lv_iconst (v := 0) hx hb dL_meanBits_13 (by decide) ?_
    exact gl_iret X hr hlk hP hS hf (Nat.le_of_ble_eq_true rfl) (Nat.le_of_ble_eq_true rfl) dL_meanBits_14
def f_L_undo (σ : St) : St × Int32 := bnd (f_X9_undo σ) (fun q => if q.1 = 0 then (setJ q.2.1 208 0 (q.2.2).toInt64, (0 : Int32)) else if q.1 = 5 then (q.2.1, (1 : Int32)) else (q.2.1, (0 : Int32)))
def ok_L_undo (σ : St) : Prop := (ok_X9_undo σ) ∧ ((f_X9_undo σ).1 = 0 ∨ (f_X9_undo σ).1 = 5)
abbrev rm_L_undo : Room := { frames := 7, cells := 1, slots := 6, locals := 143 }
set_option maxHeartbeats 4000000 in
set_option maxRecDepth 100000 in
theorem c_L_undo (l : Launch) (hfl : l.stackTraces = false) (G : GE) (hG : Gok G) (σ : St) (hok : ok_L_undo σ) : Met l yL_undo (wsW yL_undo cL_undo 3 [(0, 8, 11, 113)]) rm_L_undo (va_Pc [.ref (G.2.1 0), .ref (G.2.1 208)] (Wd G σ)) (va_Qi (fun r u => (u, r) = f_L_undo σ) (PB G) (GA G)) 1 6 (GA G) := by
  generalize hf : f_L_undo σ = fv
  rw [f_L_undo] at hf
  rw [ok_L_undo] at hok
  obtain ⟨hs1, hk1⟩ := hok
  refine gl_start hG (by decide) (Nat.le_of_ble_eq_true rfl) ?_
  intro p e s m args below meth c X hr hlk hex ls hl H locs hP hS
  have X : Cx G p s m args c cL_undo 3 RL := X
  obtain ⟨hx, hb, hml, hown, hts, hK, hbs, hXW, -⟩ := id X
  have hl : lv_has ls 3 [(0, .ref (G.2.1 0)), (1, .ref (G.2.1 208))] := hl
  refine lv_aload_n hx hb dL_undo_0 rfl (lv_at hl 1 rfl) ?_
  refine lv_iconst (v := 0) hx hb dL_undo_1 (by decide) ?_
  refine lv_aload_n hx hb dL_undo_2 rfl (lv_at hl 0 rfl) ?_
  refine gl_cI (gx_runV (i := 0) (As := []) (rest := [.int (0 : Int32), .ref (G.2.1 208)]) X (c_X9_undo l hfl G hG σ hs1) ca_X9_undo km_L_131 rfl rfl ⟨Nat.le_of_ble_eq_true rfl, Nat.le_of_ble_eq_true rfl⟩ hP hS (ty_lt ab_0) (cell_9 ab_0) rfl rfl rfl hl.1 rfl (Nat.le_of_ble_eq_true rfl) ⟨Nat.le_of_ble_eq_true rfl, Nat.le_of_ble_eq_true rfl⟩ dL_undo_3) hS (fun q hq hc H locs hP hS ce q9 hce hcv hcl => ?_) (fun q hq hc H locs hP hS => ?_)
  · have hf := bnd_go hq hf
    have hf := ite_f hc hf
    rw [← hq] at hk1
    rcases hk1 with h1 | h1
    · exact absurd h1 hc
    · have hf := ite_t h1 hf
      have hcl : s.vm.findClass "java/lang/IllegalStateException" = some ce.cls := by rw [h1] at hcl; exact hcl
      refine vx_catch (E := "java/lang/IllegalStateException") (name := "java/lang/IllegalStateException") hown [] ⟨0, 8, 11, 113⟩ [] (hex.trans rfl) (fun z hz => absurd hz List.not_mem_nil) (by decide) (by decide) (hts _ kt_L_113) (va_Nw.use rfl (hXW.2.2.2.2.2.2.2.1 "java/lang/IllegalStateException" (by decide))) hce hcv hcl ?_
      refine lv_astore_n (lv' := [(2, .ref q9), (0, .ref (G.2.1 0)), (1, .ref (G.2.1 208))]) hx hb dL_undo_11 rfl hl (by decide) rfl (fun ls hl => ?_)
      refine lv_iconst (v := 1) hx hb dL_undo_12 (by decide) ?_
      exact gl_iret X hr hlk hP hS hf (Nat.le_of_ble_eq_true rfl) (Nat.le_of_ble_eq_true rfl) dL_undo_13
  · have hf := bnd_go hq hf
    have hf := ite_t hc hf
    refine lv_i2l (v := (q.2.2).toInt64) hx hb dL_undo_6 rfl ?_
    refine g_last X hP hS ab_208 (by rw [al_208]; unfold vp_in; decide) dL_undo_7 (fun H locs hP hS => ?_)
    refine lv_goto (tgt := 14) hx hb dL_undo_8 (by decide) ?_
    refine lv_iconst (v := 0) hx hb dL_undo_14 (by decide) ?_
    exact gl_iret X hr hlk hP hS hf (Nat.le_of_ble_eq_true rfl) (Nat.le_of_ble_eq_true rfl) dL_undo_15
def f_L_restore (σ : St) : St × Int32 := bnd (f_X9_restore σ) (fun q => if q.1 = 0 then (setJ q.2.1 208 0 (q.2.2).toInt64, (0 : Int32)) else if q.1 = 5 then (q.2.1, (1 : Int32)) else (q.2.1, (0 : Int32)))
def ok_L_restore (σ : St) : Prop := ((f_X9_restore σ).1 = 0 ∨ (f_X9_restore σ).1 = 5)
abbrev rm_L_restore : Room := { frames := 7, cells := 1, slots := 6, locals := 122 }
set_option maxHeartbeats 4000000 in
set_option maxRecDepth 100000 in
theorem c_L_restore (l : Launch) (hfl : l.stackTraces = false) (G : GE) (hG : Gok G) (σ : St) (hok : ok_L_restore σ) : Met l yL_restore (wsW yL_restore cL_restore 3 [(0, 8, 11, 113)]) rm_L_restore (va_Pc [.ref (G.2.1 0), .ref (G.2.1 208)] (Wd G σ)) (va_Qi (fun r u => (u, r) = f_L_restore σ) (PB G) (GA G)) 1 6 (GA G) := by
  generalize hf : f_L_restore σ = fv
  rw [f_L_restore] at hf
  rw [ok_L_restore] at hok
  have hk1 := hok
  refine gl_start hG (by decide) (Nat.le_of_ble_eq_true rfl) ?_
  intro p e s m args below meth c X hr hlk hex ls hl H locs hP hS
  have X : Cx G p s m args c cL_restore 3 RL := X
  obtain ⟨hx, hb, hml, hown, hts, hK, hbs, hXW, -⟩ := id X
  have hl : lv_has ls 3 [(0, .ref (G.2.1 0)), (1, .ref (G.2.1 208))] := hl
  refine lv_aload_n hx hb dL_restore_0 rfl (lv_at hl 1 rfl) ?_
  refine lv_iconst (v := 0) hx hb dL_restore_1 (by decide) ?_
  refine lv_aload_n hx hb dL_restore_2 rfl (lv_at hl 0 rfl) ?_
  refine gl_cI (gx_runV (i := 0) (As := []) (rest := [.int (0 : Int32), .ref (G.2.1 208)]) X (c_X9_restore l hfl G hG σ) ca_X9_restore km_L_134 rfl rfl ⟨Nat.le_of_ble_eq_true rfl, Nat.le_of_ble_eq_true rfl⟩ hP hS (ty_lt ab_0) (cell_9 ab_0) rfl rfl rfl hl.1 rfl (Nat.le_of_ble_eq_true rfl) ⟨Nat.le_of_ble_eq_true rfl, Nat.le_of_ble_eq_true rfl⟩ dL_restore_3) hS (fun q hq hc H locs hP hS ce q9 hce hcv hcl => ?_) (fun q hq hc H locs hP hS => ?_)
  · have hf := bnd_go hq hf
    have hf := ite_f hc hf
    rw [← hq] at hk1
    rcases hk1 with h1 | h1
    · exact absurd h1 hc
    · have hf := ite_t h1 hf
      have hcl : s.vm.findClass "java/lang/IllegalStateException" = some ce.cls := by rw [h1] at hcl; exact hcl
      refine vx_catch (E := "java/lang/IllegalStateException") (name := "java/lang/IllegalStateException") hown [] ⟨0, 8, 11, 113⟩ [] (hex.trans rfl) (fun z hz => absurd hz List.not_mem_nil) (by decide) (by decide) (hts _ kt_L_113) (va_Nw.use rfl (hXW.2.2.2.2.2.2.2.1 "java/lang/IllegalStateException" (by decide))) hce hcv hcl ?_
      refine lv_astore_n (lv' := [(2, .ref q9), (0, .ref (G.2.1 0)), (1, .ref (G.2.1 208))]) hx hb dL_restore_11 rfl hl (by decide) rfl (fun ls hl => ?_)
      refine lv_iconst (v := 1) hx hb dL_restore_12 (by decide) ?_
      exact gl_iret X hr hlk hP hS hf (Nat.le_of_ble_eq_true rfl) (Nat.le_of_ble_eq_true rfl) dL_restore_13
  · have hf := bnd_go hq hf
    have hf := ite_t hc hf
    refine lv_i2l (v := (q.2.2).toInt64) hx hb dL_restore_6 rfl ?_
    refine g_last X hP hS ab_208 (by rw [al_208]; unfold vp_in; decide) dL_restore_7 (fun H locs hP hS => ?_)
    refine lv_goto (tgt := 14) hx hb dL_restore_8 (by decide) ?_
    refine lv_iconst (v := 0) hx hb dL_restore_14 (by decide) ?_
    exact gl_iret X hr hlk hP hS hf (Nat.le_of_ble_eq_true rfl) (Nat.le_of_ble_eq_true rfl) dL_restore_15
