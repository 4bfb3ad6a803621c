def f_X10_thrown (σ : St) : Int32 := (σ.1 196 0)
abbrev rm_X10_thrown : Room := { frames := 0, cells := 0, slots := 0, locals := 0 }
set_option maxHeartbeats 4000000 in
set_option maxRecDepth 100000 in
theorem c_X10_thrown (l : Launch) (G : GE) (hG : Gok G) (σ : St) : MtI l G yX10_thrown cX10_thrown 1 rm_X10_thrown [.ref (G.2.1 196)] σ (σ, f_X10_thrown σ) := by
  generalize hf : f_X10_thrown σ = fv
  rw [f_X10_thrown] at hf
  refine g_start hG (plainFor_of_name (by decide)) (Nat.le_of_ble_eq_true rfl) ?_
  intro p e s m args below meth c X hr hlk ls hl H locs hP hS
  have X : Cx G p s m args c cX10_thrown 1 RX10 := X
  obtain ⟨hx, hb, hml, hown, hts, hK, hbs, hXW, -⟩ := id X
  have hl : lv_has ls 1 [(0, .ref (G.2.1 196))] := hl
  refine lv_aload_n hx hb dX10_thrown_0 rfl (lv_at hl 0 rfl) ?_
  refine gg_10_0 X hP ab_196 kf_X10_50 dX10_thrown_1 ?_
  exact g_iret X hr hlk hP hS (congrArg (Prod.mk σ) hf) dX10_thrown_4
def f_X10_fails (σ : St) (x1 : Int32) : St × Int32 := (bnd (setI σ 196 0 x1) (fun q1 => (q1, (0 : Int32))))
abbrev rm_X10_fails : Room := { frames := 0, cells := 0, slots := 0, locals := 0 }
set_option maxHeartbeats 4000000 in
set_option maxRecDepth 100000 in
theorem c_X10_fails (l : Launch) (G : GE) (hG : Gok G) (σ : St) (x1 : Int32) : MtI l G yX10_fails cX10_fails 2 rm_X10_fails [.ref (G.2.1 196), .int x1] σ (f_X10_fails σ x1) := by
  generalize hf : f_X10_fails σ x1 = fv
  rw [f_X10_fails] at hf
  refine g_start hG (plainFor_of_name (by decide)) (Nat.le_of_ble_eq_true rfl) ?_
  intro p e s m args below meth c X hr hlk ls hl H locs hP hS
  have X : Cx G p s m args c cX10_fails 2 RX10 := X
  obtain ⟨hx, hb, hml, hown, hts, hK, hbs, hXW, -⟩ := id X
  have hl : lv_has ls 2 [(0, .ref (G.2.1 196)), (1, .int x1)] := hl
  refine lv_aload_n hx hb dX10_fails_0 rfl (lv_at hl 0 rfl) ?_
  refine lv_iload_n hx hb dX10_fails_1 rfl (lv_at hl 1 rfl) ?_
  refine gp_10_0 X hP hS ab_196 kf_X10_50 dX10_fails_2 (fun H locs hP hS => ?_)
  refine g_name hP (fun q1 hq1 hP => ?_)
  have hf := bnd_go hq1 hf
  refine lv_iconst (v := 0) hx hb dX10_fails_5 (by decide) ?_
  exact g_iret X hr hlk hP hS hf dX10_fails_6
def f_X10_isNot (σ : St) (x1 : Int32) (x2 : Int32) : St × Int32 := (bnd (setI σ 196 3 x1) (fun q1 => (bnd (setI q1 196 4 x2) (fun q2 => (q2, (9 : Int32))))))
abbrev rm_X10_isNot : Room := { frames := 0, cells := 0, slots := 0, locals := 0 }
set_option maxHeartbeats 4000000 in
set_option maxRecDepth 100000 in
theorem c_X10_isNot (l : Launch) (G : GE) (hG : Gok G) (σ : St) (x1 : Int32) (x2 : Int32) : MtI l G yX10_isNot cX10_isNot 3 rm_X10_isNot [.ref (G.2.1 196), .int x1, .int x2] σ (f_X10_isNot σ x1 x2) := by
  generalize hf : f_X10_isNot σ x1 x2 = fv
  rw [f_X10_isNot] at hf
  refine g_start hG (plainFor_of_name (by decide)) (Nat.le_of_ble_eq_true rfl) ?_
  intro p e s m args below meth c X hr hlk ls hl H locs hP hS
  have X : Cx G p s m args c cX10_isNot 3 RX10 := X
  obtain ⟨hx, hb, hml, hown, hts, hK, hbs, hXW, -⟩ := id X
  have hl : lv_has ls 3 [(0, .ref (G.2.1 196)), (1, .int x1), (2, .int x2)] := hl
  refine lv_aload_n hx hb dX10_isNot_0 rfl (lv_at hl 0 rfl) ?_
  refine lv_iload_n hx hb dX10_isNot_1 rfl (lv_at hl 1 rfl) ?_
  refine gp_10_3 X hP hS ab_196 kf_X10_53 dX10_isNot_2 (fun H locs hP hS => ?_)
  refine g_name hP (fun q1 hq1 hP => ?_)
  have hf := bnd_go hq1 hf
  refine lv_aload_n hx hb dX10_isNot_5 rfl (lv_at hl 0 rfl) ?_
  refine lv_iload_n hx hb dX10_isNot_6 rfl (lv_at hl 2 rfl) ?_
  refine gp_10_4 X hP hS ab_196 kf_X10_56 dX10_isNot_7 (fun H locs hP hS => ?_)
  refine g_name hP (fun q2 hq2 hP => ?_)
  have hf := bnd_go hq2 hf
  refine lv_bipush (v := 9) hx hb dX10_isNot_10 (by decide) ?_
  exact g_iret X hr hlk hP hS hf dX10_isNot_12
def f_X10_refuses (σ : St) (x1 : Int32) (x2 : Int32) : St × Int32 := (if x1 = (9 : Int32) then (bnd (setI σ 196 1 (σ.1 196 3)) (fun q1 => (bnd (setI q1 196 2 (q1.1 196 4)) (fun q2 => (bnd (f_X10_fails q2 x2) (fun q3 => (q3.1, q3.2))))))) else (bnd (f_X10_fails σ x1) (fun q4 => (q4.1, q4.2))))
abbrev rm_X10_refuses : Room := { frames := 1, cells := 0, slots := 0, locals := 21 }
set_option maxHeartbeats 4000000 in
set_option maxRecDepth 100000 in
theorem c_X10_refuses (l : Launch) (G : GE) (hG : Gok G) (σ : St) (x1 : Int32) (x2 : Int32) : MtI l G yX10_refuses cX10_refuses 3 rm_X10_refuses [.ref (G.2.1 196), .int x1, .int x2] σ (f_X10_refuses σ x1 x2) := by
  generalize hf : f_X10_refuses σ x1 x2 = fv
  rw [f_X10_refuses] at hf
  refine g_start hG (plainFor_of_name (by decide)) (Nat.le_of_ble_eq_true rfl) ?_
  intro p e s m args below meth c X hr hlk ls hl H locs hP hS
  have X : Cx G p s m args c cX10_refuses 3 RX10 := X
  obtain ⟨hx, hb, hml, hown, hts, hK, hbs, hXW, -⟩ := id X
  have hl : lv_has ls 3 [(0, .ref (G.2.1 196)), (1, .int x1), (2, .int x2)] := hl
  refine lv_iload_n hx hb dX10_refuses_0 rfl (lv_at hl 1 rfl) ?_
  refine lv_bipush (v := 9) hx hb dX10_refuses_1 (by decide) ?_
  refine lv_icmp_eq (tgt := 12) hx hb dX10_refuses_3 (by decide) (fun hc => ?_) (fun hc => ?_)
  · have hf := ite_t hc hf
    refine lv_aload_n hx hb dX10_refuses_12 rfl (lv_at hl 0 rfl) ?_
    refine lv_aload_n hx hb dX10_refuses_13 rfl (lv_at hl 0 rfl) ?_
    refine gg_10_3 X hP ab_196 kf_X10_53 dX10_refuses_14 ?_
    refine gp_10_1 X hP hS ab_196 kf_X10_63 dX10_refuses_17 (fun H locs hP hS => ?_)
    refine g_name hP (fun q1 hq1 hP => ?_)
    have hf := bnd_go hq1 hf
    refine lv_aload_n hx hb dX10_refuses_20 rfl (lv_at hl 0 rfl) ?_
    refine lv_aload_n hx hb dX10_refuses_21 rfl (lv_at hl 0 rfl) ?_
    refine gg_10_4 X hP ab_196 kf_X10_56 dX10_refuses_22 ?_
    refine gp_10_2 X hP hS ab_196 kf_X10_66 dX10_refuses_25 (fun H locs hP hS => ?_)
    refine g_name hP (fun q2 hq2 hP => ?_)
    have hf := bnd_go hq2 hf
    refine lv_aload_n hx hb dX10_refuses_28 rfl (lv_at hl 0 rfl) ?_
    refine lv_iload_n hx hb dX10_refuses_29 rfl (lv_at hl 2 rfl) ?_
    refine g_cI (g_runV (i := 196) (As := [.int x2]) (rest := []) X (c_X10_fails l G hG q2 x2) ca_X10_fails km_X10_59 rfl rfl ⟨Nat.le_of_ble_eq_true rfl, Nat.le_of_ble_eq_true rfl⟩ hP hS (ty_lt ab_196) (cell_10 ab_196) rfl rfl rfl hl.1 rfl (Nat.le_of_ble_eq_true rfl) ⟨Nat.le_of_ble_eq_true rfl, Nat.le_of_ble_eq_true rfl⟩ dX10_refuses_30) hS (fun q3 hq3 H locs hP hS => ?_)
    have hf := bnd_go hq3 hf
    exact g_iret X hr hlk hP hS hf dX10_refuses_33
  · have hf := ite_f hc hf
    refine lv_aload_n hx hb dX10_refuses_6 rfl (lv_at hl 0 rfl) ?_
    refine lv_iload_n hx hb dX10_refuses_7 rfl (lv_at hl 1 rfl) ?_
    refine g_cI (g_runV (i := 196) (As := [.int x1]) (rest := []) X (c_X10_fails l G hG σ x1) ca_X10_fails km_X10_59 rfl rfl ⟨Nat.le_of_ble_eq_true rfl, Nat.le_of_ble_eq_true rfl⟩ hP hS (ty_lt ab_196) (cell_10 ab_196) rfl rfl rfl hl.1 rfl (Nat.le_of_ble_eq_true rfl) ⟨Nat.le_of_ble_eq_true rfl, Nat.le_of_ble_eq_true rfl⟩ dX10_refuses_8) hS (fun q4 hq4 H locs hP hS => ?_)
    have hf := bnd_go hq4 hf
    exact g_iret X hr hlk hP hS hf dX10_refuses_11
def f_X10_isBetween (x0 : Int32) (x1 : Int32) (x2 : Int32) : Bool := (if x0 < x1 then false else (if x2 < x0 then false else true))
abbrev rm_X10_isBetween : Room := { frames := 0, cells := 0, slots := 0, locals := 0 }
set_option maxHeartbeats 4000000 in
set_option maxRecDepth 100000 in
theorem c_X10_isBetween (l : Launch) (G : GE) (hG : Gok G) (σ : St) (x0 : Int32) (x1 : Int32) (x2 : Int32) : MtZ l G yX10_isBetween cX10_isBetween 3 rm_X10_isBetween [.int x0, .int x1, .int x2] σ (σ, f_X10_isBetween x0 x1 x2) := by
  generalize hf : f_X10_isBetween x0 x1 x2 = fv
  rw [f_X10_isBetween] at hf
  refine g_start hG (plainFor_of_name (by decide)) (Nat.le_of_ble_eq_true rfl) ?_
  intro p e s m args below meth c X hr hlk ls hl H locs hP hS
  have X : Cx G p s m args c cX10_isBetween 3 RX10 := X
  obtain ⟨hx, hb, hml, hown, hts, hK, hbs, hXW, -⟩ := id X
  have hl : lv_has ls 3 [(0, .int x0), (1, .int x1), (2, .int x2)] := hl
  refine lv_iload_n hx hb dX10_isBetween_0 rfl (lv_at hl 1 rfl) ?_
  refine lv_iload_n hx hb dX10_isBetween_1 rfl (lv_at hl 0 rfl) ?_
  refine lv_icmp_gt (tgt := 14) hx hb dX10_isBetween_2 (by decide) (fun hc => ?_) (fun hc => ?_)
  · have hf := ite_t hc hf
    refine lv_iconst (v := 0) hx hb dX10_isBetween_14 (by decide) ?_
    exact g_zret (b := false) X hr hlk rfl hP hS (congrArg (Prod.mk σ) hf) dX10_isBetween_15
  · have hf := ite_f hc hf
    refine lv_iload_n hx hb dX10_isBetween_5 rfl (lv_at hl 0 rfl) ?_
    refine lv_iload_n hx hb dX10_isBetween_6 rfl (lv_at hl 2 rfl) ?_
    refine lv_icmp_gt (tgt := 14) hx hb dX10_isBetween_7 (by decide) (fun hc => ?_) (fun hc => ?_)
    · have hf := ite_t hc hf
      refine lv_iconst (v := 0) hx hb dX10_isBetween_14 (by decide) ?_
      exact g_zret (b := false) X hr hlk rfl hP hS (congrArg (Prod.mk σ) hf) dX10_isBetween_15
    · have hf := ite_f hc hf
      refine lv_iconst (v := 1) hx hb dX10_isBetween_10 (by decide) ?_
      refine lv_goto (tgt := 15) hx hb dX10_isBetween_11 (by decide) ?_
      exact g_zret (b := true) X hr hlk rfl hP hS (congrArg (Prod.mk σ) hf) dX10_isBetween_15
def fX10_thinks_L29 : Nat → St → Int32 → St
  | 0, σ, _ => σ
  | n29 + 1, σ, x1 => (if (36 : Int32) ≤ x1 then σ else (bnd (setF σ 204 x1.toNatClampNeg (σ.2.1 201 x1.toNatClampNeg)) (fun q3 => (fX10_thinks_L29 n29 q3 (x1 + (1 : Int32))))))
def okX10_thinks_L29 : Nat → St → Int32 → Prop
  | 0, _, _ => False
  | n29 + 1, σ, x1 => (((36 : Int32) ≤ x1 → True) ∧ (¬ (36 : Int32) ≤ x1 → (vp_in x1 36 ∧ (vp_in x1 36 ∧ (bndP (setF σ 204 x1.toNatClampNeg (σ.2.1 201 x1.toNatClampNeg)) (fun q3 => (okX10_thinks_L29 n29 q3 (x1 + (1 : Int32)))))))))
def fX10_thinks_L2 : Nat → St → Int32 → St
  | 0, σ, _ => σ
  | n2 + 1, σ, x1 => (if (146 : Int32) ≤ x1 then (fX10_thinks_L29 2000 σ (0 : Int32)) else (bnd (setI σ 200 x1.toNatClampNeg (σ.1 197 x1.toNatClampNeg)) (fun q6 => (fX10_thinks_L2 n2 q6 (x1 + (1 : Int32))))))
def okX10_thinks_L2 : Nat → St → Int32 → Prop
  | 0, _, _ => False
  | n2 + 1, σ, x1 => (((146 : Int32) ≤ x1 → (okX10_thinks_L29 2000 σ (0 : Int32))) ∧ (¬ (146 : Int32) ≤ x1 → (vp_in x1 146 ∧ (vp_in x1 146 ∧ (bndP (setI σ 200 x1.toNatClampNeg (σ.1 197 x1.toNatClampNeg)) (fun q6 => (okX10_thinks_L2 n2 q6 (x1 + (1 : Int32)))))))))
def f_X10_thinks (σ : St) : St := (fX10_thinks_L2 2000 σ (0 : Int32))
def ok_X10_thinks (σ : St) : Prop := (okX10_thinks_L2 2000 σ (0 : Int32))
abbrev rm_X10_thinks : Room := { frames := 0, cells := 0, slots := 0, locals := 0 }
set_option maxHeartbeats 4000000 in
set_option maxRecDepth 100000 in
theorem c_X10_thinks (l : Launch) (G : GE) (hG : Gok G) (σ : St) (hok : ok_X10_thinks σ) : MtV l G yX10_thinks cX10_thinks 2 rm_X10_thinks [.ref (G.2.1 196)] σ (f_X10_thinks σ) := by
  generalize hf : f_X10_thinks σ = fv
  rw [f_X10_thinks] at hf
  rw [ok_X10_thinks] at hok
  refine g_start hG (plainFor_of_name (by decide)) (Nat.le_of_ble_eq_true rfl) ?_
  intro p e s m args below meth c X hr hlk ls hl H locs hP hS
  have X : Cx G p s m args c cX10_thinks 2 RX10 := X
  obtain ⟨hx, hb, hml, hown, hts, hK, hbs, hXW, -⟩ := id X
  have hl : lv_has ls 2 [(0, .ref (G.2.1 196))] := hl
  refine lv_iconst (v := 0) hx hb dX10_thinks_0 (by decide) ?_
  refine lv_istore_n (lv' := [(1, .int (0 : Int32)), (0, .ref (G.2.1 196))]) hx hb dX10_thinks_1 rfl hl (by decide) rfl (fun ls hl => ?_)
  have K2 : ∀ (n2 : Nat) (σ : St) (x1 : Int32), okX10_thinks_L2 n2 σ x1 → fX10_thinks_L2 n2 σ x1 = fv → ∀ (H : Heap) (locs : List Loc), va_P G.1 vcl (wl G σ) H → va_S (GA G) s.heap H locs → ∀ (ls : Array Slot), lv_has ls 2 [(0, .ref (G.2.1 196)), (1, .int x1)] → W p l e rm_X10_thinks s m args below meth c H locs 0 0 (MQ below (va_Qv (fun u => u = fv) (PB G) (GA G)) args s 0 0 (GA G)) (F0 m 2 ls []) := by
    intro n2
    induction n2 with
    | zero =>
      intro σ x1 hok
      exact hok.elim
    | succ n2 ih2 =>
      intro σ x1 hok hf H locs hP hS ls hl
      rw [okX10_thinks_L2] at hok
      rw [fX10_thinks_L2] at hf
      refine lv_iload_n hx hb dX10_thinks_2 rfl (lv_at hl 1 rfl) ?_
      refine lv_sipush (v := 146) hx hb dX10_thinks_3 (by decide) ?_
      refine lv_icmp_ge (tgt := 27) hx hb dX10_thinks_6 (by decide) (fun hc => ?_) (fun hc => ?_)
      · have hf := ite_t hc hf
        have hok := hok.1 hc
        refine lv_iconst (v := 0) hx hb dX10_thinks_27 (by decide) ?_
        refine lv_istore_n (lv' := [(1, .int (0 : Int32)), (0, .ref (G.2.1 196))]) hx hb dX10_thinks_28 rfl hl (by decide) rfl (fun ls hl => ?_)
        have K29 : ∀ (n29 : Nat) (σ : St) (x1 : Int32), okX10_thinks_L29 n29 σ x1 → fX10_thinks_L29 n29 σ x1 = fv → ∀ (H : Heap) (locs : List Loc), va_P G.1 vcl (wl G σ) H → va_S (GA G) s.heap H locs → ∀ (ls : Array Slot), lv_has ls 2 [(0, .ref (G.2.1 196)), (1, .int x1)] → W p l e rm_X10_thinks s m args below meth c H locs 0 0 (MQ below (va_Qv (fun u => u = fv) (PB G) (GA G)) args s 0 0 (GA G)) (F0 m 29 ls []) := by
          intro n29
          induction n29 with
          | zero =>
            intro σ x1 hok
            exact hok.elim
          | succ n29 ih29 =>
            intro σ x1 hok hf H locs hP hS ls hl
            rw [okX10_thinks_L29] at hok
            rw [fX10_thinks_L29] at hf
            refine lv_iload_n hx hb dX10_thinks_29 rfl (lv_at hl 1 rfl) ?_
            refine lv_bipush (v := 36) hx hb dX10_thinks_30 (by decide) ?_
            refine lv_icmp_ge (tgt := 53) hx hb dX10_thinks_32 (by decide) (fun hc => ?_) (fun hc => ?_)
            · have hf := ite_t hc hf
              exact g_vret X hr hlk hP hS hf dX10_thinks_53
            · have hf := ite_f hc hf
              have hok := hok.2 hc
              refine lv_aload_n hx hb dX10_thinks_35 rfl (lv_at hl 0 rfl) ?_
              refine gg_10_12 X hP ab_196 kf_X10_32 dX10_thinks_36 ?_
              refine lv_iload_n hx hb dX10_thinks_39 rfl (lv_at hl 1 rfl) ?_
              refine lv_aload_n hx hb dX10_thinks_40 rfl (lv_at hl 0 rfl) ?_
              refine gg_10_9 X hP ab_196 kf_X10_22 dX10_thinks_41 ?_
              refine lv_iload_n hx hb dX10_thinks_44 rfl (lv_at hl 1 rfl) ?_
              have hs1 := hok.1
              have hok := hok.2
              refine g_fald X hP ab_201 (by rw [al_201]; exact hs1) dX10_thinks_45 ?_
              have hs2 := hok.1
              have hok := hok.2
              refine g_fast X hP hS ab_204 (by rw [al_204]; exact hs2) dX10_thinks_46 (fun H locs hP hS => ?_)
              refine g_name hP (fun q3 hq3 hP => ?_)
              have hf := bnd_go hq3 hf
              have hok := bnd_goP hq3 hok
              refine lv_iinc (v := (x1 + (1 : Int32))) (lv' := [(1, .int (x1 + (1 : Int32))), (0, .ref (G.2.1 196))]) hx hb dX10_thinks_47 hl (k := 1) rfl rfl (by decide) rfl (fun ls hl => ?_)
              refine lv_goto (tgt := 29) hx hb dX10_thinks_50 (by decide) ?_
              exact ih29 q3 (x1 + (1 : Int32)) hok hf _ _ hP hS ls (lv_sub hl [1, 0] rfl)
        exact K29 2000 σ (0 : Int32) hok hf _ _ hP hS ls (lv_sub hl [1, 0] rfl)
      · have hf := ite_f hc hf
        have hok := hok.2 hc
        refine lv_aload_n hx hb dX10_thinks_9 rfl (lv_at hl 0 rfl) ?_
        refine gg_10_8 X hP ab_196 kf_X10_19 dX10_thinks_10 ?_
        refine lv_iload_n hx hb dX10_thinks_13 rfl (lv_at hl 1 rfl) ?_
        refine lv_aload_n hx hb dX10_thinks_14 rfl (lv_at hl 0 rfl) ?_
        refine gg_10_5 X hP ab_196 kf_X10_7 dX10_thinks_15 ?_
        refine lv_iload_n hx hb dX10_thinks_18 rfl (lv_at hl 1 rfl) ?_
        have hs4 := hok.1
        have hok := hok.2
        refine g_iald X hP ab_197 (by rw [al_197]; exact hs4) dX10_thinks_19 ?_
        have hs5 := hok.1
        have hok := hok.2
        refine g_iast X hP hS ab_200 (by rw [al_200]; exact hs5) dX10_thinks_20 (fun H locs hP hS => ?_)
        refine g_name hP (fun q6 hq6 hP => ?_)
        have hf := bnd_go hq6 hf
        have hok := bnd_goP hq6 hok
        refine lv_iinc (v := (x1 + (1 : Int32))) (lv' := [(1, .int (x1 + (1 : Int32))), (0, .ref (G.2.1 196))]) hx hb dX10_thinks_21 hl (k := 1) rfl rfl (by decide) rfl (fun ls hl => ?_)
        refine lv_goto (tgt := 2) hx hb dX10_thinks_24 (by decide) ?_
        exact ih2 q6 (x1 + (1 : Int32)) hok hf _ _ hP hS ls (lv_sub hl [1, 0] rfl)
  exact K2 2000 σ (0 : Int32) hok hf _ _ hP hS ls (lv_sub hl [1, 0] rfl)
def fX10_forgets_L29 : Nat → St → Int32 → St
  | 0, σ, _ => σ
  | n29 + 1, σ, x1 => (if (36 : Int32) ≤ x1 then σ else (bnd (setF σ 201 x1.toNatClampNeg (σ.2.1 204 x1.toNatClampNeg)) (fun q3 => (fX10_forgets_L29 n29 q3 (x1 + (1 : Int32))))))
def okX10_forgets_L29 : Nat → St → Int32 → Prop
  | 0, _, _ => False
  | n29 + 1, σ, x1 => (((36 : Int32) ≤ x1 → True) ∧ (¬ (36 : Int32) ≤ x1 → (vp_in x1 36 ∧ (vp_in x1 36 ∧ (bndP (setF σ 201 x1.toNatClampNeg (σ.2.1 204 x1.toNatClampNeg)) (fun q3 => (okX10_forgets_L29 n29 q3 (x1 + (1 : Int32)))))))))
def fX10_forgets_L2 : Nat → St → Int32 → St
  | 0, σ, _ => σ
  | n2 + 1, σ, x1 => (if (146 : Int32) ≤ x1 then (fX10_forgets_L29 2000 σ (0 : Int32)) else (bnd (setI σ 197 x1.toNatClampNeg (σ.1 200 x1.toNatClampNeg)) (fun q6 => (fX10_forgets_L2 n2 q6 (x1 + (1 : Int32))))))
def okX10_forgets_L2 : Nat → St → Int32 → Prop
  | 0, _, _ => False
  | n2 + 1, σ, x1 => (((146 : Int32) ≤ x1 → (okX10_forgets_L29 2000 σ (0 : Int32))) ∧ (¬ (146 : Int32) ≤ x1 → (vp_in x1 146 ∧ (vp_in x1 146 ∧ (bndP (setI σ 197 x1.toNatClampNeg (σ.1 200 x1.toNatClampNeg)) (fun q6 => (okX10_forgets_L2 n2 q6 (x1 + (1 : Int32)))))))))
def f_X10_forgets (σ : St) : St := (fX10_forgets_L2 2000 σ (0 : Int32))
def ok_X10_forgets (σ : St) : Prop := (okX10_forgets_L2 2000 σ (0 : Int32))
abbrev rm_X10_forgets : Room := { frames := 0, cells := 0, slots := 0, locals := 0 }
set_option maxHeartbeats 4000000 in
set_option maxRecDepth 100000 in
theorem c_X10_forgets (l : Launch) (G : GE) (hG : Gok G) (σ : St) (hok : ok_X10_forgets σ) : MtV l G yX10_forgets cX10_forgets 2 rm_X10_forgets [.ref (G.2.1 196)] σ (f_X10_forgets σ) := by
  generalize hf : f_X10_forgets σ = fv
  rw [f_X10_forgets] at hf
  rw [ok_X10_forgets] at hok
  refine g_start hG (plainFor_of_name (by decide)) (Nat.le_of_ble_eq_true rfl) ?_
  intro p e s m args below meth c X hr hlk ls hl H locs hP hS
  have X : Cx G p s m args c cX10_forgets 2 RX10 := X
  obtain ⟨hx, hb, hml, hown, hts, hK, hbs, hXW, -⟩ := id X
  have hl : lv_has ls 2 [(0, .ref (G.2.1 196))] := hl
  refine lv_iconst (v := 0) hx hb dX10_forgets_0 (by decide) ?_
  refine lv_istore_n (lv' := [(1, .int (0 : Int32)), (0, .ref (G.2.1 196))]) hx hb dX10_forgets_1 rfl hl (by decide) rfl (fun ls hl => ?_)
  have K2 : ∀ (n2 : Nat) (σ : St) (x1 : Int32), okX10_forgets_L2 n2 σ x1 → fX10_forgets_L2 n2 σ x1 = fv → ∀ (H : Heap) (locs : List Loc), va_P G.1 vcl (wl G σ) H → va_S (GA G) s.heap H locs → ∀ (ls : Array Slot), lv_has ls 2 [(0, .ref (G.2.1 196)), (1, .int x1)] → W p l e rm_X10_forgets s m args below meth c H locs 0 0 (MQ below (va_Qv (fun u => u = fv) (PB G) (GA G)) args s 0 0 (GA G)) (F0 m 2 ls []) := by
    intro n2
    induction n2 with
    | zero =>
      intro σ x1 hok
      exact hok.elim
    | succ n2 ih2 =>
      intro σ x1 hok hf H locs hP hS ls hl
      rw [okX10_forgets_L2] at hok
      rw [fX10_forgets_L2] at hf
      refine lv_iload_n hx hb dX10_forgets_2 rfl (lv_at hl 1 rfl) ?_
      refine lv_sipush (v := 146) hx hb dX10_forgets_3 (by decide) ?_
      refine lv_icmp_ge (tgt := 27) hx hb dX10_forgets_6 (by decide) (fun hc => ?_) (fun hc => ?_)
      · have hf := ite_t hc hf
        have hok := hok.1 hc
        refine lv_iconst (v := 0) hx hb dX10_forgets_27 (by decide) ?_
        refine lv_istore_n (lv' := [(1, .int (0 : Int32)), (0, .ref (G.2.1 196))]) hx hb dX10_forgets_28 rfl hl (by decide) rfl (fun ls hl => ?_)
        have K29 : ∀ (n29 : Nat) (σ : St) (x1 : Int32), okX10_forgets_L29 n29 σ x1 → fX10_forgets_L29 n29 σ x1 = fv → ∀ (H : Heap) (locs : List Loc), va_P G.1 vcl (wl G σ) H → va_S (GA G) s.heap H locs → ∀ (ls : Array Slot), lv_has ls 2 [(0, .ref (G.2.1 196)), (1, .int x1)] → W p l e rm_X10_forgets s m args below meth c H locs 0 0 (MQ below (va_Qv (fun u => u = fv) (PB G) (GA G)) args s 0 0 (GA G)) (F0 m 29 ls []) := by
          intro n29
          induction n29 with
          | zero =>
            intro σ x1 hok
            exact hok.elim
          | succ n29 ih29 =>
            intro σ x1 hok hf H locs hP hS ls hl
            rw [okX10_forgets_L29] at hok
            rw [fX10_forgets_L29] at hf
            refine lv_iload_n hx hb dX10_forgets_29 rfl (lv_at hl 1 rfl) ?_
            refine lv_bipush (v := 36) hx hb dX10_forgets_30 (by decide) ?_
            refine lv_icmp_ge (tgt := 53) hx hb dX10_forgets_32 (by decide) (fun hc => ?_) (fun hc => ?_)
            · have hf := ite_t hc hf
              exact g_vret X hr hlk hP hS hf dX10_forgets_53
            · have hf := ite_f hc hf
              have hok := hok.2 hc
              refine lv_aload_n hx hb dX10_forgets_35 rfl (lv_at hl 0 rfl) ?_
              refine gg_10_9 X hP ab_196 kf_X10_22 dX10_forgets_36 ?_
              refine lv_iload_n hx hb dX10_forgets_39 rfl (lv_at hl 1 rfl) ?_
              refine lv_aload_n hx hb dX10_forgets_40 rfl (lv_at hl 0 rfl) ?_
              refine gg_10_12 X hP ab_196 kf_X10_32 dX10_forgets_41 ?_
              refine lv_iload_n hx hb dX10_forgets_44 rfl (lv_at hl 1 rfl) ?_
              have hs1 := hok.1
              have hok := hok.2
              refine g_fald X hP ab_204 (by rw [al_204]; exact hs1) dX10_forgets_45 ?_
              have hs2 := hok.1
              have hok := hok.2
              refine g_fast X hP hS ab_201 (by rw [al_201]; exact hs2) dX10_forgets_46 (fun H locs hP hS => ?_)
              refine g_name hP (fun q3 hq3 hP => ?_)
              have hf := bnd_go hq3 hf
              have hok := bnd_goP hq3 hok
              refine lv_iinc (v := (x1 + (1 : Int32))) (lv' := [(1, .int (x1 + (1 : Int32))), (0, .ref (G.2.1 196))]) hx hb dX10_forgets_47 hl (k := 1) rfl rfl (by decide) rfl (fun ls hl => ?_)
              refine lv_goto (tgt := 29) hx hb dX10_forgets_50 (by decide) ?_
              exact ih29 q3 (x1 + (1 : Int32)) hok hf _ _ hP hS ls (lv_sub hl [1, 0] rfl)
        exact K29 2000 σ (0 : Int32) hok hf _ _ hP hS ls (lv_sub hl [1, 0] rfl)
      · have hf := ite_f hc hf
        have hok := hok.2 hc
        refine lv_aload_n hx hb dX10_forgets_9 rfl (lv_at hl 0 rfl) ?_
        refine gg_10_5 X hP ab_196 kf_X10_7 dX10_forgets_10 ?_
        refine lv_iload_n hx hb dX10_forgets_13 rfl (lv_at hl 1 rfl) ?_
        refine lv_aload_n hx hb dX10_forgets_14 rfl (lv_at hl 0 rfl) ?_
        refine gg_10_8 X hP ab_196 kf_X10_19 dX10_forgets_15 ?_
        refine lv_iload_n hx hb dX10_forgets_18 rfl (lv_at hl 1 rfl) ?_
        have hs4 := hok.1
        have hok := hok.2
        refine g_iald X hP ab_200 (by rw [al_200]; exact hs4) dX10_forgets_19 ?_
        have hs5 := hok.1
        have hok := hok.2
        refine g_iast X hP hS ab_197 (by rw [al_197]; exact hs5) dX10_forgets_20 (fun H locs hP hS => ?_)
        refine g_name hP (fun q6 hq6 hP => ?_)
        have hf := bnd_go hq6 hf
        have hok := bnd_goP hq6 hok
        refine lv_iinc (v := (x1 + (1 : Int32))) (lv' := [(1, .int (x1 + (1 : Int32))), (0, .ref (G.2.1 196))]) hx hb dX10_forgets_21 hl (k := 1) rfl rfl (by decide) rfl (fun ls hl => ?_)
        refine lv_goto (tgt := 2) hx hb dX10_forgets_24 (by decide) ?_
        exact ih2 q6 (x1 + (1 : Int32)) hok hf _ _ hP hS ls (lv_sub hl [1, 0] rfl)
  exact K2 2000 σ (0 : Int32) hok hf _ _ hP hS ls (lv_sub hl [1, 0] rfl)
def fX10_keepsMind_L80 : Nat → St → Int32 → Int32 → St
  | 0, σ, _, _ => σ
  | n80 + 1, σ, x1, x2 => (if (36 : Int32) ≤ x2 then (bnd (setI σ 196 13 ((σ.1 196 13) + (1 : Int32))) (fun q1 => q1)) else (bnd (setF σ 202 (((36 : Int32) * x1) + x2).toNatClampNeg (σ.2.1 204 x2.toNatClampNeg)) (fun q4 => (fX10_keepsMind_L80 n80 q4 x1 (x2 + (1 : Int32))))))
def okX10_keepsMind_L80 : Nat → St → Int32 → Int32 → Prop
  | 0, _, _, _ => False
  | n80 + 1, σ, x1, x2 => (((36 : Int32) ≤ x2 → True) ∧ (¬ (36 : Int32) ≤ x2 → (vp_in x2 36 ∧ (vp_in (((36 : Int32) * x1) + x2) 288 ∧ (bndP (setF σ 202 (((36 : Int32) * x1) + x2).toNatClampNeg (σ.2.1 204 x2.toNatClampNeg)) (fun q4 => (okX10_keepsMind_L80 n80 q4 x1 (x2 + (1 : Int32)))))))))
def fX10_keepsMind_L47 : Nat → St → Int32 → Int32 → St
  | 0, σ, _, _ => σ
  | n47 + 1, σ, x1, x2 => (if (146 : Int32) ≤ x2 then (fX10_keepsMind_L80 2000 σ x1 (0 : Int32)) else (bnd (setI σ 198 (((146 : Int32) * x1) + x2).toNatClampNeg (σ.1 200 x2.toNatClampNeg)) (fun q7 => (fX10_keepsMind_L47 n47 q7 x1 (x2 + (1 : Int32))))))
def okX10_keepsMind_L47 : Nat → St → Int32 → Int32 → Prop
  | 0, _, _, _ => False
  | n47 + 1, σ, x1, x2 => (((146 : Int32) ≤ x2 → (okX10_keepsMind_L80 2000 σ x1 (0 : Int32))) ∧ (¬ (146 : Int32) ≤ x2 → (vp_in x2 146 ∧ (vp_in (((146 : Int32) * x1) + x2) 1168 ∧ (bndP (setI σ 198 (((146 : Int32) * x1) + x2).toNatClampNeg (σ.1 200 x2.toNatClampNeg)) (fun q7 => (okX10_keepsMind_L47 n47 q7 x1 (x2 + (1 : Int32)))))))))
def f_X10_keepsMind (σ : St) : St := (if (σ.1 196 13) = (8 : Int32) then (bnd (setI σ 196 14 (((σ.1 196 14) + (1 : Int32)) - ((σ.1 196 14) + (1 : Int32)) / (8 : Int32) * (8 : Int32))) (fun q8 => (bnd (setI q8 196 13 ((q8.1 196 13) - (1 : Int32))) (fun q9 => (fX10_keepsMind_L47 2000 q9 (((q9.1 196 14) + (q9.1 196 13)) - ((q9.1 196 14) + (q9.1 196 13)) / (8 : Int32) * (8 : Int32)) (0 : Int32)))))) else (fX10_keepsMind_L47 2000 σ (((σ.1 196 14) + (σ.1 196 13)) - ((σ.1 196 14) + (σ.1 196 13)) / (8 : Int32) * (8 : Int32)) (0 : Int32)))
def ok_X10_keepsMind (σ : St) : Prop := (((σ.1 196 13) = (8 : Int32) → (bndP (setI σ 196 14 (((σ.1 196 14) + (1 : Int32)) - ((σ.1 196 14) + (1 : Int32)) / (8 : Int32) * (8 : Int32))) (fun q8 => (bndP (setI q8 196 13 ((q8.1 196 13) - (1 : Int32))) (fun q9 => (okX10_keepsMind_L47 2000 q9 (((q9.1 196 14) + (q9.1 196 13)) - ((q9.1 196 14) + (q9.1 196 13)) / (8 : Int32) * (8 : Int32)) (0 : Int32))))))) ∧ (¬ (σ.1 196 13) = (8 : Int32) → (okX10_keepsMind_L47 2000 σ (((σ.1 196 14) + (σ.1 196 13)) - ((σ.1 196 14) + (σ.1 196 13)) / (8 : Int32) * (8 : Int32)) (0 : Int32))))
abbrev rm_X10_keepsMind : Room := { frames := 0, cells := 0, slots := 0, locals := 0 }
set_option maxHeartbeats 4000000 in
set_option maxRecDepth 100000 in
theorem c_X10_keepsMind (l : Launch) (G : GE) (hG : Gok G) (σ : St) (hok : ok_X10_keepsMind σ) : MtV l G yX10_keepsMind cX10_keepsMind 3 rm_X10_keepsMind [.ref (G.2.1 196)] σ (f_X10_keepsMind σ) := by
  generalize hf : f_X10_keepsMind σ = fv
  rw [f_X10_keepsMind] at hf
  rw [ok_X10_keepsMind] at hok
  refine g_start hG (plainFor_of_name (by decide)) (Nat.le_of_ble_eq_true rfl) ?_
  intro p e s m args below meth c X hr hlk ls hl H locs hP hS
  have X : Cx G p s m args c cX10_keepsMind 3 RX10 := X
  obtain ⟨hx, hb, hml, hown, hts, hK, hbs, hXW, -⟩ := id X
  have hl : lv_has ls 3 [(0, .ref (G.2.1 196))] := hl
  refine lv_aload_n hx hb dX10_keepsMind_0 rfl (lv_at hl 0 rfl) ?_
  refine gg_10_13 X hP ab_196 kf_X10_69 dX10_keepsMind_1 ?_
  refine lv_bipush (v := 8) hx hb dX10_keepsMind_4 (by decide) ?_
  refine lv_icmp_ne (tgt := 32) hx hb dX10_keepsMind_6 (by decide) (fun hc => ?_) (fun hc => ?_)
  · have hf := ite_f hc hf
    have hok := hok.2 hc
    refine lv_aload_n hx hb dX10_keepsMind_32 rfl (lv_at hl 0 rfl) ?_
    refine gg_10_14 X hP ab_196 kf_X10_72 dX10_keepsMind_33 ?_
    refine lv_aload_n hx hb dX10_keepsMind_36 rfl (lv_at hl 0 rfl) ?_
    refine gg_10_13 X hP ab_196 kf_X10_69 dX10_keepsMind_37 ?_
    refine lv_iadd hx hb dX10_keepsMind_40 ?_
    refine lv_bipush (v := 8) hx hb dX10_keepsMind_41 (by decide) ?_
    refine lv_irem hx hb dX10_keepsMind_43 (by decide) ?_
    refine lv_istore_n (lv' := [(1, .int (((σ.1 196 14) + (σ.1 196 13)) - ((σ.1 196 14) + (σ.1 196 13)) / (8 : Int32) * (8 : Int32))), (0, .ref (G.2.1 196))]) hx hb dX10_keepsMind_44 rfl hl (by decide) rfl (fun ls hl => ?_)
    refine lv_iconst (v := 0) hx hb dX10_keepsMind_45 (by decide) ?_
    refine lv_istore_n (lv' := [(2, .int (0 : Int32)), (1, .int (((σ.1 196 14) + (σ.1 196 13)) - ((σ.1 196 14) + (σ.1 196 13)) / (8 : Int32) * (8 : Int32))), (0, .ref (G.2.1 196))]) hx hb dX10_keepsMind_46 rfl hl (by decide) rfl (fun ls hl => ?_)
    have K47 : ∀ (n47 : Nat) (σ : St) (x1 : Int32) (x2 : Int32), okX10_keepsMind_L47 n47 σ x1 x2 → fX10_keepsMind_L47 n47 σ x1 x2 = fv → ∀ (H : Heap) (locs : List Loc), va_P G.1 vcl (wl G σ) H → va_S (GA G) s.heap H locs → ∀ (ls : Array Slot), lv_has ls 3 [(0, .ref (G.2.1 196)), (1, .int x1), (2, .int x2)] → W p l e rm_X10_keepsMind s m args below meth c H locs 0 0 (MQ below (va_Qv (fun u => u = fv) (PB G) (GA G)) args s 0 0 (GA G)) (F0 m 47 ls []) := by
      intro n47
      induction n47 with
      | zero =>
        intro σ x1 x2 hok
        exact hok.elim
      | succ n47 ih47 =>
        intro σ x1 x2 hok hf H locs hP hS ls hl
        rw [okX10_keepsMind_L47] at hok
        rw [fX10_keepsMind_L47] at hf
        refine lv_iload_n hx hb dX10_keepsMind_47 rfl (lv_at hl 2 rfl) ?_
        refine lv_sipush (v := 146) hx hb dX10_keepsMind_48 (by decide) ?_
        refine lv_icmp_ge (tgt := 78) hx hb dX10_keepsMind_51 (by decide) (fun hc => ?_) (fun hc => ?_)
        · have hf := ite_t hc hf
          have hok := hok.1 hc
          refine lv_iconst (v := 0) hx hb dX10_keepsMind_78 (by decide) ?_
          refine lv_istore_n (lv' := [(2, .int (0 : Int32)), (0, .ref (G.2.1 196)), (1, .int x1)]) hx hb dX10_keepsMind_79 rfl hl (by decide) rfl (fun ls hl => ?_)
          have K80 : ∀ (n80 : Nat) (σ : St) (x1 : Int32) (x2 : Int32), okX10_keepsMind_L80 n80 σ x1 x2 → fX10_keepsMind_L80 n80 σ x1 x2 = fv → ∀ (H : Heap) (locs : List Loc), va_P G.1 vcl (wl G σ) H → va_S (GA G) s.heap H locs → ∀ (ls : Array Slot), lv_has ls 3 [(0, .ref (G.2.1 196)), (1, .int x1), (2, .int x2)] → W p l e rm_X10_keepsMind s m args below meth c H locs 0 0 (MQ below (va_Qv (fun u => u = fv) (PB G) (GA G)) args s 0 0 (GA G)) (F0 m 80 ls []) := by
            intro n80
            induction n80 with
            | zero =>
              intro σ x1 x2 hok
              exact hok.elim
            | succ n80 ih80 =>
              intro σ x1 x2 hok hf H locs hP hS ls hl
              rw [okX10_keepsMind_L80] at hok
              rw [fX10_keepsMind_L80] at hf
              refine lv_iload_n hx hb dX10_keepsMind_80 rfl (lv_at hl 2 rfl) ?_
              refine lv_bipush (v := 36) hx hb dX10_keepsMind_81 (by decide) ?_
              refine lv_icmp_ge (tgt := 109) hx hb dX10_keepsMind_83 (by decide) (fun hc => ?_) (fun hc => ?_)
              · have hf := ite_t hc hf
                refine lv_aload_n hx hb dX10_keepsMind_109 rfl (lv_at hl 0 rfl) ?_
                refine lv_dup hx hb dX10_keepsMind_110 rfl ?_
                refine gg_10_13 X hP ab_196 kf_X10_69 dX10_keepsMind_111 ?_
                refine lv_iconst (v := 1) hx hb dX10_keepsMind_114 (by decide) ?_
                refine lv_iadd hx hb dX10_keepsMind_115 ?_
                refine gp_10_13 X hP hS ab_196 kf_X10_69 dX10_keepsMind_116 (fun H locs hP hS => ?_)
                refine g_name hP (fun q1 hq1 hP => ?_)
                have hf := bnd_go hq1 hf
                exact g_vret X hr hlk hP hS hf dX10_keepsMind_119
              · have hf := ite_f hc hf
                have hok := hok.2 hc
                refine lv_aload_n hx hb dX10_keepsMind_86 rfl (lv_at hl 0 rfl) ?_
                refine gg_10_10 X hP ab_196 kf_X10_26 dX10_keepsMind_87 ?_
                refine lv_bipush (v := 36) hx hb dX10_keepsMind_90 (by decide) ?_
                refine lv_iload_n hx hb dX10_keepsMind_92 rfl (lv_at hl 1 rfl) ?_
                refine lv_imul hx hb dX10_keepsMind_93 ?_
                refine lv_iload_n hx hb dX10_keepsMind_94 rfl (lv_at hl 2 rfl) ?_
                refine lv_iadd hx hb dX10_keepsMind_95 ?_
                refine lv_aload_n hx hb dX10_keepsMind_96 rfl (lv_at hl 0 rfl) ?_
                refine gg_10_12 X hP ab_196 kf_X10_32 dX10_keepsMind_97 ?_
                refine lv_iload_n hx hb dX10_keepsMind_100 rfl (lv_at hl 2 rfl) ?_
                have hs2 := hok.1
                have hok := hok.2
                refine g_fald X hP ab_204 (by rw [al_204]; exact hs2) dX10_keepsMind_101 ?_
                have hs3 := hok.1
                have hok := hok.2
                refine g_fast X hP hS ab_202 (by rw [al_202]; exact hs3) dX10_keepsMind_102 (fun H locs hP hS => ?_)
                refine g_name hP (fun q4 hq4 hP => ?_)
                have hf := bnd_go hq4 hf
                have hok := bnd_goP hq4 hok
                refine lv_iinc (v := (x2 + (1 : Int32))) (lv' := [(2, .int (x2 + (1 : Int32))), (0, .ref (G.2.1 196)), (1, .int x1)]) hx hb dX10_keepsMind_103 hl (k := 2) rfl rfl (by decide) rfl (fun ls hl => ?_)
                refine lv_goto (tgt := 80) hx hb dX10_keepsMind_106 (by decide) ?_
                exact ih80 q4 x1 (x2 + (1 : Int32)) hok hf _ _ hP hS ls (lv_sub hl [1, 2, 0] rfl)
          exact K80 2000 σ x1 (0 : Int32) hok hf _ _ hP hS ls (lv_sub hl [1, 2, 0] rfl)
        · have hf := ite_f hc hf
          have hok := hok.2 hc
          refine lv_aload_n hx hb dX10_keepsMind_54 rfl (lv_at hl 0 rfl) ?_
          refine gg_10_6 X hP ab_196 kf_X10_13 dX10_keepsMind_55 ?_
          refine lv_sipush (v := 146) hx hb dX10_keepsMind_58 (by decide) ?_
          refine lv_iload_n hx hb dX10_keepsMind_61 rfl (lv_at hl 1 rfl) ?_
          refine lv_imul hx hb dX10_keepsMind_62 ?_
          refine lv_iload_n hx hb dX10_keepsMind_63 rfl (lv_at hl 2 rfl) ?_
          refine lv_iadd hx hb dX10_keepsMind_64 ?_
          refine lv_aload_n hx hb dX10_keepsMind_65 rfl (lv_at hl 0 rfl) ?_
          refine gg_10_8 X hP ab_196 kf_X10_19 dX10_keepsMind_66 ?_
          refine lv_iload_n hx hb dX10_keepsMind_69 rfl (lv_at hl 2 rfl) ?_
          have hs5 := hok.1
          have hok := hok.2
          refine g_iald X hP ab_200 (by rw [al_200]; exact hs5) dX10_keepsMind_70 ?_
          have hs6 := hok.1
          have hok := hok.2
          refine g_iast X hP hS ab_198 (by rw [al_198]; exact hs6) dX10_keepsMind_71 (fun H locs hP hS => ?_)
          refine g_name hP (fun q7 hq7 hP => ?_)
          have hf := bnd_go hq7 hf
          have hok := bnd_goP hq7 hok
          refine lv_iinc (v := (x2 + (1 : Int32))) (lv' := [(2, .int (x2 + (1 : Int32))), (0, .ref (G.2.1 196)), (1, .int x1)]) hx hb dX10_keepsMind_72 hl (k := 2) rfl rfl (by decide) rfl (fun ls hl => ?_)
          refine lv_goto (tgt := 47) hx hb dX10_keepsMind_75 (by decide) ?_
          exact ih47 q7 x1 (x2 + (1 : Int32)) hok hf _ _ hP hS ls (lv_sub hl [1, 2, 0] rfl)
    exact K47 2000 σ (((σ.1 196 14) + (σ.1 196 13)) - ((σ.1 196 14) + (σ.1 196 13)) / (8 : Int32) * (8 : Int32)) (0 : Int32) hok hf _ _ hP hS ls (lv_sub hl [2, 1, 0] rfl)
  · have hf := ite_t hc hf
    have hok := hok.1 hc
    refine lv_aload_n hx hb dX10_keepsMind_9 rfl (lv_at hl 0 rfl) ?_
    refine lv_aload_n hx hb dX10_keepsMind_10 rfl (lv_at hl 0 rfl) ?_
    refine gg_10_14 X hP ab_196 kf_X10_72 dX10_keepsMind_11 ?_
    refine lv_iconst (v := 1) hx hb dX10_keepsMind_14 (by decide) ?_
    refine lv_iadd hx hb dX10_keepsMind_15 ?_
    refine lv_bipush (v := 8) hx hb dX10_keepsMind_16 (by decide) ?_
    refine lv_irem hx hb dX10_keepsMind_18 (by decide) ?_
    refine gp_10_14 X hP hS ab_196 kf_X10_72 dX10_keepsMind_19 (fun H locs hP hS => ?_)
    refine g_name hP (fun q8 hq8 hP => ?_)
    have hf := bnd_go hq8 hf
    have hok := bnd_goP hq8 hok
    refine lv_aload_n hx hb dX10_keepsMind_22 rfl (lv_at hl 0 rfl) ?_
    refine lv_dup hx hb dX10_keepsMind_23 rfl ?_
    refine gg_10_13 X hP ab_196 kf_X10_69 dX10_keepsMind_24 ?_
    refine lv_iconst (v := 1) hx hb dX10_keepsMind_27 (by decide) ?_
    refine lv_isub hx hb dX10_keepsMind_28 ?_
    refine gp_10_13 X hP hS ab_196 kf_X10_69 dX10_keepsMind_29 (fun H locs hP hS => ?_)
    refine g_name hP (fun q9 hq9 hP => ?_)
    have hf := bnd_go hq9 hf
    have hok := bnd_goP hq9 hok
    refine lv_aload_n hx hb dX10_keepsMind_32 rfl (lv_at hl 0 rfl) ?_
    refine gg_10_14 X hP ab_196 kf_X10_72 dX10_keepsMind_33 ?_
    refine lv_aload_n hx hb dX10_keepsMind_36 rfl (lv_at hl 0 rfl) ?_
    refine gg_10_13 X hP ab_196 kf_X10_69 dX10_keepsMind_37 ?_
    refine lv_iadd hx hb dX10_keepsMind_40 ?_
    refine lv_bipush (v := 8) hx hb dX10_keepsMind_41 (by decide) ?_
    refine lv_irem hx hb dX10_keepsMind_43 (by decide) ?_
    refine lv_istore_n (lv' := [(1, .int (((q9.1 196 14) + (q9.1 196 13)) - ((q9.1 196 14) + (q9.1 196 13)) / (8 : Int32) * (8 : Int32))), (0, .ref (G.2.1 196))]) hx hb dX10_keepsMind_44 rfl hl (by decide) rfl (fun ls hl => ?_)
    refine lv_iconst (v := 0) hx hb dX10_keepsMind_45 (by decide) ?_
    refine lv_istore_n (lv' := [(2, .int (0 : Int32)), (1, .int (((q9.1 196 14) + (q9.1 196 13)) - ((q9.1 196 14) + (q9.1 196 13)) / (8 : Int32) * (8 : Int32))), (0, .ref (G.2.1 196))]) hx hb dX10_keepsMind_46 rfl hl (by decide) rfl (fun ls hl => ?_)
    have K47 : ∀ (n47 : Nat) (σ : St) (x1 : Int32) (x2 : Int32), okX10_keepsMind_L47 n47 σ x1 x2 → fX10_keepsMind_L47 n47 σ x1 x2 = fv → ∀ (H : Heap) (locs : List Loc), va_P G.1 vcl (wl G σ) H → va_S (GA G) s.heap H locs → ∀ (ls : Array Slot), lv_has ls 3 [(0, .ref (G.2.1 196)), (1, .int x1), (2, .int x2)] → W p l e rm_X10_keepsMind s m args below meth c H locs 0 0 (MQ below (va_Qv (fun u => u = fv) (PB G) (GA G)) args s 0 0 (GA G)) (F0 m 47 ls []) := by
      intro n47
      induction n47 with
      | zero =>
        intro σ x1 x2 hok
        exact hok.elim
      | succ n47 ih47 =>
        intro σ x1 x2 hok hf H locs hP hS ls hl
        rw [okX10_keepsMind_L47] at hok
        rw [fX10_keepsMind_L47] at hf
        refine lv_iload_n hx hb dX10_keepsMind_47 rfl (lv_at hl 2 rfl) ?_
        refine lv_sipush (v := 146) hx hb dX10_keepsMind_48 (by decide) ?_
        refine lv_icmp_ge (tgt := 78) hx hb dX10_keepsMind_51 (by decide) (fun hc => ?_) (fun hc => ?_)
        · have hf := ite_t hc hf
          have hok := hok.1 hc
          refine lv_iconst (v := 0) hx hb dX10_keepsMind_78 (by decide) ?_
          refine lv_istore_n (lv' := [(2, .int (0 : Int32)), (0, .ref (G.2.1 196)), (1, .int x1)]) hx hb dX10_keepsMind_79 rfl hl (by decide) rfl (fun ls hl => ?_)
          have K80 : ∀ (n80 : Nat) (σ : St) (x1 : Int32) (x2 : Int32), okX10_keepsMind_L80 n80 σ x1 x2 → fX10_keepsMind_L80 n80 σ x1 x2 = fv → ∀ (H : Heap) (locs : List Loc), va_P G.1 vcl (wl G σ) H → va_S (GA G) s.heap H locs → ∀ (ls : Array Slot), lv_has ls 3 [(0, .ref (G.2.1 196)), (1, .int x1), (2, .int x2)] → W p l e rm_X10_keepsMind s m args below meth c H locs 0 0 (MQ below (va_Qv (fun u => u = fv) (PB G) (GA G)) args s 0 0 (GA G)) (F0 m 80 ls []) := by
            intro n80
            induction n80 with
            | zero =>
              intro σ x1 x2 hok
              exact hok.elim
            | succ n80 ih80 =>
              intro σ x1 x2 hok hf H locs hP hS ls hl
              rw [okX10_keepsMind_L80] at hok
              rw [fX10_keepsMind_L80] at hf
              refine lv_iload_n hx hb dX10_keepsMind_80 rfl (lv_at hl 2 rfl) ?_
              refine lv_bipush (v := 36) hx hb dX10_keepsMind_81 (by decide) ?_
              refine lv_icmp_ge (tgt := 109) hx hb dX10_keepsMind_83 (by decide) (fun hc => ?_) (fun hc => ?_)
              · have hf := ite_t hc hf
                refine lv_aload_n hx hb dX10_keepsMind_109 rfl (lv_at hl 0 rfl) ?_
                refine lv_dup hx hb dX10_keepsMind_110 rfl ?_
                refine gg_10_13 X hP ab_196 kf_X10_69 dX10_keepsMind_111 ?_
                refine lv_iconst (v := 1) hx hb dX10_keepsMind_114 (by decide) ?_
                refine lv_iadd hx hb dX10_keepsMind_115 ?_
                refine gp_10_13 X hP hS ab_196 kf_X10_69 dX10_keepsMind_116 (fun H locs hP hS => ?_)
                refine g_name hP (fun q10 hq10 hP => ?_)
                have hf := bnd_go hq10 hf
                exact g_vret X hr hlk hP hS hf dX10_keepsMind_119
              · have hf := ite_f hc hf
                have hok := hok.2 hc
                refine lv_aload_n hx hb dX10_keepsMind_86 rfl (lv_at hl 0 rfl) ?_
                refine gg_10_10 X hP ab_196 kf_X10_26 dX10_keepsMind_87 ?_
                refine lv_bipush (v := 36) hx hb dX10_keepsMind_90 (by decide) ?_
                refine lv_iload_n hx hb dX10_keepsMind_92 rfl (lv_at hl 1 rfl) ?_
                refine lv_imul hx hb dX10_keepsMind_93 ?_
                refine lv_iload_n hx hb dX10_keepsMind_94 rfl (lv_at hl 2 rfl) ?_
                refine lv_iadd hx hb dX10_keepsMind_95 ?_
                refine lv_aload_n hx hb dX10_keepsMind_96 rfl (lv_at hl 0 rfl) ?_
                refine gg_10_12 X hP ab_196 kf_X10_32 dX10_keepsMind_97 ?_
                refine lv_iload_n hx hb dX10_keepsMind_100 rfl (lv_at hl 2 rfl) ?_
                have hs11 := hok.1
                have hok := hok.2
                refine g_fald X hP ab_204 (by rw [al_204]; exact hs11) dX10_keepsMind_101 ?_
                have hs12 := hok.1
                have hok := hok.2
                refine g_fast X hP hS ab_202 (by rw [al_202]; exact hs12) dX10_keepsMind_102 (fun H locs hP hS => ?_)
                refine g_name hP (fun q13 hq13 hP => ?_)
                have hf := bnd_go hq13 hf
                have hok := bnd_goP hq13 hok
                refine lv_iinc (v := (x2 + (1 : Int32))) (lv' := [(2, .int (x2 + (1 : Int32))), (0, .ref (G.2.1 196)), (1, .int x1)]) hx hb dX10_keepsMind_103 hl (k := 2) rfl rfl (by decide) rfl (fun ls hl => ?_)
                refine lv_goto (tgt := 80) hx hb dX10_keepsMind_106 (by decide) ?_
                exact ih80 q13 x1 (x2 + (1 : Int32)) hok hf _ _ hP hS ls (lv_sub hl [1, 2, 0] rfl)
          exact K80 2000 σ x1 (0 : Int32) hok hf _ _ hP hS ls (lv_sub hl [1, 2, 0] rfl)
        · have hf := ite_f hc hf
          have hok := hok.2 hc
          refine lv_aload_n hx hb dX10_keepsMind_54 rfl (lv_at hl 0 rfl) ?_
          refine gg_10_6 X hP ab_196 kf_X10_13 dX10_keepsMind_55 ?_
          refine lv_sipush (v := 146) hx hb dX10_keepsMind_58 (by decide) ?_
          refine lv_iload_n hx hb dX10_keepsMind_61 rfl (lv_at hl 1 rfl) ?_
          refine lv_imul hx hb dX10_keepsMind_62 ?_
          refine lv_iload_n hx hb dX10_keepsMind_63 rfl (lv_at hl 2 rfl) ?_
          refine lv_iadd hx hb dX10_keepsMind_64 ?_
          refine lv_aload_n hx hb dX10_keepsMind_65 rfl (lv_at hl 0 rfl) ?_
          refine gg_10_8 X hP ab_196 kf_X10_19 dX10_keepsMind_66 ?_
          refine lv_iload_n hx hb dX10_keepsMind_69 rfl (lv_at hl 2 rfl) ?_
          have hs14 := hok.1
          have hok := hok.2
          refine g_iald X hP ab_200 (by rw [al_200]; exact hs14) dX10_keepsMind_70 ?_
          have hs15 := hok.1
          have hok := hok.2
          refine g_iast X hP hS ab_198 (by rw [al_198]; exact hs15) dX10_keepsMind_71 (fun H locs hP hS => ?_)
          refine g_name hP (fun q16 hq16 hP => ?_)
          have hf := bnd_go hq16 hf
          have hok := bnd_goP hq16 hok
          refine lv_iinc (v := (x2 + (1 : Int32))) (lv' := [(2, .int (x2 + (1 : Int32))), (0, .ref (G.2.1 196)), (1, .int x1)]) hx hb dX10_keepsMind_72 hl (k := 2) rfl rfl (by decide) rfl (fun ls hl => ?_)
          refine lv_goto (tgt := 47) hx hb dX10_keepsMind_75 (by decide) ?_
          exact ih47 q16 x1 (x2 + (1 : Int32)) hok hf _ _ hP hS ls (lv_sub hl [1, 2, 0] rfl)
    exact K47 2000 q9 (((q9.1 196 14) + (q9.1 196 13)) - ((q9.1 196 14) + (q9.1 196 13)) / (8 : Int32) * (8 : Int32)) (0 : Int32) hok hf _ _ hP hS ls (lv_sub hl [2, 1, 0] rfl)
def f_X10_remembers (σ : St) : St := (bnd (f_X10_thinks σ) (fun q2 => (bnd (f_X10_keepsMind q2) (fun q4 => q4))))
def ok_X10_remembers (σ : St) : Prop := (ok_X10_thinks σ ∧ (bndP (f_X10_thinks σ) (fun q2 => ok_X10_keepsMind q2)))
abbrev rm_X10_remembers : Room := { frames := 1, cells := 0, slots := 0, locals := 22 }
set_option maxHeartbeats 4000000 in
set_option maxRecDepth 100000 in
theorem c_X10_remembers (l : Launch) (G : GE) (hG : Gok G) (σ : St) (hok : ok_X10_remembers σ) : MtV l G yX10_remembers cX10_remembers 1 rm_X10_remembers [.ref (G.2.1 196)] σ (f_X10_remembers σ) := by
  generalize hf : f_X10_remembers σ = fv
  rw [f_X10_remembers] at hf
  rw [ok_X10_remembers] at hok
  refine g_start hG (plainFor_of_name (by decide)) (Nat.le_of_ble_eq_true rfl) ?_
  intro p e s m args below meth c X hr hlk ls hl H locs hP hS
  have X : Cx G p s m args c cX10_remembers 1 RX10 := X
  obtain ⟨hx, hb, hml, hown, hts, hK, hbs, hXW, -⟩ := id X
  have hl : lv_has ls 1 [(0, .ref (G.2.1 196))] := hl
  refine lv_aload_n hx hb dX10_remembers_0 rfl (lv_at hl 0 rfl) ?_
  have hs1 := hok.1
  have hok := hok.2
  refine g_cV (g_runV (i := 196) (As := []) (rest := []) X (c_X10_thinks l G hG σ hs1) ca_X10_thinks km_X10_75 rfl rfl ⟨Nat.le_of_ble_eq_true rfl, Nat.le_of_ble_eq_true rfl⟩ hP hS (ty_lt ab_196) (cell_10 ab_196) rfl rfl rfl hl.1 rfl (Nat.le_of_ble_eq_true rfl) ⟨Nat.le_of_ble_eq_true rfl, Nat.le_of_ble_eq_true rfl⟩ dX10_remembers_1) hS (fun q2 hq2 H locs hP hS => ?_)
  have hf := bnd_go hq2 hf
  have hok := bnd_goP hq2 hok
  refine lv_aload_n hx hb dX10_remembers_4 rfl (lv_at hl 0 rfl) ?_
  have hs3 := hok
  refine g_cV (g_runV (i := 196) (As := []) (rest := []) X (c_X10_keepsMind l G hG q2 hs3) ca_X10_keepsMind km_X10_78 rfl rfl ⟨Nat.le_of_ble_eq_true rfl, Nat.le_of_ble_eq_true rfl⟩ hP hS (ty_lt ab_196) (cell_10 ab_196) rfl rfl rfl hl.1 rfl (Nat.le_of_ble_eq_true rfl) ⟨Nat.le_of_ble_eq_true rfl, Nat.le_of_ble_eq_true rfl⟩ dX10_remembers_5) hS (fun q4 hq4 H locs hP hS => ?_)
  have hf := bnd_go hq4 hf
  exact g_vret X hr hlk hP hS hf dX10_remembers_8
def f_X10_of (σ : St) (x1 : Int32) (x2 : Int32) : Int32 := (σ.1 197 (((6 : Int32) + ((7 : Int32) * x1)) + x2).toNatClampNeg)
def ok_X10_of (σ : St) (x1 : Int32) (x2 : Int32) : Prop := vp_in (((6 : Int32) + ((7 : Int32) * x1)) + x2) 146
abbrev rm_X10_of : Room := { frames := 0, cells := 0, slots := 0, locals := 0 }
set_option maxHeartbeats 4000000 in
set_option maxRecDepth 100000 in
theorem c_X10_of (l : Launch) (G : GE) (hG : Gok G) (σ : St) (x1 : Int32) (x2 : Int32) (hok : ok_X10_of σ x1 x2) : MtI l G yX10_of cX10_of 3 rm_X10_of [.ref (G.2.1 196), .int x1, .int x2] σ (σ, f_X10_of σ x1 x2) := by
  generalize hf : f_X10_of σ x1 x2 = fv
  rw [f_X10_of] at hf
  rw [ok_X10_of] at hok
  refine g_start hG (plainFor_of_name (by decide)) (Nat.le_of_ble_eq_true rfl) ?_
  intro p e s m args below meth c X hr hlk ls hl H locs hP hS
  have X : Cx G p s m args c cX10_of 3 RX10 := X
  obtain ⟨hx, hb, hml, hown, hts, hK, hbs, hXW, -⟩ := id X
  have hl : lv_has ls 3 [(0, .ref (G.2.1 196)), (1, .int x1), (2, .int x2)] := hl
  refine lv_aload_n hx hb dX10_of_0 rfl (lv_at hl 0 rfl) ?_
  refine gg_10_5 X hP ab_196 kf_X10_7 dX10_of_1 ?_
  refine lv_bipush (v := 6) hx hb dX10_of_4 (by decide) ?_
  refine lv_bipush (v := 7) hx hb dX10_of_6 (by decide) ?_
  refine lv_iload_n hx hb dX10_of_8 rfl (lv_at hl 1 rfl) ?_
  refine lv_imul hx hb dX10_of_9 ?_
  refine lv_iadd hx hb dX10_of_10 ?_
  refine lv_iload_n hx hb dX10_of_11 rfl (lv_at hl 2 rfl) ?_
  refine lv_iadd hx hb dX10_of_12 ?_
  have hs1 := hok
  refine g_iald X hP ab_197 (by rw [al_197]; exact hs1) dX10_of_13 ?_
  exact g_iret X hr hlk hP hS (congrArg (Prod.mk σ) hf) dX10_of_14
def f_X10_sets (σ : St) (x1 : Int32) (x2 : Int32) (x3 : Int32) : St := (bnd (setI σ 197 (((6 : Int32) + ((7 : Int32) * x1)) + x2).toNatClampNeg x3) (fun q2 => q2))
def ok_X10_sets (σ : St) (x1 : Int32) (x2 : Int32) (x3 : Int32) : Prop := vp_in (((6 : Int32) + ((7 : Int32) * x1)) + x2) 146
abbrev rm_X10_sets : Room := { frames := 0, cells := 0, slots := 0, locals := 0 }
set_option maxHeartbeats 4000000 in
set_option maxRecDepth 100000 in
theorem c_X10_sets (l : Launch) (G : GE) (hG : Gok G) (σ : St) (x1 : Int32) (x2 : Int32) (x3 : Int32) (hok : ok_X10_sets σ x1 x2 x3) : MtV l G yX10_sets cX10_sets 4 rm_X10_sets [.ref (G.2.1 196), .int x1, .int x2, .int x3] σ (f_X10_sets σ x1 x2 x3) := by
  generalize hf : f_X10_sets σ x1 x2 x3 = fv
  rw [f_X10_sets] at hf
  rw [ok_X10_sets] at hok
  refine g_start hG (plainFor_of_name (by decide)) (Nat.le_of_ble_eq_true rfl) ?_
  intro p e s m args below meth c X hr hlk ls hl H locs hP hS
  have X : Cx G p s m args c cX10_sets 4 RX10 := X
  obtain ⟨hx, hb, hml, hown, hts, hK, hbs, hXW, -⟩ := id X
  have hl : lv_has ls 4 [(0, .ref (G.2.1 196)), (1, .int x1), (2, .int x2), (3, .int x3)] := hl
  refine lv_aload_n hx hb dX10_sets_0 rfl (lv_at hl 0 rfl) ?_
  refine gg_10_5 X hP ab_196 kf_X10_7 dX10_sets_1 ?_
  refine lv_bipush (v := 6) hx hb dX10_sets_4 (by decide) ?_
  refine lv_bipush (v := 7) hx hb dX10_sets_6 (by decide) ?_
  refine lv_iload_n hx hb dX10_sets_8 rfl (lv_at hl 1 rfl) ?_
  refine lv_imul hx hb dX10_sets_9 ?_
  refine lv_iadd hx hb dX10_sets_10 ?_
  refine lv_iload_n hx hb dX10_sets_11 rfl (lv_at hl 2 rfl) ?_
  refine lv_iadd hx hb dX10_sets_12 ?_
  refine lv_iload_n hx hb dX10_sets_13 rfl (lv_at hl 3 rfl) ?_
  have hs1 := hok
  refine g_iast X hP hS ab_197 (by rw [al_197]; exact hs1) dX10_sets_14 (fun H locs hP hS => ?_)
  refine g_name hP (fun q2 hq2 hP => ?_)
  have hf := bnd_go hq2 hf
  exact g_vret X hr hlk hP hS hf dX10_sets_15
def f_X10_isChild (x0 : Int32) : Bool := (f_X10_isBetween x0 (0 : Int32) (5 : Int32))
abbrev rm_X10_isChild : Room := { frames := 1, cells := 0, slots := 0, locals := 22 }
set_option maxHeartbeats 4000000 in
set_option maxRecDepth 100000 in
theorem c_X10_isChild (l : Launch) (G : GE) (hG : Gok G) (σ : St) (x0 : Int32) : MtZ l G yX10_isChild cX10_isChild 1 rm_X10_isChild [.int x0] σ (σ, f_X10_isChild x0) := by
  generalize hf : f_X10_isChild x0 = fv
  rw [f_X10_isChild] at hf
  refine g_start hG (plainFor_of_name (by decide)) (Nat.le_of_ble_eq_true rfl) ?_
  intro p e s m args below meth c X hr hlk ls hl H locs hP hS
  have X : Cx G p s m args c cX10_isChild 1 RX10 := X
  obtain ⟨hx, hb, hml, hown, hts, hK, hbs, hXW, -⟩ := id X
  have hl : lv_has ls 1 [(0, .int x0)] := hl
  refine lv_iload_n hx hb dX10_isChild_0 rfl (lv_at hl 0 rfl) ?_
  refine lv_iconst (v := 0) hx hb dX10_isChild_1 (by decide) ?_
  refine lv_iconst (v := 5) hx hb dX10_isChild_2 (by decide) ?_
  refine g_cZp (g_runS (As := [.int x0, .int (0 : Int32), .int (5 : Int32)]) (rest := []) X (c_X10_isBetween l G hG σ x0 (0 : Int32) (5 : Int32)) ca_X10_isBetween km_X10_81 rfl rfl ⟨Nat.le_of_ble_eq_true rfl, Nat.le_of_ble_eq_true rfl⟩ hP hS rfl hl.1 rfl (Nat.le_of_ble_eq_true rfl) ⟨Nat.le_of_ble_eq_true rfl, Nat.le_of_ble_eq_true rfl⟩ dX10_isChild_3) hS (fun H locs hP hS => ?_)
  exact g_zret (b := (f_X10_isBetween x0 (0 : Int32) (5 : Int32))) X hr hlk rfl hP hS (congrArg (Prod.mk σ) hf) dX10_isChild_6
def f_X10_isCrayon (σ : St) (x1 : Int32) : Bool := (f_X10_isBetween x1 (0 : Int32) ((σ.1 197 (1 : Int32).toNatClampNeg) - (1 : Int32)))
abbrev rm_X10_isCrayon : Room := { frames := 1, cells := 0, slots := 0, locals := 22 }
set_option maxHeartbeats 4000000 in
set_option maxRecDepth 100000 in
theorem c_X10_isCrayon (l : Launch) (G : GE) (hG : Gok G) (σ : St) (x1 : Int32) : MtZ l G yX10_isCrayon cX10_isCrayon 2 rm_X10_isCrayon [.ref (G.2.1 196), .int x1] σ (σ, f_X10_isCrayon σ x1) := by
  generalize hf : f_X10_isCrayon σ x1 = fv
  rw [f_X10_isCrayon] at hf
  refine g_start hG (plainFor_of_name (by decide)) (Nat.le_of_ble_eq_true rfl) ?_
  intro p e s m args below meth c X hr hlk ls hl H locs hP hS
  have X : Cx G p s m args c cX10_isCrayon 2 RX10 := X
  obtain ⟨hx, hb, hml, hown, hts, hK, hbs, hXW, -⟩ := id X
  have hl : lv_has ls 2 [(0, .ref (G.2.1 196)), (1, .int x1)] := hl
  refine lv_iload_n hx hb dX10_isCrayon_0 rfl (lv_at hl 1 rfl) ?_
  refine lv_iconst (v := 0) hx hb dX10_isCrayon_1 (by decide) ?_
  refine lv_aload_n hx hb dX10_isCrayon_2 rfl (lv_at hl 0 rfl) ?_
  refine gg_10_5 X hP ab_196 kf_X10_7 dX10_isCrayon_3 ?_
  refine lv_iconst (v := 1) hx hb dX10_isCrayon_6 (by decide) ?_
  refine g_iald X hP ab_197 (by rw [al_197]; unfold vp_in; decide) dX10_isCrayon_7 ?_
  refine lv_iconst (v := 1) hx hb dX10_isCrayon_8 (by decide) ?_
  refine lv_isub hx hb dX10_isCrayon_9 ?_
  refine g_cZp (g_runS (As := [.int x1, .int (0 : Int32), .int ((σ.1 197 (1 : Int32).toNatClampNeg) - (1 : Int32))]) (rest := []) X (c_X10_isBetween l G hG σ x1 (0 : Int32) ((σ.1 197 (1 : Int32).toNatClampNeg) - (1 : Int32))) ca_X10_isBetween km_X10_81 rfl rfl ⟨Nat.le_of_ble_eq_true rfl, Nat.le_of_ble_eq_true rfl⟩ hP hS rfl hl.1 rfl (Nat.le_of_ble_eq_true rfl) ⟨Nat.le_of_ble_eq_true rfl, Nat.le_of_ble_eq_true rfl⟩ dX10_isCrayon_10) hS (fun H locs hP hS => ?_)
  exact g_zret (b := (f_X10_isBetween x1 (0 : Int32) ((σ.1 197 (1 : Int32).toNatClampNeg) - (1 : Int32)))) X hr hlk rfl hP hS (congrArg (Prod.mk σ) hf) dX10_isCrayon_13
def f_X10_isItem (σ : St) (x1 : Int32) : Bool := (f_X10_isBetween x1 (0 : Int32) ((σ.1 197 (2 : Int32).toNatClampNeg) - (1 : Int32)))
abbrev rm_X10_isItem : Room := { frames := 1, cells := 0, slots := 0, locals := 22 }
set_option maxHeartbeats 4000000 in
set_option maxRecDepth 100000 in
theorem c_X10_isItem (l : Launch) (G : GE) (hG : Gok G) (σ : St) (x1 : Int32) : MtZ l G yX10_isItem cX10_isItem 2 rm_X10_isItem [.ref (G.2.1 196), .int x1] σ (σ, f_X10_isItem σ x1) := by
  generalize hf : f_X10_isItem σ x1 = fv
  rw [f_X10_isItem] at hf
  refine g_start hG (plainFor_of_name (by decide)) (Nat.le_of_ble_eq_true rfl) ?_
  intro p e s m args below meth c X hr hlk ls hl H locs hP hS
  have X : Cx G p s m args c cX10_isItem 2 RX10 := X
  obtain ⟨hx, hb, hml, hown, hts, hK, hbs, hXW, -⟩ := id X
  have hl : lv_has ls 2 [(0, .ref (G.2.1 196)), (1, .int x1)] := hl
  refine lv_iload_n hx hb dX10_isItem_0 rfl (lv_at hl 1 rfl) ?_
  refine lv_iconst (v := 0) hx hb dX10_isItem_1 (by decide) ?_
  refine lv_aload_n hx hb dX10_isItem_2 rfl (lv_at hl 0 rfl) ?_
  refine gg_10_5 X hP ab_196 kf_X10_7 dX10_isItem_3 ?_
  refine lv_iconst (v := 2) hx hb dX10_isItem_6 (by decide) ?_
  refine g_iald X hP ab_197 (by rw [al_197]; unfold vp_in; decide) dX10_isItem_7 ?_
  refine lv_iconst (v := 1) hx hb dX10_isItem_8 (by decide) ?_
  refine lv_isub hx hb dX10_isItem_9 ?_
  refine g_cZp (g_runS (As := [.int x1, .int (0 : Int32), .int ((σ.1 197 (2 : Int32).toNatClampNeg) - (1 : Int32))]) (rest := []) X (c_X10_isBetween l G hG σ x1 (0 : Int32) ((σ.1 197 (2 : Int32).toNatClampNeg) - (1 : Int32))) ca_X10_isBetween km_X10_81 rfl rfl ⟨Nat.le_of_ble_eq_true rfl, Nat.le_of_ble_eq_true rfl⟩ hP hS rfl hl.1 rfl (Nat.le_of_ble_eq_true rfl) ⟨Nat.le_of_ble_eq_true rfl, Nat.le_of_ble_eq_true rfl⟩ dX10_isItem_10) hS (fun H locs hP hS => ?_)
  exact g_zret (b := (f_X10_isBetween x1 (0 : Int32) ((σ.1 197 (2 : Int32).toNatClampNeg) - (1 : Int32)))) X hr hlk rfl hP hS (congrArg (Prod.mk σ) hf) dX10_isItem_13
def f_X10_isPotato (σ : St) (x1 : Int32) : Bool := (f_X10_isBetween x1 (0 : Int32) ((σ.1 197 (3 : Int32).toNatClampNeg) - (1 : Int32)))
abbrev rm_X10_isPotato : Room := { frames := 1, cells := 0, slots := 0, locals := 22 }
set_option maxHeartbeats 4000000 in
set_option maxRecDepth 100000 in
theorem c_X10_isPotato (l : Launch) (G : GE) (hG : Gok G) (σ : St) (x1 : Int32) : MtZ l G yX10_isPotato cX10_isPotato 2 rm_X10_isPotato [.ref (G.2.1 196), .int x1] σ (σ, f_X10_isPotato σ x1) := by
  generalize hf : f_X10_isPotato σ x1 = fv
  rw [f_X10_isPotato] at hf
  refine g_start hG (plainFor_of_name (by decide)) (Nat.le_of_ble_eq_true rfl) ?_
  intro p e s m args below meth c X hr hlk ls hl H locs hP hS
  have X : Cx G p s m args c cX10_isPotato 2 RX10 := X
  obtain ⟨hx, hb, hml, hown, hts, hK, hbs, hXW, -⟩ := id X
  have hl : lv_has ls 2 [(0, .ref (G.2.1 196)), (1, .int x1)] := hl
  refine lv_iload_n hx hb dX10_isPotato_0 rfl (lv_at hl 1 rfl) ?_
  refine lv_iconst (v := 0) hx hb dX10_isPotato_1 (by decide) ?_
  refine lv_aload_n hx hb dX10_isPotato_2 rfl (lv_at hl 0 rfl) ?_
  refine gg_10_5 X hP ab_196 kf_X10_7 dX10_isPotato_3 ?_
  refine lv_iconst (v := 3) hx hb dX10_isPotato_6 (by decide) ?_
  refine g_iald X hP ab_197 (by rw [al_197]; unfold vp_in; decide) dX10_isPotato_7 ?_
  refine lv_iconst (v := 1) hx hb dX10_isPotato_8 (by decide) ?_
  refine lv_isub hx hb dX10_isPotato_9 ?_
  refine g_cZp (g_runS (As := [.int x1, .int (0 : Int32), .int ((σ.1 197 (3 : Int32).toNatClampNeg) - (1 : Int32))]) (rest := []) X (c_X10_isBetween l G hG σ x1 (0 : Int32) ((σ.1 197 (3 : Int32).toNatClampNeg) - (1 : Int32))) ca_X10_isBetween km_X10_81 rfl rfl ⟨Nat.le_of_ble_eq_true rfl, Nat.le_of_ble_eq_true rfl⟩ hP hS rfl hl.1 rfl (Nat.le_of_ble_eq_true rfl) ⟨Nat.le_of_ble_eq_true rfl, Nat.le_of_ble_eq_true rfl⟩ dX10_isPotato_10) hS (fun H locs hP hS => ?_)
  exact g_zret (b := (f_X10_isBetween x1 (0 : Int32) ((σ.1 197 (3 : Int32).toNatClampNeg) - (1 : Int32)))) X hr hlk rfl hP hS (congrArg (Prod.mk σ) hf) dX10_isPotato_13
def f_X10_isLetter (σ : St) (x1 : Int32) : Bool := (if (f_X10_of σ x1 (0 : Int32)) = 0 then true else false)
def ok_X10_isLetter (σ : St) (x1 : Int32) : Prop := ok_X10_of σ x1 (0 : Int32)
abbrev rm_X10_isLetter : Room := { frames := 1, cells := 0, slots := 0, locals := 22 }
set_option maxHeartbeats 4000000 in
set_option maxRecDepth 100000 in
theorem c_X10_isLetter (l : Launch) (G : GE) (hG : Gok G) (σ : St) (x1 : Int32) (hok : ok_X10_isLetter σ x1) : MtZ l G yX10_isLetter cX10_isLetter 2 rm_X10_isLetter [.ref (G.2.1 196), .int x1] σ (σ, f_X10_isLetter σ x1) := by
  generalize hf : f_X10_isLetter σ x1 = fv
  rw [f_X10_isLetter] at hf
  rw [ok_X10_isLetter] at hok
  refine g_start hG (plainFor_of_name (by decide)) (Nat.le_of_ble_eq_true rfl) ?_
  intro p e s m args below meth c X hr hlk ls hl H locs hP hS
  have X : Cx G p s m args c cX10_isLetter 2 RX10 := X
  obtain ⟨hx, hb, hml, hown, hts, hK, hbs, hXW, -⟩ := id X
  have hl : lv_has ls 2 [(0, .ref (G.2.1 196)), (1, .int x1)] := hl
  refine lv_aload_n hx hb dX10_isLetter_0 rfl (lv_at hl 0 rfl) ?_
  refine lv_iload_n hx hb dX10_isLetter_1 rfl (lv_at hl 1 rfl) ?_
  refine lv_iconst (v := 0) hx hb dX10_isLetter_2 (by decide) ?_
  have hs1 := hok
  refine g_cIp (g_runV (i := 196) (As := [.int x1, .int (0 : Int32)]) (rest := []) X (c_X10_of l G hG σ x1 (0 : Int32) hs1) ca_X10_of km_X10_85 rfl rfl ⟨Nat.le_of_ble_eq_true rfl, Nat.le_of_ble_eq_true rfl⟩ hP hS (ty_lt ab_196) (cell_10 ab_196) rfl rfl rfl hl.1 rfl (Nat.le_of_ble_eq_true rfl) ⟨Nat.le_of_ble_eq_true rfl, Nat.le_of_ble_eq_true rfl⟩ dX10_isLetter_3) hS (fun H locs hP hS => ?_)
  refine lv_if_ne (tgt := 13) hx hb dX10_isLetter_6 (by decide) (fun hc => ?_) (fun hc => ?_)
  · have hf := ite_f hc hf
    refine lv_iconst (v := 0) hx hb dX10_isLetter_13 (by decide) ?_
    exact g_zret (b := false) X hr hlk rfl hP hS (congrArg (Prod.mk σ) hf) dX10_isLetter_14
  · have hf := ite_t hc hf
    refine lv_iconst (v := 1) hx hb dX10_isLetter_9 (by decide) ?_
    refine lv_goto (tgt := 14) hx hb dX10_isLetter_10 (by decide) ?_
    exact g_zret (b := true) X hr hlk rfl hP hS (congrArg (Prod.mk σ) hf) dX10_isLetter_14
def f_X10_crayon (σ : St) (x1 : Int32) : St × Int32 := (bnd (setI σ 196 0 (0 : Int32)) (fun q1 => (if (f_X10_isBetween x1 (10 : Int32) (120 : Int32)) = true then (if (q1.1 197 (1 : Int32).toNatClampNeg) = (8 : Int32) then (bnd (f_X10_isNot q1 (1 : Int32) (8 : Int32)) (fun q8 => (bnd (f_X10_refuses q8.1 q8.2 (2 : Int32)) (fun q9 => (q9.1, q9.2))))) else (bnd (f_X10_remembers q1) (fun q3 => (bnd (setI q3 197 (1 : Int32).toNatClampNeg ((q3.1 197 (1 : Int32).toNatClampNeg) + (1 : Int32))) (fun q4 => (bnd (setF q4 201 (q3.1 197 (1 : Int32).toNatClampNeg).toNatClampNeg (FP.fmul (1036831949 : UInt32) (FP.i2f x1))) (fun q7 => (q7, (q3.1 197 (1 : Int32).toNatClampNeg))))))))) else (bnd (f_X10_fails q1 (1 : Int32)) (fun q10 => (q10.1, q10.2))))))
def ok_X10_crayon (σ : St) (x1 : Int32) : Prop := (bndP (setI σ 196 0 (0 : Int32)) (fun q1 => (((f_X10_isBetween x1 (10 : Int32) (120 : Int32)) = true → (((q1.1 197 (1 : Int32).toNatClampNeg) = (8 : Int32) → True) ∧ (¬ (q1.1 197 (1 : Int32).toNatClampNeg) = (8 : Int32) → (ok_X10_remembers q1 ∧ (bndP (f_X10_remembers q1) (fun q3 => (vf_n32 (FP.fmul (1036831949 : UInt32) (FP.i2f x1)) ∧ vp_in (q3.1 197 (1 : Int32).toNatClampNeg) 36))))))) ∧ ((f_X10_isBetween x1 (10 : Int32) (120 : Int32)) = false → True))))
abbrev rm_X10_crayon : Room := { frames := 2, cells := 0, slots := 0, locals := 43 }
set_option maxHeartbeats 4000000 in
set_option maxRecDepth 100000 in
theorem c_X10_crayon (l : Launch) (G : GE) (hG : Gok G) (σ : St) (x1 : Int32) (hok : ok_X10_crayon σ x1) : MtI l G yX10_crayon cX10_crayon 3 rm_X10_crayon [.ref (G.2.1 196), .int x1] σ (f_X10_crayon σ x1) := by
  generalize hf : f_X10_crayon σ x1 = fv
  rw [f_X10_crayon] at hf
  rw [ok_X10_crayon] at hok
  refine g_start hG (plainFor_of_name (by decide)) (Nat.le_of_ble_eq_true rfl) ?_
  intro p e s m args below meth c X hr hlk ls hl H locs hP hS
  have X : Cx G p s m args c cX10_crayon 3 RX10 := X
  obtain ⟨hx, hb, hml, hown, hts, hK, hbs, hXW, -⟩ := id X
  have hl : lv_has ls 3 [(0, .ref (G.2.1 196)), (1, .int x1)] := hl
  refine lv_aload_n hx hb dX10_crayon_0 rfl (lv_at hl 0 rfl) ?_
  refine lv_iconst (v := 0) hx hb dX10_crayon_1 (by decide) ?_
  refine gp_10_0 X hP hS ab_196 kf_X10_50 dX10_crayon_2 (fun H locs hP hS => ?_)
  refine g_name hP (fun q1 hq1 hP => ?_)
  have hf := bnd_go hq1 hf
  have hok := bnd_goP hq1 hok
  refine lv_iload_n hx hb dX10_crayon_5 rfl (lv_at hl 1 rfl) ?_
  refine lv_bipush (v := 10) hx hb dX10_crayon_6 (by decide) ?_
  refine lv_bipush (v := 120) hx hb dX10_crayon_8 (by decide) ?_
  refine g_cZp (g_runS (As := [.int x1, .int (10 : Int32), .int (120 : Int32)]) (rest := []) X (c_X10_isBetween l G hG q1 x1 (10 : Int32) (120 : Int32)) ca_X10_isBetween km_X10_81 rfl rfl ⟨Nat.le_of_ble_eq_true rfl, Nat.le_of_ble_eq_true rfl⟩ hP hS rfl hl.1 rfl (Nat.le_of_ble_eq_true rfl) ⟨Nat.le_of_ble_eq_true rfl, Nat.le_of_ble_eq_true rfl⟩ dX10_crayon_10) hS (fun H locs hP hS => ?_)
  refine g_ifneZ (tgt := 22) X dX10_crayon_13 (by decide) (fun hc => ?_) (fun hc => ?_)
  · have hf := ite_t hc hf
    have hok := hok.1 hc
    refine lv_aload_n hx hb dX10_crayon_22 rfl (lv_at hl 0 rfl) ?_
    refine gg_10_5 X hP ab_196 kf_X10_7 dX10_crayon_23 ?_
    refine lv_iconst (v := 1) hx hb dX10_crayon_26 (by decide) ?_
    refine g_iald X hP ab_197 (by rw [al_197]; unfold vp_in; decide) dX10_crayon_27 ?_
    refine lv_bipush (v := 8) hx hb dX10_crayon_28 (by decide) ?_
    refine lv_icmp_ne (tgt := 46) hx hb dX10_crayon_30 (by decide) (fun hc => ?_) (fun hc => ?_)
    · have hf := ite_f hc hf
      have hok := hok.2 hc
      refine lv_aload_n hx hb dX10_crayon_46 rfl (lv_at hl 0 rfl) ?_
      have hs2 := hok.1
      have hok := hok.2
      refine g_cV (g_runV (i := 196) (As := []) (rest := []) X (c_X10_remembers l G hG q1 hs2) ca_X10_remembers km_X10_95 rfl rfl ⟨Nat.le_of_ble_eq_true rfl, Nat.le_of_ble_eq_true rfl⟩ hP hS (ty_lt ab_196) (cell_10 ab_196) rfl rfl rfl hl.1 rfl (Nat.le_of_ble_eq_true rfl) ⟨Nat.le_of_ble_eq_true rfl, Nat.le_of_ble_eq_true rfl⟩ dX10_crayon_47) hS (fun q3 hq3 H locs hP hS => ?_)
      have hf := bnd_go hq3 hf
      have hok := bnd_goP hq3 hok
      refine lv_aload_n hx hb dX10_crayon_50 rfl (lv_at hl 0 rfl) ?_
      refine gg_10_5 X hP ab_196 kf_X10_7 dX10_crayon_51 ?_
      refine lv_iconst (v := 1) hx hb dX10_crayon_54 (by decide) ?_
      refine g_iald X hP ab_197 (by rw [al_197]; unfold vp_in; decide) dX10_crayon_55 ?_
      refine lv_istore_n (lv' := [(2, .int (q3.1 197 (1 : Int32).toNatClampNeg)), (0, .ref (G.2.1 196)), (1, .int x1)]) hx hb dX10_crayon_56 rfl hl (by decide) rfl (fun ls hl => ?_)
      refine lv_aload_n hx hb dX10_crayon_57 rfl (lv_at hl 1 rfl) ?_
      refine gg_10_5 X hP ab_196 kf_X10_7 dX10_crayon_58 ?_
      refine lv_iconst (v := 1) hx hb dX10_crayon_61 (by decide) ?_
      refine lv_dup2_11 hx hb dX10_crayon_62 rfl rfl ?_
      refine g_iald X hP ab_197 (by rw [al_197]; unfold vp_in; decide) dX10_crayon_63 ?_
      refine lv_iconst (v := 1) hx hb dX10_crayon_64 (by decide) ?_
      refine lv_iadd hx hb dX10_crayon_65 ?_
      refine g_iast X hP hS ab_197 (by rw [al_197]; unfold vp_in; decide) dX10_crayon_66 (fun H locs hP hS => ?_)
      refine g_name hP (fun q4 hq4 hP => ?_)
      have hf := bnd_go hq4 hf
      refine lv_aload_n hx hb dX10_crayon_67 rfl (lv_at hl 1 rfl) ?_
      refine gg_10_9 X hP ab_196 kf_X10_22 dX10_crayon_68 ?_
      refine lv_iload_n hx hb dX10_crayon_71 rfl (lv_at hl 0 rfl) ?_
      refine lv_ldcf hx hb hown (hts _ kc_X10_98) dX10_crayon_72 ?_
      refine lv_iload_n hx hb dX10_crayon_74 rfl (lv_at hl 2 rfl) ?_
      refine lv_i2f hx hb dX10_crayon_75 ?_
      have hs5 := hok.1
      have hok := hok.2
      refine lv_fmul hx hb dX10_crayon_76 hs5 ?_
      have hs6 := hok
      refine g_fast X hP hS ab_201 (by rw [al_201]; exact hs6) dX10_crayon_77 (fun H locs hP hS => ?_)
      refine g_name hP (fun q7 hq7 hP => ?_)
      have hf := bnd_go hq7 hf
      refine lv_iload_n hx hb dX10_crayon_78 rfl (lv_at hl 0 rfl) ?_
      exact g_iret X hr hlk hP hS hf dX10_crayon_79
    · have hf := ite_t hc hf
      refine lv_aload_n hx hb dX10_crayon_33 rfl (lv_at hl 0 rfl) ?_
      refine lv_aload_n hx hb dX10_crayon_34 rfl (lv_at hl 0 rfl) ?_
      refine lv_iconst (v := 1) hx hb dX10_crayon_35 (by decide) ?_
      refine lv_bipush (v := 8) hx hb dX10_crayon_36 (by decide) ?_
      refine g_cI (g_runV (i := 196) (As := [.int (1 : Int32), .int (8 : Int32)]) (rest := [.ref (G.2.1 196)]) X (c_X10_isNot l G hG q1 (1 : Int32) (8 : Int32)) ca_X10_isNot km_X10_89 rfl rfl ⟨Nat.le_of_ble_eq_true rfl, Nat.le_of_ble_eq_true rfl⟩ hP hS (ty_lt ab_196) (cell_10 ab_196) rfl rfl rfl hl.1 rfl (Nat.le_of_ble_eq_true rfl) ⟨Nat.le_of_ble_eq_true rfl, Nat.le_of_ble_eq_true rfl⟩ dX10_crayon_38) hS (fun q8 hq8 H locs hP hS => ?_)
      have hf := bnd_go hq8 hf
      refine lv_iconst (v := 2) hx hb dX10_crayon_41 (by decide) ?_
      refine g_cI (g_runV (i := 196) (As := [.int q8.2, .int (2 : Int32)]) (rest := []) X (c_X10_refuses l G hG q8.1 q8.2 (2 : Int32)) ca_X10_refuses km_X10_92 rfl rfl ⟨Nat.le_of_ble_eq_true rfl, Nat.le_of_ble_eq_true rfl⟩ hP hS (ty_lt ab_196) (cell_10 ab_196) rfl rfl rfl hl.1 rfl (Nat.le_of_ble_eq_true rfl) ⟨Nat.le_of_ble_eq_true rfl, Nat.le_of_ble_eq_true rfl⟩ dX10_crayon_42) hS (fun q9 hq9 H locs hP hS => ?_)
      have hf := bnd_go hq9 hf
      exact g_iret X hr hlk hP hS hf dX10_crayon_45
  · have hf := ite_z hc hf
    refine lv_aload_n hx hb dX10_crayon_16 rfl (lv_at hl 0 rfl) ?_
    refine lv_iconst (v := 1) hx hb dX10_crayon_17 (by decide) ?_
    refine g_cI (g_runV (i := 196) (As := [.int (1 : Int32)]) (rest := []) X (c_X10_fails l G hG q1 (1 : Int32)) ca_X10_fails km_X10_59 rfl rfl ⟨Nat.le_of_ble_eq_true rfl, Nat.le_of_ble_eq_true rfl⟩ hP hS (ty_lt ab_196) (cell_10 ab_196) rfl rfl rfl hl.1 rfl (Nat.le_of_ble_eq_true rfl) ⟨Nat.le_of_ble_eq_true rfl, Nat.le_of_ble_eq_true rfl⟩ dX10_crayon_18) hS (fun q10 hq10 H locs hP hS => ?_)
    have hf := bnd_go hq10 hf
    exact g_iret X hr hlk hP hS hf dX10_crayon_21
def f_X10_crayonOf (σ : St) (x1 : Int32) : St × UInt32 := (bnd (setI σ 196 0 (0 : Int32)) (fun q1 => (if (f_X10_isCrayon q1 x1) = true then (q1, (q1.2.1 201 x1.toNatClampNeg)) else (bnd (f_X10_fails q1 (1 : Int32)) (fun q2 => (q2.1, (FP.i2f q2.2)))))))
def ok_X10_crayonOf (σ : St) (x1 : Int32) : Prop := (bndP (setI σ 196 0 (0 : Int32)) (fun q1 => (((f_X10_isCrayon q1 x1) = true → vp_in x1 36) ∧ ((f_X10_isCrayon q1 x1) = false → True))))
abbrev rm_X10_crayonOf : Room := { frames := 2, cells := 0, slots := 0, locals := 43 }
set_option maxHeartbeats 4000000 in
set_option maxRecDepth 100000 in
theorem c_X10_crayonOf (l : Launch) (G : GE) (hG : Gok G) (σ : St) (x1 : Int32) (hok : ok_X10_crayonOf σ x1) : MtF l G yX10_crayonOf cX10_crayonOf 2 rm_X10_crayonOf [.ref (G.2.1 196), .int x1] σ (f_X10_crayonOf σ x1) := by
  generalize hf : f_X10_crayonOf σ x1 = fv
  rw [f_X10_crayonOf] at hf
  rw [ok_X10_crayonOf] at hok
  refine g_start hG (plainFor_of_name (by decide)) (Nat.le_of_ble_eq_true rfl) ?_
  intro p e s m args below meth c X hr hlk ls hl H locs hP hS
  have X : Cx G p s m args c cX10_crayonOf 2 RX10 := X
  obtain ⟨hx, hb, hml, hown, hts, hK, hbs, hXW, -⟩ := id X
  have hl : lv_has ls 2 [(0, .ref (G.2.1 196)), (1, .int x1)] := hl
  refine lv_aload_n hx hb dX10_crayonOf_0 rfl (lv_at hl 0 rfl) ?_
  refine lv_iconst (v := 0) hx hb dX10_crayonOf_1 (by decide) ?_
  refine gp_10_0 X hP hS ab_196 kf_X10_50 dX10_crayonOf_2 (fun H locs hP hS => ?_)
  refine g_name hP (fun q1 hq1 hP => ?_)
  have hf := bnd_go hq1 hf
  have hok := bnd_goP hq1 hok
  refine lv_aload_n hx hb dX10_crayonOf_5 rfl (lv_at hl 0 rfl) ?_
  refine lv_iload_n hx hb dX10_crayonOf_6 rfl (lv_at hl 1 rfl) ?_
  refine g_cZp (g_runV (i := 196) (As := [.int x1]) (rest := []) X (c_X10_isCrayon l G hG q1 x1) ca_X10_isCrayon km_X10_99 rfl rfl ⟨Nat.le_of_ble_eq_true rfl, Nat.le_of_ble_eq_true rfl⟩ hP hS (ty_lt ab_196) (cell_10 ab_196) rfl rfl rfl hl.1 rfl (Nat.le_of_ble_eq_true rfl) ⟨Nat.le_of_ble_eq_true rfl, Nat.le_of_ble_eq_true rfl⟩ dX10_crayonOf_7) hS (fun H locs hP hS => ?_)
  refine g_ifeqZ (tgt := 22) X dX10_crayonOf_10 (by decide) (fun hc => ?_) (fun hc => ?_)
  · have hf := ite_z hc hf
    refine lv_aload_n hx hb dX10_crayonOf_22 rfl (lv_at hl 0 rfl) ?_
    refine lv_iconst (v := 1) hx hb dX10_crayonOf_23 (by decide) ?_
    refine g_cI (g_runV (i := 196) (As := [.int (1 : Int32)]) (rest := []) X (c_X10_fails l G hG q1 (1 : Int32)) ca_X10_fails km_X10_59 rfl rfl ⟨Nat.le_of_ble_eq_true rfl, Nat.le_of_ble_eq_true rfl⟩ hP hS (ty_lt ab_196) (cell_10 ab_196) rfl rfl rfl hl.1 rfl (Nat.le_of_ble_eq_true rfl) ⟨Nat.le_of_ble_eq_true rfl, Nat.le_of_ble_eq_true rfl⟩ dX10_crayonOf_24) hS (fun q2 hq2 H locs hP hS => ?_)
    have hf := bnd_go hq2 hf
    refine lv_i2f hx hb dX10_crayonOf_27 ?_
    exact g_fret X hr hlk hP hS hf dX10_crayonOf_28
  · have hf := ite_t hc hf
    have hok := hok.1 hc
    refine lv_aload_n hx hb dX10_crayonOf_13 rfl (lv_at hl 0 rfl) ?_
    refine gg_10_9 X hP ab_196 kf_X10_22 dX10_crayonOf_14 ?_
    refine lv_iload_n hx hb dX10_crayonOf_17 rfl (lv_at hl 1 rfl) ?_
    have hs3 := hok
    refine g_fald X hP ab_201 (by rw [al_201]; exact hs3) dX10_crayonOf_18 ?_
    refine lv_goto (tgt := 28) hx hb dX10_crayonOf_19 (by decide) ?_
    exact g_fret X hr hlk hP hS hf dX10_crayonOf_28
def f_X10_wears (x0 : Int32) : UInt32 := (FP.fmul (1028443341 : UInt32) (FP.i2f x0))
def ok_X10_wears (x0 : Int32) : Prop := vf_n32 (FP.fmul (1028443341 : UInt32) (FP.i2f x0))
abbrev rm_X10_wears : Room := { frames := 0, cells := 0, slots := 0, locals := 0 }
set_option maxHeartbeats 4000000 in
set_option maxRecDepth 100000 in
theorem c_X10_wears (l : Launch) (G : GE) (hG : Gok G) (σ : St) (x0 : Int32) (hok : ok_X10_wears x0) : MtF l G yX10_wears cX10_wears 1 rm_X10_wears [.int x0] σ (σ, f_X10_wears x0) := by
  generalize hf : f_X10_wears x0 = fv
  rw [f_X10_wears] at hf
  rw [ok_X10_wears] at hok
  refine g_start hG (plainFor_of_name (by decide)) (Nat.le_of_ble_eq_true rfl) ?_
  intro p e s m args below meth c X hr hlk ls hl H locs hP hS
  have X : Cx G p s m args c cX10_wears 1 RX10 := X
  obtain ⟨hx, hb, hml, hown, hts, hK, hbs, hXW, -⟩ := id X
  have hl : lv_has ls 1 [(0, .int x0)] := hl
  refine lv_ldcf hx hb hown (hts _ kc_X10_103) dX10_wears_0 ?_
  refine lv_iload_n hx hb dX10_wears_2 rfl (lv_at hl 0 rfl) ?_
  refine lv_i2f hx hb dX10_wears_3 ?_
  have hs1 := hok
  refine lv_fmul hx hb dX10_wears_4 hs1 ?_
  exact g_fret X hr hlk hP hS (congrArg (Prod.mk σ) hf) dX10_wears_5
def f_X10_makes (σ : St) (x1 : Int32) (x2 : Int32) (x3 : Int32) (x4 : Int32) : St × Int32 := (bnd (setI σ 197 (2 : Int32).toNatClampNeg ((σ.1 197 (2 : Int32).toNatClampNeg) + (1 : Int32))) (fun q1 => (bnd (f_X10_sets q1 (σ.1 197 (2 : Int32).toNatClampNeg) (0 : Int32) x1) (fun q3 => (bnd (f_X10_sets q3 (σ.1 197 (2 : Int32).toNatClampNeg) (1 : Int32) x2) (fun q5 => (bnd (f_X10_sets q5 (σ.1 197 (2 : Int32).toNatClampNeg) (2 : Int32) x3) (fun q7 => (bnd (f_X10_sets q7 (σ.1 197 (2 : Int32).toNatClampNeg) (3 : Int32) x4) (fun q9 => (q9, (σ.1 197 (2 : Int32).toNatClampNeg))))))))))))
def ok_X10_makes (σ : St) (x1 : Int32) (x2 : Int32) (x3 : Int32) (x4 : Int32) : Prop := (bndP (setI σ 197 (2 : Int32).toNatClampNeg ((σ.1 197 (2 : Int32).toNatClampNeg) + (1 : Int32))) (fun q1 => (ok_X10_sets q1 (σ.1 197 (2 : Int32).toNatClampNeg) (0 : Int32) x1 ∧ (bndP (f_X10_sets q1 (σ.1 197 (2 : Int32).toNatClampNeg) (0 : Int32) x1) (fun q3 => (ok_X10_sets q3 (σ.1 197 (2 : Int32).toNatClampNeg) (1 : Int32) x2 ∧ (bndP (f_X10_sets q3 (σ.1 197 (2 : Int32).toNatClampNeg) (1 : Int32) x2) (fun q5 => (ok_X10_sets q5 (σ.1 197 (2 : Int32).toNatClampNeg) (2 : Int32) x3 ∧ (bndP (f_X10_sets q5 (σ.1 197 (2 : Int32).toNatClampNeg) (2 : Int32) x3) (fun q7 => ok_X10_sets q7 (σ.1 197 (2 : Int32).toNatClampNeg) (3 : Int32) x4)))))))))))
abbrev rm_X10_makes : Room := { frames := 1, cells := 0, slots := 0, locals := 23 }
set_option maxHeartbeats 4000000 in
set_option maxRecDepth 100000 in
theorem c_X10_makes (l : Launch) (G : GE) (hG : Gok G) (σ : St) (x1 : Int32) (x2 : Int32) (x3 : Int32) (x4 : Int32) (hok : ok_X10_makes σ x1 x2 x3 x4) : MtI l G yX10_makes cX10_makes 6 rm_X10_makes [.ref (G.2.1 196), .int x1, .int x2, .int x3, .int x4] σ (f_X10_makes σ x1 x2 x3 x4) := by
  generalize hf : f_X10_makes σ x1 x2 x3 x4 = fv
  rw [f_X10_makes] at hf
  rw [ok_X10_makes] at hok
  refine g_start hG (plainFor_of_name (by decide)) (Nat.le_of_ble_eq_true rfl) ?_
  intro p e s m args below meth c X hr hlk ls hl H locs hP hS
  have X : Cx G p s m args c cX10_makes 6 RX10 := X
  obtain ⟨hx, hb, hml, hown, hts, hK, hbs, hXW, -⟩ := id X
  have hl : lv_has ls 6 [(0, .ref (G.2.1 196)), (1, .int x1), (2, .int x2), (3, .int x3), (4, .int x4)] := hl
  refine lv_aload_n hx hb dX10_makes_0 rfl (lv_at hl 0 rfl) ?_
  refine gg_10_5 X hP ab_196 kf_X10_7 dX10_makes_1 ?_
  refine lv_iconst (v := 2) hx hb dX10_makes_4 (by decide) ?_
  refine g_iald X hP ab_197 (by rw [al_197]; unfold vp_in; decide) dX10_makes_5 ?_
  refine lv_istore (lv' := [(5, .int (σ.1 197 (2 : Int32).toNatClampNeg)), (0, .ref (G.2.1 196)), (1, .int x1), (2, .int x2), (3, .int x3), (4, .int x4)]) hx hb dX10_makes_6 hl (by decide) rfl (fun ls hl => ?_)
  refine lv_aload_n hx hb dX10_makes_8 rfl (lv_at hl 1 rfl) ?_
  refine gg_10_5 X hP ab_196 kf_X10_7 dX10_makes_9 ?_
  refine lv_iconst (v := 2) hx hb dX10_makes_12 (by decide) ?_
  refine lv_dup2_11 hx hb dX10_makes_13 rfl rfl ?_
  refine g_iald X hP ab_197 (by rw [al_197]; unfold vp_in; decide) dX10_makes_14 ?_
  refine lv_iconst (v := 1) hx hb dX10_makes_15 (by decide) ?_
  refine lv_iadd hx hb dX10_makes_16 ?_
  refine g_iast X hP hS ab_197 (by rw [al_197]; unfold vp_in; decide) dX10_makes_17 (fun H locs hP hS => ?_)
  refine g_name hP (fun q1 hq1 hP => ?_)
  have hf := bnd_go hq1 hf
  have hok := bnd_goP hq1 hok
  refine lv_aload_n hx hb dX10_makes_18 rfl (lv_at hl 1 rfl) ?_
  refine lv_iload hx hb dX10_makes_19 (lv_at hl 0 rfl) ?_
  refine lv_iconst (v := 0) hx hb dX10_makes_21 (by decide) ?_
  refine lv_iload_n hx hb dX10_makes_22 rfl (lv_at hl 2 rfl) ?_
  have hs2 := hok.1
  have hok := hok.2
  refine g_cV (g_runV (i := 196) (As := [.int (σ.1 197 (2 : Int32).toNatClampNeg), .int (0 : Int32), .int x1]) (rest := []) X (c_X10_sets l G hG q1 (σ.1 197 (2 : Int32).toNatClampNeg) (0 : Int32) x1 hs2) ca_X10_sets km_X10_104 rfl rfl ⟨Nat.le_of_ble_eq_true rfl, Nat.le_of_ble_eq_true rfl⟩ hP hS (ty_lt ab_196) (cell_10 ab_196) rfl rfl rfl hl.1 rfl (Nat.le_of_ble_eq_true rfl) ⟨Nat.le_of_ble_eq_true rfl, Nat.le_of_ble_eq_true rfl⟩ dX10_makes_23) hS (fun q3 hq3 H locs hP hS => ?_)
  have hf := bnd_go hq3 hf
  have hok := bnd_goP hq3 hok
  refine lv_aload_n hx hb dX10_makes_26 rfl (lv_at hl 1 rfl) ?_
  refine lv_iload hx hb dX10_makes_27 (lv_at hl 0 rfl) ?_
  refine lv_iconst (v := 1) hx hb dX10_makes_29 (by decide) ?_
  refine lv_iload_n hx hb dX10_makes_30 rfl (lv_at hl 3 rfl) ?_
  have hs4 := hok.1
  have hok := hok.2
  refine g_cV (g_runV (i := 196) (As := [.int (σ.1 197 (2 : Int32).toNatClampNeg), .int (1 : Int32), .int x2]) (rest := []) X (c_X10_sets l G hG q3 (σ.1 197 (2 : Int32).toNatClampNeg) (1 : Int32) x2 hs4) ca_X10_sets km_X10_104 rfl rfl ⟨Nat.le_of_ble_eq_true rfl, Nat.le_of_ble_eq_true rfl⟩ hP hS (ty_lt ab_196) (cell_10 ab_196) rfl rfl rfl hl.1 rfl (Nat.le_of_ble_eq_true rfl) ⟨Nat.le_of_ble_eq_true rfl, Nat.le_of_ble_eq_true rfl⟩ dX10_makes_31) hS (fun q5 hq5 H locs hP hS => ?_)
  have hf := bnd_go hq5 hf
  have hok := bnd_goP hq5 hok
  refine lv_aload_n hx hb dX10_makes_34 rfl (lv_at hl 1 rfl) ?_
  refine lv_iload hx hb dX10_makes_35 (lv_at hl 0 rfl) ?_
  refine lv_iconst (v := 2) hx hb dX10_makes_37 (by decide) ?_
  refine lv_iload_n hx hb dX10_makes_38 rfl (lv_at hl 4 rfl) ?_
  have hs6 := hok.1
  have hok := hok.2
  refine g_cV (g_runV (i := 196) (As := [.int (σ.1 197 (2 : Int32).toNatClampNeg), .int (2 : Int32), .int x3]) (rest := []) X (c_X10_sets l G hG q5 (σ.1 197 (2 : Int32).toNatClampNeg) (2 : Int32) x3 hs6) ca_X10_sets km_X10_104 rfl rfl ⟨Nat.le_of_ble_eq_true rfl, Nat.le_of_ble_eq_true rfl⟩ hP hS (ty_lt ab_196) (cell_10 ab_196) rfl rfl rfl hl.1 rfl (Nat.le_of_ble_eq_true rfl) ⟨Nat.le_of_ble_eq_true rfl, Nat.le_of_ble_eq_true rfl⟩ dX10_makes_39) hS (fun q7 hq7 H locs hP hS => ?_)
  have hf := bnd_go hq7 hf
  have hok := bnd_goP hq7 hok
  refine lv_aload_n hx hb dX10_makes_42 rfl (lv_at hl 1 rfl) ?_
  refine lv_iload hx hb dX10_makes_43 (lv_at hl 0 rfl) ?_
  refine lv_iconst (v := 3) hx hb dX10_makes_45 (by decide) ?_
  refine lv_iload hx hb dX10_makes_46 (lv_at hl 5 rfl) ?_
  have hs8 := hok
  refine g_cV (g_runV (i := 196) (As := [.int (σ.1 197 (2 : Int32).toNatClampNeg), .int (3 : Int32), .int x4]) (rest := []) X (c_X10_sets l G hG q7 (σ.1 197 (2 : Int32).toNatClampNeg) (3 : Int32) x4 hs8) ca_X10_sets km_X10_104 rfl rfl ⟨Nat.le_of_ble_eq_true rfl, Nat.le_of_ble_eq_true rfl⟩ hP hS (ty_lt ab_196) (cell_10 ab_196) rfl rfl rfl hl.1 rfl (Nat.le_of_ble_eq_true rfl) ⟨Nat.le_of_ble_eq_true rfl, Nat.le_of_ble_eq_true rfl⟩ dX10_makes_48) hS (fun q9 hq9 H locs hP hS => ?_)
  have hf := bnd_go hq9 hf
  refine lv_iload hx hb dX10_makes_51 (lv_at hl 0 rfl) ?_
  exact g_iret X hr hlk hP hS hf dX10_makes_53
def f_X10_notLetter (σ : St) (x1 : Int32) (x2 : Int32) (x3 : Int32) (x4 : Int32) : St × Int32 := (if (f_X10_isChild x1) = true then (if (f_X10_isChild x2) = true then (if (f_X10_isCrayon σ x4) = true then (if (f_X10_isBetween x3 (1 : Int32) (40 : Int32)) = true then (if (σ.1 197 (2 : Int32).toNatClampNeg) = (20 : Int32) then (bnd (f_X10_isNot σ (1 : Int32) (20 : Int32)) (fun q5 => (q5.1, q5.2))) else (if x1 = x2 then (bnd (f_X10_isNot σ (2 : Int32) x1) (fun q4 => (q4.1, q4.2))) else (if (Op.cmpValue (FP.fcmp (σ.2.1 201 x4.toNatClampNeg) (f_X10_wears x3)) CmpOp.l) < 0 then (bnd (f_X10_isNot σ (3 : Int32) x4) (fun q3 => (q3.1, q3.2))) else (σ, (0 : Int32))))) else (σ, (2 : Int32))) else (σ, (1 : Int32))) else (σ, (1 : Int32))) else (σ, (1 : Int32)))
def ok_X10_notLetter (σ : St) (x1 : Int32) (x2 : Int32) (x3 : Int32) (x4 : Int32) : Prop := (((f_X10_isChild x1) = true → (((f_X10_isChild x2) = true → (((f_X10_isCrayon σ x4) = true → (((f_X10_isBetween x3 (1 : Int32) (40 : Int32)) = true → (((σ.1 197 (2 : Int32).toNatClampNeg) = (20 : Int32) → True) ∧ (¬ (σ.1 197 (2 : Int32).toNatClampNeg) = (20 : Int32) → ((x1 = x2 → True) ∧ (¬ x1 = x2 → (vp_in x4 36 ∧ ok_X10_wears x3)))))) ∧ ((f_X10_isBetween x3 (1 : Int32) (40 : Int32)) = false → True))) ∧ ((f_X10_isCrayon σ x4) = false → True))) ∧ ((f_X10_isChild x2) = false → True))) ∧ ((f_X10_isChild x1) = false → True))
abbrev rm_X10_notLetter : Room := { frames := 2, cells := 0, slots := 0, locals := 43 }
set_option maxHeartbeats 4000000 in
set_option maxRecDepth 100000 in
theorem c_X10_notLetter (l : Launch) (G : GE) (hG : Gok G) (σ : St) (x1 : Int32) (x2 : Int32) (x3 : Int32) (x4 : Int32) (hok : ok_X10_notLetter σ x1 x2 x3 x4) : MtI l G yX10_notLetter cX10_notLetter 5 rm_X10_notLetter [.ref (G.2.1 196), .int x1, .int x2, .int x3, .int x4] σ (f_X10_notLetter σ x1 x2 x3 x4) := by
  generalize hf : f_X10_notLetter σ x1 x2 x3 x4 = fv
  rw [f_X10_notLetter] at hf
  rw [ok_X10_notLetter] at hok
  refine g_start hG (plainFor_of_name (by decide)) (Nat.le_of_ble_eq_true rfl) ?_
  intro p e s m args below meth c X hr hlk ls hl H locs hP hS
  have X : Cx G p s m args c cX10_notLetter 5 RX10 := X
  obtain ⟨hx, hb, hml, hown, hts, hK, hbs, hXW, -⟩ := id X
  have hl : lv_has ls 5 [(0, .ref (G.2.1 196)), (1, .int x1), (2, .int x2), (3, .int x3), (4, .int x4)] := hl
  refine lv_iload_n hx hb dX10_notLetter_0 rfl (lv_at hl 1 rfl) ?_
  refine g_cZp (g_runS (As := [.int x1]) (rest := []) X (c_X10_isChild l G hG σ x1) ca_X10_isChild km_X10_108 rfl rfl ⟨Nat.le_of_ble_eq_true rfl, Nat.le_of_ble_eq_true rfl⟩ hP hS rfl hl.1 rfl (Nat.le_of_ble_eq_true rfl) ⟨Nat.le_of_ble_eq_true rfl, Nat.le_of_ble_eq_true rfl⟩ dX10_notLetter_1) hS (fun H locs hP hS => ?_)
  refine g_ifeqZ (tgt := 23) X dX10_notLetter_4 (by decide) (fun hc => ?_) (fun hc => ?_)
  · have hf := ite_z hc hf
    refine lv_iconst (v := 1) hx hb dX10_notLetter_23 (by decide) ?_
    exact g_iret X hr hlk hP hS hf dX10_notLetter_24
  · have hf := ite_t hc hf
    have hok := hok.1 hc
    refine lv_iload_n hx hb dX10_notLetter_7 rfl (lv_at hl 2 rfl) ?_
    refine g_cZp (g_runS (As := [.int x2]) (rest := []) X (c_X10_isChild l G hG σ x2) ca_X10_isChild km_X10_108 rfl rfl ⟨Nat.le_of_ble_eq_true rfl, Nat.le_of_ble_eq_true rfl⟩ hP hS rfl hl.1 rfl (Nat.le_of_ble_eq_true rfl) ⟨Nat.le_of_ble_eq_true rfl, Nat.le_of_ble_eq_true rfl⟩ dX10_notLetter_8) hS (fun H locs hP hS => ?_)
    refine g_ifeqZ (tgt := 23) X dX10_notLetter_11 (by decide) (fun hc => ?_) (fun hc => ?_)
    · have hf := ite_z hc hf
      refine lv_iconst (v := 1) hx hb dX10_notLetter_23 (by decide) ?_
      exact g_iret X hr hlk hP hS hf dX10_notLetter_24
    · have hf := ite_t hc hf
      have hok := hok.1 hc
      refine lv_aload_n hx hb dX10_notLetter_14 rfl (lv_at hl 0 rfl) ?_
      refine lv_iload hx hb dX10_notLetter_15 (lv_at hl 4 rfl) ?_
      refine g_cZp (g_runV (i := 196) (As := [.int x4]) (rest := []) X (c_X10_isCrayon l G hG σ x4) ca_X10_isCrayon km_X10_99 rfl rfl ⟨Nat.le_of_ble_eq_true rfl, Nat.le_of_ble_eq_true rfl⟩ hP hS (ty_lt ab_196) (cell_10 ab_196) rfl rfl rfl hl.1 rfl (Nat.le_of_ble_eq_true rfl) ⟨Nat.le_of_ble_eq_true rfl, Nat.le_of_ble_eq_true rfl⟩ dX10_notLetter_17) hS (fun H locs hP hS => ?_)
      refine g_ifneZ (tgt := 25) X dX10_notLetter_20 (by decide) (fun hc => ?_) (fun hc => ?_)
      · have hf := ite_t hc hf
        have hok := hok.1 hc
        refine lv_iload_n hx hb dX10_notLetter_25 rfl (lv_at hl 3 rfl) ?_
        refine lv_iconst (v := 1) hx hb dX10_notLetter_26 (by decide) ?_
        refine lv_bipush (v := 40) hx hb dX10_notLetter_27 (by decide) ?_
        refine g_cZp (g_runS (As := [.int x3, .int (1 : Int32), .int (40 : Int32)]) (rest := []) X (c_X10_isBetween l G hG σ x3 (1 : Int32) (40 : Int32)) ca_X10_isBetween km_X10_81 rfl rfl ⟨Nat.le_of_ble_eq_true rfl, Nat.le_of_ble_eq_true rfl⟩ hP hS rfl hl.1 rfl (Nat.le_of_ble_eq_true rfl) ⟨Nat.le_of_ble_eq_true rfl, Nat.le_of_ble_eq_true rfl⟩ dX10_notLetter_29) hS (fun H locs hP hS => ?_)
        refine g_ifneZ (tgt := 37) X dX10_notLetter_32 (by decide) (fun hc => ?_) (fun hc => ?_)
        · have hf := ite_t hc hf
          have hok := hok.1 hc
          refine lv_aload_n hx hb dX10_notLetter_37 rfl (lv_at hl 0 rfl) ?_
          refine gg_10_5 X hP ab_196 kf_X10_7 dX10_notLetter_38 ?_
          refine lv_iconst (v := 2) hx hb dX10_notLetter_41 (by decide) ?_
          refine g_iald X hP ab_197 (by rw [al_197]; unfold vp_in; decide) dX10_notLetter_42 ?_
          refine lv_bipush (v := 20) hx hb dX10_notLetter_43 (by decide) ?_
          refine lv_icmp_ne (tgt := 56) hx hb dX10_notLetter_45 (by decide) (fun hc => ?_) (fun hc => ?_)
          · have hf := ite_f hc hf
            have hok := hok.2 hc
            refine lv_iload_n hx hb dX10_notLetter_56 rfl (lv_at hl 1 rfl) ?_
            refine lv_iload_n hx hb dX10_notLetter_57 rfl (lv_at hl 2 rfl) ?_
            refine lv_icmp_ne (tgt := 68) hx hb dX10_notLetter_58 (by decide) (fun hc => ?_) (fun hc => ?_)
            · have hf := ite_f hc hf
              have hok := hok.2 hc
              refine lv_aload_n hx hb dX10_notLetter_68 rfl (lv_at hl 0 rfl) ?_
              refine gg_10_9 X hP ab_196 kf_X10_22 dX10_notLetter_69 ?_
              refine lv_iload hx hb dX10_notLetter_72 (lv_at hl 4 rfl) ?_
              have hs1 := hok.1
              have hok := hok.2
              refine g_fald X hP ab_201 (by rw [al_201]; exact hs1) dX10_notLetter_74 ?_
              refine lv_iload_n hx hb dX10_notLetter_75 rfl (lv_at hl 3 rfl) ?_
              have hs2 := hok
              refine g_cFp (g_runS (As := [.int x3]) (rest := [.float (σ.2.1 201 x4.toNatClampNeg)]) X (c_X10_wears l G hG σ x3 hs2) ca_X10_wears km_X10_111 rfl rfl ⟨Nat.le_of_ble_eq_true rfl, Nat.le_of_ble_eq_true rfl⟩ hP hS rfl hl.1 rfl (Nat.le_of_ble_eq_true rfl) ⟨Nat.le_of_ble_eq_true rfl, Nat.le_of_ble_eq_true rfl⟩ dX10_notLetter_76) hS (fun H locs hP hS => ?_)
              refine lv_fcmp hx hb dX10_notLetter_79 ?_
              refine lv_if_lt (tgt := 87) hx hb dX10_notLetter_80 (by decide) (fun hc => ?_) (fun hc => ?_)
              · have hf := ite_t hc hf
                refine lv_aload_n hx hb dX10_notLetter_87 rfl (lv_at hl 0 rfl) ?_
                refine lv_iconst (v := 3) hx hb dX10_notLetter_88 (by decide) ?_
                refine lv_iload hx hb dX10_notLetter_89 (lv_at hl 4 rfl) ?_
                refine g_cI (g_runV (i := 196) (As := [.int (3 : Int32), .int x4]) (rest := []) X (c_X10_isNot l G hG σ (3 : Int32) x4) ca_X10_isNot km_X10_89 rfl rfl ⟨Nat.le_of_ble_eq_true rfl, Nat.le_of_ble_eq_true rfl⟩ hP hS (ty_lt ab_196) (cell_10 ab_196) rfl rfl rfl hl.1 rfl (Nat.le_of_ble_eq_true rfl) ⟨Nat.le_of_ble_eq_true rfl, Nat.le_of_ble_eq_true rfl⟩ dX10_notLetter_91) hS (fun q3 hq3 H locs hP hS => ?_)
                have hf := bnd_go hq3 hf
                exact g_iret X hr hlk hP hS hf dX10_notLetter_94
              · have hf := ite_f hc hf
                refine lv_iconst (v := 0) hx hb dX10_notLetter_83 (by decide) ?_
                refine lv_goto (tgt := 94) hx hb dX10_notLetter_84 (by decide) ?_
                exact g_iret X hr hlk hP hS hf dX10_notLetter_94
            · have hf := ite_t hc hf
              refine lv_aload_n hx hb dX10_notLetter_61 rfl (lv_at hl 0 rfl) ?_
              refine lv_iconst (v := 2) hx hb dX10_notLetter_62 (by decide) ?_
              refine lv_iload_n hx hb dX10_notLetter_63 rfl (lv_at hl 1 rfl) ?_
              refine g_cI (g_runV (i := 196) (As := [.int (2 : Int32), .int x1]) (rest := []) X (c_X10_isNot l G hG σ (2 : Int32) x1) ca_X10_isNot km_X10_89 rfl rfl ⟨Nat.le_of_ble_eq_true rfl, Nat.le_of_ble_eq_true rfl⟩ hP hS (ty_lt ab_196) (cell_10 ab_196) rfl rfl rfl hl.1 rfl (Nat.le_of_ble_eq_true rfl) ⟨Nat.le_of_ble_eq_true rfl, Nat.le_of_ble_eq_true rfl⟩ dX10_notLetter_64) hS (fun q4 hq4 H locs hP hS => ?_)
              have hf := bnd_go hq4 hf
              exact g_iret X hr hlk hP hS hf dX10_notLetter_67
          · have hf := ite_t hc hf
            refine lv_aload_n hx hb dX10_notLetter_48 rfl (lv_at hl 0 rfl) ?_
            refine lv_iconst (v := 1) hx hb dX10_notLetter_49 (by decide) ?_
            refine lv_bipush (v := 20) hx hb dX10_notLetter_50 (by decide) ?_
            refine g_cI (g_runV (i := 196) (As := [.int (1 : Int32), .int (20 : Int32)]) (rest := []) X (c_X10_isNot l G hG σ (1 : Int32) (20 : Int32)) ca_X10_isNot km_X10_89 rfl rfl ⟨Nat.le_of_ble_eq_true rfl, Nat.le_of_ble_eq_true rfl⟩ hP hS (ty_lt ab_196) (cell_10 ab_196) rfl rfl rfl hl.1 rfl (Nat.le_of_ble_eq_true rfl) ⟨Nat.le_of_ble_eq_true rfl, Nat.le_of_ble_eq_true rfl⟩ dX10_notLetter_52) hS (fun q5 hq5 H locs hP hS => ?_)
            have hf := bnd_go hq5 hf
            exact g_iret X hr hlk hP hS hf dX10_notLetter_55
        · have hf := ite_z hc hf
          refine lv_iconst (v := 2) hx hb dX10_notLetter_35 (by decide) ?_
          exact g_iret X hr hlk hP hS hf dX10_notLetter_36
      · have hf := ite_z hc hf
        refine lv_iconst (v := 1) hx hb dX10_notLetter_23 (by decide) ?_
        exact g_iret X hr hlk hP hS hf dX10_notLetter_24
def f_X10_writes (σ : St) (x1 : Int32) (x2 : Int32) (x3 : Int32) (x4 : Int32) : St × Int32 := (bnd (setF σ 201 x4.toNatClampNeg (FP.fsub (σ.2.1 201 x4.toNatClampNeg) (f_X10_wears x3))) (fun q5 => (bnd (f_X10_makes q5 (0 : Int32) x1 x2 x3) (fun q7 => (bnd (setF q7.1 201 ((16 : Int32) + q7.2).toNatClampNeg (FP.fdiv (FP.fadd (q7.1.2.1 201 x4.toNatClampNeg) FP.fconst1) (FP.fadd (FP.fadd (q7.1.2.1 201 x4.toNatClampNeg) FP.fconst1) (FP.fmul (1036831949 : UInt32) (FP.i2f x3))))) (fun q14 => (q14, q7.2)))))))
def ok_X10_writes (σ : St) (x1 : Int32) (x2 : Int32) (x3 : Int32) (x4 : Int32) : Prop := (vp_in x4 36 ∧ (ok_X10_wears x3 ∧ (vf_n32 (FP.fsub (σ.2.1 201 x4.toNatClampNeg) (f_X10_wears x3)) ∧ (vp_in x4 36 ∧ (bndP (setF σ 201 x4.toNatClampNeg (FP.fsub (σ.2.1 201 x4.toNatClampNeg) (f_X10_wears x3))) (fun q5 => (ok_X10_makes q5 (0 : Int32) x1 x2 x3 ∧ (bndP (f_X10_makes q5 (0 : Int32) x1 x2 x3) (fun q7 => (vp_in x4 36 ∧ (vf_n32 (FP.fadd (q7.1.2.1 201 x4.toNatClampNeg) FP.fconst1) ∧ (vf_n32 (FP.fmul (1036831949 : UInt32) (FP.i2f x3)) ∧ (vf_n32 (FP.fadd (FP.fadd (q7.1.2.1 201 x4.toNatClampNeg) FP.fconst1) (FP.fmul (1036831949 : UInt32) (FP.i2f x3))) ∧ (vf_n32 (FP.fdiv (FP.fadd (q7.1.2.1 201 x4.toNatClampNeg) FP.fconst1) (FP.fadd (FP.fadd (q7.1.2.1 201 x4.toNatClampNeg) FP.fconst1) (FP.fmul (1036831949 : UInt32) (FP.i2f x3)))) ∧ vp_in ((16 : Int32) + q7.2) 36))))))))))))))
abbrev rm_X10_writes : Room := { frames := 2, cells := 0, slots := 0, locals := 48 }
set_option maxHeartbeats 4000000 in
set_option maxRecDepth 100000 in
theorem c_X10_writes (l : Launch) (G : GE) (hG : Gok G) (σ : St) (x1 : Int32) (x2 : Int32) (x3 : Int32) (x4 : Int32) (hok : ok_X10_writes σ x1 x2 x3 x4) : MtI l G yX10_writes cX10_writes 7 rm_X10_writes [.ref (G.2.1 196), .int x1, .int x2, .int x3, .int x4] σ (f_X10_writes σ x1 x2 x3 x4) := by
  generalize hf : f_X10_writes σ x1 x2 x3 x4 = fv
  rw [f_X10_writes] at hf
  rw [ok_X10_writes] at hok
  refine g_start hG (plainFor_of_name (by decide)) (Nat.le_of_ble_eq_true rfl) ?_
  intro p e s m args below meth c X hr hlk ls hl H locs hP hS
  have X : Cx G p s m args c cX10_writes 7 RX10 := X
  obtain ⟨hx, hb, hml, hown, hts, hK, hbs, hXW, -⟩ := id X
  have hl : lv_has ls 7 [(0, .ref (G.2.1 196)), (1, .int x1), (2, .int x2), (3, .int x3), (4, .int x4)] := hl
  refine lv_aload_n hx hb dX10_writes_0 rfl (lv_at hl 0 rfl) ?_
  refine gg_10_9 X hP ab_196 kf_X10_22 dX10_writes_1 ?_
  refine lv_iload hx hb dX10_writes_4 (lv_at hl 4 rfl) ?_
  refine lv_aload_n hx hb dX10_writes_6 rfl (lv_at hl 0 rfl) ?_
  refine gg_10_9 X hP ab_196 kf_X10_22 dX10_writes_7 ?_
  refine lv_iload hx hb dX10_writes_10 (lv_at hl 4 rfl) ?_
  have hs1 := hok.1
  have hok := hok.2
  refine g_fald X hP ab_201 (by rw [al_201]; exact hs1) dX10_writes_12 ?_
  refine lv_iload_n hx hb dX10_writes_13 rfl (lv_at hl 3 rfl) ?_
  have hs2 := hok.1
  have hok := hok.2
  refine g_cFp (g_runS (As := [.int x3]) (rest := [.float (σ.2.1 201 x4.toNatClampNeg), .int x4, .ref (G.2.1 201)]) X (c_X10_wears l G hG σ x3 hs2) ca_X10_wears km_X10_111 rfl rfl ⟨Nat.le_of_ble_eq_true rfl, Nat.le_of_ble_eq_true rfl⟩ hP hS rfl hl.1 rfl (Nat.le_of_ble_eq_true rfl) ⟨Nat.le_of_ble_eq_true rfl, Nat.le_of_ble_eq_true rfl⟩ dX10_writes_14) hS (fun H locs hP hS => ?_)
  have hs3 := hok.1
  have hok := hok.2
  refine lv_fsub hx hb dX10_writes_17 hs3 ?_
  have hs4 := hok.1
  have hok := hok.2
  refine g_fast X hP hS ab_201 (by rw [al_201]; exact hs4) dX10_writes_18 (fun H locs hP hS => ?_)
  refine g_name hP (fun q5 hq5 hP => ?_)
  have hf := bnd_go hq5 hf
  have hok := bnd_goP hq5 hok
  refine lv_aload_n hx hb dX10_writes_19 rfl (lv_at hl 0 rfl) ?_
  refine lv_iconst (v := 0) hx hb dX10_writes_20 (by decide) ?_
  refine lv_iload_n hx hb dX10_writes_21 rfl (lv_at hl 1 rfl) ?_
  refine lv_iload_n hx hb dX10_writes_22 rfl (lv_at hl 2 rfl) ?_
  refine lv_iload_n hx hb dX10_writes_23 rfl (lv_at hl 3 rfl) ?_
  have hs6 := hok.1
  have hok := hok.2
  refine g_cI (g_runV (i := 196) (As := [.int (0 : Int32), .int x1, .int x2, .int x3]) (rest := []) X (c_X10_makes l G hG q5 (0 : Int32) x1 x2 x3 hs6) ca_X10_makes km_X10_115 rfl rfl ⟨Nat.le_of_ble_eq_true rfl, Nat.le_of_ble_eq_true rfl⟩ hP hS (ty_lt ab_196) (cell_10 ab_196) rfl rfl rfl hl.1 rfl (Nat.le_of_ble_eq_true rfl) ⟨Nat.le_of_ble_eq_true rfl, Nat.le_of_ble_eq_true rfl⟩ dX10_writes_24) hS (fun q7 hq7 H locs hP hS => ?_)
  have hf := bnd_go hq7 hf
  have hok := bnd_goP hq7 hok
  refine lv_istore (lv' := [(5, .int q7.2), (0, .ref (G.2.1 196)), (1, .int x1), (2, .int x2), (3, .int x3), (4, .int x4)]) hx hb dX10_writes_27 hl (by decide) rfl (fun ls hl => ?_)
  refine lv_aload_n hx hb dX10_writes_29 rfl (lv_at hl 1 rfl) ?_
  refine gg_10_9 X hP ab_196 kf_X10_22 dX10_writes_30 ?_
  refine lv_iload hx hb dX10_writes_33 (lv_at hl 5 rfl) ?_
  have hs8 := hok.1
  have hok := hok.2
  refine g_fald X hP ab_201 (by rw [al_201]; exact hs8) dX10_writes_35 ?_
  refine lv_fconst1 hx hb dX10_writes_36 ?_
  have hs9 := hok.1
  have hok := hok.2
  refine lv_fadd hx hb dX10_writes_37 hs9 ?_
  refine lv_fstore (lv' := [(6, .float (FP.fadd (q7.1.2.1 201 x4.toNatClampNeg) FP.fconst1)), (5, .int q7.2), (0, .ref (G.2.1 196)), (1, .int x1), (2, .int x2), (3, .int x3), (4, .int x4)]) hx hb dX10_writes_38 hl (by decide) rfl (fun ls hl => ?_)
  refine lv_aload_n hx hb dX10_writes_40 rfl (lv_at hl 2 rfl) ?_
  refine gg_10_9 X hP ab_196 kf_X10_22 dX10_writes_41 ?_
  refine lv_bipush (v := 16) hx hb dX10_writes_44 (by decide) ?_
  refine lv_iload hx hb dX10_writes_46 (lv_at hl 1 rfl) ?_
  refine lv_iadd hx hb dX10_writes_48 ?_
  refine lv_fload hx hb dX10_writes_49 (lv_at hl 0 rfl) ?_
  refine lv_fload hx hb dX10_writes_51 (lv_at hl 0 rfl) ?_
  refine lv_ldcf hx hb hown (hts _ kc_X10_98) dX10_writes_53 ?_
  refine lv_iload_n hx hb dX10_writes_55 rfl (lv_at hl 5 rfl) ?_
  refine lv_i2f hx hb dX10_writes_56 ?_
  have hs10 := hok.1
  have hok := hok.2
  refine lv_fmul hx hb dX10_writes_57 hs10 ?_
  have hs11 := hok.1
  have hok := hok.2
  refine lv_fadd hx hb dX10_writes_58 hs11 ?_
  have hs12 := hok.1
  have hok := hok.2
  refine lv_fdiv hx hb dX10_writes_59 hs12 ?_
  have hs13 := hok
  refine g_fast X hP hS ab_201 (by rw [al_201]; exact hs13) dX10_writes_60 (fun H locs hP hS => ?_)
  refine g_name hP (fun q14 hq14 hP => ?_)
  have hf := bnd_go hq14 hf
  refine lv_iload hx hb dX10_writes_61 (lv_at hl 1 rfl) ?_
  exact g_iret X hr hlk hP hS hf dX10_writes_63
def f_X10_letter (σ : St) (x1 : Int32) (x2 : Int32) (x3 : Int32) (x4 : Int32) : St × Int32 := (bnd (setI σ 196 0 (0 : Int32)) (fun q1 => (bnd (f_X10_notLetter q1 x1 x2 x3 x4) (fun q3 => (if q3.2 = 0 then (bnd (f_X10_remembers q3.1) (fun q5 => (bnd (f_X10_writes q5 x1 x2 x3 x4) (fun q7 => (q7.1, q7.2))))) else (bnd (f_X10_refuses q3.1 q3.2 (3 : Int32)) (fun q8 => (q8.1, q8.2))))))))
def ok_X10_letter (σ : St) (x1 : Int32) (x2 : Int32) (x3 : Int32) (x4 : Int32) : Prop := (bndP (setI σ 196 0 (0 : Int32)) (fun q1 => (ok_X10_notLetter q1 x1 x2 x3 x4 ∧ (bndP (f_X10_notLetter q1 x1 x2 x3 x4) (fun q3 => ((q3.2 = 0 → (ok_X10_remembers q3.1 ∧ (bndP (f_X10_remembers q3.1) (fun q5 => ok_X10_writes q5 x1 x2 x3 x4)))) ∧ (¬ q3.2 = 0 → True)))))))
abbrev rm_X10_letter : Room := { frames := 3, cells := 0, slots := 0, locals := 74 }
set_option maxHeartbeats 4000000 in
set_option maxRecDepth 100000 in
theorem c_X10_letter (l : Launch) (G : GE) (hG : Gok G) (σ : St) (x1 : Int32) (x2 : Int32) (x3 : Int32) (x4 : Int32) (hok : ok_X10_letter σ x1 x2 x3 x4) : MtI l G yX10_letter cX10_letter 6 rm_X10_letter [.ref (G.2.1 196), .int x1, .int x2, .int x3, .int x4] σ (f_X10_letter σ x1 x2 x3 x4) := by
  generalize hf : f_X10_letter σ x1 x2 x3 x4 = fv
  rw [f_X10_letter] at hf
  rw [ok_X10_letter] at hok
  refine g_start hG (plainFor_of_name (by decide)) (Nat.le_of_ble_eq_true rfl) ?_
  intro p e s m args below meth c X hr hlk ls hl H locs hP hS
  have X : Cx G p s m args c cX10_letter 6 RX10 := X
  obtain ⟨hx, hb, hml, hown, hts, hK, hbs, hXW, -⟩ := id X
  have hl : lv_has ls 6 [(0, .ref (G.2.1 196)), (1, .int x1), (2, .int x2), (3, .int x3), (4, .int x4)] := hl
  refine lv_aload_n hx hb dX10_letter_0 rfl (lv_at hl 0 rfl) ?_
  refine lv_iconst (v := 0) hx hb dX10_letter_1 (by decide) ?_
  refine gp_10_0 X hP hS ab_196 kf_X10_50 dX10_letter_2 (fun H locs hP hS => ?_)
  refine g_name hP (fun q1 hq1 hP => ?_)
  have hf := bnd_go hq1 hf
  have hok := bnd_goP hq1 hok
  refine lv_aload_n hx hb dX10_letter_5 rfl (lv_at hl 0 rfl) ?_
  refine lv_iload_n hx hb dX10_letter_6 rfl (lv_at hl 1 rfl) ?_
  refine lv_iload_n hx hb dX10_letter_7 rfl (lv_at hl 2 rfl) ?_
  refine lv_iload_n hx hb dX10_letter_8 rfl (lv_at hl 3 rfl) ?_
  refine lv_iload hx hb dX10_letter_9 (lv_at hl 4 rfl) ?_
  have hs2 := hok.1
  have hok := hok.2
  refine g_cI (g_runV (i := 196) (As := [.int x1, .int x2, .int x3, .int x4]) (rest := []) X (c_X10_notLetter l G hG q1 x1 x2 x3 x4 hs2) ca_X10_notLetter km_X10_119 rfl rfl ⟨Nat.le_of_ble_eq_true rfl, Nat.le_of_ble_eq_true rfl⟩ hP hS (ty_lt ab_196) (cell_10 ab_196) rfl rfl rfl hl.1 rfl (Nat.le_of_ble_eq_true rfl) ⟨Nat.le_of_ble_eq_true rfl, Nat.le_of_ble_eq_true rfl⟩ dX10_letter_11) hS (fun q3 hq3 H locs hP hS => ?_)
  have hf := bnd_go hq3 hf
  have hok := bnd_goP hq3 hok
  refine lv_istore (lv' := [(5, .int q3.2), (0, .ref (G.2.1 196)), (1, .int x1), (2, .int x2), (3, .int x3), (4, .int x4)]) hx hb dX10_letter_14 hl (by decide) rfl (fun ls hl => ?_)
  refine lv_iload hx hb dX10_letter_16 (lv_at hl 0 rfl) ?_
  refine lv_if_eq (tgt := 29) hx hb dX10_letter_18 (by decide) (fun hc => ?_) (fun hc => ?_)
  · have hf := ite_t hc hf
    have hok := hok.1 hc
    refine lv_aload_n hx hb dX10_letter_29 rfl (lv_at hl 1 rfl) ?_
    have hs4 := hok.1
    have hok := hok.2
    refine g_cV (g_runV (i := 196) (As := []) (rest := []) X (c_X10_remembers l G hG q3.1 hs4) ca_X10_remembers km_X10_95 rfl rfl ⟨Nat.le_of_ble_eq_true rfl, Nat.le_of_ble_eq_true rfl⟩ hP hS (ty_lt ab_196) (cell_10 ab_196) rfl rfl rfl hl.1 rfl (Nat.le_of_ble_eq_true rfl) ⟨Nat.le_of_ble_eq_true rfl, Nat.le_of_ble_eq_true rfl⟩ dX10_letter_30) hS (fun q5 hq5 H locs hP hS => ?_)
    have hf := bnd_go hq5 hf
    have hok := bnd_goP hq5 hok
    refine lv_aload_n hx hb dX10_letter_33 rfl (lv_at hl 1 rfl) ?_
    refine lv_iload_n hx hb dX10_letter_34 rfl (lv_at hl 2 rfl) ?_
    refine lv_iload_n hx hb dX10_letter_35 rfl (lv_at hl 3 rfl) ?_
    refine lv_iload_n hx hb dX10_letter_36 rfl (lv_at hl 4 rfl) ?_
    refine lv_iload hx hb dX10_letter_37 (lv_at hl 5 rfl) ?_
    have hs6 := hok
    refine g_cI (g_runV (i := 196) (As := [.int x1, .int x2, .int x3, .int x4]) (rest := []) X (c_X10_writes l G hG q5 x1 x2 x3 x4 hs6) ca_X10_writes km_X10_122 rfl rfl ⟨Nat.le_of_ble_eq_true rfl, Nat.le_of_ble_eq_true rfl⟩ hP hS (ty_lt ab_196) (cell_10 ab_196) rfl rfl rfl hl.1 rfl (Nat.le_of_ble_eq_true rfl) ⟨Nat.le_of_ble_eq_true rfl, Nat.le_of_ble_eq_true rfl⟩ dX10_letter_39) hS (fun q7 hq7 H locs hP hS => ?_)
    have hf := bnd_go hq7 hf
    exact g_iret X hr hlk hP hS hf dX10_letter_42
  · have hf := ite_f hc hf
    refine lv_aload_n hx hb dX10_letter_21 rfl (lv_at hl 1 rfl) ?_
    refine lv_iload hx hb dX10_letter_22 (lv_at hl 0 rfl) ?_
    refine lv_iconst (v := 3) hx hb dX10_letter_24 (by decide) ?_
    refine g_cI (g_runV (i := 196) (As := [.int q3.2, .int (3 : Int32)]) (rest := []) X (c_X10_refuses l G hG q3.1 q3.2 (3 : Int32)) ca_X10_refuses km_X10_92 rfl rfl ⟨Nat.le_of_ble_eq_true rfl, Nat.le_of_ble_eq_true rfl⟩ hP hS (ty_lt ab_196) (cell_10 ab_196) rfl rfl rfl hl.1 rfl (Nat.le_of_ble_eq_true rfl) ⟨Nat.le_of_ble_eq_true rfl, Nat.le_of_ble_eq_true rfl⟩ dX10_letter_25) hS (fun q8 hq8 H locs hP hS => ?_)
    have hf := bnd_go hq8 hf
    exact g_iret X hr hlk hP hS hf dX10_letter_28
def f_X10_areSides (x0 : Int32) (x1 : Int32) (x2 : Int32) : Bool := (if (f_X10_isBetween x0 (1 : Int32) (9 : Int32)) = true then (if (f_X10_isBetween x1 (1 : Int32) (9 : Int32)) = true then (if (f_X10_isBetween x2 (1 : Int32) (9 : Int32)) = true then true else false) else false) else false)
abbrev rm_X10_areSides : Room := { frames := 1, cells := 0, slots := 0, locals := 22 }
set_option maxHeartbeats 4000000 in
set_option maxRecDepth 100000 in
theorem c_X10_areSides (l : Launch) (G : GE) (hG : Gok G) (σ : St) (x0 : Int32) (x1 : Int32) (x2 : Int32) : MtZ l G yX10_areSides cX10_areSides 3 rm_X10_areSides [.int x0, .int x1, .int x2] σ (σ, f_X10_areSides x0 x1 x2) := by
  generalize hf : f_X10_areSides x0 x1 x2 = fv
  rw [f_X10_areSides] at hf
  refine g_start hG (plainFor_of_name (by decide)) (Nat.le_of_ble_eq_true rfl) ?_
  intro p e s m args below meth c X hr hlk ls hl H locs hP hS
  have X : Cx G p s m args c cX10_areSides 3 RX10 := X
  obtain ⟨hx, hb, hml, hown, hts, hK, hbs, hXW, -⟩ := id X
  have hl : lv_has ls 3 [(0, .int x0), (1, .int x1), (2, .int x2)] := hl
  refine lv_iload_n hx hb dX10_areSides_0 rfl (lv_at hl 0 rfl) ?_
  refine lv_iconst (v := 1) hx hb dX10_areSides_1 (by decide) ?_
  refine lv_bipush (v := 9) hx hb dX10_areSides_2 (by decide) ?_
  refine g_cZp (g_runS (As := [.int x0, .int (1 : Int32), .int (9 : Int32)]) (rest := []) X (c_X10_isBetween l G hG σ x0 (1 : Int32) (9 : Int32)) ca_X10_isBetween km_X10_81 rfl rfl ⟨Nat.le_of_ble_eq_true rfl, Nat.le_of_ble_eq_true rfl⟩ hP hS rfl hl.1 rfl (Nat.le_of_ble_eq_true rfl) ⟨Nat.le_of_ble_eq_true rfl, Nat.le_of_ble_eq_true rfl⟩ dX10_areSides_4) hS (fun H locs hP hS => ?_)
  refine g_ifeqZ (tgt := 34) X dX10_areSides_7 (by decide) (fun hc => ?_) (fun hc => ?_)
  · have hf := ite_z hc hf
    refine lv_iconst (v := 0) hx hb dX10_areSides_34 (by decide) ?_
    exact g_zret (b := false) X hr hlk rfl hP hS (congrArg (Prod.mk σ) hf) dX10_areSides_35
  · have hf := ite_t hc hf
    refine lv_iload_n hx hb dX10_areSides_10 rfl (lv_at hl 1 rfl) ?_
    refine lv_iconst (v := 1) hx hb dX10_areSides_11 (by decide) ?_
    refine lv_bipush (v := 9) hx hb dX10_areSides_12 (by decide) ?_
    refine g_cZp (g_runS (As := [.int x1, .int (1 : Int32), .int (9 : Int32)]) (rest := []) X (c_X10_isBetween l G hG σ x1 (1 : Int32) (9 : Int32)) ca_X10_isBetween km_X10_81 rfl rfl ⟨Nat.le_of_ble_eq_true rfl, Nat.le_of_ble_eq_true rfl⟩ hP hS rfl hl.1 rfl (Nat.le_of_ble_eq_true rfl) ⟨Nat.le_of_ble_eq_true rfl, Nat.le_of_ble_eq_true rfl⟩ dX10_areSides_14) hS (fun H locs hP hS => ?_)
    refine g_ifeqZ (tgt := 34) X dX10_areSides_17 (by decide) (fun hc => ?_) (fun hc => ?_)
    · have hf := ite_z hc hf
      refine lv_iconst (v := 0) hx hb dX10_areSides_34 (by decide) ?_
      exact g_zret (b := false) X hr hlk rfl hP hS (congrArg (Prod.mk σ) hf) dX10_areSides_35
    · have hf := ite_t hc hf
      refine lv_iload_n hx hb dX10_areSides_20 rfl (lv_at hl 2 rfl) ?_
      refine lv_iconst (v := 1) hx hb dX10_areSides_21 (by decide) ?_
      refine lv_bipush (v := 9) hx hb dX10_areSides_22 (by decide) ?_
      refine g_cZp (g_runS (As := [.int x2, .int (1 : Int32), .int (9 : Int32)]) (rest := []) X (c_X10_isBetween l G hG σ x2 (1 : Int32) (9 : Int32)) ca_X10_isBetween km_X10_81 rfl rfl ⟨Nat.le_of_ble_eq_true rfl, Nat.le_of_ble_eq_true rfl⟩ hP hS rfl hl.1 rfl (Nat.le_of_ble_eq_true rfl) ⟨Nat.le_of_ble_eq_true rfl, Nat.le_of_ble_eq_true rfl⟩ dX10_areSides_24) hS (fun H locs hP hS => ?_)
      refine g_ifeqZ (tgt := 34) X dX10_areSides_27 (by decide) (fun hc => ?_) (fun hc => ?_)
      · have hf := ite_z hc hf
        refine lv_iconst (v := 0) hx hb dX10_areSides_34 (by decide) ?_
        exact g_zret (b := false) X hr hlk rfl hP hS (congrArg (Prod.mk σ) hf) dX10_areSides_35
      · have hf := ite_t hc hf
        refine lv_iconst (v := 1) hx hb dX10_areSides_30 (by decide) ?_
        refine lv_goto (tgt := 35) hx hb dX10_areSides_31 (by decide) ?_
        exact g_zret (b := true) X hr hlk rfl hP hS (congrArg (Prod.mk σ) hf) dX10_areSides_35
def f_X10_stringOf (x0 : Int32) (x1 : Int32) (x2 : Int32) : UInt32 := (FP.fmul (1036831949 : UInt32) (FP.i2f ((((2 : Int32) * x0) + ((2 : Int32) * x1)) + ((4 : Int32) * x2))))
def ok_X10_stringOf (x0 : Int32) (x1 : Int32) (x2 : Int32) : Prop := vf_n32 (FP.fmul (1036831949 : UInt32) (FP.i2f ((((2 : Int32) * x0) + ((2 : Int32) * x1)) + ((4 : Int32) * x2))))
abbrev rm_X10_stringOf : Room := { frames := 0, cells := 0, slots := 0, locals := 0 }
set_option maxHeartbeats 4000000 in
set_option maxRecDepth 100000 in
theorem c_X10_stringOf (l : Launch) (G : GE) (hG : Gok G) (σ : St) (x0 : Int32) (x1 : Int32) (x2 : Int32) (hok : ok_X10_stringOf x0 x1 x2) : MtF l G yX10_stringOf cX10_stringOf 3 rm_X10_stringOf [.int x0, .int x1, .int x2] σ (σ, f_X10_stringOf x0 x1 x2) := by
  generalize hf : f_X10_stringOf x0 x1 x2 = fv
  rw [f_X10_stringOf] at hf
  rw [ok_X10_stringOf] at hok
  refine g_start hG (plainFor_of_name (by decide)) (Nat.le_of_ble_eq_true rfl) ?_
  intro p e s m args below meth c X hr hlk ls hl H locs hP hS
  have X : Cx G p s m args c cX10_stringOf 3 RX10 := X
  obtain ⟨hx, hb, hml, hown, hts, hK, hbs, hXW, -⟩ := id X
  have hl : lv_has ls 3 [(0, .int x0), (1, .int x1), (2, .int x2)] := hl
  refine lv_ldcf hx hb hown (hts _ kc_X10_98) dX10_stringOf_0 ?_
  refine lv_iconst (v := 2) hx hb dX10_stringOf_2 (by decide) ?_
  refine lv_iload_n hx hb dX10_stringOf_3 rfl (lv_at hl 0 rfl) ?_
  refine lv_imul hx hb dX10_stringOf_4 ?_
  refine lv_iconst (v := 2) hx hb dX10_stringOf_5 (by decide) ?_
  refine lv_iload_n hx hb dX10_stringOf_6 rfl (lv_at hl 1 rfl) ?_
  refine lv_imul hx hb dX10_stringOf_7 ?_
  refine lv_iadd hx hb dX10_stringOf_8 ?_
  refine lv_iconst (v := 4) hx hb dX10_stringOf_9 (by decide) ?_
  refine lv_iload_n hx hb dX10_stringOf_10 rfl (lv_at hl 2 rfl) ?_
  refine lv_imul hx hb dX10_stringOf_11 ?_
  refine lv_iadd hx hb dX10_stringOf_12 ?_
  refine lv_i2f hx hb dX10_stringOf_13 ?_
  have hs1 := hok
  refine lv_fmul hx hb dX10_stringOf_14 hs1 ?_
  exact g_fret X hr hlk hP hS (congrArg (Prod.mk σ) hf) dX10_stringOf_15
def f_X10_notParcel (σ : St) (x1 : Int32) (x2 : Int32) (x3 : Int32) (x4 : Int32) (x5 : Int32) : St × Int32 := (if (f_X10_isChild x1) = true then (if (f_X10_isChild x2) = true then (if (f_X10_areSides x3 x4 x5) = true then (if (σ.1 197 (2 : Int32).toNatClampNeg) = (20 : Int32) then (bnd (f_X10_isNot σ (1 : Int32) (20 : Int32)) (fun q4 => (q4.1, q4.2))) else (if x1 = x2 then (bnd (f_X10_isNot σ (2 : Int32) x1) (fun q3 => (q3.1, q3.2))) else (if (Op.cmpValue (FP.fcmp (σ.2.1 201 (13 : Int32).toNatClampNeg) (f_X10_stringOf x3 x4 x5)) CmpOp.l) < 0 then (bnd (f_X10_isNot σ (4 : Int32) (FP.f2i (σ.2.1 201 (13 : Int32).toNatClampNeg))) (fun q2 => (q2.1, q2.2))) else (σ, (0 : Int32))))) else (σ, (2 : Int32))) else (σ, (1 : Int32))) else (σ, (1 : Int32)))
def ok_X10_notParcel (σ : St) (x1 : Int32) (x2 : Int32) (x3 : Int32) (x4 : Int32) (x5 : Int32) : Prop := (((f_X10_isChild x1) = true → (((f_X10_isChild x2) = true → (((f_X10_areSides x3 x4 x5) = true → (((σ.1 197 (2 : Int32).toNatClampNeg) = (20 : Int32) → True) ∧ (¬ (σ.1 197 (2 : Int32).toNatClampNeg) = (20 : Int32) → ((x1 = x2 → True) ∧ (¬ x1 = x2 → ok_X10_stringOf x3 x4 x5))))) ∧ ((f_X10_areSides x3 x4 x5) = false → True))) ∧ ((f_X10_isChild x2) = false → True))) ∧ ((f_X10_isChild x1) = false → True))
abbrev rm_X10_notParcel : Room := { frames := 2, cells := 0, slots := 0, locals := 44 }
set_option maxHeartbeats 4000000 in
set_option maxRecDepth 100000 in
theorem c_X10_notParcel (l : Launch) (G : GE) (hG : Gok G) (σ : St) (x1 : Int32) (x2 : Int32) (x3 : Int32) (x4 : Int32) (x5 : Int32) (hok : ok_X10_notParcel σ x1 x2 x3 x4 x5) : MtI l G yX10_notParcel cX10_notParcel 6 rm_X10_notParcel [.ref (G.2.1 196), .int x1, .int x2, .int x3, .int x4, .int x5] σ (f_X10_notParcel σ x1 x2 x3 x4 x5) := by
  generalize hf : f_X10_notParcel σ x1 x2 x3 x4 x5 = fv
  rw [f_X10_notParcel] at hf
  rw [ok_X10_notParcel] at hok
  refine g_start hG (plainFor_of_name (by decide)) (Nat.le_of_ble_eq_true rfl) ?_
  intro p e s m args below meth c X hr hlk ls hl H locs hP hS
  have X : Cx G p s m args c cX10_notParcel 6 RX10 := X
  obtain ⟨hx, hb, hml, hown, hts, hK, hbs, hXW, -⟩ := id X
  have hl : lv_has ls 6 [(0, .ref (G.2.1 196)), (1, .int x1), (2, .int x2), (3, .int x3), (4, .int x4), (5, .int x5)] := hl
  refine lv_iload_n hx hb dX10_notParcel_0 rfl (lv_at hl 1 rfl) ?_
  refine g_cZp (g_runS (As := [.int x1]) (rest := []) X (c_X10_isChild l G hG σ x1) ca_X10_isChild km_X10_108 rfl rfl ⟨Nat.le_of_ble_eq_true rfl, Nat.le_of_ble_eq_true rfl⟩ hP hS rfl hl.1 rfl (Nat.le_of_ble_eq_true rfl) ⟨Nat.le_of_ble_eq_true rfl, Nat.le_of_ble_eq_true rfl⟩ dX10_notParcel_1) hS (fun H locs hP hS => ?_)
  refine g_ifeqZ (tgt := 14) X dX10_notParcel_4 (by decide) (fun hc => ?_) (fun hc => ?_)
  · have hf := ite_z hc hf
    refine lv_iconst (v := 1) hx hb dX10_notParcel_14 (by decide) ?_
    exact g_iret X hr hlk hP hS hf dX10_notParcel_15
  · have hf := ite_t hc hf
    have hok := hok.1 hc
    refine lv_iload_n hx hb dX10_notParcel_7 rfl (lv_at hl 2 rfl) ?_
    refine g_cZp (g_runS (As := [.int x2]) (rest := []) X (c_X10_isChild l G hG σ x2) ca_X10_isChild km_X10_108 rfl rfl ⟨Nat.le_of_ble_eq_true rfl, Nat.le_of_ble_eq_true rfl⟩ hP hS rfl hl.1 rfl (Nat.le_of_ble_eq_true rfl) ⟨Nat.le_of_ble_eq_true rfl, Nat.le_of_ble_eq_true rfl⟩ dX10_notParcel_8) hS (fun H locs hP hS => ?_)
    refine g_ifneZ (tgt := 16) X dX10_notParcel_11 (by decide) (fun hc => ?_) (fun hc => ?_)
    · have hf := ite_t hc hf
      have hok := hok.1 hc
      refine lv_iload_n hx hb dX10_notParcel_16 rfl (lv_at hl 3 rfl) ?_
      refine lv_iload hx hb dX10_notParcel_17 (lv_at hl 4 rfl) ?_
      refine lv_iload hx hb dX10_notParcel_19 (lv_at hl 5 rfl) ?_
      refine g_cZp (g_runS (As := [.int x3, .int x4, .int x5]) (rest := []) X (c_X10_areSides l G hG σ x3 x4 x5) ca_X10_areSides km_X10_125 rfl rfl ⟨Nat.le_of_ble_eq_true rfl, Nat.le_of_ble_eq_true rfl⟩ hP hS rfl hl.1 rfl (Nat.le_of_ble_eq_true rfl) ⟨Nat.le_of_ble_eq_true rfl, Nat.le_of_ble_eq_true rfl⟩ dX10_notParcel_21) hS (fun H locs hP hS => ?_)
      refine g_ifneZ (tgt := 29) X dX10_notParcel_24 (by decide) (fun hc => ?_) (fun hc => ?_)
      · have hf := ite_t hc hf
        have hok := hok.1 hc
        refine lv_aload_n hx hb dX10_notParcel_29 rfl (lv_at hl 0 rfl) ?_
        refine gg_10_5 X hP ab_196 kf_X10_7 dX10_notParcel_30 ?_
        refine lv_iconst (v := 2) hx hb dX10_notParcel_33 (by decide) ?_
        refine g_iald X hP ab_197 (by rw [al_197]; unfold vp_in; decide) dX10_notParcel_34 ?_
        refine lv_bipush (v := 20) hx hb dX10_notParcel_35 (by decide) ?_
        refine lv_icmp_ne (tgt := 48) hx hb dX10_notParcel_37 (by decide) (fun hc => ?_) (fun hc => ?_)
        · have hf := ite_f hc hf
          have hok := hok.2 hc
          refine lv_iload_n hx hb dX10_notParcel_48 rfl (lv_at hl 1 rfl) ?_
          refine lv_iload_n hx hb dX10_notParcel_49 rfl (lv_at hl 2 rfl) ?_
          refine lv_icmp_ne (tgt := 60) hx hb dX10_notParcel_50 (by decide) (fun hc => ?_) (fun hc => ?_)
          · have hf := ite_f hc hf
            have hok := hok.2 hc
            refine lv_aload_n hx hb dX10_notParcel_60 rfl (lv_at hl 0 rfl) ?_
            refine gg_10_9 X hP ab_196 kf_X10_22 dX10_notParcel_61 ?_
            refine lv_bipush (v := 13) hx hb dX10_notParcel_64 (by decide) ?_
            refine g_fald X hP ab_201 (by rw [al_201]; unfold vp_in; decide) dX10_notParcel_66 ?_
            refine lv_iload_n hx hb dX10_notParcel_67 rfl (lv_at hl 3 rfl) ?_
            refine lv_iload hx hb dX10_notParcel_68 (lv_at hl 4 rfl) ?_
            refine lv_iload hx hb dX10_notParcel_70 (lv_at hl 5 rfl) ?_
            have hs1 := hok
            refine g_cFp (g_runS (As := [.int x3, .int x4, .int x5]) (rest := [.float (σ.2.1 201 (13 : Int32).toNatClampNeg)]) X (c_X10_stringOf l G hG σ x3 x4 x5 hs1) ca_X10_stringOf km_X10_128 rfl rfl ⟨Nat.le_of_ble_eq_true rfl, Nat.le_of_ble_eq_true rfl⟩ hP hS rfl hl.1 rfl (Nat.le_of_ble_eq_true rfl) ⟨Nat.le_of_ble_eq_true rfl, Nat.le_of_ble_eq_true rfl⟩ dX10_notParcel_72) hS (fun H locs hP hS => ?_)
            refine lv_fcmp hx hb dX10_notParcel_75 ?_
            refine lv_if_lt (tgt := 83) hx hb dX10_notParcel_76 (by decide) (fun hc => ?_) (fun hc => ?_)
            · have hf := ite_t hc hf
              refine lv_aload_n hx hb dX10_notParcel_83 rfl (lv_at hl 0 rfl) ?_
              refine lv_iconst (v := 4) hx hb dX10_notParcel_84 (by decide) ?_
              refine lv_aload_n hx hb dX10_notParcel_85 rfl (lv_at hl 0 rfl) ?_
              refine gg_10_9 X hP ab_196 kf_X10_22 dX10_notParcel_86 ?_
              refine lv_bipush (v := 13) hx hb dX10_notParcel_89 (by decide) ?_
              refine g_fald X hP ab_201 (by rw [al_201]; unfold vp_in; decide) dX10_notParcel_91 ?_
              refine lv_f2i hx hb dX10_notParcel_92 ?_
              refine g_cI (g_runV (i := 196) (As := [.int (4 : Int32), .int (FP.f2i (σ.2.1 201 (13 : Int32).toNatClampNeg))]) (rest := []) X (c_X10_isNot l G hG σ (4 : Int32) (FP.f2i (σ.2.1 201 (13 : Int32).toNatClampNeg))) ca_X10_isNot km_X10_89 rfl rfl ⟨Nat.le_of_ble_eq_true rfl, Nat.le_of_ble_eq_true rfl⟩ hP hS (ty_lt ab_196) (cell_10 ab_196) rfl rfl rfl hl.1 rfl (Nat.le_of_ble_eq_true rfl) ⟨Nat.le_of_ble_eq_true rfl, Nat.le_of_ble_eq_true rfl⟩ dX10_notParcel_93) hS (fun q2 hq2 H locs hP hS => ?_)
              have hf := bnd_go hq2 hf
              exact g_iret X hr hlk hP hS hf dX10_notParcel_96
            · have hf := ite_f hc hf
              refine lv_iconst (v := 0) hx hb dX10_notParcel_79 (by decide) ?_
              refine lv_goto (tgt := 96) hx hb dX10_notParcel_80 (by decide) ?_
              exact g_iret X hr hlk hP hS hf dX10_notParcel_96
          · have hf := ite_t hc hf
            refine lv_aload_n hx hb dX10_notParcel_53 rfl (lv_at hl 0 rfl) ?_
            refine lv_iconst (v := 2) hx hb dX10_notParcel_54 (by decide) ?_
            refine lv_iload_n hx hb dX10_notParcel_55 rfl (lv_at hl 1 rfl) ?_
            refine g_cI (g_runV (i := 196) (As := [.int (2 : Int32), .int x1]) (rest := []) X (c_X10_isNot l G hG σ (2 : Int32) x1) ca_X10_isNot km_X10_89 rfl rfl ⟨Nat.le_of_ble_eq_true rfl, Nat.le_of_ble_eq_true rfl⟩ hP hS (ty_lt ab_196) (cell_10 ab_196) rfl rfl rfl hl.1 rfl (Nat.le_of_ble_eq_true rfl) ⟨Nat.le_of_ble_eq_true rfl, Nat.le_of_ble_eq_true rfl⟩ dX10_notParcel_56) hS (fun q3 hq3 H locs hP hS => ?_)
            have hf := bnd_go hq3 hf
            exact g_iret X hr hlk hP hS hf dX10_notParcel_59
        · have hf := ite_t hc hf
          refine lv_aload_n hx hb dX10_notParcel_40 rfl (lv_at hl 0 rfl) ?_
          refine lv_iconst (v := 1) hx hb dX10_notParcel_41 (by decide) ?_
          refine lv_bipush (v := 20) hx hb dX10_notParcel_42 (by decide) ?_
          refine g_cI (g_runV (i := 196) (As := [.int (1 : Int32), .int (20 : Int32)]) (rest := []) X (c_X10_isNot l G hG σ (1 : Int32) (20 : Int32)) ca_X10_isNot km_X10_89 rfl rfl ⟨Nat.le_of_ble_eq_true rfl, Nat.le_of_ble_eq_true rfl⟩ hP hS (ty_lt ab_196) (cell_10 ab_196) rfl rfl rfl hl.1 rfl (Nat.le_of_ble_eq_true rfl) ⟨Nat.le_of_ble_eq_true rfl, Nat.le_of_ble_eq_true rfl⟩ dX10_notParcel_44) hS (fun q4 hq4 H locs hP hS => ?_)
          have hf := bnd_go hq4 hf
          exact g_iret X hr hlk hP hS hf dX10_notParcel_47
      · have hf := ite_z hc hf
        refine lv_iconst (v := 2) hx hb dX10_notParcel_27 (by decide) ?_
        exact g_iret X hr hlk hP hS hf dX10_notParcel_28
    · have hf := ite_z hc hf
      refine lv_iconst (v := 1) hx hb dX10_notParcel_14 (by decide) ?_
      exact g_iret X hr hlk hP hS hf dX10_notParcel_15
def f_X10_parcel (σ : St) (x1 : Int32) (x2 : Int32) (x3 : Int32) (x4 : Int32) (x5 : Int32) : St × Int32 := (bnd (setI σ 196 0 (0 : Int32)) (fun q1 => (bnd (f_X10_notParcel q1 x1 x2 x3 x4 x5) (fun q3 => (if q3.2 = 0 then (bnd (f_X10_remembers q3.1) (fun q5 => (bnd (setF q5 201 (13 : Int32).toNatClampNeg (FP.fsub (q5.2.1 201 (13 : Int32).toNatClampNeg) (f_X10_stringOf x3 x4 x5))) (fun q8 => (bnd (f_X10_makes q8 (1 : Int32) x1 x2 ((x3 + x4) + x5)) (fun q10 => (q10.1, q10.2))))))) else (bnd (f_X10_refuses q3.1 q3.2 (3 : Int32)) (fun q11 => (q11.1, q11.2))))))))
def ok_X10_parcel (σ : St) (x1 : Int32) (x2 : Int32) (x3 : Int32) (x4 : Int32) (x5 : Int32) : Prop := (bndP (setI σ 196 0 (0 : Int32)) (fun q1 => (ok_X10_notParcel q1 x1 x2 x3 x4 x5 ∧ (bndP (f_X10_notParcel q1 x1 x2 x3 x4 x5) (fun q3 => ((q3.2 = 0 → (ok_X10_remembers q3.1 ∧ (bndP (f_X10_remembers q3.1) (fun q5 => (ok_X10_stringOf x3 x4 x5 ∧ (vf_n32 (FP.fsub (q5.2.1 201 (13 : Int32).toNatClampNeg) (f_X10_stringOf x3 x4 x5)) ∧ (bndP (setF q5 201 (13 : Int32).toNatClampNeg (FP.fsub (q5.2.1 201 (13 : Int32).toNatClampNeg) (f_X10_stringOf x3 x4 x5))) (fun q8 => ok_X10_makes q8 (1 : Int32) x1 x2 ((x3 + x4) + x5))))))))) ∧ (¬ q3.2 = 0 → True)))))))
abbrev rm_X10_parcel : Room := { frames := 3, cells := 0, slots := 0, locals := 69 }
set_option maxHeartbeats 4000000 in
set_option maxRecDepth 100000 in
theorem c_X10_parcel (l : Launch) (G : GE) (hG : Gok G) (σ : St) (x1 : Int32) (x2 : Int32) (x3 : Int32) (x4 : Int32) (x5 : Int32) (hok : ok_X10_parcel σ x1 x2 x3 x4 x5) : MtI l G yX10_parcel cX10_parcel 7 rm_X10_parcel [.ref (G.2.1 196), .int x1, .int x2, .int x3, .int x4, .int x5] σ (f_X10_parcel σ x1 x2 x3 x4 x5) := by
  generalize hf : f_X10_parcel σ x1 x2 x3 x4 x5 = fv
  rw [f_X10_parcel] at hf
  rw [ok_X10_parcel] at hok
  refine g_start hG (plainFor_of_name (by decide)) (Nat.le_of_ble_eq_true rfl) ?_
  intro p e s m args below meth c X hr hlk ls hl H locs hP hS
  have X : Cx G p s m args c cX10_parcel 7 RX10 := X
  obtain ⟨hx, hb, hml, hown, hts, hK, hbs, hXW, -⟩ := id X
  have hl : lv_has ls 7 [(0, .ref (G.2.1 196)), (1, .int x1), (2, .int x2), (3, .int x3), (4, .int x4), (5, .int x5)] := hl
  refine lv_aload_n hx hb dX10_parcel_0 rfl (lv_at hl 0 rfl) ?_
  refine lv_iconst (v := 0) hx hb dX10_parcel_1 (by decide) ?_
  refine gp_10_0 X hP hS ab_196 kf_X10_50 dX10_parcel_2 (fun H locs hP hS => ?_)
  refine g_name hP (fun q1 hq1 hP => ?_)
  have hf := bnd_go hq1 hf
  have hok := bnd_goP hq1 hok
  refine lv_aload_n hx hb dX10_parcel_5 rfl (lv_at hl 0 rfl) ?_
  refine lv_iload_n hx hb dX10_parcel_6 rfl (lv_at hl 1 rfl) ?_
  refine lv_iload_n hx hb dX10_parcel_7 rfl (lv_at hl 2 rfl) ?_
  refine lv_iload_n hx hb dX10_parcel_8 rfl (lv_at hl 3 rfl) ?_
  refine lv_iload hx hb dX10_parcel_9 (lv_at hl 4 rfl) ?_
  refine lv_iload hx hb dX10_parcel_11 (lv_at hl 5 rfl) ?_
  have hs2 := hok.1
  have hok := hok.2
  refine g_cI (g_runV (i := 196) (As := [.int x1, .int x2, .int x3, .int x4, .int x5]) (rest := []) X (c_X10_notParcel l G hG q1 x1 x2 x3 x4 x5 hs2) ca_X10_notParcel km_X10_132 rfl rfl ⟨Nat.le_of_ble_eq_true rfl, Nat.le_of_ble_eq_true rfl⟩ hP hS (ty_lt ab_196) (cell_10 ab_196) rfl rfl rfl hl.1 rfl (Nat.le_of_ble_eq_true rfl) ⟨Nat.le_of_ble_eq_true rfl, Nat.le_of_ble_eq_true rfl⟩ dX10_parcel_13) hS (fun q3 hq3 H locs hP hS => ?_)
  have hf := bnd_go hq3 hf
  have hok := bnd_goP hq3 hok
  refine lv_istore (lv' := [(6, .int q3.2), (0, .ref (G.2.1 196)), (1, .int x1), (2, .int x2), (3, .int x3), (4, .int x4), (5, .int x5)]) hx hb dX10_parcel_16 hl (by decide) rfl (fun ls hl => ?_)
  refine lv_iload hx hb dX10_parcel_18 (lv_at hl 0 rfl) ?_
  refine lv_if_eq (tgt := 31) hx hb dX10_parcel_20 (by decide) (fun hc => ?_) (fun hc => ?_)
  · have hf := ite_t hc hf
    have hok := hok.1 hc
    refine lv_aload_n hx hb dX10_parcel_31 rfl (lv_at hl 1 rfl) ?_
    have hs4 := hok.1
    have hok := hok.2
    refine g_cV (g_runV (i := 196) (As := []) (rest := []) X (c_X10_remembers l G hG q3.1 hs4) ca_X10_remembers km_X10_95 rfl rfl ⟨Nat.le_of_ble_eq_true rfl, Nat.le_of_ble_eq_true rfl⟩ hP hS (ty_lt ab_196) (cell_10 ab_196) rfl rfl rfl hl.1 rfl (Nat.le_of_ble_eq_true rfl) ⟨Nat.le_of_ble_eq_true rfl, Nat.le_of_ble_eq_true rfl⟩ dX10_parcel_32) hS (fun q5 hq5 H locs hP hS => ?_)
    have hf := bnd_go hq5 hf
    have hok := bnd_goP hq5 hok
    refine lv_aload_n hx hb dX10_parcel_35 rfl (lv_at hl 1 rfl) ?_
    refine gg_10_9 X hP ab_196 kf_X10_22 dX10_parcel_36 ?_
    refine lv_bipush (v := 13) hx hb dX10_parcel_39 (by decide) ?_
    refine lv_aload_n hx hb dX10_parcel_41 rfl (lv_at hl 1 rfl) ?_
    refine gg_10_9 X hP ab_196 kf_X10_22 dX10_parcel_42 ?_
    refine lv_bipush (v := 13) hx hb dX10_parcel_45 (by decide) ?_
    refine g_fald X hP ab_201 (by rw [al_201]; unfold vp_in; decide) dX10_parcel_47 ?_
    refine lv_iload_n hx hb dX10_parcel_48 rfl (lv_at hl 4 rfl) ?_
    refine lv_iload hx hb dX10_parcel_49 (lv_at hl 5 rfl) ?_
    refine lv_iload hx hb dX10_parcel_51 (lv_at hl 6 rfl) ?_
    have hs6 := hok.1
    have hok := hok.2
    refine g_cFp (g_runS (As := [.int x3, .int x4, .int x5]) (rest := [.float (q5.2.1 201 (13 : Int32).toNatClampNeg), .int (13 : Int32), .ref (G.2.1 201)]) X (c_X10_stringOf l G hG q5 x3 x4 x5 hs6) ca_X10_stringOf km_X10_128 rfl rfl ⟨Nat.le_of_ble_eq_true rfl, Nat.le_of_ble_eq_true rfl⟩ hP hS rfl hl.1 rfl (Nat.le_of_ble_eq_true rfl) ⟨Nat.le_of_ble_eq_true rfl, Nat.le_of_ble_eq_true rfl⟩ dX10_parcel_53) hS (fun H locs hP hS => ?_)
    have hs7 := hok.1
    have hok := hok.2
    refine lv_fsub hx hb dX10_parcel_56 hs7 ?_
    refine g_fast X hP hS ab_201 (by rw [al_201]; unfold vp_in; decide) dX10_parcel_57 (fun H locs hP hS => ?_)
    refine g_name hP (fun q8 hq8 hP => ?_)
    have hf := bnd_go hq8 hf
    have hok := bnd_goP hq8 hok
    refine lv_aload_n hx hb dX10_parcel_58 rfl (lv_at hl 1 rfl) ?_
    refine lv_iconst (v := 1) hx hb dX10_parcel_59 (by decide) ?_
    refine lv_iload_n hx hb dX10_parcel_60 rfl (lv_at hl 2 rfl) ?_
    refine lv_iload_n hx hb dX10_parcel_61 rfl (lv_at hl 3 rfl) ?_
    refine lv_iload_n hx hb dX10_parcel_62 rfl (lv_at hl 4 rfl) ?_
    refine lv_iload hx hb dX10_parcel_63 (lv_at hl 5 rfl) ?_
    refine lv_iadd hx hb dX10_parcel_65 ?_
    refine lv_iload hx hb dX10_parcel_66 (lv_at hl 6 rfl) ?_
    refine lv_iadd hx hb dX10_parcel_68 ?_
    have hs9 := hok
    refine g_cI (g_runV (i := 196) (As := [.int (1 : Int32), .int x1, .int x2, .int ((x3 + x4) + x5)]) (rest := []) X (c_X10_makes l G hG q8 (1 : Int32) x1 x2 ((x3 + x4) + x5) hs9) ca_X10_makes km_X10_115 rfl rfl ⟨Nat.le_of_ble_eq_true rfl, Nat.le_of_ble_eq_true rfl⟩ hP hS (ty_lt ab_196) (cell_10 ab_196) rfl rfl rfl hl.1 rfl (Nat.le_of_ble_eq_true rfl) ⟨Nat.le_of_ble_eq_true rfl, Nat.le_of_ble_eq_true rfl⟩ dX10_parcel_69) hS (fun q10 hq10 H locs hP hS => ?_)
    have hf := bnd_go hq10 hf
    exact g_iret X hr hlk hP hS hf dX10_parcel_72
  · have hf := ite_f hc hf
    refine lv_aload_n hx hb dX10_parcel_23 rfl (lv_at hl 1 rfl) ?_
    refine lv_iload hx hb dX10_parcel_24 (lv_at hl 0 rfl) ?_
    refine lv_iconst (v := 3) hx hb dX10_parcel_26 (by decide) ?_
    refine g_cI (g_runV (i := 196) (As := [.int q3.2, .int (3 : Int32)]) (rest := []) X (c_X10_refuses l G hG q3.1 q3.2 (3 : Int32)) ca_X10_refuses km_X10_92 rfl rfl ⟨Nat.le_of_ble_eq_true rfl, Nat.le_of_ble_eq_true rfl⟩ hP hS (ty_lt ab_196) (cell_10 ab_196) rfl rfl rfl hl.1 rfl (Nat.le_of_ble_eq_true rfl) ⟨Nat.le_of_ble_eq_true rfl, Nat.le_of_ble_eq_true rfl⟩ dX10_parcel_27) hS (fun q11 hq11 H locs hP hS => ?_)
    have hf := bnd_go hq11 hf
    exact g_iret X hr hlk hP hS hf dX10_parcel_30
def f_X10_itemOf (σ : St) (x1 : Int32) (x2 : Int32) : St × Int32 := (bnd (setI σ 196 0 (0 : Int32)) (fun q1 => (if (f_X10_isItem q1 x1) = true then (if (f_X10_isBetween x2 (0 : Int32) (6 : Int32)) = true then (if (5 : Int32) ≤ x2 then (q1, ((f_X10_of q1 x1 x2) - (1 : Int32))) else (q1, (f_X10_of q1 x1 x2))) else (bnd (f_X10_fails q1 (2 : Int32)) (fun q4 => (q4.1, q4.2)))) else (bnd (f_X10_fails q1 (1 : Int32)) (fun q5 => (q5.1, q5.2))))))
def ok_X10_itemOf (σ : St) (x1 : Int32) (x2 : Int32) : Prop := (bndP (setI σ 196 0 (0 : Int32)) (fun q1 => (((f_X10_isItem q1 x1) = true → (((f_X10_isBetween x2 (0 : Int32) (6 : Int32)) = true → (((5 : Int32) ≤ x2 → ok_X10_of q1 x1 x2) ∧ (¬ (5 : Int32) ≤ x2 → ok_X10_of q1 x1 x2))) ∧ ((f_X10_isBetween x2 (0 : Int32) (6 : Int32)) = false → True))) ∧ ((f_X10_isItem q1 x1) = false → True))))
abbrev rm_X10_itemOf : Room := { frames := 2, cells := 0, slots := 0, locals := 43 }
set_option maxHeartbeats 4000000 in
set_option maxRecDepth 100000 in
theorem c_X10_itemOf (l : Launch) (G : GE) (hG : Gok G) (σ : St) (x1 : Int32) (x2 : Int32) (hok : ok_X10_itemOf σ x1 x2) : MtI l G yX10_itemOf cX10_itemOf 3 rm_X10_itemOf [.ref (G.2.1 196), .int x1, .int x2] σ (f_X10_itemOf σ x1 x2) := by
  generalize hf : f_X10_itemOf σ x1 x2 = fv
  rw [f_X10_itemOf] at hf
  rw [ok_X10_itemOf] at hok
  refine g_start hG (plainFor_of_name (by decide)) (Nat.le_of_ble_eq_true rfl) ?_
  intro p e s m args below meth c X hr hlk ls hl H locs hP hS
  have X : Cx G p s m args c cX10_itemOf 3 RX10 := X
  obtain ⟨hx, hb, hml, hown, hts, hK, hbs, hXW, -⟩ := id X
  have hl : lv_has ls 3 [(0, .ref (G.2.1 196)), (1, .int x1), (2, .int x2)] := hl
  refine lv_aload_n hx hb dX10_itemOf_0 rfl (lv_at hl 0 rfl) ?_
  refine lv_iconst (v := 0) hx hb dX10_itemOf_1 (by decide) ?_
  refine gp_10_0 X hP hS ab_196 kf_X10_50 dX10_itemOf_2 (fun H locs hP hS => ?_)
  refine g_name hP (fun q1 hq1 hP => ?_)
  have hf := bnd_go hq1 hf
  have hok := bnd_goP hq1 hok
  refine lv_aload_n hx hb dX10_itemOf_5 rfl (lv_at hl 0 rfl) ?_
  refine lv_iload_n hx hb dX10_itemOf_6 rfl (lv_at hl 1 rfl) ?_
  refine g_cZp (g_runV (i := 196) (As := [.int x1]) (rest := []) X (c_X10_isItem l G hG q1 x1) ca_X10_isItem km_X10_136 rfl rfl ⟨Nat.le_of_ble_eq_true rfl, Nat.le_of_ble_eq_true rfl⟩ hP hS (ty_lt ab_196) (cell_10 ab_196) rfl rfl rfl hl.1 rfl (Nat.le_of_ble_eq_true rfl) ⟨Nat.le_of_ble_eq_true rfl, Nat.le_of_ble_eq_true rfl⟩ dX10_itemOf_7) hS (fun H locs hP hS => ?_)
  refine g_ifneZ (tgt := 19) X dX10_itemOf_10 (by decide) (fun hc => ?_) (fun hc => ?_)
  · have hf := ite_t hc hf
    have hok := hok.1 hc
    refine lv_iload_n hx hb dX10_itemOf_19 rfl (lv_at hl 2 rfl) ?_
    refine lv_iconst (v := 0) hx hb dX10_itemOf_20 (by decide) ?_
    refine lv_bipush (v := 6) hx hb dX10_itemOf_21 (by decide) ?_
    refine g_cZp (g_runS (As := [.int x2, .int (0 : Int32), .int (6 : Int32)]) (rest := []) X (c_X10_isBetween l G hG q1 x2 (0 : Int32) (6 : Int32)) ca_X10_isBetween km_X10_81 rfl rfl ⟨Nat.le_of_ble_eq_true rfl, Nat.le_of_ble_eq_true rfl⟩ hP hS rfl hl.1 rfl (Nat.le_of_ble_eq_true rfl) ⟨Nat.le_of_ble_eq_true rfl, Nat.le_of_ble_eq_true rfl⟩ dX10_itemOf_23) hS (fun H locs hP hS => ?_)
    refine g_ifneZ (tgt := 35) X dX10_itemOf_26 (by decide) (fun hc => ?_) (fun hc => ?_)
    · have hf := ite_t hc hf
      have hok := hok.1 hc
      refine lv_iload_n hx hb dX10_itemOf_35 rfl (lv_at hl 2 rfl) ?_
      refine lv_iconst (v := 5) hx hb dX10_itemOf_36 (by decide) ?_
      refine lv_icmp_ge (tgt := 49) hx hb dX10_itemOf_37 (by decide) (fun hc => ?_) (fun hc => ?_)
      · have hf := ite_t hc hf
        have hok := hok.1 hc
        refine lv_aload_n hx hb dX10_itemOf_49 rfl (lv_at hl 0 rfl) ?_
        refine lv_iload_n hx hb dX10_itemOf_50 rfl (lv_at hl 1 rfl) ?_
        refine lv_iload_n hx hb dX10_itemOf_51 rfl (lv_at hl 2 rfl) ?_
        have hs2 := hok
        refine g_cIp (g_runV (i := 196) (As := [.int x1, .int x2]) (rest := []) X (c_X10_of l G hG q1 x1 x2 hs2) ca_X10_of km_X10_85 rfl rfl ⟨Nat.le_of_ble_eq_true rfl, Nat.le_of_ble_eq_true rfl⟩ hP hS (ty_lt ab_196) (cell_10 ab_196) rfl rfl rfl hl.1 rfl (Nat.le_of_ble_eq_true rfl) ⟨Nat.le_of_ble_eq_true rfl, Nat.le_of_ble_eq_true rfl⟩ dX10_itemOf_52) hS (fun H locs hP hS => ?_)
        refine lv_iconst (v := 1) hx hb dX10_itemOf_55 (by decide) ?_
        refine lv_isub hx hb dX10_itemOf_56 ?_
        exact g_iret X hr hlk hP hS hf dX10_itemOf_57
      · have hf := ite_f hc hf
        have hok := hok.2 hc
        refine lv_aload_n hx hb dX10_itemOf_40 rfl (lv_at hl 0 rfl) ?_
        refine lv_iload_n hx hb dX10_itemOf_41 rfl (lv_at hl 1 rfl) ?_
        refine lv_iload_n hx hb dX10_itemOf_42 rfl (lv_at hl 2 rfl) ?_
        have hs3 := hok
        refine g_cIp (g_runV (i := 196) (As := [.int x1, .int x2]) (rest := []) X (c_X10_of l G hG q1 x1 x2 hs3) ca_X10_of km_X10_85 rfl rfl ⟨Nat.le_of_ble_eq_true rfl, Nat.le_of_ble_eq_true rfl⟩ hP hS (ty_lt ab_196) (cell_10 ab_196) rfl rfl rfl hl.1 rfl (Nat.le_of_ble_eq_true rfl) ⟨Nat.le_of_ble_eq_true rfl, Nat.le_of_ble_eq_true rfl⟩ dX10_itemOf_43) hS (fun H locs hP hS => ?_)
        refine lv_goto (tgt := 57) hx hb dX10_itemOf_46 (by decide) ?_
        exact g_iret X hr hlk hP hS hf dX10_itemOf_57
    · have hf := ite_z hc hf
      refine lv_aload_n hx hb dX10_itemOf_29 rfl (lv_at hl 0 rfl) ?_
      refine lv_iconst (v := 2) hx hb dX10_itemOf_30 (by decide) ?_
      refine g_cI (g_runV (i := 196) (As := [.int (2 : Int32)]) (rest := []) X (c_X10_fails l G hG q1 (2 : Int32)) ca_X10_fails km_X10_59 rfl rfl ⟨Nat.le_of_ble_eq_true rfl, Nat.le_of_ble_eq_true rfl⟩ hP hS (ty_lt ab_196) (cell_10 ab_196) rfl rfl rfl hl.1 rfl (Nat.le_of_ble_eq_true rfl) ⟨Nat.le_of_ble_eq_true rfl, Nat.le_of_ble_eq_true rfl⟩ dX10_itemOf_31) hS (fun q4 hq4 H locs hP hS => ?_)
      have hf := bnd_go hq4 hf
      exact g_iret X hr hlk hP hS hf dX10_itemOf_34
  · have hf := ite_z hc hf
    refine lv_aload_n hx hb dX10_itemOf_13 rfl (lv_at hl 0 rfl) ?_
    refine lv_iconst (v := 1) hx hb dX10_itemOf_14 (by decide) ?_
    refine g_cI (g_runV (i := 196) (As := [.int (1 : Int32)]) (rest := []) X (c_X10_fails l G hG q1 (1 : Int32)) ca_X10_fails km_X10_59 rfl rfl ⟨Nat.le_of_ble_eq_true rfl, Nat.le_of_ble_eq_true rfl⟩ hP hS (ty_lt ab_196) (cell_10 ab_196) rfl rfl rfl hl.1 rfl (Nat.le_of_ble_eq_true rfl) ⟨Nat.le_of_ble_eq_true rfl, Nat.le_of_ble_eq_true rfl⟩ dX10_itemOf_15) hS (fun q5 hq5 H locs hP hS => ?_)
    have hf := bnd_go hq5 hf
    exact g_iret X hr hlk hP hS hf dX10_itemOf_18
