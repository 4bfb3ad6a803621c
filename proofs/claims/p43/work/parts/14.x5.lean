def f_X5_has (σ : St) (o0 : Nat) (x1 : Int32) : Bool := (if x1 < 0 then false else (if (σ.1 o0 8) ≤ x1 then false else true))
abbrev rm_X5_has : Room := { frames := 0, cells := 0, slots := 0, locals := 0 }
set_option maxHeartbeats 4000000 in
set_option maxRecDepth 100000 in
theorem c_X5_has (l : Launch) (G : GE) (hG : Gok G) (σ : St) (o0 : Nat) (ho0 : tyOf o0 = 5) (x1 : Int32) : MtZ l G yX5_has cX5_has 2 rm_X5_has [.ref (G.2.1 o0), .int x1] σ (σ, f_X5_has σ o0 x1) := by
  generalize hf : f_X5_has σ o0 x1 = fv
  rw [f_X5_has] at hf
  refine g_start hG (plainFor_of_name (by decide)) (Nat.le_of_ble_eq_true rfl) ?_
  intro p e s m args below meth c X hr hlk ls hl H locs hP hS
  have X : Cx G p s m args c cX5_has 2 RX5 := X
  obtain ⟨hx, hb, hml, hown, hts, hK, hbs, hXW, -⟩ := id X
  have hl : lv_has ls 2 [(0, .ref (G.2.1 o0)), (1, .int x1)] := hl
  refine lv_iload_n hx hb dX5_has_0 rfl (lv_at hl 1 rfl) ?_
  refine lv_if_lt (tgt := 16) hx hb dX5_has_1 (by decide) (fun hc => ?_) (fun hc => ?_)
  · have hf := ite_t hc hf
    refine lv_iconst (v := 0) hx hb dX5_has_16 (by decide) ?_
    exact g_zret (b := false) X hr hlk rfl hP hS (congrArg (Prod.mk σ) hf) dX5_has_17
  · have hf := ite_f hc hf
    refine lv_iload_n hx hb dX5_has_4 rfl (lv_at hl 1 rfl) ?_
    refine lv_aload_n hx hb dX5_has_5 rfl (lv_at hl 0 rfl) ?_
    refine gg_5_8 X hP ho0 kf_X5_43 dX5_has_6 ?_
    refine lv_icmp_ge (tgt := 16) hx hb dX5_has_9 (by decide) (fun hc => ?_) (fun hc => ?_)
    · have hf := ite_t hc hf
      refine lv_iconst (v := 0) hx hb dX5_has_16 (by decide) ?_
      exact g_zret (b := false) X hr hlk rfl hP hS (congrArg (Prod.mk σ) hf) dX5_has_17
    · have hf := ite_f hc hf
      refine lv_iconst (v := 1) hx hb dX5_has_12 (by decide) ?_
      refine lv_goto (tgt := 17) hx hb dX5_has_13 (by decide) ?_
      exact g_zret (b := true) X hr hlk rfl hP hS (congrArg (Prod.mk σ) hf) dX5_has_17
def f_X5_add (σ : St) (o0 : Nat) (x1 : Int32) (x2 : Int32) (x3 : Int32) (x4 : Int32) : St × Int32 := (bnd (setI σ (o0 + 1) (σ.1 o0 8).toNatClampNeg x1) (fun q2 => (bnd (setI q2 (o0 + 2) (σ.1 o0 8).toNatClampNeg x2) (fun q4 => (bnd (setI q4 (o0 + 3) (σ.1 o0 8).toNatClampNeg x3) (fun q6 => (bnd (setI q6 (o0 + 4) (σ.1 o0 8).toNatClampNeg x4) (fun q8 => (bnd (setI q8 (o0 + 5) (σ.1 o0 8).toNatClampNeg (0 : Int32)) (fun q10 => (bnd (setI q10 (o0 + 6) (σ.1 o0 8).toNatClampNeg (-1 : Int32)) (fun q12 => (bnd (setI q12 (o0 + 7) (σ.1 o0 8).toNatClampNeg (-1 : Int32)) (fun q14 => (bnd (setF q14 (o0 + 8) (σ.1 o0 8).toNatClampNeg FP.fconst0) (fun q16 => (bnd (setI q16 o0 8 ((q16.1 o0 8) + (1 : Int32))) (fun q17 => (q17, (σ.1 o0 8))))))))))))))))))))
def ok_X5_add (σ : St) (o0 : Nat) (x1 : Int32) (x2 : Int32) (x3 : Int32) (x4 : Int32) : Prop := (vp_in (σ.1 o0 8) 20 ∧ (vp_in (σ.1 o0 8) 20 ∧ (vp_in (σ.1 o0 8) 20 ∧ (vp_in (σ.1 o0 8) 20 ∧ (vp_in (σ.1 o0 8) 20 ∧ (vp_in (σ.1 o0 8) 20 ∧ (vp_in (σ.1 o0 8) 20 ∧ vp_in (σ.1 o0 8) 20)))))))
abbrev rm_X5_add : Room := { frames := 0, cells := 0, slots := 0, locals := 0 }
set_option maxHeartbeats 4000000 in
set_option maxRecDepth 100000 in
theorem c_X5_add (l : Launch) (G : GE) (hG : Gok G) (σ : St) (o0 : Nat) (ho0 : tyOf o0 = 5) (x1 : Int32) (x2 : Int32) (x3 : Int32) (x4 : Int32) (hok : ok_X5_add σ o0 x1 x2 x3 x4) : MtI l G yX5_add cX5_add 6 rm_X5_add [.ref (G.2.1 o0), .int x1, .int x2, .int x3, .int x4] σ (f_X5_add σ o0 x1 x2 x3 x4) := by
  generalize hf : f_X5_add σ o0 x1 x2 x3 x4 = fv
  rw [f_X5_add] at hf
  rw [ok_X5_add] at hok
  refine g_start hG (plainFor_of_name (by decide)) (Nat.le_of_ble_eq_true rfl) ?_
  intro p e s m args below meth c X hr hlk ls hl H locs hP hS
  have X : Cx G p s m args c cX5_add 6 RX5 := X
  obtain ⟨hx, hb, hml, hown, hts, hK, hbs, hXW, -⟩ := id X
  have hl : lv_has ls 6 [(0, .ref (G.2.1 o0)), (1, .int x1), (2, .int x2), (3, .int x3), (4, .int x4)] := hl
  refine lv_aload_n hx hb dX5_add_0 rfl (lv_at hl 0 rfl) ?_
  refine gg_5_8 X hP ho0 kf_X5_43 dX5_add_1 ?_
  refine lv_istore (lv' := [(5, .int (σ.1 o0 8)), (0, .ref (G.2.1 o0)), (1, .int x1), (2, .int x2), (3, .int x3), (4, .int x4)]) hx hb dX5_add_4 hl (by decide) rfl (fun ls hl => ?_)
  refine lv_aload_n hx hb dX5_add_6 rfl (lv_at hl 1 rfl) ?_
  refine gg_5_0 (j := o0 + 1) rfl X hP ho0 kf_X5_9 dX5_add_7 ?_
  refine lv_iload hx hb dX5_add_10 (lv_at hl 0 rfl) ?_
  refine lv_iload_n hx hb dX5_add_12 rfl (lv_at hl 2 rfl) ?_
  have hs1 := hok.1
  have hok := hok.2
  refine g_iast X hP hS (tc_5_0 ho0) (by rw [(lc_5_0 ho0)]; exact hs1) dX5_add_13 (fun H locs hP hS => ?_)
  refine g_name hP (fun q2 hq2 hP => ?_)
  have hf := bnd_go hq2 hf
  refine lv_aload_n hx hb dX5_add_14 rfl (lv_at hl 1 rfl) ?_
  refine gg_5_1 (j := o0 + 2) rfl X hP ho0 kf_X5_15 dX5_add_15 ?_
  refine lv_iload hx hb dX5_add_18 (lv_at hl 0 rfl) ?_
  refine lv_iload_n hx hb dX5_add_20 rfl (lv_at hl 3 rfl) ?_
  have hs3 := hok.1
  have hok := hok.2
  refine g_iast X hP hS (tc_5_1 ho0) (by rw [(lc_5_1 ho0)]; exact hs3) dX5_add_21 (fun H locs hP hS => ?_)
  refine g_name hP (fun q4 hq4 hP => ?_)
  have hf := bnd_go hq4 hf
  refine lv_aload_n hx hb dX5_add_22 rfl (lv_at hl 1 rfl) ?_
  refine gg_5_2 (j := o0 + 3) rfl X hP ho0 kf_X5_18 dX5_add_23 ?_
  refine lv_iload hx hb dX5_add_26 (lv_at hl 0 rfl) ?_
  refine lv_iload_n hx hb dX5_add_28 rfl (lv_at hl 4 rfl) ?_
  have hs5 := hok.1
  have hok := hok.2
  refine g_iast X hP hS (tc_5_2 ho0) (by rw [(lc_5_2 ho0)]; exact hs5) dX5_add_29 (fun H locs hP hS => ?_)
  refine g_name hP (fun q6 hq6 hP => ?_)
  have hf := bnd_go hq6 hf
  refine lv_aload_n hx hb dX5_add_30 rfl (lv_at hl 1 rfl) ?_
  refine gg_5_3 (j := o0 + 4) rfl X hP ho0 kf_X5_21 dX5_add_31 ?_
  refine lv_iload hx hb dX5_add_34 (lv_at hl 0 rfl) ?_
  refine lv_iload hx hb dX5_add_36 (lv_at hl 5 rfl) ?_
  have hs7 := hok.1
  have hok := hok.2
  refine g_iast X hP hS (tc_5_3 ho0) (by rw [(lc_5_3 ho0)]; exact hs7) dX5_add_38 (fun H locs hP hS => ?_)
  refine g_name hP (fun q8 hq8 hP => ?_)
  have hf := bnd_go hq8 hf
  refine lv_aload_n hx hb dX5_add_39 rfl (lv_at hl 1 rfl) ?_
  refine gg_5_4 (j := o0 + 5) rfl X hP ho0 kf_X5_24 dX5_add_40 ?_
  refine lv_iload hx hb dX5_add_43 (lv_at hl 0 rfl) ?_
  refine lv_iconst (v := 0) hx hb dX5_add_45 (by decide) ?_
  have hs9 := hok.1
  have hok := hok.2
  refine g_iast X hP hS (tc_5_4 ho0) (by rw [(lc_5_4 ho0)]; exact hs9) dX5_add_46 (fun H locs hP hS => ?_)
  refine g_name hP (fun q10 hq10 hP => ?_)
  have hf := bnd_go hq10 hf
  refine lv_aload_n hx hb dX5_add_47 rfl (lv_at hl 1 rfl) ?_
  refine gg_5_5 (j := o0 + 6) rfl X hP ho0 kf_X5_27 dX5_add_48 ?_
  refine lv_iload hx hb dX5_add_51 (lv_at hl 0 rfl) ?_
  refine lv_iconst (v := -1) hx hb dX5_add_53 (by decide) ?_
  have hs11 := hok.1
  have hok := hok.2
  refine g_iast X hP hS (tc_5_5 ho0) (by rw [(lc_5_5 ho0)]; exact hs11) dX5_add_54 (fun H locs hP hS => ?_)
  refine g_name hP (fun q12 hq12 hP => ?_)
  have hf := bnd_go hq12 hf
  refine lv_aload_n hx hb dX5_add_55 rfl (lv_at hl 1 rfl) ?_
  refine gg_5_6 (j := o0 + 7) rfl X hP ho0 kf_X5_30 dX5_add_56 ?_
  refine lv_iload hx hb dX5_add_59 (lv_at hl 0 rfl) ?_
  refine lv_iconst (v := -1) hx hb dX5_add_61 (by decide) ?_
  have hs13 := hok.1
  have hok := hok.2
  refine g_iast X hP hS (tc_5_6 ho0) (by rw [(lc_5_6 ho0)]; exact hs13) dX5_add_62 (fun H locs hP hS => ?_)
  refine g_name hP (fun q14 hq14 hP => ?_)
  have hf := bnd_go hq14 hf
  refine lv_aload_n hx hb dX5_add_63 rfl (lv_at hl 1 rfl) ?_
  refine gg_5_7 (j := o0 + 8) rfl X hP ho0 kf_X5_33 dX5_add_64 ?_
  refine lv_iload hx hb dX5_add_67 (lv_at hl 0 rfl) ?_
  refine lv_fconst0 hx hb dX5_add_69 ?_
  have hs15 := hok
  refine g_fast X hP hS (tc_5_7 ho0) (by rw [(lc_5_7 ho0)]; exact hs15) dX5_add_70 (fun H locs hP hS => ?_)
  refine g_name hP (fun q16 hq16 hP => ?_)
  have hf := bnd_go hq16 hf
  refine lv_aload_n hx hb dX5_add_71 rfl (lv_at hl 1 rfl) ?_
  refine lv_dup hx hb dX5_add_72 rfl ?_
  refine gg_5_8 X hP ho0 kf_X5_43 dX5_add_73 ?_
  refine lv_iconst (v := 1) hx hb dX5_add_76 (by decide) ?_
  refine lv_iadd hx hb dX5_add_77 ?_
  refine gp_5_8 X hP hS ho0 kf_X5_43 dX5_add_78 (fun H locs hP hS => ?_)
  refine g_name hP (fun q17 hq17 hP => ?_)
  have hf := bnd_go hq17 hf
  refine lv_iload hx hb dX5_add_81 (lv_at hl 0 rfl) ?_
  exact g_iret X hr hlk hP hS hf dX5_add_83
def f_X5_numberOf (σ : St) (o0 : Nat) (x1 : Int32) (x2 : Int32) : Int32 := (if x2 = (0 : Int32) then (σ.1 (o0 + 1) x1.toNatClampNeg) else (if x2 = (1 : Int32) then (σ.1 (o0 + 2) x1.toNatClampNeg) else (if x2 = (2 : Int32) then (σ.1 (o0 + 3) x1.toNatClampNeg) else (if x2 = (3 : Int32) then (σ.1 (o0 + 4) x1.toNatClampNeg) else (if x2 = (4 : Int32) then (σ.1 (o0 + 5) x1.toNatClampNeg) else (if x2 = (5 : Int32) then (σ.1 (o0 + 6) x1.toNatClampNeg) else (σ.1 (o0 + 7) x1.toNatClampNeg)))))))
def ok_X5_numberOf (σ : St) (o0 : Nat) (x1 : Int32) (x2 : Int32) : Prop := ((x2 = (0 : Int32) → vp_in x1 20) ∧ (¬ x2 = (0 : Int32) → ((x2 = (1 : Int32) → vp_in x1 20) ∧ (¬ x2 = (1 : Int32) → ((x2 = (2 : Int32) → vp_in x1 20) ∧ (¬ x2 = (2 : Int32) → ((x2 = (3 : Int32) → vp_in x1 20) ∧ (¬ x2 = (3 : Int32) → ((x2 = (4 : Int32) → vp_in x1 20) ∧ (¬ x2 = (4 : Int32) → ((x2 = (5 : Int32) → vp_in x1 20) ∧ (¬ x2 = (5 : Int32) → vp_in x1 20))))))))))))
abbrev rm_X5_numberOf : Room := { frames := 0, cells := 0, slots := 0, locals := 0 }
set_option maxHeartbeats 4000000 in
set_option maxRecDepth 100000 in
theorem c_X5_numberOf (l : Launch) (G : GE) (hG : Gok G) (σ : St) (o0 : Nat) (ho0 : tyOf o0 = 5) (x1 : Int32) (x2 : Int32) (hok : ok_X5_numberOf σ o0 x1 x2) : MtI l G yX5_numberOf cX5_numberOf 3 rm_X5_numberOf [.ref (G.2.1 o0), .int x1, .int x2] σ (σ, f_X5_numberOf σ o0 x1 x2) := by
  generalize hf : f_X5_numberOf σ o0 x1 x2 = fv
  rw [f_X5_numberOf] at hf
  rw [ok_X5_numberOf] at hok
  refine g_start hG (plainFor_of_name (by decide)) (Nat.le_of_ble_eq_true rfl) ?_
  intro p e s m args below meth c X hr hlk ls hl H locs hP hS
  have X : Cx G p s m args c cX5_numberOf 3 RX5 := X
  obtain ⟨hx, hb, hml, hown, hts, hK, hbs, hXW, -⟩ := id X
  have hl : lv_has ls 3 [(0, .ref (G.2.1 o0)), (1, .int x1), (2, .int x2)] := hl
  refine lv_iload_n hx hb dX5_numberOf_0 rfl (lv_at hl 2 rfl) ?_
  by_cases hd0 : x2 = (0 : Int32)
  · have hf := ite_t hd0 hf
    have hok := hok.1 hd0
    refine lv_tableIn (off := 39) (tgt := 40) hx hb dX5_numberOf_1 (by rw [hd0]; decide) (by rw [hd0]; decide) (by rw [hd0]; rfl) (by decide) ?_
    refine lv_aload_n hx hb dX5_numberOf_40 rfl (lv_at hl 0 rfl) ?_
    refine gg_5_0 (j := o0 + 1) rfl X hP ho0 kf_X5_9 dX5_numberOf_41 ?_
    refine lv_iload_n hx hb dX5_numberOf_44 rfl (lv_at hl 1 rfl) ?_
    have hs1 := hok
    refine g_iald X hP (tc_5_0 ho0) (by rw [(lc_5_0 ho0)]; exact hs1) dX5_numberOf_45 ?_
    exact g_iret X hr hlk hP hS (congrArg (Prod.mk σ) hf) dX5_numberOf_46
  · have hf := ite_f hd0 hf
    have hok := hok.2 hd0
    by_cases hd1 : x2 = (1 : Int32)
    · have hf := ite_t hd1 hf
      have hok := hok.1 hd1
      refine lv_tableIn (off := 46) (tgt := 47) hx hb dX5_numberOf_1 (by rw [hd1]; decide) (by rw [hd1]; decide) (by rw [hd1]; rfl) (by decide) ?_
      refine lv_aload_n hx hb dX5_numberOf_47 rfl (lv_at hl 0 rfl) ?_
      refine gg_5_1 (j := o0 + 2) rfl X hP ho0 kf_X5_15 dX5_numberOf_48 ?_
      refine lv_iload_n hx hb dX5_numberOf_51 rfl (lv_at hl 1 rfl) ?_
      have hs2 := hok
      refine g_iald X hP (tc_5_1 ho0) (by rw [(lc_5_1 ho0)]; exact hs2) dX5_numberOf_52 ?_
      exact g_iret X hr hlk hP hS (congrArg (Prod.mk σ) hf) dX5_numberOf_53
    · have hf := ite_f hd1 hf
      have hok := hok.2 hd1
      by_cases hd2 : x2 = (2 : Int32)
      · have hf := ite_t hd2 hf
        have hok := hok.1 hd2
        refine lv_tableIn (off := 53) (tgt := 54) hx hb dX5_numberOf_1 (by rw [hd2]; decide) (by rw [hd2]; decide) (by rw [hd2]; rfl) (by decide) ?_
        refine lv_aload_n hx hb dX5_numberOf_54 rfl (lv_at hl 0 rfl) ?_
        refine gg_5_2 (j := o0 + 3) rfl X hP ho0 kf_X5_18 dX5_numberOf_55 ?_
        refine lv_iload_n hx hb dX5_numberOf_58 rfl (lv_at hl 1 rfl) ?_
        have hs3 := hok
        refine g_iald X hP (tc_5_2 ho0) (by rw [(lc_5_2 ho0)]; exact hs3) dX5_numberOf_59 ?_
        exact g_iret X hr hlk hP hS (congrArg (Prod.mk σ) hf) dX5_numberOf_60
      · have hf := ite_f hd2 hf
        have hok := hok.2 hd2
        by_cases hd3 : x2 = (3 : Int32)
        · have hf := ite_t hd3 hf
          have hok := hok.1 hd3
          refine lv_tableIn (off := 60) (tgt := 61) hx hb dX5_numberOf_1 (by rw [hd3]; decide) (by rw [hd3]; decide) (by rw [hd3]; rfl) (by decide) ?_
          refine lv_aload_n hx hb dX5_numberOf_61 rfl (lv_at hl 0 rfl) ?_
          refine gg_5_3 (j := o0 + 4) rfl X hP ho0 kf_X5_21 dX5_numberOf_62 ?_
          refine lv_iload_n hx hb dX5_numberOf_65 rfl (lv_at hl 1 rfl) ?_
          have hs4 := hok
          refine g_iald X hP (tc_5_3 ho0) (by rw [(lc_5_3 ho0)]; exact hs4) dX5_numberOf_66 ?_
          exact g_iret X hr hlk hP hS (congrArg (Prod.mk σ) hf) dX5_numberOf_67
        · have hf := ite_f hd3 hf
          have hok := hok.2 hd3
          by_cases hd4 : x2 = (4 : Int32)
          · have hf := ite_t hd4 hf
            have hok := hok.1 hd4
            refine lv_tableIn (off := 67) (tgt := 68) hx hb dX5_numberOf_1 (by rw [hd4]; decide) (by rw [hd4]; decide) (by rw [hd4]; rfl) (by decide) ?_
            refine lv_aload_n hx hb dX5_numberOf_68 rfl (lv_at hl 0 rfl) ?_
            refine gg_5_4 (j := o0 + 5) rfl X hP ho0 kf_X5_24 dX5_numberOf_69 ?_
            refine lv_iload_n hx hb dX5_numberOf_72 rfl (lv_at hl 1 rfl) ?_
            have hs5 := hok
            refine g_iald X hP (tc_5_4 ho0) (by rw [(lc_5_4 ho0)]; exact hs5) dX5_numberOf_73 ?_
            exact g_iret X hr hlk hP hS (congrArg (Prod.mk σ) hf) dX5_numberOf_74
          · have hf := ite_f hd4 hf
            have hok := hok.2 hd4
            by_cases hd5 : x2 = (5 : Int32)
            · have hf := ite_t hd5 hf
              have hok := hok.1 hd5
              refine lv_tableIn (off := 74) (tgt := 75) hx hb dX5_numberOf_1 (by rw [hd5]; decide) (by rw [hd5]; decide) (by rw [hd5]; rfl) (by decide) ?_
              refine lv_aload_n hx hb dX5_numberOf_75 rfl (lv_at hl 0 rfl) ?_
              refine gg_5_5 (j := o0 + 6) rfl X hP ho0 kf_X5_27 dX5_numberOf_76 ?_
              refine lv_iload_n hx hb dX5_numberOf_79 rfl (lv_at hl 1 rfl) ?_
              have hs6 := hok
              refine g_iald X hP (tc_5_5 ho0) (by rw [(lc_5_5 ho0)]; exact hs6) dX5_numberOf_80 ?_
              exact g_iret X hr hlk hP hS (congrArg (Prod.mk σ) hf) dX5_numberOf_81
            · have hf := ite_f hd5 hf
              have hok := hok.2 hd5
              refine lv_tableOut (tgt := 82) hx hb dX5_numberOf_1 (by have z0 : x2.toInt ≠ 0 := sw_ne hd0; have z1 : x2.toInt ≠ 1 := sw_ne hd1; have z2 : x2.toInt ≠ 2 := sw_ne hd2; have z3 : x2.toInt ≠ 3 := sw_ne hd3; have z4 : x2.toInt ≠ 4 := sw_ne hd4; have z5 : x2.toInt ≠ 5 := sw_ne hd5; show x2.toInt < 0 ∨ 5 < x2.toInt; omega) (by decide) ?_
              refine lv_aload_n hx hb dX5_numberOf_82 rfl (lv_at hl 0 rfl) ?_
              refine gg_5_6 (j := o0 + 7) rfl X hP ho0 kf_X5_30 dX5_numberOf_83 ?_
              refine lv_iload_n hx hb dX5_numberOf_86 rfl (lv_at hl 1 rfl) ?_
              have hs7 := hok
              refine g_iald X hP (tc_5_6 ho0) (by rw [(lc_5_6 ho0)]; exact hs7) dX5_numberOf_87 ?_
              exact g_iret X hr hlk hP hS (congrArg (Prod.mk σ) hf) dX5_numberOf_88
def f_X5_leaveShelf (σ : St) (o0 : Nat) (x1 : Int32) (x2 : Int32) : St := (bnd (setI σ (o0 + 5) x1.toNatClampNeg x2) (fun q2 => (bnd (setI q2 (o0 + 6) x1.toNatClampNeg (-1 : Int32)) (fun q4 => q4))))
def ok_X5_leaveShelf (σ : St) (o0 : Nat) (x1 : Int32) (x2 : Int32) : Prop := (vp_in x1 20 ∧ vp_in x1 20)
abbrev rm_X5_leaveShelf : Room := { frames := 0, cells := 0, slots := 0, locals := 0 }
set_option maxHeartbeats 4000000 in
set_option maxRecDepth 100000 in
theorem c_X5_leaveShelf (l : Launch) (G : GE) (hG : Gok G) (σ : St) (o0 : Nat) (ho0 : tyOf o0 = 5) (x1 : Int32) (x2 : Int32) (hok : ok_X5_leaveShelf σ o0 x1 x2) : MtV l G yX5_leaveShelf cX5_leaveShelf 3 rm_X5_leaveShelf [.ref (G.2.1 o0), .int x1, .int x2] σ (f_X5_leaveShelf σ o0 x1 x2) := by
  generalize hf : f_X5_leaveShelf σ o0 x1 x2 = fv
  rw [f_X5_leaveShelf] at hf
  rw [ok_X5_leaveShelf] at hok
  refine g_start hG (plainFor_of_name (by decide)) (Nat.le_of_ble_eq_true rfl) ?_
  intro p e s m args below meth c X hr hlk ls hl H locs hP hS
  have X : Cx G p s m args c cX5_leaveShelf 3 RX5 := X
  obtain ⟨hx, hb, hml, hown, hts, hK, hbs, hXW, -⟩ := id X
  have hl : lv_has ls 3 [(0, .ref (G.2.1 o0)), (1, .int x1), (2, .int x2)] := hl
  refine lv_aload_n hx hb dX5_leaveShelf_0 rfl (lv_at hl 0 rfl) ?_
  refine gg_5_4 (j := o0 + 5) rfl X hP ho0 kf_X5_24 dX5_leaveShelf_1 ?_
  refine lv_iload_n hx hb dX5_leaveShelf_4 rfl (lv_at hl 1 rfl) ?_
  refine lv_iload_n hx hb dX5_leaveShelf_5 rfl (lv_at hl 2 rfl) ?_
  have hs1 := hok.1
  have hok := hok.2
  refine g_iast X hP hS (tc_5_4 ho0) (by rw [(lc_5_4 ho0)]; exact hs1) dX5_leaveShelf_6 (fun H locs hP hS => ?_)
  refine g_name hP (fun q2 hq2 hP => ?_)
  have hf := bnd_go hq2 hf
  refine lv_aload_n hx hb dX5_leaveShelf_7 rfl (lv_at hl 0 rfl) ?_
  refine gg_5_5 (j := o0 + 6) rfl X hP ho0 kf_X5_27 dX5_leaveShelf_8 ?_
  refine lv_iload_n hx hb dX5_leaveShelf_11 rfl (lv_at hl 1 rfl) ?_
  refine lv_iconst (v := -1) hx hb dX5_leaveShelf_12 (by decide) ?_
  have hs3 := hok
  refine g_iast X hP hS (tc_5_5 ho0) (by rw [(lc_5_5 ho0)]; exact hs3) dX5_leaveShelf_13 (fun H locs hP hS => ?_)
  refine g_name hP (fun q4 hq4 hP => ?_)
  have hf := bnd_go hq4 hf
  exact g_vret X hr hlk hP hS hf dX5_leaveShelf_14
def fX5_letters_L4 (σ : St) (o0 : Nat) : Nat → Int32 → Int32 → Int32
  | 0, _, _ => 0
  | n4 + 1, x1, x2 => (if (σ.1 o0 8) ≤ x2 then x1 else (if (σ.1 (o0 + 1) x2.toNatClampNeg) = 0 then (fX5_letters_L4 σ o0 n4 (x1 + (1 : Int32)) (x2 + (1 : Int32))) else (fX5_letters_L4 σ o0 n4 x1 (x2 + (1 : Int32)))))
def okX5_letters_L4 (σ : St) (o0 : Nat) : Nat → Int32 → Int32 → Prop
  | 0, _, _ => False
  | n4 + 1, x1, x2 => (((σ.1 o0 8) ≤ x2 → True) ∧ (¬ (σ.1 o0 8) ≤ x2 → (vp_in x2 20 ∧ (((σ.1 (o0 + 1) x2.toNatClampNeg) = 0 → (okX5_letters_L4 σ o0 n4 (x1 + (1 : Int32)) (x2 + (1 : Int32)))) ∧ (¬ (σ.1 (o0 + 1) x2.toNatClampNeg) = 0 → (okX5_letters_L4 σ o0 n4 x1 (x2 + (1 : Int32))))))))
def f_X5_letters (σ : St) (o0 : Nat) : Int32 := (fX5_letters_L4 σ o0 2000 (0 : Int32) (0 : Int32))
def ok_X5_letters (σ : St) (o0 : Nat) : Prop := (okX5_letters_L4 σ o0 2000 (0 : Int32) (0 : Int32))
abbrev rm_X5_letters : Room := { frames := 0, cells := 0, slots := 0, locals := 0 }
set_option maxHeartbeats 4000000 in
set_option maxRecDepth 100000 in
theorem c_X5_letters (l : Launch) (G : GE) (hG : Gok G) (σ : St) (o0 : Nat) (ho0 : tyOf o0 = 5) (hok : ok_X5_letters σ o0) : MtI l G yX5_letters cX5_letters 3 rm_X5_letters [.ref (G.2.1 o0)] σ (σ, f_X5_letters σ o0) := by
  generalize hf : f_X5_letters σ o0 = fv
  rw [f_X5_letters] at hf
  rw [ok_X5_letters] at hok
  refine g_start hG (plainFor_of_name (by decide)) (Nat.le_of_ble_eq_true rfl) ?_
  intro p e s m args below meth c X hr hlk ls hl H locs hP hS
  have X : Cx G p s m args c cX5_letters 3 RX5 := X
  obtain ⟨hx, hb, hml, hown, hts, hK, hbs, hXW, -⟩ := id X
  have hl : lv_has ls 3 [(0, .ref (G.2.1 o0))] := hl
  refine lv_iconst (v := 0) hx hb dX5_letters_0 (by decide) ?_
  refine lv_istore_n (lv' := [(1, .int (0 : Int32)), (0, .ref (G.2.1 o0))]) hx hb dX5_letters_1 rfl hl (by decide) rfl (fun ls hl => ?_)
  refine lv_iconst (v := 0) hx hb dX5_letters_2 (by decide) ?_
  refine lv_istore_n (lv' := [(2, .int (0 : Int32)), (1, .int (0 : Int32)), (0, .ref (G.2.1 o0))]) hx hb dX5_letters_3 rfl hl (by decide) rfl (fun ls hl => ?_)
  have K4 : ∀ (n4 : Nat) (x1 : Int32) (x2 : Int32), okX5_letters_L4 σ o0 n4 x1 x2 → fX5_letters_L4 σ o0 n4 x1 x2 = fv → ∀ (H : Heap) (locs : List Loc), va_P G.1 vcl (wl G σ) H → va_S (GA G) s.heap H locs → ∀ (ls : Array Slot), lv_has ls 3 [(0, .ref (G.2.1 o0)), (1, .int x1), (2, .int x2)] → W p l e rm_X5_letters s m args below meth c H locs 0 0 (MQ below (va_Qi (fun r u => (u, r) = (σ, fv)) (PB G) (GA G)) args s 0 0 (GA G)) (F0 m 4 ls []) := by
    intro n4
    induction n4 with
    | zero =>
      intro x1 x2 hok
      exact hok.elim
    | succ n4 ih4 =>
      intro x1 x2 hok hf H locs hP hS ls hl
      rw [okX5_letters_L4] at hok
      rw [fX5_letters_L4] at hf
      refine lv_iload_n hx hb dX5_letters_4 rfl (lv_at hl 2 rfl) ?_
      refine lv_aload_n hx hb dX5_letters_5 rfl (lv_at hl 0 rfl) ?_
      refine gg_5_8 X hP ho0 kf_X5_43 dX5_letters_6 ?_
      refine lv_icmp_ge (tgt := 30) hx hb dX5_letters_9 (by decide) (fun hc => ?_) (fun hc => ?_)
      · have hf := ite_t hc hf
        refine lv_iload_n hx hb dX5_letters_30 rfl (lv_at hl 1 rfl) ?_
        exact g_iret X hr hlk hP hS (congrArg (Prod.mk σ) hf) dX5_letters_31
      · have hf := ite_f hc hf
        have hok := hok.2 hc
        refine lv_aload_n hx hb dX5_letters_12 rfl (lv_at hl 0 rfl) ?_
        refine gg_5_0 (j := o0 + 1) rfl X hP ho0 kf_X5_9 dX5_letters_13 ?_
        refine lv_iload_n hx hb dX5_letters_16 rfl (lv_at hl 2 rfl) ?_
        have hs1 := hok.1
        have hok := hok.2
        refine g_iald X hP (tc_5_0 ho0) (by rw [(lc_5_0 ho0)]; exact hs1) dX5_letters_17 ?_
        refine lv_if_ne (tgt := 24) hx hb dX5_letters_18 (by decide) (fun hc => ?_) (fun hc => ?_)
        · have hf := ite_f hc hf
          have hok := hok.2 hc
          refine lv_iinc (v := (x2 + (1 : Int32))) (lv' := [(2, .int (x2 + (1 : Int32))), (0, .ref (G.2.1 o0)), (1, .int x1)]) hx hb dX5_letters_24 hl (k := 2) rfl rfl (by decide) rfl (fun ls hl => ?_)
          refine lv_goto (tgt := 4) hx hb dX5_letters_27 (by decide) ?_
          exact ih4 x1 (x2 + (1 : Int32)) hok hf _ _ hP hS ls (lv_sub hl [1, 2, 0] rfl)
        · have hf := ite_t hc hf
          have hok := hok.1 hc
          refine lv_iinc (v := (x1 + (1 : Int32))) (lv' := [(1, .int (x1 + (1 : Int32))), (0, .ref (G.2.1 o0)), (2, .int x2)]) hx hb dX5_letters_21 hl (k := 1) rfl rfl (by decide) rfl (fun ls hl => ?_)
          refine lv_iinc (v := (x2 + (1 : Int32))) (lv' := [(2, .int (x2 + (1 : Int32))), (1, .int (x1 + (1 : Int32))), (0, .ref (G.2.1 o0))]) hx hb dX5_letters_24 hl (k := 2) rfl rfl (by decide) rfl (fun ls hl => ?_)
          refine lv_goto (tgt := 4) hx hb dX5_letters_27 (by decide) ?_
          exact ih4 (x1 + (1 : Int32)) (x2 + (1 : Int32)) hok hf _ _ hP hS ls (lv_sub hl [2, 1, 0] rfl)
  exact K4 2000 (0 : Int32) (0 : Int32) hok hf _ _ hP hS ls (lv_sub hl [2, 1, 0] rfl)
def fX5_inState_L4 (σ : St) (o0 : Nat) : Nat → Int32 → Int32 → Int32 → Int32
  | 0, _, _, _ => 0
  | n4 + 1, x1, x2, x3 => (if (σ.1 o0 8) ≤ x3 then x2 else (if (σ.1 (o0 + 5) x3.toNatClampNeg) = x1 then (fX5_inState_L4 σ o0 n4 x1 (x2 + (1 : Int32)) (x3 + (1 : Int32))) else (fX5_inState_L4 σ o0 n4 x1 x2 (x3 + (1 : Int32)))))
def okX5_inState_L4 (σ : St) (o0 : Nat) : Nat → Int32 → Int32 → Int32 → Prop
  | 0, _, _, _ => False
  | n4 + 1, x1, x2, x3 => (((σ.1 o0 8) ≤ x3 → True) ∧ (¬ (σ.1 o0 8) ≤ x3 → (vp_in x3 20 ∧ (((σ.1 (o0 + 5) x3.toNatClampNeg) = x1 → (okX5_inState_L4 σ o0 n4 x1 (x2 + (1 : Int32)) (x3 + (1 : Int32)))) ∧ (¬ (σ.1 (o0 + 5) x3.toNatClampNeg) = x1 → (okX5_inState_L4 σ o0 n4 x1 x2 (x3 + (1 : Int32))))))))
def f_X5_inState (σ : St) (o0 : Nat) (x1 : Int32) : Int32 := (fX5_inState_L4 σ o0 2000 x1 (0 : Int32) (0 : Int32))
def ok_X5_inState (σ : St) (o0 : Nat) (x1 : Int32) : Prop := (okX5_inState_L4 σ o0 2000 x1 (0 : Int32) (0 : Int32))
abbrev rm_X5_inState : Room := { frames := 0, cells := 0, slots := 0, locals := 0 }
set_option maxHeartbeats 4000000 in
set_option maxRecDepth 100000 in
theorem c_X5_inState (l : Launch) (G : GE) (hG : Gok G) (σ : St) (o0 : Nat) (ho0 : tyOf o0 = 5) (x1 : Int32) (hok : ok_X5_inState σ o0 x1) : MtI l G yX5_inState cX5_inState 4 rm_X5_inState [.ref (G.2.1 o0), .int x1] σ (σ, f_X5_inState σ o0 x1) := by
  generalize hf : f_X5_inState σ o0 x1 = fv
  rw [f_X5_inState] at hf
  rw [ok_X5_inState] at hok
  refine g_start hG (plainFor_of_name (by decide)) (Nat.le_of_ble_eq_true rfl) ?_
  intro p e s m args below meth c X hr hlk ls hl H locs hP hS
  have X : Cx G p s m args c cX5_inState 4 RX5 := X
  obtain ⟨hx, hb, hml, hown, hts, hK, hbs, hXW, -⟩ := id X
  have hl : lv_has ls 4 [(0, .ref (G.2.1 o0)), (1, .int x1)] := hl
  refine lv_iconst (v := 0) hx hb dX5_inState_0 (by decide) ?_
  refine lv_istore_n (lv' := [(2, .int (0 : Int32)), (0, .ref (G.2.1 o0)), (1, .int x1)]) hx hb dX5_inState_1 rfl hl (by decide) rfl (fun ls hl => ?_)
  refine lv_iconst (v := 0) hx hb dX5_inState_2 (by decide) ?_
  refine lv_istore_n (lv' := [(3, .int (0 : Int32)), (2, .int (0 : Int32)), (0, .ref (G.2.1 o0)), (1, .int x1)]) hx hb dX5_inState_3 rfl hl (by decide) rfl (fun ls hl => ?_)
  have K4 : ∀ (n4 : Nat) (x1 : Int32) (x2 : Int32) (x3 : Int32), okX5_inState_L4 σ o0 n4 x1 x2 x3 → fX5_inState_L4 σ o0 n4 x1 x2 x3 = fv → ∀ (H : Heap) (locs : List Loc), va_P G.1 vcl (wl G σ) H → va_S (GA G) s.heap H locs → ∀ (ls : Array Slot), lv_has ls 4 [(0, .ref (G.2.1 o0)), (1, .int x1), (2, .int x2), (3, .int x3)] → W p l e rm_X5_inState s m args below meth c H locs 0 0 (MQ below (va_Qi (fun r u => (u, r) = (σ, fv)) (PB G) (GA G)) args s 0 0 (GA G)) (F0 m 4 ls []) := by
    intro n4
    induction n4 with
    | zero =>
      intro x1 x2 x3 hok
      exact hok.elim
    | succ n4 ih4 =>
      intro x1 x2 x3 hok hf H locs hP hS ls hl
      rw [okX5_inState_L4] at hok
      rw [fX5_inState_L4] at hf
      refine lv_iload_n hx hb dX5_inState_4 rfl (lv_at hl 3 rfl) ?_
      refine lv_aload_n hx hb dX5_inState_5 rfl (lv_at hl 0 rfl) ?_
      refine gg_5_8 X hP ho0 kf_X5_43 dX5_inState_6 ?_
      refine lv_icmp_ge (tgt := 31) hx hb dX5_inState_9 (by decide) (fun hc => ?_) (fun hc => ?_)
      · have hf := ite_t hc hf
        refine lv_iload_n hx hb dX5_inState_31 rfl (lv_at hl 2 rfl) ?_
        exact g_iret X hr hlk hP hS (congrArg (Prod.mk σ) hf) dX5_inState_32
      · have hf := ite_f hc hf
        have hok := hok.2 hc
        refine lv_aload_n hx hb dX5_inState_12 rfl (lv_at hl 0 rfl) ?_
        refine gg_5_4 (j := o0 + 5) rfl X hP ho0 kf_X5_24 dX5_inState_13 ?_
        refine lv_iload_n hx hb dX5_inState_16 rfl (lv_at hl 3 rfl) ?_
        have hs1 := hok.1
        have hok := hok.2
        refine g_iald X hP (tc_5_4 ho0) (by rw [(lc_5_4 ho0)]; exact hs1) dX5_inState_17 ?_
        refine lv_iload_n hx hb dX5_inState_18 rfl (lv_at hl 1 rfl) ?_
        refine lv_icmp_ne (tgt := 25) hx hb dX5_inState_19 (by decide) (fun hc => ?_) (fun hc => ?_)
        · have hf := ite_f hc hf
          have hok := hok.2 hc
          refine lv_iinc (v := (x3 + (1 : Int32))) (lv' := [(3, .int (x3 + (1 : Int32))), (0, .ref (G.2.1 o0)), (1, .int x1), (2, .int x2)]) hx hb dX5_inState_25 hl (k := 3) rfl rfl (by decide) rfl (fun ls hl => ?_)
          refine lv_goto (tgt := 4) hx hb dX5_inState_28 (by decide) ?_
          exact ih4 x1 x2 (x3 + (1 : Int32)) hok hf _ _ hP hS ls (lv_sub hl [1, 2, 3, 0] rfl)
        · have hf := ite_t hc hf
          have hok := hok.1 hc
          refine lv_iinc (v := (x2 + (1 : Int32))) (lv' := [(2, .int (x2 + (1 : Int32))), (0, .ref (G.2.1 o0)), (1, .int x1), (3, .int x3)]) hx hb dX5_inState_22 hl (k := 2) rfl rfl (by decide) rfl (fun ls hl => ?_)
          refine lv_iinc (v := (x3 + (1 : Int32))) (lv' := [(3, .int (x3 + (1 : Int32))), (2, .int (x2 + (1 : Int32))), (0, .ref (G.2.1 o0)), (1, .int x1)]) hx hb dX5_inState_25 hl (k := 3) rfl rfl (by decide) rfl (fun ls hl => ?_)
          refine lv_goto (tgt := 4) hx hb dX5_inState_28 (by decide) ?_
          exact ih4 x1 (x2 + (1 : Int32)) (x3 + (1 : Int32)) hok hf _ _ hP hS ls (lv_sub hl [2, 3, 1, 0] rfl)
  exact K4 2000 x1 (0 : Int32) (0 : Int32) hok hf _ _ hP hS ls (lv_sub hl [2, 3, 1, 0] rfl)
def fX5_allWords_L4 (σ : St) (o0 : Nat) : Nat → Int32 → Int32 → Int32
  | 0, _, _ => 0
  | n4 + 1, x1, x2 => (if (σ.1 o0 8) ≤ x2 then x1 else (if (σ.1 (o0 + 1) x2.toNatClampNeg) = 0 then (fX5_allWords_L4 σ o0 n4 (x1 + (σ.1 (o0 + 4) x2.toNatClampNeg)) (x2 + (1 : Int32))) else (fX5_allWords_L4 σ o0 n4 x1 (x2 + (1 : Int32)))))
def okX5_allWords_L4 (σ : St) (o0 : Nat) : Nat → Int32 → Int32 → Prop
  | 0, _, _ => False
  | n4 + 1, x1, x2 => (((σ.1 o0 8) ≤ x2 → True) ∧ (¬ (σ.1 o0 8) ≤ x2 → (vp_in x2 20 ∧ (((σ.1 (o0 + 1) x2.toNatClampNeg) = 0 → (vp_in x2 20 ∧ (okX5_allWords_L4 σ o0 n4 (x1 + (σ.1 (o0 + 4) x2.toNatClampNeg)) (x2 + (1 : Int32))))) ∧ (¬ (σ.1 (o0 + 1) x2.toNatClampNeg) = 0 → (okX5_allWords_L4 σ o0 n4 x1 (x2 + (1 : Int32))))))))
def f_X5_allWords (σ : St) (o0 : Nat) : Int32 := (fX5_allWords_L4 σ o0 2000 (0 : Int32) (0 : Int32))
def ok_X5_allWords (σ : St) (o0 : Nat) : Prop := (okX5_allWords_L4 σ o0 2000 (0 : Int32) (0 : Int32))
abbrev rm_X5_allWords : Room := { frames := 0, cells := 0, slots := 0, locals := 0 }
set_option maxHeartbeats 4000000 in
set_option maxRecDepth 100000 in
theorem c_X5_allWords (l : Launch) (G : GE) (hG : Gok G) (σ : St) (o0 : Nat) (ho0 : tyOf o0 = 5) (hok : ok_X5_allWords σ o0) : MtI l G yX5_allWords cX5_allWords 3 rm_X5_allWords [.ref (G.2.1 o0)] σ (σ, f_X5_allWords σ o0) := by
  generalize hf : f_X5_allWords σ o0 = fv
  rw [f_X5_allWords] at hf
  rw [ok_X5_allWords] at hok
  refine g_start hG (plainFor_of_name (by decide)) (Nat.le_of_ble_eq_true rfl) ?_
  intro p e s m args below meth c X hr hlk ls hl H locs hP hS
  have X : Cx G p s m args c cX5_allWords 3 RX5 := X
  obtain ⟨hx, hb, hml, hown, hts, hK, hbs, hXW, -⟩ := id X
  have hl : lv_has ls 3 [(0, .ref (G.2.1 o0))] := hl
  refine lv_iconst (v := 0) hx hb dX5_allWords_0 (by decide) ?_
  refine lv_istore_n (lv' := [(1, .int (0 : Int32)), (0, .ref (G.2.1 o0))]) hx hb dX5_allWords_1 rfl hl (by decide) rfl (fun ls hl => ?_)
  refine lv_iconst (v := 0) hx hb dX5_allWords_2 (by decide) ?_
  refine lv_istore_n (lv' := [(2, .int (0 : Int32)), (1, .int (0 : Int32)), (0, .ref (G.2.1 o0))]) hx hb dX5_allWords_3 rfl hl (by decide) rfl (fun ls hl => ?_)
  have K4 : ∀ (n4 : Nat) (x1 : Int32) (x2 : Int32), okX5_allWords_L4 σ o0 n4 x1 x2 → fX5_allWords_L4 σ o0 n4 x1 x2 = fv → ∀ (H : Heap) (locs : List Loc), va_P G.1 vcl (wl G σ) H → va_S (GA G) s.heap H locs → ∀ (ls : Array Slot), lv_has ls 3 [(0, .ref (G.2.1 o0)), (1, .int x1), (2, .int x2)] → W p l e rm_X5_allWords s m args below meth c H locs 0 0 (MQ below (va_Qi (fun r u => (u, r) = (σ, fv)) (PB G) (GA G)) args s 0 0 (GA G)) (F0 m 4 ls []) := by
    intro n4
    induction n4 with
    | zero =>
      intro x1 x2 hok
      exact hok.elim
    | succ n4 ih4 =>
      intro x1 x2 hok hf H locs hP hS ls hl
      rw [okX5_allWords_L4] at hok
      rw [fX5_allWords_L4] at hf
      refine lv_iload_n hx hb dX5_allWords_4 rfl (lv_at hl 2 rfl) ?_
      refine lv_aload_n hx hb dX5_allWords_5 rfl (lv_at hl 0 rfl) ?_
      refine gg_5_8 X hP ho0 kf_X5_43 dX5_allWords_6 ?_
      refine lv_icmp_ge (tgt := 36) hx hb dX5_allWords_9 (by decide) (fun hc => ?_) (fun hc => ?_)
      · have hf := ite_t hc hf
        refine lv_iload_n hx hb dX5_allWords_36 rfl (lv_at hl 1 rfl) ?_
        exact g_iret X hr hlk hP hS (congrArg (Prod.mk σ) hf) dX5_allWords_37
      · have hf := ite_f hc hf
        have hok := hok.2 hc
        refine lv_aload_n hx hb dX5_allWords_12 rfl (lv_at hl 0 rfl) ?_
        refine gg_5_0 (j := o0 + 1) rfl X hP ho0 kf_X5_9 dX5_allWords_13 ?_
        refine lv_iload_n hx hb dX5_allWords_16 rfl (lv_at hl 2 rfl) ?_
        have hs1 := hok.1
        have hok := hok.2
        refine g_iald X hP (tc_5_0 ho0) (by rw [(lc_5_0 ho0)]; exact hs1) dX5_allWords_17 ?_
        refine lv_if_ne (tgt := 30) hx hb dX5_allWords_18 (by decide) (fun hc => ?_) (fun hc => ?_)
        · have hf := ite_f hc hf
          have hok := hok.2 hc
          refine lv_iinc (v := (x2 + (1 : Int32))) (lv' := [(2, .int (x2 + (1 : Int32))), (0, .ref (G.2.1 o0)), (1, .int x1)]) hx hb dX5_allWords_30 hl (k := 2) rfl rfl (by decide) rfl (fun ls hl => ?_)
          refine lv_goto (tgt := 4) hx hb dX5_allWords_33 (by decide) ?_
          exact ih4 x1 (x2 + (1 : Int32)) hok hf _ _ hP hS ls (lv_sub hl [1, 2, 0] rfl)
        · have hf := ite_t hc hf
          have hok := hok.1 hc
          refine lv_iload_n hx hb dX5_allWords_21 rfl (lv_at hl 1 rfl) ?_
          refine lv_aload_n hx hb dX5_allWords_22 rfl (lv_at hl 0 rfl) ?_
          refine gg_5_3 (j := o0 + 4) rfl X hP ho0 kf_X5_21 dX5_allWords_23 ?_
          refine lv_iload_n hx hb dX5_allWords_26 rfl (lv_at hl 2 rfl) ?_
          have hs2 := hok.1
          have hok := hok.2
          refine g_iald X hP (tc_5_3 ho0) (by rw [(lc_5_3 ho0)]; exact hs2) dX5_allWords_27 ?_
          refine lv_iadd hx hb dX5_allWords_28 ?_
          refine lv_istore_n (lv' := [(1, .int (x1 + (σ.1 (o0 + 4) x2.toNatClampNeg))), (0, .ref (G.2.1 o0)), (2, .int x2)]) hx hb dX5_allWords_29 rfl hl (by decide) rfl (fun ls hl => ?_)
          refine lv_iinc (v := (x2 + (1 : Int32))) (lv' := [(2, .int (x2 + (1 : Int32))), (1, .int (x1 + (σ.1 (o0 + 4) x2.toNatClampNeg))), (0, .ref (G.2.1 o0))]) hx hb dX5_allWords_30 hl (k := 2) rfl rfl (by decide) rfl (fun ls hl => ?_)
          refine lv_goto (tgt := 4) hx hb dX5_allWords_33 (by decide) ?_
          exact ih4 (x1 + (σ.1 (o0 + 4) x2.toNatClampNeg)) (x2 + (1 : Int32)) hok hf _ _ hP hS ls (lv_sub hl [2, 1, 0] rfl)
  exact K4 2000 (0 : Int32) (0 : Int32) hok hf _ _ hP hS ls (lv_sub hl [2, 1, 0] rfl)
def fX5_takenLettersTo_L4 (σ : St) (o0 : Nat) : Nat → Int32 → Int32 → Int32 → Int32
  | 0, _, _, _ => 0
  | n4 + 1, x1, x2, x3 => (if (σ.1 o0 8) ≤ x3 then x2 else (if (σ.1 (o0 + 1) x3.toNatClampNeg) = 0 then (if (σ.1 (o0 + 5) x3.toNatClampNeg) = (3 : Int32) then (if (σ.1 (o0 + 3) x3.toNatClampNeg) = x1 then (fX5_takenLettersTo_L4 σ o0 n4 x1 (x2 + (1 : Int32)) (x3 + (1 : Int32))) else (fX5_takenLettersTo_L4 σ o0 n4 x1 x2 (x3 + (1 : Int32)))) else (fX5_takenLettersTo_L4 σ o0 n4 x1 x2 (x3 + (1 : Int32)))) else (fX5_takenLettersTo_L4 σ o0 n4 x1 x2 (x3 + (1 : Int32)))))
def okX5_takenLettersTo_L4 (σ : St) (o0 : Nat) : Nat → Int32 → Int32 → Int32 → Prop
  | 0, _, _, _ => False
  | n4 + 1, x1, x2, x3 => (((σ.1 o0 8) ≤ x3 → True) ∧ (¬ (σ.1 o0 8) ≤ x3 → (vp_in x3 20 ∧ (((σ.1 (o0 + 1) x3.toNatClampNeg) = 0 → (vp_in x3 20 ∧ (((σ.1 (o0 + 5) x3.toNatClampNeg) = (3 : Int32) → (vp_in x3 20 ∧ (((σ.1 (o0 + 3) x3.toNatClampNeg) = x1 → (okX5_takenLettersTo_L4 σ o0 n4 x1 (x2 + (1 : Int32)) (x3 + (1 : Int32)))) ∧ (¬ (σ.1 (o0 + 3) x3.toNatClampNeg) = x1 → (okX5_takenLettersTo_L4 σ o0 n4 x1 x2 (x3 + (1 : Int32))))))) ∧ (¬ (σ.1 (o0 + 5) x3.toNatClampNeg) = (3 : Int32) → (okX5_takenLettersTo_L4 σ o0 n4 x1 x2 (x3 + (1 : Int32))))))) ∧ (¬ (σ.1 (o0 + 1) x3.toNatClampNeg) = 0 → (okX5_takenLettersTo_L4 σ o0 n4 x1 x2 (x3 + (1 : Int32))))))))
def f_X5_takenLettersTo (σ : St) (o0 : Nat) (x1 : Int32) : Int32 := (fX5_takenLettersTo_L4 σ o0 2000 x1 (0 : Int32) (0 : Int32))
def ok_X5_takenLettersTo (σ : St) (o0 : Nat) (x1 : Int32) : Prop := (okX5_takenLettersTo_L4 σ o0 2000 x1 (0 : Int32) (0 : Int32))
abbrev rm_X5_takenLettersTo : Room := { frames := 0, cells := 0, slots := 0, locals := 0 }
set_option maxHeartbeats 4000000 in
set_option maxRecDepth 100000 in
theorem c_X5_takenLettersTo (l : Launch) (G : GE) (hG : Gok G) (σ : St) (o0 : Nat) (ho0 : tyOf o0 = 5) (x1 : Int32) (hok : ok_X5_takenLettersTo σ o0 x1) : MtI l G yX5_takenLettersTo cX5_takenLettersTo 4 rm_X5_takenLettersTo [.ref (G.2.1 o0), .int x1] σ (σ, f_X5_takenLettersTo σ o0 x1) := by
  generalize hf : f_X5_takenLettersTo σ o0 x1 = fv
  rw [f_X5_takenLettersTo] at hf
  rw [ok_X5_takenLettersTo] at hok
  refine g_start hG (plainFor_of_name (by decide)) (Nat.le_of_ble_eq_true rfl) ?_
  intro p e s m args below meth c X hr hlk ls hl H locs hP hS
  have X : Cx G p s m args c cX5_takenLettersTo 4 RX5 := X
  obtain ⟨hx, hb, hml, hown, hts, hK, hbs, hXW, -⟩ := id X
  have hl : lv_has ls 4 [(0, .ref (G.2.1 o0)), (1, .int x1)] := hl
  refine lv_iconst (v := 0) hx hb dX5_takenLettersTo_0 (by decide) ?_
  refine lv_istore_n (lv' := [(2, .int (0 : Int32)), (0, .ref (G.2.1 o0)), (1, .int x1)]) hx hb dX5_takenLettersTo_1 rfl hl (by decide) rfl (fun ls hl => ?_)
  refine lv_iconst (v := 0) hx hb dX5_takenLettersTo_2 (by decide) ?_
  refine lv_istore_n (lv' := [(3, .int (0 : Int32)), (2, .int (0 : Int32)), (0, .ref (G.2.1 o0)), (1, .int x1)]) hx hb dX5_takenLettersTo_3 rfl hl (by decide) rfl (fun ls hl => ?_)
  have K4 : ∀ (n4 : Nat) (x1 : Int32) (x2 : Int32) (x3 : Int32), okX5_takenLettersTo_L4 σ o0 n4 x1 x2 x3 → fX5_takenLettersTo_L4 σ o0 n4 x1 x2 x3 = fv → ∀ (H : Heap) (locs : List Loc), va_P G.1 vcl (wl G σ) H → va_S (GA G) s.heap H locs → ∀ (ls : Array Slot), lv_has ls 4 [(0, .ref (G.2.1 o0)), (1, .int x1), (2, .int x2), (3, .int x3)] → W p l e rm_X5_takenLettersTo s m args below meth c H locs 0 0 (MQ below (va_Qi (fun r u => (u, r) = (σ, fv)) (PB G) (GA G)) args s 0 0 (GA G)) (F0 m 4 ls []) := by
    intro n4
    induction n4 with
    | zero =>
      intro x1 x2 x3 hok
      exact hok.elim
    | succ n4 ih4 =>
      intro x1 x2 x3 hok hf H locs hP hS ls hl
      rw [okX5_takenLettersTo_L4] at hok
      rw [fX5_takenLettersTo_L4] at hf
      refine lv_iload_n hx hb dX5_takenLettersTo_4 rfl (lv_at hl 3 rfl) ?_
      refine lv_aload_n hx hb dX5_takenLettersTo_5 rfl (lv_at hl 0 rfl) ?_
      refine gg_5_8 X hP ho0 kf_X5_43 dX5_takenLettersTo_6 ?_
      refine lv_icmp_ge (tgt := 50) hx hb dX5_takenLettersTo_9 (by decide) (fun hc => ?_) (fun hc => ?_)
      · have hf := ite_t hc hf
        refine lv_iload_n hx hb dX5_takenLettersTo_50 rfl (lv_at hl 2 rfl) ?_
        exact g_iret X hr hlk hP hS (congrArg (Prod.mk σ) hf) dX5_takenLettersTo_51
      · have hf := ite_f hc hf
        have hok := hok.2 hc
        refine lv_aload_n hx hb dX5_takenLettersTo_12 rfl (lv_at hl 0 rfl) ?_
        refine gg_5_0 (j := o0 + 1) rfl X hP ho0 kf_X5_9 dX5_takenLettersTo_13 ?_
        refine lv_iload_n hx hb dX5_takenLettersTo_16 rfl (lv_at hl 3 rfl) ?_
        have hs1 := hok.1
        have hok := hok.2
        refine g_iald X hP (tc_5_0 ho0) (by rw [(lc_5_0 ho0)]; exact hs1) dX5_takenLettersTo_17 ?_
        refine lv_if_ne (tgt := 44) hx hb dX5_takenLettersTo_18 (by decide) (fun hc => ?_) (fun hc => ?_)
        · have hf := ite_f hc hf
          have hok := hok.2 hc
          refine lv_iinc (v := (x3 + (1 : Int32))) (lv' := [(3, .int (x3 + (1 : Int32))), (0, .ref (G.2.1 o0)), (1, .int x1), (2, .int x2)]) hx hb dX5_takenLettersTo_44 hl (k := 3) rfl rfl (by decide) rfl (fun ls hl => ?_)
          refine lv_goto (tgt := 4) hx hb dX5_takenLettersTo_47 (by decide) ?_
          exact ih4 x1 x2 (x3 + (1 : Int32)) hok hf _ _ hP hS ls (lv_sub hl [1, 2, 3, 0] rfl)
        · have hf := ite_t hc hf
          have hok := hok.1 hc
          refine lv_aload_n hx hb dX5_takenLettersTo_21 rfl (lv_at hl 0 rfl) ?_
          refine gg_5_4 (j := o0 + 5) rfl X hP ho0 kf_X5_24 dX5_takenLettersTo_22 ?_
          refine lv_iload_n hx hb dX5_takenLettersTo_25 rfl (lv_at hl 3 rfl) ?_
          have hs2 := hok.1
          have hok := hok.2
          refine g_iald X hP (tc_5_4 ho0) (by rw [(lc_5_4 ho0)]; exact hs2) dX5_takenLettersTo_26 ?_
          refine lv_iconst (v := 3) hx hb dX5_takenLettersTo_27 (by decide) ?_
          refine lv_icmp_ne (tgt := 44) hx hb dX5_takenLettersTo_28 (by decide) (fun hc => ?_) (fun hc => ?_)
          · have hf := ite_f hc hf
            have hok := hok.2 hc
            refine lv_iinc (v := (x3 + (1 : Int32))) (lv' := [(3, .int (x3 + (1 : Int32))), (0, .ref (G.2.1 o0)), (1, .int x1), (2, .int x2)]) hx hb dX5_takenLettersTo_44 hl (k := 3) rfl rfl (by decide) rfl (fun ls hl => ?_)
            refine lv_goto (tgt := 4) hx hb dX5_takenLettersTo_47 (by decide) ?_
            exact ih4 x1 x2 (x3 + (1 : Int32)) hok hf _ _ hP hS ls (lv_sub hl [1, 2, 3, 0] rfl)
          · have hf := ite_t hc hf
            have hok := hok.1 hc
            refine lv_aload_n hx hb dX5_takenLettersTo_31 rfl (lv_at hl 0 rfl) ?_
            refine gg_5_2 (j := o0 + 3) rfl X hP ho0 kf_X5_18 dX5_takenLettersTo_32 ?_
            refine lv_iload_n hx hb dX5_takenLettersTo_35 rfl (lv_at hl 3 rfl) ?_
            have hs3 := hok.1
            have hok := hok.2
            refine g_iald X hP (tc_5_2 ho0) (by rw [(lc_5_2 ho0)]; exact hs3) dX5_takenLettersTo_36 ?_
            refine lv_iload_n hx hb dX5_takenLettersTo_37 rfl (lv_at hl 1 rfl) ?_
            refine lv_icmp_ne (tgt := 44) hx hb dX5_takenLettersTo_38 (by decide) (fun hc => ?_) (fun hc => ?_)
            · have hf := ite_f hc hf
              have hok := hok.2 hc
              refine lv_iinc (v := (x3 + (1 : Int32))) (lv' := [(3, .int (x3 + (1 : Int32))), (0, .ref (G.2.1 o0)), (1, .int x1), (2, .int x2)]) hx hb dX5_takenLettersTo_44 hl (k := 3) rfl rfl (by decide) rfl (fun ls hl => ?_)
              refine lv_goto (tgt := 4) hx hb dX5_takenLettersTo_47 (by decide) ?_
              exact ih4 x1 x2 (x3 + (1 : Int32)) hok hf _ _ hP hS ls (lv_sub hl [1, 2, 3, 0] rfl)
            · have hf := ite_t hc hf
              have hok := hok.1 hc
              refine lv_iinc (v := (x2 + (1 : Int32))) (lv' := [(2, .int (x2 + (1 : Int32))), (0, .ref (G.2.1 o0)), (1, .int x1), (3, .int x3)]) hx hb dX5_takenLettersTo_41 hl (k := 2) rfl rfl (by decide) rfl (fun ls hl => ?_)
              refine lv_iinc (v := (x3 + (1 : Int32))) (lv' := [(3, .int (x3 + (1 : Int32))), (2, .int (x2 + (1 : Int32))), (0, .ref (G.2.1 o0)), (1, .int x1)]) hx hb dX5_takenLettersTo_44 hl (k := 3) rfl rfl (by decide) rfl (fun ls hl => ?_)
              refine lv_goto (tgt := 4) hx hb dX5_takenLettersTo_47 (by decide) ?_
              exact ih4 x1 (x2 + (1 : Int32)) (x3 + (1 : Int32)) hok hf _ _ hP hS ls (lv_sub hl [2, 3, 1, 0] rfl)
  exact K4 2000 x1 (0 : Int32) (0 : Int32) hok hf _ _ hP hS ls (lv_sub hl [2, 3, 1, 0] rfl)
def fX5_worstOnShelf_L4 (σ : St) (o0 : Nat) : Nat → Int32 → Int32 → Int32
  | 0, _, _ => 0
  | n4 + 1, x1, x2 => (if (σ.1 o0 8) ≤ x2 then x1 else (if (σ.1 (o0 + 1) x2.toNatClampNeg) = 0 then (if (σ.1 (o0 + 5) x2.toNatClampNeg) = (2 : Int32) then (if x1 = (-1 : Int32) then (fX5_worstOnShelf_L4 σ o0 n4 x2 (x2 + (1 : Int32))) else (if 0 ≤ (Op.cmpValue (FP.fcmp (σ.2.1 (o0 + 8) x2.toNatClampNeg) (σ.2.1 (o0 + 8) x1.toNatClampNeg)) CmpOp.g) then (fX5_worstOnShelf_L4 σ o0 n4 x1 (x2 + (1 : Int32))) else (fX5_worstOnShelf_L4 σ o0 n4 x2 (x2 + (1 : Int32))))) else (fX5_worstOnShelf_L4 σ o0 n4 x1 (x2 + (1 : Int32)))) else (fX5_worstOnShelf_L4 σ o0 n4 x1 (x2 + (1 : Int32)))))
def okX5_worstOnShelf_L4 (σ : St) (o0 : Nat) : Nat → Int32 → Int32 → Prop
  | 0, _, _ => False
  | n4 + 1, x1, x2 => (((σ.1 o0 8) ≤ x2 → True) ∧ (¬ (σ.1 o0 8) ≤ x2 → (vp_in x2 20 ∧ (((σ.1 (o0 + 1) x2.toNatClampNeg) = 0 → (vp_in x2 20 ∧ (((σ.1 (o0 + 5) x2.toNatClampNeg) = (2 : Int32) → ((x1 = (-1 : Int32) → (okX5_worstOnShelf_L4 σ o0 n4 x2 (x2 + (1 : Int32)))) ∧ (¬ x1 = (-1 : Int32) → (vp_in x2 20 ∧ (vp_in x1 20 ∧ ((0 ≤ (Op.cmpValue (FP.fcmp (σ.2.1 (o0 + 8) x2.toNatClampNeg) (σ.2.1 (o0 + 8) x1.toNatClampNeg)) CmpOp.g) → (okX5_worstOnShelf_L4 σ o0 n4 x1 (x2 + (1 : Int32)))) ∧ (¬ 0 ≤ (Op.cmpValue (FP.fcmp (σ.2.1 (o0 + 8) x2.toNatClampNeg) (σ.2.1 (o0 + 8) x1.toNatClampNeg)) CmpOp.g) → (okX5_worstOnShelf_L4 σ o0 n4 x2 (x2 + (1 : Int32)))))))))) ∧ (¬ (σ.1 (o0 + 5) x2.toNatClampNeg) = (2 : Int32) → (okX5_worstOnShelf_L4 σ o0 n4 x1 (x2 + (1 : Int32))))))) ∧ (¬ (σ.1 (o0 + 1) x2.toNatClampNeg) = 0 → (okX5_worstOnShelf_L4 σ o0 n4 x1 (x2 + (1 : Int32))))))))
def f_X5_worstOnShelf (σ : St) (o0 : Nat) : Int32 := (fX5_worstOnShelf_L4 σ o0 2000 (-1 : Int32) (0 : Int32))
def ok_X5_worstOnShelf (σ : St) (o0 : Nat) : Prop := (okX5_worstOnShelf_L4 σ o0 2000 (-1 : Int32) (0 : Int32))
abbrev rm_X5_worstOnShelf : Room := { frames := 0, cells := 0, slots := 0, locals := 0 }
set_option maxHeartbeats 4000000 in
set_option maxRecDepth 100000 in
theorem c_X5_worstOnShelf (l : Launch) (G : GE) (hG : Gok G) (σ : St) (o0 : Nat) (ho0 : tyOf o0 = 5) (hok : ok_X5_worstOnShelf σ o0) : MtI l G yX5_worstOnShelf cX5_worstOnShelf 3 rm_X5_worstOnShelf [.ref (G.2.1 o0)] σ (σ, f_X5_worstOnShelf σ o0) := by
  generalize hf : f_X5_worstOnShelf σ o0 = fv
  rw [f_X5_worstOnShelf] at hf
  rw [ok_X5_worstOnShelf] at hok
  refine g_start hG (plainFor_of_name (by decide)) (Nat.le_of_ble_eq_true rfl) ?_
  intro p e s m args below meth c X hr hlk ls hl H locs hP hS
  have X : Cx G p s m args c cX5_worstOnShelf 3 RX5 := X
  obtain ⟨hx, hb, hml, hown, hts, hK, hbs, hXW, -⟩ := id X
  have hl : lv_has ls 3 [(0, .ref (G.2.1 o0))] := hl
  refine lv_iconst (v := -1) hx hb dX5_worstOnShelf_0 (by decide) ?_
  refine lv_istore_n (lv' := [(1, .int (-1 : Int32)), (0, .ref (G.2.1 o0))]) hx hb dX5_worstOnShelf_1 rfl hl (by decide) rfl (fun ls hl => ?_)
  refine lv_iconst (v := 0) hx hb dX5_worstOnShelf_2 (by decide) ?_
  refine lv_istore_n (lv' := [(2, .int (0 : Int32)), (1, .int (-1 : Int32)), (0, .ref (G.2.1 o0))]) hx hb dX5_worstOnShelf_3 rfl hl (by decide) rfl (fun ls hl => ?_)
  have K4 : ∀ (n4 : Nat) (x1 : Int32) (x2 : Int32), okX5_worstOnShelf_L4 σ o0 n4 x1 x2 → fX5_worstOnShelf_L4 σ o0 n4 x1 x2 = fv → ∀ (H : Heap) (locs : List Loc), va_P G.1 vcl (wl G σ) H → va_S (GA G) s.heap H locs → ∀ (ls : Array Slot), lv_has ls 3 [(0, .ref (G.2.1 o0)), (1, .int x1), (2, .int x2)] → W p l e rm_X5_worstOnShelf s m args below meth c H locs 0 0 (MQ below (va_Qi (fun r u => (u, r) = (σ, fv)) (PB G) (GA G)) args s 0 0 (GA G)) (F0 m 4 ls []) := by
    intro n4
    induction n4 with
    | zero =>
      intro x1 x2 hok
      exact hok.elim
    | succ n4 ih4 =>
      intro x1 x2 hok hf H locs hP hS ls hl
      rw [okX5_worstOnShelf_L4] at hok
      rw [fX5_worstOnShelf_L4] at hf
      refine lv_iload_n hx hb dX5_worstOnShelf_4 rfl (lv_at hl 2 rfl) ?_
      refine lv_aload_n hx hb dX5_worstOnShelf_5 rfl (lv_at hl 0 rfl) ?_
      refine gg_5_8 X hP ho0 kf_X5_43 dX5_worstOnShelf_6 ?_
      refine lv_icmp_ge (tgt := 60) hx hb dX5_worstOnShelf_9 (by decide) (fun hc => ?_) (fun hc => ?_)
      · have hf := ite_t hc hf
        refine lv_iload_n hx hb dX5_worstOnShelf_60 rfl (lv_at hl 1 rfl) ?_
        exact g_iret X hr hlk hP hS (congrArg (Prod.mk σ) hf) dX5_worstOnShelf_61
      · have hf := ite_f hc hf
        have hok := hok.2 hc
        refine lv_aload_n hx hb dX5_worstOnShelf_12 rfl (lv_at hl 0 rfl) ?_
        refine gg_5_0 (j := o0 + 1) rfl X hP ho0 kf_X5_9 dX5_worstOnShelf_13 ?_
        refine lv_iload_n hx hb dX5_worstOnShelf_16 rfl (lv_at hl 2 rfl) ?_
        have hs1 := hok.1
        have hok := hok.2
        refine g_iald X hP (tc_5_0 ho0) (by rw [(lc_5_0 ho0)]; exact hs1) dX5_worstOnShelf_17 ?_
        refine lv_if_ne (tgt := 54) hx hb dX5_worstOnShelf_18 (by decide) (fun hc => ?_) (fun hc => ?_)
        · have hf := ite_f hc hf
          have hok := hok.2 hc
          refine lv_iinc (v := (x2 + (1 : Int32))) (lv' := [(2, .int (x2 + (1 : Int32))), (0, .ref (G.2.1 o0)), (1, .int x1)]) hx hb dX5_worstOnShelf_54 hl (k := 2) rfl rfl (by decide) rfl (fun ls hl => ?_)
          refine lv_goto (tgt := 4) hx hb dX5_worstOnShelf_57 (by decide) ?_
          exact ih4 x1 (x2 + (1 : Int32)) hok hf _ _ hP hS ls (lv_sub hl [1, 2, 0] rfl)
        · have hf := ite_t hc hf
          have hok := hok.1 hc
          refine lv_aload_n hx hb dX5_worstOnShelf_21 rfl (lv_at hl 0 rfl) ?_
          refine gg_5_4 (j := o0 + 5) rfl X hP ho0 kf_X5_24 dX5_worstOnShelf_22 ?_
          refine lv_iload_n hx hb dX5_worstOnShelf_25 rfl (lv_at hl 2 rfl) ?_
          have hs2 := hok.1
          have hok := hok.2
          refine g_iald X hP (tc_5_4 ho0) (by rw [(lc_5_4 ho0)]; exact hs2) dX5_worstOnShelf_26 ?_
          refine lv_iconst (v := 2) hx hb dX5_worstOnShelf_27 (by decide) ?_
          refine lv_icmp_ne (tgt := 54) hx hb dX5_worstOnShelf_28 (by decide) (fun hc => ?_) (fun hc => ?_)
          · have hf := ite_f hc hf
            have hok := hok.2 hc
            refine lv_iinc (v := (x2 + (1 : Int32))) (lv' := [(2, .int (x2 + (1 : Int32))), (0, .ref (G.2.1 o0)), (1, .int x1)]) hx hb dX5_worstOnShelf_54 hl (k := 2) rfl rfl (by decide) rfl (fun ls hl => ?_)
            refine lv_goto (tgt := 4) hx hb dX5_worstOnShelf_57 (by decide) ?_
            exact ih4 x1 (x2 + (1 : Int32)) hok hf _ _ hP hS ls (lv_sub hl [1, 2, 0] rfl)
          · have hf := ite_t hc hf
            have hok := hok.1 hc
            refine lv_iload_n hx hb dX5_worstOnShelf_31 rfl (lv_at hl 1 rfl) ?_
            refine lv_iconst (v := -1) hx hb dX5_worstOnShelf_32 (by decide) ?_
            refine lv_icmp_eq (tgt := 52) hx hb dX5_worstOnShelf_33 (by decide) (fun hc => ?_) (fun hc => ?_)
            · have hf := ite_t hc hf
              have hok := hok.1 hc
              refine lv_iload_n hx hb dX5_worstOnShelf_52 rfl (lv_at hl 2 rfl) ?_
              refine lv_istore_n (lv' := [(1, .int x2), (0, .ref (G.2.1 o0)), (2, .int x2)]) hx hb dX5_worstOnShelf_53 rfl hl (by decide) rfl (fun ls hl => ?_)
              refine lv_iinc (v := (x2 + (1 : Int32))) (lv' := [(2, .int (x2 + (1 : Int32))), (1, .int x2), (0, .ref (G.2.1 o0))]) hx hb dX5_worstOnShelf_54 hl (k := 2) rfl rfl (by decide) rfl (fun ls hl => ?_)
              refine lv_goto (tgt := 4) hx hb dX5_worstOnShelf_57 (by decide) ?_
              exact ih4 x2 (x2 + (1 : Int32)) hok hf _ _ hP hS ls (lv_sub hl [2, 1, 0] rfl)
            · have hf := ite_f hc hf
              have hok := hok.2 hc
              refine lv_aload_n hx hb dX5_worstOnShelf_36 rfl (lv_at hl 0 rfl) ?_
              refine gg_5_7 (j := o0 + 8) rfl X hP ho0 kf_X5_33 dX5_worstOnShelf_37 ?_
              refine lv_iload_n hx hb dX5_worstOnShelf_40 rfl (lv_at hl 2 rfl) ?_
              have hs3 := hok.1
              have hok := hok.2
              refine g_fald X hP (tc_5_7 ho0) (by rw [(lc_5_7 ho0)]; exact hs3) dX5_worstOnShelf_41 ?_
              refine lv_aload_n hx hb dX5_worstOnShelf_42 rfl (lv_at hl 0 rfl) ?_
              refine gg_5_7 (j := o0 + 8) rfl X hP ho0 kf_X5_33 dX5_worstOnShelf_43 ?_
              refine lv_iload_n hx hb dX5_worstOnShelf_46 rfl (lv_at hl 1 rfl) ?_
              have hs4 := hok.1
              have hok := hok.2
              refine g_fald X hP (tc_5_7 ho0) (by rw [(lc_5_7 ho0)]; exact hs4) dX5_worstOnShelf_47 ?_
              refine lv_fcmp hx hb dX5_worstOnShelf_48 ?_
              refine lv_if_ge (tgt := 54) hx hb dX5_worstOnShelf_49 (by decide) (fun hc => ?_) (fun hc => ?_)
              · have hf := ite_t hc hf
                have hok := hok.1 hc
                refine lv_iinc (v := (x2 + (1 : Int32))) (lv' := [(2, .int (x2 + (1 : Int32))), (0, .ref (G.2.1 o0)), (1, .int x1)]) hx hb dX5_worstOnShelf_54 hl (k := 2) rfl rfl (by decide) rfl (fun ls hl => ?_)
                refine lv_goto (tgt := 4) hx hb dX5_worstOnShelf_57 (by decide) ?_
                exact ih4 x1 (x2 + (1 : Int32)) hok hf _ _ hP hS ls (lv_sub hl [1, 2, 0] rfl)
              · have hf := ite_f hc hf
                have hok := hok.2 hc
                refine lv_iload_n hx hb dX5_worstOnShelf_52 rfl (lv_at hl 2 rfl) ?_
                refine lv_istore_n (lv' := [(1, .int x2), (0, .ref (G.2.1 o0)), (2, .int x2)]) hx hb dX5_worstOnShelf_53 rfl hl (by decide) rfl (fun ls hl => ?_)
                refine lv_iinc (v := (x2 + (1 : Int32))) (lv' := [(2, .int (x2 + (1 : Int32))), (1, .int x2), (0, .ref (G.2.1 o0))]) hx hb dX5_worstOnShelf_54 hl (k := 2) rfl rfl (by decide) rfl (fun ls hl => ?_)
                refine lv_goto (tgt := 4) hx hb dX5_worstOnShelf_57 (by decide) ?_
                exact ih4 x2 (x2 + (1 : Int32)) hok hf _ _ hP hS ls (lv_sub hl [2, 1, 0] rfl)
  exact K4 2000 (-1 : Int32) (0 : Int32) hok hf _ _ hP hS ls (lv_sub hl [2, 1, 0] rfl)
def f_X5_isAhead (σ : St) (o0 : Nat) (x1 : Int32) (x2 : Int32) : Bool := (if 0 < (Op.cmpValue (FP.fcmp (σ.2.1 (o0 + 8) x1.toNatClampNeg) (σ.2.1 (o0 + 8) x2.toNatClampNeg)) CmpOp.l) then true else (if (Op.cmpValue (FP.fcmp (σ.2.1 (o0 + 8) x1.toNatClampNeg) (σ.2.1 (o0 + 8) x2.toNatClampNeg)) CmpOp.l) = 0 then (if x2 ≤ x1 then false else true) else false))
def ok_X5_isAhead (σ : St) (o0 : Nat) (x1 : Int32) (x2 : Int32) : Prop := (vp_in x1 20 ∧ (vp_in x2 20 ∧ ((0 < (Op.cmpValue (FP.fcmp (σ.2.1 (o0 + 8) x1.toNatClampNeg) (σ.2.1 (o0 + 8) x2.toNatClampNeg)) CmpOp.l) → True) ∧ (¬ 0 < (Op.cmpValue (FP.fcmp (σ.2.1 (o0 + 8) x1.toNatClampNeg) (σ.2.1 (o0 + 8) x2.toNatClampNeg)) CmpOp.l) → (vp_in x1 20 ∧ vp_in x2 20)))))
abbrev rm_X5_isAhead : Room := { frames := 0, cells := 0, slots := 0, locals := 0 }
set_option maxHeartbeats 4000000 in
set_option maxRecDepth 100000 in
theorem c_X5_isAhead (l : Launch) (G : GE) (hG : Gok G) (σ : St) (o0 : Nat) (ho0 : tyOf o0 = 5) (x1 : Int32) (x2 : Int32) (hok : ok_X5_isAhead σ o0 x1 x2) : MtZ l G yX5_isAhead cX5_isAhead 3 rm_X5_isAhead [.ref (G.2.1 o0), .int x1, .int x2] σ (σ, f_X5_isAhead σ o0 x1 x2) := by
  generalize hf : f_X5_isAhead σ o0 x1 x2 = fv
  rw [f_X5_isAhead] at hf
  rw [ok_X5_isAhead] at hok
  refine g_start hG (plainFor_of_name (by decide)) (Nat.le_of_ble_eq_true rfl) ?_
  intro p e s m args below meth c X hr hlk ls hl H locs hP hS
  have X : Cx G p s m args c cX5_isAhead 3 RX5 := X
  obtain ⟨hx, hb, hml, hown, hts, hK, hbs, hXW, -⟩ := id X
  have hl : lv_has ls 3 [(0, .ref (G.2.1 o0)), (1, .int x1), (2, .int x2)] := hl
  refine lv_aload_n hx hb dX5_isAhead_0 rfl (lv_at hl 0 rfl) ?_
  refine gg_5_7 (j := o0 + 8) rfl X hP ho0 kf_X5_33 dX5_isAhead_1 ?_
  refine lv_iload_n hx hb dX5_isAhead_4 rfl (lv_at hl 1 rfl) ?_
  have hs1 := hok.1
  have hok := hok.2
  refine g_fald X hP (tc_5_7 ho0) (by rw [(lc_5_7 ho0)]; exact hs1) dX5_isAhead_5 ?_
  refine lv_aload_n hx hb dX5_isAhead_6 rfl (lv_at hl 0 rfl) ?_
  refine gg_5_7 (j := o0 + 8) rfl X hP ho0 kf_X5_33 dX5_isAhead_7 ?_
  refine lv_iload_n hx hb dX5_isAhead_10 rfl (lv_at hl 2 rfl) ?_
  have hs2 := hok.1
  have hok := hok.2
  refine g_fald X hP (tc_5_7 ho0) (by rw [(lc_5_7 ho0)]; exact hs2) dX5_isAhead_11 ?_
  refine lv_fcmp hx hb dX5_isAhead_12 ?_
  refine lv_if_gt (tgt := 37) hx hb dX5_isAhead_13 (by decide) (fun hc => ?_) (fun hc => ?_)
  · have hf := ite_t hc hf
    refine lv_iconst (v := 1) hx hb dX5_isAhead_37 (by decide) ?_
    refine lv_goto (tgt := 42) hx hb dX5_isAhead_38 (by decide) ?_
    exact g_zret (b := true) X hr hlk rfl hP hS (congrArg (Prod.mk σ) hf) dX5_isAhead_42
  · have hf := ite_f hc hf
    have hok := hok.2 hc
    refine lv_aload_n hx hb dX5_isAhead_16 rfl (lv_at hl 0 rfl) ?_
    refine gg_5_7 (j := o0 + 8) rfl X hP ho0 kf_X5_33 dX5_isAhead_17 ?_
    refine lv_iload_n hx hb dX5_isAhead_20 rfl (lv_at hl 1 rfl) ?_
    have hs3 := hok.1
    have hok := hok.2
    refine g_fald X hP (tc_5_7 ho0) (by rw [(lc_5_7 ho0)]; exact hs3) dX5_isAhead_21 ?_
    refine lv_aload_n hx hb dX5_isAhead_22 rfl (lv_at hl 0 rfl) ?_
    refine gg_5_7 (j := o0 + 8) rfl X hP ho0 kf_X5_33 dX5_isAhead_23 ?_
    refine lv_iload_n hx hb dX5_isAhead_26 rfl (lv_at hl 2 rfl) ?_
    have hs4 := hok
    refine g_fald X hP (tc_5_7 ho0) (by rw [(lc_5_7 ho0)]; exact hs4) dX5_isAhead_27 ?_
    refine lv_fcmp hx hb dX5_isAhead_28 ?_
    refine lv_if_ne (tgt := 41) hx hb dX5_isAhead_29 (by decide) (fun hc => ?_) (fun hc => ?_)
    · have hf := ite_f hc hf
      refine lv_iconst (v := 0) hx hb dX5_isAhead_41 (by decide) ?_
      exact g_zret (b := false) X hr hlk rfl hP hS (congrArg (Prod.mk σ) hf) dX5_isAhead_42
    · have hf := ite_t hc hf
      refine lv_iload_n hx hb dX5_isAhead_32 rfl (lv_at hl 1 rfl) ?_
      refine lv_iload_n hx hb dX5_isAhead_33 rfl (lv_at hl 2 rfl) ?_
      refine lv_icmp_ge (tgt := 41) hx hb dX5_isAhead_34 (by decide) (fun hc => ?_) (fun hc => ?_)
      · have hf := ite_t hc hf
        refine lv_iconst (v := 0) hx hb dX5_isAhead_41 (by decide) ?_
        exact g_zret (b := false) X hr hlk rfl hP hS (congrArg (Prod.mk σ) hf) dX5_isAhead_42
      · have hf := ite_f hc hf
        refine lv_iconst (v := 1) hx hb dX5_isAhead_37 (by decide) ?_
        refine lv_goto (tgt := 42) hx hb dX5_isAhead_38 (by decide) ?_
        exact g_zret (b := true) X hr hlk rfl hP hS (congrArg (Prod.mk σ) hf) dX5_isAhead_42
def fX5_lettersAhead_L4 (σ : St) (o0 : Nat) : Nat → Int32 → Int32 → Int32 → Int32
  | 0, _, _, _ => 0
  | n4 + 1, x1, x2, x3 => (if (σ.1 o0 8) ≤ x3 then x2 else (if (σ.1 (o0 + 1) x3.toNatClampNeg) = 0 then (if (f_X5_isAhead σ o0 x3 x1) = true then (fX5_lettersAhead_L4 σ o0 n4 x1 (x2 + (1 : Int32)) (x3 + (1 : Int32))) else (fX5_lettersAhead_L4 σ o0 n4 x1 x2 (x3 + (1 : Int32)))) else (fX5_lettersAhead_L4 σ o0 n4 x1 x2 (x3 + (1 : Int32)))))
def okX5_lettersAhead_L4 (σ : St) (o0 : Nat) : Nat → Int32 → Int32 → Int32 → Prop
  | 0, _, _, _ => False
  | n4 + 1, x1, x2, x3 => (((σ.1 o0 8) ≤ x3 → True) ∧ (¬ (σ.1 o0 8) ≤ x3 → (vp_in x3 20 ∧ (((σ.1 (o0 + 1) x3.toNatClampNeg) = 0 → (ok_X5_isAhead σ o0 x3 x1 ∧ (((f_X5_isAhead σ o0 x3 x1) = true → (okX5_lettersAhead_L4 σ o0 n4 x1 (x2 + (1 : Int32)) (x3 + (1 : Int32)))) ∧ ((f_X5_isAhead σ o0 x3 x1) = false → (okX5_lettersAhead_L4 σ o0 n4 x1 x2 (x3 + (1 : Int32))))))) ∧ (¬ (σ.1 (o0 + 1) x3.toNatClampNeg) = 0 → (okX5_lettersAhead_L4 σ o0 n4 x1 x2 (x3 + (1 : Int32))))))))
def f_X5_lettersAhead (σ : St) (o0 : Nat) (x1 : Int32) : Int32 := (fX5_lettersAhead_L4 σ o0 2000 x1 (0 : Int32) (0 : Int32))
def ok_X5_lettersAhead (σ : St) (o0 : Nat) (x1 : Int32) : Prop := (okX5_lettersAhead_L4 σ o0 2000 x1 (0 : Int32) (0 : Int32))
abbrev rm_X5_lettersAhead : Room := { frames := 1, cells := 0, slots := 0, locals := 22 }
set_option maxHeartbeats 4000000 in
set_option maxRecDepth 100000 in
theorem c_X5_lettersAhead (l : Launch) (G : GE) (hG : Gok G) (σ : St) (o0 : Nat) (ho0 : tyOf o0 = 5) (x1 : Int32) (hok : ok_X5_lettersAhead σ o0 x1) : MtI l G yX5_lettersAhead cX5_lettersAhead 4 rm_X5_lettersAhead [.ref (G.2.1 o0), .int x1] σ (σ, f_X5_lettersAhead σ o0 x1) := by
  generalize hf : f_X5_lettersAhead σ o0 x1 = fv
  rw [f_X5_lettersAhead] at hf
  rw [ok_X5_lettersAhead] at hok
  refine g_start hG (plainFor_of_name (by decide)) (Nat.le_of_ble_eq_true rfl) ?_
  intro p e s m args below meth c X hr hlk ls hl H locs hP hS
  have X : Cx G p s m args c cX5_lettersAhead 4 RX5 := X
  obtain ⟨hx, hb, hml, hown, hts, hK, hbs, hXW, -⟩ := id X
  have hl : lv_has ls 4 [(0, .ref (G.2.1 o0)), (1, .int x1)] := hl
  refine lv_iconst (v := 0) hx hb dX5_lettersAhead_0 (by decide) ?_
  refine lv_istore_n (lv' := [(2, .int (0 : Int32)), (0, .ref (G.2.1 o0)), (1, .int x1)]) hx hb dX5_lettersAhead_1 rfl hl (by decide) rfl (fun ls hl => ?_)
  refine lv_iconst (v := 0) hx hb dX5_lettersAhead_2 (by decide) ?_
  refine lv_istore_n (lv' := [(3, .int (0 : Int32)), (2, .int (0 : Int32)), (0, .ref (G.2.1 o0)), (1, .int x1)]) hx hb dX5_lettersAhead_3 rfl hl (by decide) rfl (fun ls hl => ?_)
  have K4 : ∀ (n4 : Nat) (x1 : Int32) (x2 : Int32) (x3 : Int32), okX5_lettersAhead_L4 σ o0 n4 x1 x2 x3 → fX5_lettersAhead_L4 σ o0 n4 x1 x2 x3 = fv → ∀ (H : Heap) (locs : List Loc), va_P G.1 vcl (wl G σ) H → va_S (GA G) s.heap H locs → ∀ (ls : Array Slot), lv_has ls 4 [(0, .ref (G.2.1 o0)), (1, .int x1), (2, .int x2), (3, .int x3)] → W p l e rm_X5_lettersAhead s m args below meth c H locs 0 0 (MQ below (va_Qi (fun r u => (u, r) = (σ, fv)) (PB G) (GA G)) args s 0 0 (GA G)) (F0 m 4 ls []) := by
    intro n4
    induction n4 with
    | zero =>
      intro x1 x2 x3 hok
      exact hok.elim
    | succ n4 ih4 =>
      intro x1 x2 x3 hok hf H locs hP hS ls hl
      rw [okX5_lettersAhead_L4] at hok
      rw [fX5_lettersAhead_L4] at hf
      refine lv_iload_n hx hb dX5_lettersAhead_4 rfl (lv_at hl 3 rfl) ?_
      refine lv_aload_n hx hb dX5_lettersAhead_5 rfl (lv_at hl 0 rfl) ?_
      refine gg_5_8 X hP ho0 kf_X5_43 dX5_lettersAhead_6 ?_
      refine lv_icmp_ge (tgt := 39) hx hb dX5_lettersAhead_9 (by decide) (fun hc => ?_) (fun hc => ?_)
      · have hf := ite_t hc hf
        refine lv_iload_n hx hb dX5_lettersAhead_39 rfl (lv_at hl 2 rfl) ?_
        exact g_iret X hr hlk hP hS (congrArg (Prod.mk σ) hf) dX5_lettersAhead_40
      · have hf := ite_f hc hf
        have hok := hok.2 hc
        refine lv_aload_n hx hb dX5_lettersAhead_12 rfl (lv_at hl 0 rfl) ?_
        refine gg_5_0 (j := o0 + 1) rfl X hP ho0 kf_X5_9 dX5_lettersAhead_13 ?_
        refine lv_iload_n hx hb dX5_lettersAhead_16 rfl (lv_at hl 3 rfl) ?_
        have hs1 := hok.1
        have hok := hok.2
        refine g_iald X hP (tc_5_0 ho0) (by rw [(lc_5_0 ho0)]; exact hs1) dX5_lettersAhead_17 ?_
        refine lv_if_ne (tgt := 33) hx hb dX5_lettersAhead_18 (by decide) (fun hc => ?_) (fun hc => ?_)
        · have hf := ite_f hc hf
          have hok := hok.2 hc
          refine lv_iinc (v := (x3 + (1 : Int32))) (lv' := [(3, .int (x3 + (1 : Int32))), (0, .ref (G.2.1 o0)), (1, .int x1), (2, .int x2)]) hx hb dX5_lettersAhead_33 hl (k := 3) rfl rfl (by decide) rfl (fun ls hl => ?_)
          refine lv_goto (tgt := 4) hx hb dX5_lettersAhead_36 (by decide) ?_
          exact ih4 x1 x2 (x3 + (1 : Int32)) hok hf _ _ hP hS ls (lv_sub hl [1, 2, 3, 0] rfl)
        · have hf := ite_t hc hf
          have hok := hok.1 hc
          refine lv_aload_n hx hb dX5_lettersAhead_21 rfl (lv_at hl 0 rfl) ?_
          refine lv_iload_n hx hb dX5_lettersAhead_22 rfl (lv_at hl 3 rfl) ?_
          refine lv_iload_n hx hb dX5_lettersAhead_23 rfl (lv_at hl 1 rfl) ?_
          have hs2 := hok.1
          have hok := hok.2
          refine g_cZp (g_runV (i := o0) (As := [.int x3, .int x1]) (rest := []) X (c_X5_isAhead l G hG σ o0 ho0 x3 x1 hs2) ca_X5_isAhead km_X5_51 rfl rfl ⟨Nat.le_of_ble_eq_true rfl, Nat.le_of_ble_eq_true rfl⟩ hP hS (ty_lt ho0) (cell_5 ho0) rfl rfl rfl hl.1 rfl (Nat.le_of_ble_eq_true rfl) ⟨Nat.le_of_ble_eq_true rfl, Nat.le_of_ble_eq_true rfl⟩ dX5_lettersAhead_24) hS (fun H locs hP hS => ?_)
          refine g_ifeqZ (tgt := 33) X dX5_lettersAhead_27 (by decide) (fun hc => ?_) (fun hc => ?_)
          · have hf := ite_z hc hf
            have hok := hok.2 hc
            refine lv_iinc (v := (x3 + (1 : Int32))) (lv' := [(3, .int (x3 + (1 : Int32))), (0, .ref (G.2.1 o0)), (1, .int x1), (2, .int x2)]) hx hb dX5_lettersAhead_33 hl (k := 3) rfl rfl (by decide) rfl (fun ls hl => ?_)
            refine lv_goto (tgt := 4) hx hb dX5_lettersAhead_36 (by decide) ?_
            exact ih4 x1 x2 (x3 + (1 : Int32)) hok hf _ _ hP hS ls (lv_sub hl [1, 2, 3, 0] rfl)
          · have hf := ite_t hc hf
            have hok := hok.1 hc
            refine lv_iinc (v := (x2 + (1 : Int32))) (lv' := [(2, .int (x2 + (1 : Int32))), (0, .ref (G.2.1 o0)), (1, .int x1), (3, .int x3)]) hx hb dX5_lettersAhead_30 hl (k := 2) rfl rfl (by decide) rfl (fun ls hl => ?_)
            refine lv_iinc (v := (x3 + (1 : Int32))) (lv' := [(3, .int (x3 + (1 : Int32))), (2, .int (x2 + (1 : Int32))), (0, .ref (G.2.1 o0)), (1, .int x1)]) hx hb dX5_lettersAhead_33 hl (k := 3) rfl rfl (by decide) rfl (fun ls hl => ?_)
            refine lv_goto (tgt := 4) hx hb dX5_lettersAhead_36 (by decide) ?_
            exact ih4 x1 (x2 + (1 : Int32)) (x3 + (1 : Int32)) hok hf _ _ hP hS ls (lv_sub hl [2, 3, 1, 0] rfl)
  exact K4 2000 x1 (0 : Int32) (0 : Int32) hok hf _ _ hP hS ls (lv_sub hl [2, 3, 1, 0] rfl)
def fX5_letterAt_L2 (σ : St) (o0 : Nat) : Nat → Int32 → Int32 → Int32
  | 0, _, _ => 0
  | n2 + 1, x1, x2 => (if (σ.1 o0 8) ≤ x2 then (-1 : Int32) else (if (σ.1 (o0 + 1) x2.toNatClampNeg) = 0 then (if (f_X5_lettersAhead σ o0 x2) = x1 then x2 else (fX5_letterAt_L2 σ o0 n2 x1 (x2 + (1 : Int32)))) else (fX5_letterAt_L2 σ o0 n2 x1 (x2 + (1 : Int32)))))
def okX5_letterAt_L2 (σ : St) (o0 : Nat) : Nat → Int32 → Int32 → Prop
  | 0, _, _ => False
  | n2 + 1, x1, x2 => (((σ.1 o0 8) ≤ x2 → True) ∧ (¬ (σ.1 o0 8) ≤ x2 → (vp_in x2 20 ∧ (((σ.1 (o0 + 1) x2.toNatClampNeg) = 0 → (ok_X5_lettersAhead σ o0 x2 ∧ (((f_X5_lettersAhead σ o0 x2) = x1 → True) ∧ (¬ (f_X5_lettersAhead σ o0 x2) = x1 → (okX5_letterAt_L2 σ o0 n2 x1 (x2 + (1 : Int32))))))) ∧ (¬ (σ.1 (o0 + 1) x2.toNatClampNeg) = 0 → (okX5_letterAt_L2 σ o0 n2 x1 (x2 + (1 : Int32))))))))
def f_X5_letterAt (σ : St) (o0 : Nat) (x1 : Int32) : Int32 := (fX5_letterAt_L2 σ o0 2000 x1 (0 : Int32))
def ok_X5_letterAt (σ : St) (o0 : Nat) (x1 : Int32) : Prop := (okX5_letterAt_L2 σ o0 2000 x1 (0 : Int32))
abbrev rm_X5_letterAt : Room := { frames := 2, cells := 0, slots := 0, locals := 45 }
set_option maxHeartbeats 4000000 in
set_option maxRecDepth 100000 in
theorem c_X5_letterAt (l : Launch) (G : GE) (hG : Gok G) (σ : St) (o0 : Nat) (ho0 : tyOf o0 = 5) (x1 : Int32) (hok : ok_X5_letterAt σ o0 x1) : MtI l G yX5_letterAt cX5_letterAt 3 rm_X5_letterAt [.ref (G.2.1 o0), .int x1] σ (σ, f_X5_letterAt σ o0 x1) := by
  generalize hf : f_X5_letterAt σ o0 x1 = fv
  rw [f_X5_letterAt] at hf
  rw [ok_X5_letterAt] at hok
  refine g_start hG (plainFor_of_name (by decide)) (Nat.le_of_ble_eq_true rfl) ?_
  intro p e s m args below meth c X hr hlk ls hl H locs hP hS
  have X : Cx G p s m args c cX5_letterAt 3 RX5 := X
  obtain ⟨hx, hb, hml, hown, hts, hK, hbs, hXW, -⟩ := id X
  have hl : lv_has ls 3 [(0, .ref (G.2.1 o0)), (1, .int x1)] := hl
  refine lv_iconst (v := 0) hx hb dX5_letterAt_0 (by decide) ?_
  refine lv_istore_n (lv' := [(2, .int (0 : Int32)), (0, .ref (G.2.1 o0)), (1, .int x1)]) hx hb dX5_letterAt_1 rfl hl (by decide) rfl (fun ls hl => ?_)
  have K2 : ∀ (n2 : Nat) (x1 : Int32) (x2 : Int32), okX5_letterAt_L2 σ o0 n2 x1 x2 → fX5_letterAt_L2 σ o0 n2 x1 x2 = fv → ∀ (H : Heap) (locs : List Loc), va_P G.1 vcl (wl G σ) H → va_S (GA G) s.heap H locs → ∀ (ls : Array Slot), lv_has ls 3 [(0, .ref (G.2.1 o0)), (1, .int x1), (2, .int x2)] → W p l e rm_X5_letterAt s m args below meth c H locs 0 0 (MQ below (va_Qi (fun r u => (u, r) = (σ, fv)) (PB G) (GA G)) args s 0 0 (GA G)) (F0 m 2 ls []) := by
    intro n2
    induction n2 with
    | zero =>
      intro x1 x2 hok
      exact hok.elim
    | succ n2 ih2 =>
      intro x1 x2 hok hf H locs hP hS ls hl
      rw [okX5_letterAt_L2] at hok
      rw [fX5_letterAt_L2] at hf
      refine lv_iload_n hx hb dX5_letterAt_2 rfl (lv_at hl 2 rfl) ?_
      refine lv_aload_n hx hb dX5_letterAt_3 rfl (lv_at hl 0 rfl) ?_
      refine gg_5_8 X hP ho0 kf_X5_43 dX5_letterAt_4 ?_
      refine lv_icmp_ge (tgt := 36) hx hb dX5_letterAt_7 (by decide) (fun hc => ?_) (fun hc => ?_)
      · have hf := ite_t hc hf
        refine lv_iconst (v := -1) hx hb dX5_letterAt_36 (by decide) ?_
        exact g_iret X hr hlk hP hS (congrArg (Prod.mk σ) hf) dX5_letterAt_37
      · have hf := ite_f hc hf
        have hok := hok.2 hc
        refine lv_aload_n hx hb dX5_letterAt_10 rfl (lv_at hl 0 rfl) ?_
        refine gg_5_0 (j := o0 + 1) rfl X hP ho0 kf_X5_9 dX5_letterAt_11 ?_
        refine lv_iload_n hx hb dX5_letterAt_14 rfl (lv_at hl 2 rfl) ?_
        have hs1 := hok.1
        have hok := hok.2
        refine g_iald X hP (tc_5_0 ho0) (by rw [(lc_5_0 ho0)]; exact hs1) dX5_letterAt_15 ?_
        refine lv_if_ne (tgt := 30) hx hb dX5_letterAt_16 (by decide) (fun hc => ?_) (fun hc => ?_)
        · have hf := ite_f hc hf
          have hok := hok.2 hc
          refine lv_iinc (v := (x2 + (1 : Int32))) (lv' := [(2, .int (x2 + (1 : Int32))), (0, .ref (G.2.1 o0)), (1, .int x1)]) hx hb dX5_letterAt_30 hl (k := 2) rfl rfl (by decide) rfl (fun ls hl => ?_)
          refine lv_goto (tgt := 2) hx hb dX5_letterAt_33 (by decide) ?_
          exact ih2 x1 (x2 + (1 : Int32)) hok hf _ _ hP hS ls (lv_sub hl [1, 2, 0] rfl)
        · have hf := ite_t hc hf
          have hok := hok.1 hc
          refine lv_aload_n hx hb dX5_letterAt_19 rfl (lv_at hl 0 rfl) ?_
          refine lv_iload_n hx hb dX5_letterAt_20 rfl (lv_at hl 2 rfl) ?_
          have hs2 := hok.1
          have hok := hok.2
          refine g_cIp (g_runV (i := o0) (As := [.int x2]) (rest := []) X (c_X5_lettersAhead l G hG σ o0 ho0 x2 hs2) ca_X5_lettersAhead km_X5_47 rfl rfl ⟨Nat.le_of_ble_eq_true rfl, Nat.le_of_ble_eq_true rfl⟩ hP hS (ty_lt ho0) (cell_5 ho0) rfl rfl rfl hl.1 rfl (Nat.le_of_ble_eq_true rfl) ⟨Nat.le_of_ble_eq_true rfl, Nat.le_of_ble_eq_true rfl⟩ dX5_letterAt_21) hS (fun H locs hP hS => ?_)
          refine lv_iload_n hx hb dX5_letterAt_24 rfl (lv_at hl 1 rfl) ?_
          refine lv_icmp_ne (tgt := 30) hx hb dX5_letterAt_25 (by decide) (fun hc => ?_) (fun hc => ?_)
          · have hf := ite_f hc hf
            have hok := hok.2 hc
            refine lv_iinc (v := (x2 + (1 : Int32))) (lv' := [(2, .int (x2 + (1 : Int32))), (0, .ref (G.2.1 o0)), (1, .int x1)]) hx hb dX5_letterAt_30 hl (k := 2) rfl rfl (by decide) rfl (fun ls hl => ?_)
            refine lv_goto (tgt := 2) hx hb dX5_letterAt_33 (by decide) ?_
            exact ih2 x1 (x2 + (1 : Int32)) hok hf _ _ hP hS ls (lv_sub hl [1, 2, 0] rfl)
          · have hf := ite_t hc hf
            refine lv_iload_n hx hb dX5_letterAt_28 rfl (lv_at hl 2 rfl) ?_
            exact g_iret X hr hlk hP hS (congrArg (Prod.mk σ) hf) dX5_letterAt_29
  exact K2 2000 x1 (0 : Int32) hok hf _ _ hP hS ls (lv_sub hl [1, 2, 0] rfl)
def f_X5_copyFrom (σ : St) (o0 : Nat) (o1 : Nat) : St := (bnd (rowI σ (o0 + 1) (va_cpy (σ.1 (o1 + 1)) (σ.1 (o0 + 1)) 0 0 20)) (fun q1 => (bnd (rowI q1 (o0 + 2) (va_cpy (q1.1 (o1 + 2)) (q1.1 (o0 + 2)) 0 0 20)) (fun q2 => (bnd (rowI q2 (o0 + 3) (va_cpy (q2.1 (o1 + 3)) (q2.1 (o0 + 3)) 0 0 20)) (fun q3 => (bnd (rowI q3 (o0 + 4) (va_cpy (q3.1 (o1 + 4)) (q3.1 (o0 + 4)) 0 0 20)) (fun q4 => (bnd (rowI q4 (o0 + 5) (va_cpy (q4.1 (o1 + 5)) (q4.1 (o0 + 5)) 0 0 20)) (fun q5 => (bnd (rowI q5 (o0 + 6) (va_cpy (q5.1 (o1 + 6)) (q5.1 (o0 + 6)) 0 0 20)) (fun q6 => (bnd (rowI q6 (o0 + 7) (va_cpy (q6.1 (o1 + 7)) (q6.1 (o0 + 7)) 0 0 20)) (fun q7 => (bnd (rowF q7 (o0 + 8) (va_cpy (q7.2.1 (o1 + 8)) (q7.2.1 (o0 + 8)) 0 0 20)) (fun q8 => (bnd (setI q8 o0 8 (q8.1 o1 8)) (fun q9 => q9))))))))))))))))))
abbrev rm_X5_copyFrom : Room := { frames := 1, cells := 0, slots := 0, locals := 60 }
set_option maxHeartbeats 4000000 in
set_option maxRecDepth 100000 in
theorem c_X5_copyFrom (l : Launch) (G : GE) (hG : Gok G) (σ : St) (o0 : Nat) (ho0 : tyOf o0 = 5) (o1 : Nat) (ho1 : tyOf o1 = 5) : MtV l G yX5_copyFrom cX5_copyFrom 2 rm_X5_copyFrom [.ref (G.2.1 o0), .ref (G.2.1 o1)] σ (f_X5_copyFrom σ o0 o1) := by
  generalize hf : f_X5_copyFrom σ o0 o1 = fv
  rw [f_X5_copyFrom] at hf
  refine g_start hG (plainFor_of_name (by decide)) (Nat.le_of_ble_eq_true rfl) ?_
  intro p e s m args below meth c X hr hlk ls hl H locs hP hS
  have X : Cx G p s m args c cX5_copyFrom 2 RX5 := X
  obtain ⟨hx, hb, hml, hown, hts, hK, hbs, hXW, -⟩ := id X
  have hl : lv_has ls 2 [(0, .ref (G.2.1 o0)), (1, .ref (G.2.1 o1))] := hl
  refine lv_aload_n hx hb dX5_copyFrom_0 rfl (lv_at hl 1 rfl) ?_
  refine gg_5_0 (j := o1 + 1) rfl X hP ho1 kf_X5_9 dX5_copyFrom_1 ?_
  refine lv_iconst (v := 0) hx hb dX5_copyFrom_4 (by decide) ?_
  refine lv_aload_n hx hb dX5_copyFrom_5 rfl (lv_at hl 0 rfl) ?_
  refine gg_5_0 (j := o0 + 1) rfl X hP ho0 kf_X5_9 dX5_copyFrom_6 ?_
  refine lv_iconst (v := 0) hx hb dX5_copyFrom_9 (by decide) ?_
  refine lv_bipush (v := 20) hx hb dX5_copyFrom_10 (by decide) ?_
  refine g_copyI (N := 20) X hP hS (tc_5_0 ho1) (tc_5_0 ho0) (by rfl) (by decide) (by rw [(lc_5_0 ho1)]; decide) (by rw [(lc_5_0 ho0)]; decide) km_X5_37 hl.1 (Nat.le_of_ble_eq_true rfl) (Nat.le_of_ble_eq_true rfl) dX5_copyFrom_12 (fun H locs hP hS => ?_)
  refine g_name hP (fun q1 hq1 hP => ?_)
  have hf := bnd_go hq1 hf
  refine lv_aload_n hx hb dX5_copyFrom_15 rfl (lv_at hl 1 rfl) ?_
  refine gg_5_1 (j := o1 + 2) rfl X hP ho1 kf_X5_15 dX5_copyFrom_16 ?_
  refine lv_iconst (v := 0) hx hb dX5_copyFrom_19 (by decide) ?_
  refine lv_aload_n hx hb dX5_copyFrom_20 rfl (lv_at hl 0 rfl) ?_
  refine gg_5_1 (j := o0 + 2) rfl X hP ho0 kf_X5_15 dX5_copyFrom_21 ?_
  refine lv_iconst (v := 0) hx hb dX5_copyFrom_24 (by decide) ?_
  refine lv_bipush (v := 20) hx hb dX5_copyFrom_25 (by decide) ?_
  refine g_copyI (N := 20) X hP hS (tc_5_1 ho1) (tc_5_1 ho0) (by rfl) (by decide) (by rw [(lc_5_1 ho1)]; decide) (by rw [(lc_5_1 ho0)]; decide) km_X5_37 hl.1 (Nat.le_of_ble_eq_true rfl) (Nat.le_of_ble_eq_true rfl) dX5_copyFrom_27 (fun H locs hP hS => ?_)
  refine g_name hP (fun q2 hq2 hP => ?_)
  have hf := bnd_go hq2 hf
  refine lv_aload_n hx hb dX5_copyFrom_30 rfl (lv_at hl 1 rfl) ?_
  refine gg_5_2 (j := o1 + 3) rfl X hP ho1 kf_X5_18 dX5_copyFrom_31 ?_
  refine lv_iconst (v := 0) hx hb dX5_copyFrom_34 (by decide) ?_
  refine lv_aload_n hx hb dX5_copyFrom_35 rfl (lv_at hl 0 rfl) ?_
  refine gg_5_2 (j := o0 + 3) rfl X hP ho0 kf_X5_18 dX5_copyFrom_36 ?_
  refine lv_iconst (v := 0) hx hb dX5_copyFrom_39 (by decide) ?_
  refine lv_bipush (v := 20) hx hb dX5_copyFrom_40 (by decide) ?_
  refine g_copyI (N := 20) X hP hS (tc_5_2 ho1) (tc_5_2 ho0) (by rfl) (by decide) (by rw [(lc_5_2 ho1)]; decide) (by rw [(lc_5_2 ho0)]; decide) km_X5_37 hl.1 (Nat.le_of_ble_eq_true rfl) (Nat.le_of_ble_eq_true rfl) dX5_copyFrom_42 (fun H locs hP hS => ?_)
  refine g_name hP (fun q3 hq3 hP => ?_)
  have hf := bnd_go hq3 hf
  refine lv_aload_n hx hb dX5_copyFrom_45 rfl (lv_at hl 1 rfl) ?_
  refine gg_5_3 (j := o1 + 4) rfl X hP ho1 kf_X5_21 dX5_copyFrom_46 ?_
  refine lv_iconst (v := 0) hx hb dX5_copyFrom_49 (by decide) ?_
  refine lv_aload_n hx hb dX5_copyFrom_50 rfl (lv_at hl 0 rfl) ?_
  refine gg_5_3 (j := o0 + 4) rfl X hP ho0 kf_X5_21 dX5_copyFrom_51 ?_
  refine lv_iconst (v := 0) hx hb dX5_copyFrom_54 (by decide) ?_
  refine lv_bipush (v := 20) hx hb dX5_copyFrom_55 (by decide) ?_
  refine g_copyI (N := 20) X hP hS (tc_5_3 ho1) (tc_5_3 ho0) (by rfl) (by decide) (by rw [(lc_5_3 ho1)]; decide) (by rw [(lc_5_3 ho0)]; decide) km_X5_37 hl.1 (Nat.le_of_ble_eq_true rfl) (Nat.le_of_ble_eq_true rfl) dX5_copyFrom_57 (fun H locs hP hS => ?_)
  refine g_name hP (fun q4 hq4 hP => ?_)
  have hf := bnd_go hq4 hf
  refine lv_aload_n hx hb dX5_copyFrom_60 rfl (lv_at hl 1 rfl) ?_
  refine gg_5_4 (j := o1 + 5) rfl X hP ho1 kf_X5_24 dX5_copyFrom_61 ?_
  refine lv_iconst (v := 0) hx hb dX5_copyFrom_64 (by decide) ?_
  refine lv_aload_n hx hb dX5_copyFrom_65 rfl (lv_at hl 0 rfl) ?_
  refine gg_5_4 (j := o0 + 5) rfl X hP ho0 kf_X5_24 dX5_copyFrom_66 ?_
  refine lv_iconst (v := 0) hx hb dX5_copyFrom_69 (by decide) ?_
  refine lv_bipush (v := 20) hx hb dX5_copyFrom_70 (by decide) ?_
  refine g_copyI (N := 20) X hP hS (tc_5_4 ho1) (tc_5_4 ho0) (by rfl) (by decide) (by rw [(lc_5_4 ho1)]; decide) (by rw [(lc_5_4 ho0)]; decide) km_X5_37 hl.1 (Nat.le_of_ble_eq_true rfl) (Nat.le_of_ble_eq_true rfl) dX5_copyFrom_72 (fun H locs hP hS => ?_)
  refine g_name hP (fun q5 hq5 hP => ?_)
  have hf := bnd_go hq5 hf
  refine lv_aload_n hx hb dX5_copyFrom_75 rfl (lv_at hl 1 rfl) ?_
  refine gg_5_5 (j := o1 + 6) rfl X hP ho1 kf_X5_27 dX5_copyFrom_76 ?_
  refine lv_iconst (v := 0) hx hb dX5_copyFrom_79 (by decide) ?_
  refine lv_aload_n hx hb dX5_copyFrom_80 rfl (lv_at hl 0 rfl) ?_
  refine gg_5_5 (j := o0 + 6) rfl X hP ho0 kf_X5_27 dX5_copyFrom_81 ?_
  refine lv_iconst (v := 0) hx hb dX5_copyFrom_84 (by decide) ?_
  refine lv_bipush (v := 20) hx hb dX5_copyFrom_85 (by decide) ?_
  refine g_copyI (N := 20) X hP hS (tc_5_5 ho1) (tc_5_5 ho0) (by rfl) (by decide) (by rw [(lc_5_5 ho1)]; decide) (by rw [(lc_5_5 ho0)]; decide) km_X5_37 hl.1 (Nat.le_of_ble_eq_true rfl) (Nat.le_of_ble_eq_true rfl) dX5_copyFrom_87 (fun H locs hP hS => ?_)
  refine g_name hP (fun q6 hq6 hP => ?_)
  have hf := bnd_go hq6 hf
  refine lv_aload_n hx hb dX5_copyFrom_90 rfl (lv_at hl 1 rfl) ?_
  refine gg_5_6 (j := o1 + 7) rfl X hP ho1 kf_X5_30 dX5_copyFrom_91 ?_
  refine lv_iconst (v := 0) hx hb dX5_copyFrom_94 (by decide) ?_
  refine lv_aload_n hx hb dX5_copyFrom_95 rfl (lv_at hl 0 rfl) ?_
  refine gg_5_6 (j := o0 + 7) rfl X hP ho0 kf_X5_30 dX5_copyFrom_96 ?_
  refine lv_iconst (v := 0) hx hb dX5_copyFrom_99 (by decide) ?_
  refine lv_bipush (v := 20) hx hb dX5_copyFrom_100 (by decide) ?_
  refine g_copyI (N := 20) X hP hS (tc_5_6 ho1) (tc_5_6 ho0) (by rfl) (by decide) (by rw [(lc_5_6 ho1)]; decide) (by rw [(lc_5_6 ho0)]; decide) km_X5_37 hl.1 (Nat.le_of_ble_eq_true rfl) (Nat.le_of_ble_eq_true rfl) dX5_copyFrom_102 (fun H locs hP hS => ?_)
  refine g_name hP (fun q7 hq7 hP => ?_)
  have hf := bnd_go hq7 hf
  refine lv_aload_n hx hb dX5_copyFrom_105 rfl (lv_at hl 1 rfl) ?_
  refine gg_5_7 (j := o1 + 8) rfl X hP ho1 kf_X5_33 dX5_copyFrom_106 ?_
  refine lv_iconst (v := 0) hx hb dX5_copyFrom_109 (by decide) ?_
  refine lv_aload_n hx hb dX5_copyFrom_110 rfl (lv_at hl 0 rfl) ?_
  refine gg_5_7 (j := o0 + 8) rfl X hP ho0 kf_X5_33 dX5_copyFrom_111 ?_
  refine lv_iconst (v := 0) hx hb dX5_copyFrom_114 (by decide) ?_
  refine lv_bipush (v := 20) hx hb dX5_copyFrom_115 (by decide) ?_
  refine g_copyF (N := 20) X hP hS (tc_5_7 ho1) (tc_5_7 ho0) (by rfl) (by decide) (by rw [(lc_5_7 ho1)]; decide) (by rw [(lc_5_7 ho0)]; decide) km_X5_37 hl.1 (Nat.le_of_ble_eq_true rfl) (Nat.le_of_ble_eq_true rfl) dX5_copyFrom_117 (fun H locs hP hS => ?_)
  refine g_name hP (fun q8 hq8 hP => ?_)
  have hf := bnd_go hq8 hf
  refine lv_aload_n hx hb dX5_copyFrom_120 rfl (lv_at hl 0 rfl) ?_
  refine lv_aload_n hx hb dX5_copyFrom_121 rfl (lv_at hl 1 rfl) ?_
  refine gg_5_8 X hP ho1 kf_X5_43 dX5_copyFrom_122 ?_
  refine gp_5_8 X hP hS ho0 kf_X5_43 dX5_copyFrom_125 (fun H locs hP hS => ?_)
  refine g_name hP (fun q9 hq9 hP => ?_)
  have hf := bnd_go hq9 hf
  exact g_vret X hr hlk hP hS hf dX5_copyFrom_128
