def f_X7_add (σ : St) (x1 : Int32) : St := (bnd (setI σ 192 (σ.1 191 3).toNatClampNeg (vp_nar .char x1)) (fun q2 => (bnd (setI q2 191 3 ((q2.1 191 3) + (1 : Int32))) (fun q3 => q3))))
def ok_X7_add (σ : St) (x1 : Int32) : Prop := vp_in (σ.1 191 3) 60
abbrev rm_X7_add : Room := { frames := 0, cells := 0, slots := 0, locals := 0 }
set_option maxHeartbeats 4000000 in
set_option maxRecDepth 100000 in
theorem c_X7_add (l : Launch) (G : GE) (hG : Gok G) (σ : St) (x1 : Int32) (hok : ok_X7_add σ x1) : MtV l G yX7_add cX7_add 2 rm_X7_add [.ref (G.2.1 191), .int x1] σ (f_X7_add σ x1) := by
  generalize hf : f_X7_add σ x1 = fv
  rw [f_X7_add] at hf
  rw [ok_X7_add] at hok
  refine g_start hG (plainFor_of_name (by decide)) (Nat.le_of_ble_eq_true rfl) ?_
  intro p e s m args below meth c X hr hlk ls hl H locs hP hS
  have X : Cx G p s m args c cX7_add 2 RX7 := X
  obtain ⟨hx, hb, hml, hown, hts, hK, hbs, hXW, -⟩ := id X
  have hl : lv_has ls 2 [(0, .ref (G.2.1 191)), (1, .int x1)] := hl
  refine lv_aload_n hx hb dX7_add_0 rfl (lv_at hl 0 rfl) ?_
  refine gg_7_0 (j := 192) rfl X hP ab_191 kf_X7_9 dX7_add_1 ?_
  refine lv_aload_n hx hb dX7_add_4 rfl (lv_at hl 0 rfl) ?_
  refine gg_7_3 X hP ab_191 kf_X7_26 dX7_add_5 ?_
  refine lv_iload_n hx hb dX7_add_8 rfl (lv_at hl 1 rfl) ?_
  have hs1 := hok
  refine g_cast X hP hS ab_192 (by rw [al_192]; exact hs1) dX7_add_9 (fun H locs hP hS => ?_)
  refine g_name hP (fun q2 hq2 hP => ?_)
  have hf := bnd_go hq2 hf
  refine lv_aload_n hx hb dX7_add_10 rfl (lv_at hl 0 rfl) ?_
  refine lv_dup hx hb dX7_add_11 rfl ?_
  refine gg_7_3 X hP ab_191 kf_X7_26 dX7_add_12 ?_
  refine lv_iconst (v := 1) hx hb dX7_add_15 (by decide) ?_
  refine lv_iadd hx hb dX7_add_16 ?_
  refine gp_7_3 X hP hS ab_191 kf_X7_26 dX7_add_17 (fun H locs hP hS => ?_)
  refine g_name hP (fun q3 hq3 hP => ?_)
  have hf := bnd_go hq3 hf
  exact g_vret X hr hlk hP hS hf dX7_add_20
def f_X7_numberOf (σ : St) (x1 : Int32) (x2 : Int32) : Int32 := (σ.1 194 ((x1 * (4 : Int32)) + x2).toNatClampNeg)
def ok_X7_numberOf (σ : St) (x1 : Int32) (x2 : Int32) : Prop := vp_in ((x1 * (4 : Int32)) + x2) 84
abbrev rm_X7_numberOf : Room := { frames := 0, cells := 0, slots := 0, locals := 0 }
set_option maxHeartbeats 4000000 in
set_option maxRecDepth 100000 in
theorem c_X7_numberOf (l : Launch) (G : GE) (hG : Gok G) (σ : St) (x1 : Int32) (x2 : Int32) (hok : ok_X7_numberOf σ x1 x2) : MtI l G yX7_numberOf cX7_numberOf 3 rm_X7_numberOf [.ref (G.2.1 191), .int x1, .int x2] σ (σ, f_X7_numberOf σ x1 x2) := by
  generalize hf : f_X7_numberOf σ x1 x2 = fv
  rw [f_X7_numberOf] at hf
  rw [ok_X7_numberOf] at hok
  refine g_start hG (plainFor_of_name (by decide)) (Nat.le_of_ble_eq_true rfl) ?_
  intro p e s m args below meth c X hr hlk ls hl H locs hP hS
  have X : Cx G p s m args c cX7_numberOf 3 RX7 := X
  obtain ⟨hx, hb, hml, hown, hts, hK, hbs, hXW, -⟩ := id X
  have hl : lv_has ls 3 [(0, .ref (G.2.1 191)), (1, .int x1), (2, .int x2)] := hl
  refine lv_aload_n hx hb dX7_numberOf_0 rfl (lv_at hl 0 rfl) ?_
  refine gg_7_2 (j := 194) rfl X hP ab_191 kf_X7_19 dX7_numberOf_1 ?_
  refine lv_iload_n hx hb dX7_numberOf_4 rfl (lv_at hl 1 rfl) ?_
  refine lv_iconst (v := 4) hx hb dX7_numberOf_5 (by decide) ?_
  refine lv_imul hx hb dX7_numberOf_6 ?_
  refine lv_iload_n hx hb dX7_numberOf_7 rfl (lv_at hl 2 rfl) ?_
  refine lv_iadd hx hb dX7_numberOf_8 ?_
  have hs1 := hok
  refine g_iald X hP ab_194 (by rw [al_194]; exact hs1) dX7_numberOf_9 ?_
  exact g_iret X hr hlk hP hS (congrArg (Prod.mk σ) hf) dX7_numberOf_10
def f_X7_isDigitNext (σ : St) : Bool := (if (σ.1 191 3) ≤ (σ.1 191 6) then false else (if (σ.1 192 (σ.1 191 6).toNatClampNeg) < (48 : Int32) then false else (if (57 : Int32) < (σ.1 192 (σ.1 191 6).toNatClampNeg) then false else true)))
def ok_X7_isDigitNext (σ : St) : Prop := (((σ.1 191 3) ≤ (σ.1 191 6) → True) ∧ (¬ (σ.1 191 3) ≤ (σ.1 191 6) → (vp_in (σ.1 191 6) 60 ∧ (((σ.1 192 (σ.1 191 6).toNatClampNeg) < (48 : Int32) → True) ∧ (¬ (σ.1 192 (σ.1 191 6).toNatClampNeg) < (48 : Int32) → vp_in (σ.1 191 6) 60)))))
abbrev rm_X7_isDigitNext : Room := { frames := 0, cells := 0, slots := 0, locals := 0 }
set_option maxHeartbeats 4000000 in
set_option maxRecDepth 100000 in
theorem c_X7_isDigitNext (l : Launch) (G : GE) (hG : Gok G) (σ : St) (hok : ok_X7_isDigitNext σ) : MtZ l G yX7_isDigitNext cX7_isDigitNext 1 rm_X7_isDigitNext [.ref (G.2.1 191)] σ (σ, f_X7_isDigitNext σ) := by
  generalize hf : f_X7_isDigitNext σ = fv
  rw [f_X7_isDigitNext] at hf
  rw [ok_X7_isDigitNext] at hok
  refine g_start hG (plainFor_of_name (by decide)) (Nat.le_of_ble_eq_true rfl) ?_
  intro p e s m args below meth c X hr hlk ls hl H locs hP hS
  have X : Cx G p s m args c cX7_isDigitNext 1 RX7 := X
  obtain ⟨hx, hb, hml, hown, hts, hK, hbs, hXW, -⟩ := id X
  have hl : lv_has ls 1 [(0, .ref (G.2.1 191))] := hl
  refine lv_aload_n hx hb dX7_isDigitNext_0 rfl (lv_at hl 0 rfl) ?_
  refine gg_7_6 X hP ab_191 kf_X7_29 dX7_isDigitNext_1 ?_
  refine lv_aload_n hx hb dX7_isDigitNext_4 rfl (lv_at hl 0 rfl) ?_
  refine gg_7_3 X hP ab_191 kf_X7_26 dX7_isDigitNext_5 ?_
  refine lv_icmp_ge (tgt := 43) hx hb dX7_isDigitNext_8 (by decide) (fun hc => ?_) (fun hc => ?_)
  · have hf := ite_t hc hf
    refine lv_iconst (v := 0) hx hb dX7_isDigitNext_43 (by decide) ?_
    exact g_zret (b := false) X hr hlk rfl hP hS (congrArg (Prod.mk σ) hf) dX7_isDigitNext_44
  · have hf := ite_f hc hf
    have hok := hok.2 hc
    refine lv_aload_n hx hb dX7_isDigitNext_11 rfl (lv_at hl 0 rfl) ?_
    refine gg_7_0 (j := 192) rfl X hP ab_191 kf_X7_9 dX7_isDigitNext_12 ?_
    refine lv_aload_n hx hb dX7_isDigitNext_15 rfl (lv_at hl 0 rfl) ?_
    refine gg_7_6 X hP ab_191 kf_X7_29 dX7_isDigitNext_16 ?_
    have hs1 := hok.1
    have hok := hok.2
    refine g_cald X hP ab_192 (by rw [al_192]; exact hs1) dX7_isDigitNext_19 ?_
    refine lv_bipush (v := 48) hx hb dX7_isDigitNext_20 (by decide) ?_
    refine lv_icmp_lt (tgt := 43) hx hb dX7_isDigitNext_22 (by decide) (fun hc => ?_) (fun hc => ?_)
    · have hf := ite_t hc hf
      refine lv_iconst (v := 0) hx hb dX7_isDigitNext_43 (by decide) ?_
      exact g_zret (b := false) X hr hlk rfl hP hS (congrArg (Prod.mk σ) hf) dX7_isDigitNext_44
    · have hf := ite_f hc hf
      have hok := hok.2 hc
      refine lv_aload_n hx hb dX7_isDigitNext_25 rfl (lv_at hl 0 rfl) ?_
      refine gg_7_0 (j := 192) rfl X hP ab_191 kf_X7_9 dX7_isDigitNext_26 ?_
      refine lv_aload_n hx hb dX7_isDigitNext_29 rfl (lv_at hl 0 rfl) ?_
      refine gg_7_6 X hP ab_191 kf_X7_29 dX7_isDigitNext_30 ?_
      have hs2 := hok
      refine g_cald X hP ab_192 (by rw [al_192]; exact hs2) dX7_isDigitNext_33 ?_
      refine lv_bipush (v := 57) hx hb dX7_isDigitNext_34 (by decide) ?_
      refine lv_icmp_gt (tgt := 43) hx hb dX7_isDigitNext_36 (by decide) (fun hc => ?_) (fun hc => ?_)
      · have hf := ite_t hc hf
        refine lv_iconst (v := 0) hx hb dX7_isDigitNext_43 (by decide) ?_
        exact g_zret (b := false) X hr hlk rfl hP hS (congrArg (Prod.mk σ) hf) dX7_isDigitNext_44
      · have hf := ite_f hc hf
        refine lv_iconst (v := 1) hx hb dX7_isDigitNext_39 (by decide) ?_
        refine lv_goto (tgt := 44) hx hb dX7_isDigitNext_40 (by decide) ?_
        exact g_zret (b := true) X hr hlk rfl hP hS (congrArg (Prod.mk σ) hf) dX7_isDigitNext_44
def fX7_scanNumber_L4 : Nat → St → Int32 → Int32 → Int32 → St × Bool
  | 0, σ, _, _, _ => (σ, false)
  | n4 + 1, σ, x1, x2, x3 => (if x1 ≤ x3 then (if x3 ≤ 0 then (if x3 ≤ 0 then (σ, false) else (σ, true)) else (if (4 : Int32) ≤ (σ.1 191 7) then (if x3 ≤ 0 then (σ, false) else (σ, true)) else (bnd (setI σ 194 (((σ.1 191 4) * (4 : Int32)) + (σ.1 191 7)).toNatClampNeg x2) (fun q2 => (bnd (setI q2 191 7 ((q2.1 191 7) + (1 : Int32))) (fun q3 => (if x3 ≤ 0 then (q3, false) else (q3, true)))))))) else (if (f_X7_isDigitNext σ) = true then (bnd (setI σ 191 6 ((σ.1 191 6) + (1 : Int32))) (fun q9 => (fX7_scanNumber_L4 n4 q9 x1 ((x2 * (10 : Int32)) + ((σ.1 192 (σ.1 191 6).toNatClampNeg) - (48 : Int32))) (x3 + (1 : Int32))))) else (if x3 ≤ 0 then (if x3 ≤ 0 then (σ, false) else (σ, true)) else (if (4 : Int32) ≤ (σ.1 191 7) then (if x3 ≤ 0 then (σ, false) else (σ, true)) else (bnd (setI σ 194 (((σ.1 191 4) * (4 : Int32)) + (σ.1 191 7)).toNatClampNeg x2) (fun q6 => (bnd (setI q6 191 7 ((q6.1 191 7) + (1 : Int32))) (fun q7 => (if x3 ≤ 0 then (q7, false) else (q7, true))))))))))
def okX7_scanNumber_L4 : Nat → St → Int32 → Int32 → Int32 → Prop
  | 0, _, _, _, _ => False
  | n4 + 1, σ, x1, x2, x3 => ((x1 ≤ x3 → ((x3 ≤ 0 → True) ∧ (¬ x3 ≤ 0 → (((4 : Int32) ≤ (σ.1 191 7) → True) ∧ (¬ (4 : Int32) ≤ (σ.1 191 7) → vp_in (((σ.1 191 4) * (4 : Int32)) + (σ.1 191 7)) 84))))) ∧ (¬ x1 ≤ x3 → (ok_X7_isDigitNext σ ∧ (((f_X7_isDigitNext σ) = true → (vp_in (σ.1 191 6) 60 ∧ (bndP (setI σ 191 6 ((σ.1 191 6) + (1 : Int32))) (fun q9 => (okX7_scanNumber_L4 n4 q9 x1 ((x2 * (10 : Int32)) + ((σ.1 192 (σ.1 191 6).toNatClampNeg) - (48 : Int32))) (x3 + (1 : Int32))))))) ∧ ((f_X7_isDigitNext σ) = false → ((x3 ≤ 0 → True) ∧ (¬ x3 ≤ 0 → (((4 : Int32) ≤ (σ.1 191 7) → True) ∧ (¬ (4 : Int32) ≤ (σ.1 191 7) → vp_in (((σ.1 191 4) * (4 : Int32)) + (σ.1 191 7)) 84)))))))))
def f_X7_scanNumber (σ : St) (x1 : Int32) : St × Bool := (fX7_scanNumber_L4 2000 σ x1 (0 : Int32) (0 : Int32))
def ok_X7_scanNumber (σ : St) (x1 : Int32) : Prop := (okX7_scanNumber_L4 2000 σ x1 (0 : Int32) (0 : Int32))
abbrev rm_X7_scanNumber : Room := { frames := 1, cells := 0, slots := 0, locals := 20 }
set_option maxHeartbeats 4000000 in
set_option maxRecDepth 100000 in
theorem c_X7_scanNumber (l : Launch) (G : GE) (hG : Gok G) (σ : St) (x1 : Int32) (hok : ok_X7_scanNumber σ x1) : MtZ l G yX7_scanNumber cX7_scanNumber 4 rm_X7_scanNumber [.ref (G.2.1 191), .int x1] σ (f_X7_scanNumber σ x1) := by
  generalize hf : f_X7_scanNumber σ x1 = fv
  rw [f_X7_scanNumber] at hf
  rw [ok_X7_scanNumber] at hok
  refine g_start hG (plainFor_of_name (by decide)) (Nat.le_of_ble_eq_true rfl) ?_
  intro p e s m args below meth c X hr hlk ls hl H locs hP hS
  have X : Cx G p s m args c cX7_scanNumber 4 RX7 := X
  obtain ⟨hx, hb, hml, hown, hts, hK, hbs, hXW, -⟩ := id X
  have hl : lv_has ls 4 [(0, .ref (G.2.1 191)), (1, .int x1)] := hl
  refine lv_iconst (v := 0) hx hb dX7_scanNumber_0 (by decide) ?_
  refine lv_istore_n (lv' := [(2, .int (0 : Int32)), (0, .ref (G.2.1 191)), (1, .int x1)]) hx hb dX7_scanNumber_1 rfl hl (by decide) rfl (fun ls hl => ?_)
  refine lv_iconst (v := 0) hx hb dX7_scanNumber_2 (by decide) ?_
  refine lv_istore_n (lv' := [(3, .int (0 : Int32)), (2, .int (0 : Int32)), (0, .ref (G.2.1 191)), (1, .int x1)]) hx hb dX7_scanNumber_3 rfl hl (by decide) rfl (fun ls hl => ?_)
  have K4 : ∀ (n4 : Nat) (σ : St) (x1 : Int32) (x2 : Int32) (x3 : Int32), okX7_scanNumber_L4 n4 σ x1 x2 x3 → fX7_scanNumber_L4 n4 σ x1 x2 x3 = fv → ∀ (H : Heap) (locs : List Loc), va_P G.1 vcl (wl G σ) H → va_S (GA G) s.heap H locs → ∀ (ls : Array Slot), lv_has ls 4 [(0, .ref (G.2.1 191)), (1, .int x1), (2, .int x2), (3, .int x3)] → W p l e rm_X7_scanNumber s m args below meth c H locs 0 0 (MQ below (va_Qi (fun r u => (u, r) = ((fv : St × Bool).1, bI (fv : St × Bool).2)) (PB G) (GA G)) args s 0 0 (GA G)) (F0 m 4 ls []) := by
    intro n4
    induction n4 with
    | zero =>
      intro σ x1 x2 x3 hok
      exact hok.elim
    | succ n4 ih4 =>
      intro σ x1 x2 x3 hok hf H locs hP hS ls hl
      rw [okX7_scanNumber_L4] at hok
      rw [fX7_scanNumber_L4] at hf
      refine lv_iload_n hx hb dX7_scanNumber_4 rfl (lv_at hl 3 rfl) ?_
      refine lv_iload_n hx hb dX7_scanNumber_5 rfl (lv_at hl 1 rfl) ?_
      refine lv_icmp_ge (tgt := 50) hx hb dX7_scanNumber_6 (by decide) (fun hc => ?_) (fun hc => ?_)
      · have hf := ite_t hc hf
        have hok := hok.1 hc
        refine lv_iload_n hx hb dX7_scanNumber_50 rfl (lv_at hl 3 rfl) ?_
        refine lv_if_le (tgt := 89) hx hb dX7_scanNumber_51 (by decide) (fun hc => ?_) (fun hc => ?_)
        · have hf := ite_t hc hf
          refine lv_iload_n hx hb dX7_scanNumber_89 rfl (lv_at hl 3 rfl) ?_
          refine lv_if_le (tgt := 97) hx hb dX7_scanNumber_90 (by decide) (fun hc => ?_) (fun hc => ?_)
          · have hf := ite_t hc hf
            refine lv_iconst (v := 0) hx hb dX7_scanNumber_97 (by decide) ?_
            exact g_zret (b := false) X hr hlk rfl hP hS hf dX7_scanNumber_98
          · have hf := ite_f hc hf
            refine lv_iconst (v := 1) hx hb dX7_scanNumber_93 (by decide) ?_
            refine lv_goto (tgt := 98) hx hb dX7_scanNumber_94 (by decide) ?_
            exact g_zret (b := true) X hr hlk rfl hP hS hf dX7_scanNumber_98
        · have hf := ite_f hc hf
          have hok := hok.2 hc
          refine lv_aload_n hx hb dX7_scanNumber_54 rfl (lv_at hl 0 rfl) ?_
          refine gg_7_7 X hP ab_191 kf_X7_50 dX7_scanNumber_55 ?_
          refine lv_iconst (v := 4) hx hb dX7_scanNumber_58 (by decide) ?_
          refine lv_icmp_ge (tgt := 89) hx hb dX7_scanNumber_59 (by decide) (fun hc => ?_) (fun hc => ?_)
          · have hf := ite_t hc hf
            refine lv_iload_n hx hb dX7_scanNumber_89 rfl (lv_at hl 3 rfl) ?_
            refine lv_if_le (tgt := 97) hx hb dX7_scanNumber_90 (by decide) (fun hc => ?_) (fun hc => ?_)
            · have hf := ite_t hc hf
              refine lv_iconst (v := 0) hx hb dX7_scanNumber_97 (by decide) ?_
              exact g_zret (b := false) X hr hlk rfl hP hS hf dX7_scanNumber_98
            · have hf := ite_f hc hf
              refine lv_iconst (v := 1) hx hb dX7_scanNumber_93 (by decide) ?_
              refine lv_goto (tgt := 98) hx hb dX7_scanNumber_94 (by decide) ?_
              exact g_zret (b := true) X hr hlk rfl hP hS hf dX7_scanNumber_98
          · have hf := ite_f hc hf
            have hok := hok.2 hc
            refine lv_aload_n hx hb dX7_scanNumber_62 rfl (lv_at hl 0 rfl) ?_
            refine gg_7_2 (j := 194) rfl X hP ab_191 kf_X7_19 dX7_scanNumber_63 ?_
            refine lv_aload_n hx hb dX7_scanNumber_66 rfl (lv_at hl 0 rfl) ?_
            refine gg_7_4 X hP ab_191 kf_X7_32 dX7_scanNumber_67 ?_
            refine lv_iconst (v := 4) hx hb dX7_scanNumber_70 (by decide) ?_
            refine lv_imul hx hb dX7_scanNumber_71 ?_
            refine lv_aload_n hx hb dX7_scanNumber_72 rfl (lv_at hl 0 rfl) ?_
            refine gg_7_7 X hP ab_191 kf_X7_50 dX7_scanNumber_73 ?_
            refine lv_iadd hx hb dX7_scanNumber_76 ?_
            refine lv_iload_n hx hb dX7_scanNumber_77 rfl (lv_at hl 2 rfl) ?_
            have hs1 := hok
            refine g_iast X hP hS ab_194 (by rw [al_194]; exact hs1) dX7_scanNumber_78 (fun H locs hP hS => ?_)
            refine g_name hP (fun q2 hq2 hP => ?_)
            have hf := bnd_go hq2 hf
            refine lv_aload_n hx hb dX7_scanNumber_79 rfl (lv_at hl 0 rfl) ?_
            refine lv_dup hx hb dX7_scanNumber_80 rfl ?_
            refine gg_7_7 X hP ab_191 kf_X7_50 dX7_scanNumber_81 ?_
            refine lv_iconst (v := 1) hx hb dX7_scanNumber_84 (by decide) ?_
            refine lv_iadd hx hb dX7_scanNumber_85 ?_
            refine gp_7_7 X hP hS ab_191 kf_X7_50 dX7_scanNumber_86 (fun H locs hP hS => ?_)
            refine g_name hP (fun q3 hq3 hP => ?_)
            have hf := bnd_go hq3 hf
            refine lv_iload_n hx hb dX7_scanNumber_89 rfl (lv_at hl 3 rfl) ?_
            refine lv_if_le (tgt := 97) hx hb dX7_scanNumber_90 (by decide) (fun hc => ?_) (fun hc => ?_)
            · have hf := ite_t hc hf
              refine lv_iconst (v := 0) hx hb dX7_scanNumber_97 (by decide) ?_
              exact g_zret (b := false) X hr hlk rfl hP hS hf dX7_scanNumber_98
            · have hf := ite_f hc hf
              refine lv_iconst (v := 1) hx hb dX7_scanNumber_93 (by decide) ?_
              refine lv_goto (tgt := 98) hx hb dX7_scanNumber_94 (by decide) ?_
              exact g_zret (b := true) X hr hlk rfl hP hS hf dX7_scanNumber_98
      · have hf := ite_f hc hf
        have hok := hok.2 hc
        refine lv_aload_n hx hb dX7_scanNumber_9 rfl (lv_at hl 0 rfl) ?_
        have hs4 := hok.1
        have hok := hok.2
        refine g_cZp (g_runV (i := 191) (As := []) (rest := []) X (c_X7_isDigitNext l G hG σ hs4) ca_X7_isDigitNext km_X7_83 rfl rfl ⟨Nat.le_of_ble_eq_true rfl, Nat.le_of_ble_eq_true rfl⟩ hP hS (ty_lt ab_191) (cell_7 ab_191) rfl rfl rfl hl.1 rfl (Nat.le_of_ble_eq_true rfl) ⟨Nat.le_of_ble_eq_true rfl, Nat.le_of_ble_eq_true rfl⟩ dX7_scanNumber_10) hS (fun H locs hP hS => ?_)
        refine g_ifeqZ (tgt := 50) X dX7_scanNumber_13 (by decide) (fun hc => ?_) (fun hc => ?_)
        · have hf := ite_z hc hf
          have hok := hok.2 hc
          refine lv_iload_n hx hb dX7_scanNumber_50 rfl (lv_at hl 3 rfl) ?_
          refine lv_if_le (tgt := 89) hx hb dX7_scanNumber_51 (by decide) (fun hc => ?_) (fun hc => ?_)
          · have hf := ite_t hc hf
            refine lv_iload_n hx hb dX7_scanNumber_89 rfl (lv_at hl 3 rfl) ?_
            refine lv_if_le (tgt := 97) hx hb dX7_scanNumber_90 (by decide) (fun hc => ?_) (fun hc => ?_)
            · have hf := ite_t hc hf
              refine lv_iconst (v := 0) hx hb dX7_scanNumber_97 (by decide) ?_
              exact g_zret (b := false) X hr hlk rfl hP hS hf dX7_scanNumber_98
            · have hf := ite_f hc hf
              refine lv_iconst (v := 1) hx hb dX7_scanNumber_93 (by decide) ?_
              refine lv_goto (tgt := 98) hx hb dX7_scanNumber_94 (by decide) ?_
              exact g_zret (b := true) X hr hlk rfl hP hS hf dX7_scanNumber_98
          · have hf := ite_f hc hf
            have hok := hok.2 hc
            refine lv_aload_n hx hb dX7_scanNumber_54 rfl (lv_at hl 0 rfl) ?_
            refine gg_7_7 X hP ab_191 kf_X7_50 dX7_scanNumber_55 ?_
            refine lv_iconst (v := 4) hx hb dX7_scanNumber_58 (by decide) ?_
            refine lv_icmp_ge (tgt := 89) hx hb dX7_scanNumber_59 (by decide) (fun hc => ?_) (fun hc => ?_)
            · have hf := ite_t hc hf
              refine lv_iload_n hx hb dX7_scanNumber_89 rfl (lv_at hl 3 rfl) ?_
              refine lv_if_le (tgt := 97) hx hb dX7_scanNumber_90 (by decide) (fun hc => ?_) (fun hc => ?_)
              · have hf := ite_t hc hf
                refine lv_iconst (v := 0) hx hb dX7_scanNumber_97 (by decide) ?_
                exact g_zret (b := false) X hr hlk rfl hP hS hf dX7_scanNumber_98
              · have hf := ite_f hc hf
                refine lv_iconst (v := 1) hx hb dX7_scanNumber_93 (by decide) ?_
                refine lv_goto (tgt := 98) hx hb dX7_scanNumber_94 (by decide) ?_
                exact g_zret (b := true) X hr hlk rfl hP hS hf dX7_scanNumber_98
            · have hf := ite_f hc hf
              have hok := hok.2 hc
              refine lv_aload_n hx hb dX7_scanNumber_62 rfl (lv_at hl 0 rfl) ?_
              refine gg_7_2 (j := 194) rfl X hP ab_191 kf_X7_19 dX7_scanNumber_63 ?_
              refine lv_aload_n hx hb dX7_scanNumber_66 rfl (lv_at hl 0 rfl) ?_
              refine gg_7_4 X hP ab_191 kf_X7_32 dX7_scanNumber_67 ?_
              refine lv_iconst (v := 4) hx hb dX7_scanNumber_70 (by decide) ?_
              refine lv_imul hx hb dX7_scanNumber_71 ?_
              refine lv_aload_n hx hb dX7_scanNumber_72 rfl (lv_at hl 0 rfl) ?_
              refine gg_7_7 X hP ab_191 kf_X7_50 dX7_scanNumber_73 ?_
              refine lv_iadd hx hb dX7_scanNumber_76 ?_
              refine lv_iload_n hx hb dX7_scanNumber_77 rfl (lv_at hl 2 rfl) ?_
              have hs5 := hok
              refine g_iast X hP hS ab_194 (by rw [al_194]; exact hs5) dX7_scanNumber_78 (fun H locs hP hS => ?_)
              refine g_name hP (fun q6 hq6 hP => ?_)
              have hf := bnd_go hq6 hf
              refine lv_aload_n hx hb dX7_scanNumber_79 rfl (lv_at hl 0 rfl) ?_
              refine lv_dup hx hb dX7_scanNumber_80 rfl ?_
              refine gg_7_7 X hP ab_191 kf_X7_50 dX7_scanNumber_81 ?_
              refine lv_iconst (v := 1) hx hb dX7_scanNumber_84 (by decide) ?_
              refine lv_iadd hx hb dX7_scanNumber_85 ?_
              refine gp_7_7 X hP hS ab_191 kf_X7_50 dX7_scanNumber_86 (fun H locs hP hS => ?_)
              refine g_name hP (fun q7 hq7 hP => ?_)
              have hf := bnd_go hq7 hf
              refine lv_iload_n hx hb dX7_scanNumber_89 rfl (lv_at hl 3 rfl) ?_
              refine lv_if_le (tgt := 97) hx hb dX7_scanNumber_90 (by decide) (fun hc => ?_) (fun hc => ?_)
              · have hf := ite_t hc hf
                refine lv_iconst (v := 0) hx hb dX7_scanNumber_97 (by decide) ?_
                exact g_zret (b := false) X hr hlk rfl hP hS hf dX7_scanNumber_98
              · have hf := ite_f hc hf
                refine lv_iconst (v := 1) hx hb dX7_scanNumber_93 (by decide) ?_
                refine lv_goto (tgt := 98) hx hb dX7_scanNumber_94 (by decide) ?_
                exact g_zret (b := true) X hr hlk rfl hP hS hf dX7_scanNumber_98
        · have hf := ite_t hc hf
          have hok := hok.1 hc
          refine lv_iload_n hx hb dX7_scanNumber_16 rfl (lv_at hl 2 rfl) ?_
          refine lv_bipush (v := 10) hx hb dX7_scanNumber_17 (by decide) ?_
          refine lv_imul hx hb dX7_scanNumber_19 ?_
          refine lv_aload_n hx hb dX7_scanNumber_20 rfl (lv_at hl 0 rfl) ?_
          refine gg_7_0 (j := 192) rfl X hP ab_191 kf_X7_9 dX7_scanNumber_21 ?_
          refine lv_aload_n hx hb dX7_scanNumber_24 rfl (lv_at hl 0 rfl) ?_
          refine gg_7_6 X hP ab_191 kf_X7_29 dX7_scanNumber_25 ?_
          have hs8 := hok.1
          have hok := hok.2
          refine g_cald X hP ab_192 (by rw [al_192]; exact hs8) dX7_scanNumber_28 ?_
          refine lv_bipush (v := 48) hx hb dX7_scanNumber_29 (by decide) ?_
          refine lv_isub hx hb dX7_scanNumber_31 ?_
          refine lv_iadd hx hb dX7_scanNumber_32 ?_
          refine lv_istore_n (lv' := [(2, .int ((x2 * (10 : Int32)) + ((σ.1 192 (σ.1 191 6).toNatClampNeg) - (48 : Int32)))), (0, .ref (G.2.1 191)), (1, .int x1), (3, .int x3)]) hx hb dX7_scanNumber_33 rfl hl (by decide) rfl (fun ls hl => ?_)
          refine lv_aload_n hx hb dX7_scanNumber_34 rfl (lv_at hl 1 rfl) ?_
          refine lv_dup hx hb dX7_scanNumber_35 rfl ?_
          refine gg_7_6 X hP ab_191 kf_X7_29 dX7_scanNumber_36 ?_
          refine lv_iconst (v := 1) hx hb dX7_scanNumber_39 (by decide) ?_
          refine lv_iadd hx hb dX7_scanNumber_40 ?_
          refine gp_7_6 X hP hS ab_191 kf_X7_29 dX7_scanNumber_41 (fun H locs hP hS => ?_)
          refine g_name hP (fun q9 hq9 hP => ?_)
          have hf := bnd_go hq9 hf
          have hok := bnd_goP hq9 hok
          refine lv_iinc (v := (x3 + (1 : Int32))) (lv' := [(3, .int (x3 + (1 : Int32))), (2, .int ((x2 * (10 : Int32)) + ((σ.1 192 (σ.1 191 6).toNatClampNeg) - (48 : Int32)))), (0, .ref (G.2.1 191)), (1, .int x1)]) hx hb dX7_scanNumber_44 hl (k := 3) rfl rfl (by decide) rfl (fun ls hl => ?_)
          refine lv_goto (tgt := 4) hx hb dX7_scanNumber_47 (by decide) ?_
          exact ih4 q9 x1 ((x2 * (10 : Int32)) + ((σ.1 192 (σ.1 191 6).toNatClampNeg) - (48 : Int32))) (x3 + (1 : Int32)) hok hf _ _ hP hS ls (lv_sub hl [2, 3, 1, 0] rfl)
  exact K4 2000 σ x1 (0 : Int32) (0 : Int32) hok hf _ _ hP hS ls (lv_sub hl [2, 3, 1, 0] rfl)
def f_X7_scanSign (σ : St) (x1 : Int32) : St × Bool := (if (σ.1 191 3) ≤ (σ.1 191 6) then (σ, false) else (if (σ.1 192 (σ.1 191 6).toNatClampNeg) = x1 then (bnd (setI σ 191 6 ((σ.1 191 6) + (1 : Int32))) (fun q2 => (q2, true))) else (σ, false)))
def ok_X7_scanSign (σ : St) (x1 : Int32) : Prop := (((σ.1 191 3) ≤ (σ.1 191 6) → True) ∧ (¬ (σ.1 191 3) ≤ (σ.1 191 6) → vp_in (σ.1 191 6) 60))
abbrev rm_X7_scanSign : Room := { frames := 0, cells := 0, slots := 0, locals := 0 }
set_option maxHeartbeats 4000000 in
set_option maxRecDepth 100000 in
theorem c_X7_scanSign (l : Launch) (G : GE) (hG : Gok G) (σ : St) (x1 : Int32) (hok : ok_X7_scanSign σ x1) : MtZ l G yX7_scanSign cX7_scanSign 2 rm_X7_scanSign [.ref (G.2.1 191), .int x1] σ (f_X7_scanSign σ x1) := by
  generalize hf : f_X7_scanSign σ x1 = fv
  rw [f_X7_scanSign] at hf
  rw [ok_X7_scanSign] at hok
  refine g_start hG (plainFor_of_name (by decide)) (Nat.le_of_ble_eq_true rfl) ?_
  intro p e s m args below meth c X hr hlk ls hl H locs hP hS
  have X : Cx G p s m args c cX7_scanSign 2 RX7 := X
  obtain ⟨hx, hb, hml, hown, hts, hK, hbs, hXW, -⟩ := id X
  have hl : lv_has ls 2 [(0, .ref (G.2.1 191)), (1, .int x1)] := hl
  refine lv_aload_n hx hb dX7_scanSign_0 rfl (lv_at hl 0 rfl) ?_
  refine gg_7_6 X hP ab_191 kf_X7_29 dX7_scanSign_1 ?_
  refine lv_aload_n hx hb dX7_scanSign_4 rfl (lv_at hl 0 rfl) ?_
  refine gg_7_3 X hP ab_191 kf_X7_26 dX7_scanSign_5 ?_
  refine lv_icmp_ge (tgt := 24) hx hb dX7_scanSign_8 (by decide) (fun hc => ?_) (fun hc => ?_)
  · have hf := ite_t hc hf
    refine lv_iconst (v := 0) hx hb dX7_scanSign_24 (by decide) ?_
    exact g_zret (b := false) X hr hlk rfl hP hS hf dX7_scanSign_25
  · have hf := ite_f hc hf
    have hok := hok.2 hc
    refine lv_aload_n hx hb dX7_scanSign_11 rfl (lv_at hl 0 rfl) ?_
    refine gg_7_0 (j := 192) rfl X hP ab_191 kf_X7_9 dX7_scanSign_12 ?_
    refine lv_aload_n hx hb dX7_scanSign_15 rfl (lv_at hl 0 rfl) ?_
    refine gg_7_6 X hP ab_191 kf_X7_29 dX7_scanSign_16 ?_
    have hs1 := hok
    refine g_cald X hP ab_192 (by rw [al_192]; exact hs1) dX7_scanSign_19 ?_
    refine lv_iload_n hx hb dX7_scanSign_20 rfl (lv_at hl 1 rfl) ?_
    refine lv_icmp_eq (tgt := 26) hx hb dX7_scanSign_21 (by decide) (fun hc => ?_) (fun hc => ?_)
    · have hf := ite_t hc hf
      refine lv_aload_n hx hb dX7_scanSign_26 rfl (lv_at hl 0 rfl) ?_
      refine lv_dup hx hb dX7_scanSign_27 rfl ?_
      refine gg_7_6 X hP ab_191 kf_X7_29 dX7_scanSign_28 ?_
      refine lv_iconst (v := 1) hx hb dX7_scanSign_31 (by decide) ?_
      refine lv_iadd hx hb dX7_scanSign_32 ?_
      refine gp_7_6 X hP hS ab_191 kf_X7_29 dX7_scanSign_33 (fun H locs hP hS => ?_)
      refine g_name hP (fun q2 hq2 hP => ?_)
      have hf := bnd_go hq2 hf
      refine lv_iconst (v := 1) hx hb dX7_scanSign_36 (by decide) ?_
      exact g_zret (b := true) X hr hlk rfl hP hS hf dX7_scanSign_37
    · have hf := ite_f hc hf
      refine lv_iconst (v := 0) hx hb dX7_scanSign_24 (by decide) ?_
      exact g_zret (b := false) X hr hlk rfl hP hS hf dX7_scanSign_25
def fX7_kindOf_L2 : Nat → Int32 → Int32 → Int32
  | 0, _, _ => 0
  | n2 + 1, x0, x1 => (if (lenV 8) ≤ x1 then (-1 : Int32) else (if (chS 8 x1) = x0 then x1 else (fX7_kindOf_L2 n2 x0 (x1 + (1 : Int32)))))
def okX7_kindOf_L2 : Nat → Int32 → Int32 → Prop
  | 0, _, _ => False
  | n2 + 1, x0, x1 => (((lenV 8) ≤ x1 → True) ∧ (¬ (lenV 8) ≤ x1 → (vp_in x1 (lenS.getD 8 0) ∧ (((chS 8 x1) = x0 → True) ∧ (¬ (chS 8 x1) = x0 → (okX7_kindOf_L2 n2 x0 (x1 + (1 : Int32))))))))
def f_X7_kindOf (x0 : Int32) : Int32 := (fX7_kindOf_L2 2000 x0 (0 : Int32))
def ok_X7_kindOf (x0 : Int32) : Prop := (okX7_kindOf_L2 2000 x0 (0 : Int32))
abbrev rm_X7_kindOf : Room := { frames := 4, cells := 0, slots := 0, locals := 85 }
set_option maxHeartbeats 4000000 in
set_option maxRecDepth 100000 in
theorem c_X7_kindOf (l : Launch) (G : GE) (hG : Gok G) (σ : St) (x0 : Int32) (hok : ok_X7_kindOf x0) : MtI l G yX7_kindOf cX7_kindOf 2 rm_X7_kindOf [.int x0] σ (σ, f_X7_kindOf x0) := by
  generalize hf : f_X7_kindOf x0 = fv
  rw [f_X7_kindOf] at hf
  rw [ok_X7_kindOf] at hok
  refine g_start hG (plainFor_of_name (by decide)) (Nat.le_of_ble_eq_true rfl) ?_
  intro p e s m args below meth c X hr hlk ls hl H locs hP hS
  have X : Cx G p s m args c cX7_kindOf 2 RX7 := X
  obtain ⟨hx, hb, hml, hown, hts, hK, hbs, hXW, -⟩ := id X
  have hl : lv_has ls 2 [(0, .int x0)] := hl
  refine lv_iconst (v := 0) hx hb dX7_kindOf_0 (by decide) ?_
  refine lv_istore_n (lv' := [(1, .int (0 : Int32)), (0, .int x0)]) hx hb dX7_kindOf_1 rfl hl (by decide) rfl (fun ls hl => ?_)
  have K2 : ∀ (n2 : Nat) (x0 : Int32) (x1 : Int32), okX7_kindOf_L2 n2 x0 x1 → fX7_kindOf_L2 n2 x0 x1 = fv → ∀ (H : Heap) (locs : List Loc), va_P G.1 vcl (wl G σ) H → va_S (GA G) s.heap H locs → ∀ (ls : Array Slot), lv_has ls 2 [(0, .int x0), (1, .int x1)] → W p l e rm_X7_kindOf s m args below meth c H locs 0 0 (MQ below (va_Qi (fun r u => (u, r) = (σ, fv)) (PB G) (GA G)) args s 0 0 (GA G)) (F0 m 2 ls []) := by
    intro n2
    induction n2 with
    | zero =>
      intro x0 x1 hok
      exact hok.elim
    | succ n2 ih2 =>
      intro x0 x1 hok hf H locs hP hS ls hl
      rw [okX7_kindOf_L2] at hok
      rw [fX7_kindOf_L2] at hf
      refine lv_iload_n hx hb dX7_kindOf_2 rfl (lv_at hl 1 rfl) ?_
      refine va_ldcS hx hb hown (hXW.2.1 8 (by decide)) dX7_kindOf_3 ?_
      refine g_cIp (g_runVS (k := 8) (As := []) (rest := [.int x1]) X (c_J0_length l G hG σ 8 (by decide)) ca_J0_length_8abf5 km_X7_57 rfl rfl ⟨Nat.le_of_ble_eq_true rfl, Nat.le_of_ble_eq_true rfl⟩ hP hS (by decide) rfl rfl hl.1 rfl (Nat.le_of_ble_eq_true rfl) ⟨Nat.le_of_ble_eq_true rfl, Nat.le_of_ble_eq_true rfl⟩ dX7_kindOf_5) hS (fun H locs hP hS => ?_)
      refine lv_icmp_ge (tgt := 29) hx hb dX7_kindOf_8 (by decide) (fun hc => ?_) (fun hc => ?_)
      · have hf := ite_t hc hf
        refine lv_iconst (v := -1) hx hb dX7_kindOf_29 (by decide) ?_
        exact g_iret X hr hlk hP hS (congrArg (Prod.mk σ) hf) dX7_kindOf_30
      · have hf := ite_f hc hf
        have hok := hok.2 hc
        refine va_ldcS hx hb hown (hXW.2.1 8 (by decide)) dX7_kindOf_11 ?_
        refine lv_iload_n hx hb dX7_kindOf_13 rfl (lv_at hl 1 rfl) ?_
        have hs1 := hok.1
        have hok := hok.2
        refine g_cIp (g_runVS (k := 8) (As := [.int x1]) (rest := []) X (c_J0_charAt l G hG σ 8 (by decide) x1 hs1) ca_J0_charAt_5068e km_X7_62 rfl rfl ⟨Nat.le_of_ble_eq_true rfl, Nat.le_of_ble_eq_true rfl⟩ hP hS (by decide) rfl rfl hl.1 rfl (Nat.le_of_ble_eq_true rfl) ⟨Nat.le_of_ble_eq_true rfl, Nat.le_of_ble_eq_true rfl⟩ dX7_kindOf_14) hS (fun H locs hP hS => ?_)
        refine lv_iload_n hx hb dX7_kindOf_17 rfl (lv_at hl 0 rfl) ?_
        refine lv_icmp_ne (tgt := 23) hx hb dX7_kindOf_18 (by decide) (fun hc => ?_) (fun hc => ?_)
        · have hf := ite_f hc hf
          have hok := hok.2 hc
          refine lv_iinc (v := (x1 + (1 : Int32))) (lv' := [(1, .int (x1 + (1 : Int32))), (0, .int x0)]) hx hb dX7_kindOf_23 hl (k := 1) rfl rfl (by decide) rfl (fun ls hl => ?_)
          refine lv_goto (tgt := 2) hx hb dX7_kindOf_26 (by decide) ?_
          exact ih2 x0 (x1 + (1 : Int32)) hok hf _ _ hP hS ls (lv_sub hl [1, 0] rfl)
        · have hf := ite_t hc hf
          refine lv_iload_n hx hb dX7_kindOf_21 rfl (lv_at hl 1 rfl) ?_
          exact g_iret X hr hlk hP hS (congrArg (Prod.mk σ) hf) dX7_kindOf_22
  exact K2 2000 x0 (0 : Int32) hok hf _ _ hP hS ls (lv_sub hl [1, 0] rfl)
def f_X7_partsOf (x0 : Int32) : Nat := (if x0 = (0 : Int32) then 9 else (if x0 = (1 : Int32) then 10 else (if x0 = (2 : Int32) then 11 else (if x0 = (3 : Int32) then 12 else (if x0 = (4 : Int32) then 12 else (if x0 = (5 : Int32) then 11 else 12))))))
abbrev rm_X7_partsOf : Room := { frames := 0, cells := 0, slots := 0, locals := 0 }
set_option maxHeartbeats 4000000 in
set_option maxRecDepth 100000 in
theorem c_X7_partsOf (l : Launch) (G : GE) (hG : Gok G) (σ : St) (x0 : Int32) : MtS l G yX7_partsOf cX7_partsOf 1 rm_X7_partsOf [.int x0] σ (f_X7_partsOf x0) := by
  generalize hf : f_X7_partsOf x0 = fv
  rw [f_X7_partsOf] at hf
  refine g_start hG (plainFor_of_name (by decide)) (Nat.le_of_ble_eq_true rfl) ?_
  intro p e s m args below meth c X hr hlk ls hl H locs hP hS
  have X : Cx G p s m args c cX7_partsOf 1 RX7 := X
  obtain ⟨hx, hb, hml, hown, hts, hK, hbs, hXW, -⟩ := id X
  have hl : lv_has ls 1 [(0, .int x0)] := hl
  refine lv_iload_n hx hb dX7_partsOf_0 rfl (lv_at hl 0 rfl) ?_
  by_cases hd0 : x0 = (0 : Int32)
  · have hf := ite_t hd0 hf
    refine lv_tableIn (off := 39) (tgt := 40) hx hb dX7_partsOf_1 (by rw [hd0]; decide) (by rw [hd0]; decide) (by rw [hd0]; rfl) (by decide) ?_
    refine va_ldcS hx hb hown (hXW.2.1 9 (by decide)) dX7_partsOf_40 ?_
    exact g_sret X hr hlk hP hS hf dX7_partsOf_42
  · have hf := ite_f hd0 hf
    by_cases hd1 : x0 = (1 : Int32)
    · have hf := ite_t hd1 hf
      refine lv_tableIn (off := 42) (tgt := 43) hx hb dX7_partsOf_1 (by rw [hd1]; decide) (by rw [hd1]; decide) (by rw [hd1]; rfl) (by decide) ?_
      refine va_ldcS hx hb hown (hXW.2.1 10 (by decide)) dX7_partsOf_43 ?_
      exact g_sret X hr hlk hP hS hf dX7_partsOf_45
    · have hf := ite_f hd1 hf
      by_cases hd2 : x0 = (2 : Int32)
      · have hf := ite_t hd2 hf
        refine lv_tableIn (off := 45) (tgt := 46) hx hb dX7_partsOf_1 (by rw [hd2]; decide) (by rw [hd2]; decide) (by rw [hd2]; rfl) (by decide) ?_
        refine va_ldcS hx hb hown (hXW.2.1 11 (by decide)) dX7_partsOf_46 ?_
        exact g_sret X hr hlk hP hS hf dX7_partsOf_48
      · have hf := ite_f hd2 hf
        by_cases hd3 : x0 = (3 : Int32)
        · have hf := ite_t hd3 hf
          refine lv_tableIn (off := 48) (tgt := 49) hx hb dX7_partsOf_1 (by rw [hd3]; decide) (by rw [hd3]; decide) (by rw [hd3]; rfl) (by decide) ?_
          refine va_ldcS hx hb hown (hXW.2.1 12 (by decide)) dX7_partsOf_49 ?_
          exact g_sret X hr hlk hP hS hf dX7_partsOf_51
        · have hf := ite_f hd3 hf
          by_cases hd4 : x0 = (4 : Int32)
          · have hf := ite_t hd4 hf
            refine lv_tableIn (off := 48) (tgt := 49) hx hb dX7_partsOf_1 (by rw [hd4]; decide) (by rw [hd4]; decide) (by rw [hd4]; rfl) (by decide) ?_
            refine va_ldcS hx hb hown (hXW.2.1 12 (by decide)) dX7_partsOf_49 ?_
            exact g_sret X hr hlk hP hS hf dX7_partsOf_51
          · have hf := ite_f hd4 hf
            by_cases hd5 : x0 = (5 : Int32)
            · have hf := ite_t hd5 hf
              refine lv_tableIn (off := 45) (tgt := 46) hx hb dX7_partsOf_1 (by rw [hd5]; decide) (by rw [hd5]; decide) (by rw [hd5]; rfl) (by decide) ?_
              refine va_ldcS hx hb hown (hXW.2.1 11 (by decide)) dX7_partsOf_46 ?_
              exact g_sret X hr hlk hP hS hf dX7_partsOf_48
            · have hf := ite_f hd5 hf
              refine lv_tableOut (tgt := 49) hx hb dX7_partsOf_1 (by have z0 : x0.toInt ≠ 0 := sw_ne hd0; have z1 : x0.toInt ≠ 1 := sw_ne hd1; have z2 : x0.toInt ≠ 2 := sw_ne hd2; have z3 : x0.toInt ≠ 3 := sw_ne hd3; have z4 : x0.toInt ≠ 4 := sw_ne hd4; have z5 : x0.toInt ≠ 5 := sw_ne hd5; show x0.toInt < 0 ∨ 5 < x0.toInt; omega) (by decide) ?_
              refine va_ldcS hx hb hown (hXW.2.1 12 (by decide)) dX7_partsOf_49 ?_
              exact g_sret X hr hlk hP hS hf dX7_partsOf_51
def f_X7_scanPart (σ : St) (x1 : Int32) : St × Bool := (if x1 = (100 : Int32) then (bnd (f_X7_scanNumber σ (1 : Int32)) (fun q6 => (q6.1, q6.2))) else (if x1 = (110 : Int32) then (bnd (f_X7_scanNumber σ (2 : Int32)) (fun q4 => (q4.1, q4.2))) else (bnd (f_X7_scanSign σ x1) (fun q2 => (q2.1, q2.2)))))
def ok_X7_scanPart (σ : St) (x1 : Int32) : Prop := ((x1 = (100 : Int32) → ok_X7_scanNumber σ (1 : Int32)) ∧ (¬ x1 = (100 : Int32) → ((x1 = (110 : Int32) → ok_X7_scanNumber σ (2 : Int32)) ∧ (¬ x1 = (110 : Int32) → ok_X7_scanSign σ x1))))
abbrev rm_X7_scanPart : Room := { frames := 2, cells := 0, slots := 0, locals := 43 }
set_option maxHeartbeats 4000000 in
set_option maxRecDepth 100000 in
theorem c_X7_scanPart (l : Launch) (G : GE) (hG : Gok G) (σ : St) (x1 : Int32) (hok : ok_X7_scanPart σ x1) : MtZ l G yX7_scanPart cX7_scanPart 2 rm_X7_scanPart [.ref (G.2.1 191), .int x1] σ (f_X7_scanPart σ x1) := by
  generalize hf : f_X7_scanPart σ x1 = fv
  rw [f_X7_scanPart] at hf
  rw [ok_X7_scanPart] at hok
  refine g_start hG (plainFor_of_name (by decide)) (Nat.le_of_ble_eq_true rfl) ?_
  intro p e s m args below meth c X hr hlk ls hl H locs hP hS
  have X : Cx G p s m args c cX7_scanPart 2 RX7 := X
  obtain ⟨hx, hb, hml, hown, hts, hK, hbs, hXW, -⟩ := id X
  have hl : lv_has ls 2 [(0, .ref (G.2.1 191)), (1, .int x1)] := hl
  refine lv_iload_n hx hb dX7_scanPart_0 rfl (lv_at hl 1 rfl) ?_
  refine lv_bipush (v := 100) hx hb dX7_scanPart_1 (by decide) ?_
  refine lv_icmp_ne (tgt := 12) hx hb dX7_scanPart_3 (by decide) (fun hc => ?_) (fun hc => ?_)
  · have hf := ite_f hc hf
    have hok := hok.2 hc
    refine lv_iload_n hx hb dX7_scanPart_12 rfl (lv_at hl 1 rfl) ?_
    refine lv_bipush (v := 110) hx hb dX7_scanPart_13 (by decide) ?_
    refine lv_icmp_ne (tgt := 26) hx hb dX7_scanPart_15 (by decide) (fun hc => ?_) (fun hc => ?_)
    · have hf := ite_f hc hf
      have hok := hok.2 hc
      refine lv_aload_n hx hb dX7_scanPart_26 rfl (lv_at hl 0 rfl) ?_
      refine lv_iload_n hx hb dX7_scanPart_27 rfl (lv_at hl 1 rfl) ?_
      have hs1 := hok
      refine g_cZ (g_runV (i := 191) (As := [.int x1]) (rest := []) X (c_X7_scanSign l G hG σ x1 hs1) ca_X7_scanSign km_X7_42 rfl rfl ⟨Nat.le_of_ble_eq_true rfl, Nat.le_of_ble_eq_true rfl⟩ hP hS (ty_lt ab_191) (cell_7 ab_191) rfl rfl rfl hl.1 rfl (Nat.le_of_ble_eq_true rfl) ⟨Nat.le_of_ble_eq_true rfl, Nat.le_of_ble_eq_true rfl⟩ dX7_scanPart_28) hS (fun q2 hq2 H locs hP hS => ?_)
      have hf := bnd_go hq2 hf
      exact g_zret (b := q2.2) X hr hlk rfl hP hS hf dX7_scanPart_31
    · have hf := ite_t hc hf
      have hok := hok.1 hc
      refine lv_aload_n hx hb dX7_scanPart_18 rfl (lv_at hl 0 rfl) ?_
      refine lv_iconst (v := 2) hx hb dX7_scanPart_19 (by decide) ?_
      have hs3 := hok
      refine g_cZ (g_runV (i := 191) (As := [.int (2 : Int32)]) (rest := []) X (c_X7_scanNumber l G hG σ (2 : Int32) hs3) ca_X7_scanNumber km_X7_79 rfl rfl ⟨Nat.le_of_ble_eq_true rfl, Nat.le_of_ble_eq_true rfl⟩ hP hS (ty_lt ab_191) (cell_7 ab_191) rfl rfl rfl hl.1 rfl (Nat.le_of_ble_eq_true rfl) ⟨Nat.le_of_ble_eq_true rfl, Nat.le_of_ble_eq_true rfl⟩ dX7_scanPart_20) hS (fun q4 hq4 H locs hP hS => ?_)
      have hf := bnd_go hq4 hf
      refine lv_goto (tgt := 31) hx hb dX7_scanPart_23 (by decide) ?_
      exact g_zret (b := q4.2) X hr hlk rfl hP hS hf dX7_scanPart_31
  · have hf := ite_t hc hf
    have hok := hok.1 hc
    refine lv_aload_n hx hb dX7_scanPart_6 rfl (lv_at hl 0 rfl) ?_
    refine lv_iconst (v := 1) hx hb dX7_scanPart_7 (by decide) ?_
    have hs5 := hok
    refine g_cZ (g_runV (i := 191) (As := [.int (1 : Int32)]) (rest := []) X (c_X7_scanNumber l G hG σ (1 : Int32) hs5) ca_X7_scanNumber km_X7_79 rfl rfl ⟨Nat.le_of_ble_eq_true rfl, Nat.le_of_ble_eq_true rfl⟩ hP hS (ty_lt ab_191) (cell_7 ab_191) rfl rfl rfl hl.1 rfl (Nat.le_of_ble_eq_true rfl) ⟨Nat.le_of_ble_eq_true rfl, Nat.le_of_ble_eq_true rfl⟩ dX7_scanPart_8) hS (fun q6 hq6 H locs hP hS => ?_)
    have hf := bnd_go hq6 hf
    exact g_zret (b := q6.2) X hr hlk rfl hP hS hf dX7_scanPart_11
def fX7_scanOrder_L67 : Nat → St → Int32 → Nat → Int32 → St × Bool
  | 0, σ, _, _, _ => (σ, false)
  | n67 + 1, σ, x1, x2, x3 => (if (lenV x2) ≤ x3 then (σ, true) else (bnd (f_X7_scanPart σ (chS x2 x3)) (fun q11 => (if q11.2 = true then (fX7_scanOrder_L67 n67 q11.1 x1 x2 (x3 + (1 : Int32))) else (q11.1, false)))))
def okX7_scanOrder_L67 : Nat → St → Int32 → Nat → Int32 → Prop
  | 0, _, _, _, _ => False
  | n67 + 1, σ, x1, x2, x3 => (x2 < 19 ∧ (((lenV x2) ≤ x3 → True) ∧ (¬ (lenV x2) ≤ x3 → (x2 < 19 ∧ (vp_in x3 (lenS.getD x2 0) ∧ (ok_X7_scanPart σ (chS x2 x3) ∧ (bndP (f_X7_scanPart σ (chS x2 x3)) (fun q11 => ((q11.2 = true → (okX7_scanOrder_L67 n67 q11.1 x1 x2 (x3 + (1 : Int32)))) ∧ (q11.2 = false → True))))))))))
def f_X7_scanOrder (σ : St) : St × Bool := (if (σ.1 191 3) ≤ (σ.1 191 6) then (σ, false) else (if (f_X7_kindOf (σ.1 192 (σ.1 191 6).toNatClampNeg)) = (-1 : Int32) then (σ, false) else (bnd (setI σ 191 6 ((σ.1 191 6) + (1 : Int32))) (fun q3 => (bnd (setI q3 193 (q3.1 191 4).toNatClampNeg (f_X7_kindOf (σ.1 192 (σ.1 191 6).toNatClampNeg))) (fun q5 => (bnd (setI q5 191 7 (0 : Int32)) (fun q6 => (fX7_scanOrder_L67 2000 q6 (f_X7_kindOf (σ.1 192 (σ.1 191 6).toNatClampNeg)) (f_X7_partsOf (f_X7_kindOf (σ.1 192 (σ.1 191 6).toNatClampNeg))) (0 : Int32))))))))))
def ok_X7_scanOrder (σ : St) : Prop := (((σ.1 191 3) ≤ (σ.1 191 6) → True) ∧ (¬ (σ.1 191 3) ≤ (σ.1 191 6) → (vp_in (σ.1 191 6) 60 ∧ (ok_X7_kindOf (σ.1 192 (σ.1 191 6).toNatClampNeg) ∧ (((f_X7_kindOf (σ.1 192 (σ.1 191 6).toNatClampNeg)) = (-1 : Int32) → True) ∧ (¬ (f_X7_kindOf (σ.1 192 (σ.1 191 6).toNatClampNeg)) = (-1 : Int32) → (bndP (setI σ 191 6 ((σ.1 191 6) + (1 : Int32))) (fun q3 => (vp_in (q3.1 191 4) 21 ∧ (bndP (setI q3 193 (q3.1 191 4).toNatClampNeg (f_X7_kindOf (σ.1 192 (σ.1 191 6).toNatClampNeg))) (fun q5 => (bndP (setI q5 191 7 (0 : Int32)) (fun q6 => (okX7_scanOrder_L67 2000 q6 (f_X7_kindOf (σ.1 192 (σ.1 191 6).toNatClampNeg)) (f_X7_partsOf (f_X7_kindOf (σ.1 192 (σ.1 191 6).toNatClampNeg))) (0 : Int32)))))))))))))))
abbrev rm_X7_scanOrder : Room := { frames := 5, cells := 0, slots := 0, locals := 106 }
set_option maxHeartbeats 4000000 in
set_option maxRecDepth 100000 in
theorem c_X7_scanOrder (l : Launch) (G : GE) (hG : Gok G) (σ : St) (hok : ok_X7_scanOrder σ) : MtZ l G yX7_scanOrder cX7_scanOrder 4 rm_X7_scanOrder [.ref (G.2.1 191)] σ (f_X7_scanOrder σ) := by
  generalize hf : f_X7_scanOrder σ = fv
  rw [f_X7_scanOrder] at hf
  rw [ok_X7_scanOrder] at hok
  refine g_start hG (plainFor_of_name (by decide)) (Nat.le_of_ble_eq_true rfl) ?_
  intro p e s m args below meth c X hr hlk ls hl H locs hP hS
  have X : Cx G p s m args c cX7_scanOrder 4 RX7 := X
  obtain ⟨hx, hb, hml, hown, hts, hK, hbs, hXW, -⟩ := id X
  have hl : lv_has ls 4 [(0, .ref (G.2.1 191))] := hl
  refine lv_aload_n hx hb dX7_scanOrder_0 rfl (lv_at hl 0 rfl) ?_
  refine gg_7_6 X hP ab_191 kf_X7_29 dX7_scanOrder_1 ?_
  refine lv_aload_n hx hb dX7_scanOrder_4 rfl (lv_at hl 0 rfl) ?_
  refine gg_7_3 X hP ab_191 kf_X7_26 dX7_scanOrder_5 ?_
  refine lv_icmp_ge (tgt := 26) hx hb dX7_scanOrder_8 (by decide) (fun hc => ?_) (fun hc => ?_)
  · have hf := ite_t hc hf
    refine lv_iconst (v := -1) hx hb dX7_scanOrder_26 (by decide) ?_
    refine lv_istore_n (lv' := [(1, .int (-1 : Int32)), (0, .ref (G.2.1 191))]) hx hb dX7_scanOrder_27 rfl hl (by decide) rfl (fun ls hl => ?_)
    refine lv_iload_n hx hb dX7_scanOrder_28 rfl (lv_at hl 0 rfl) ?_
    refine lv_iconst (v := -1) hx hb dX7_scanOrder_29 (by decide) ?_
    refine lv_icmp_ne (tgt := 35) hx hb dX7_scanOrder_30 (by decide) (fun hc => absurd hc (by decide)) (fun hc => ?_)
    refine lv_iconst (v := 0) hx hb dX7_scanOrder_33 (by decide) ?_
    exact g_zret (b := false) X hr hlk rfl hP hS hf dX7_scanOrder_34
  · have hf := ite_f hc hf
    have hok := hok.2 hc
    refine lv_aload_n hx hb dX7_scanOrder_11 rfl (lv_at hl 0 rfl) ?_
    refine gg_7_0 (j := 192) rfl X hP ab_191 kf_X7_9 dX7_scanOrder_12 ?_
    refine lv_aload_n hx hb dX7_scanOrder_15 rfl (lv_at hl 0 rfl) ?_
    refine gg_7_6 X hP ab_191 kf_X7_29 dX7_scanOrder_16 ?_
    have hs1 := hok.1
    have hok := hok.2
    refine g_cald X hP ab_192 (by rw [al_192]; exact hs1) dX7_scanOrder_19 ?_
    have hs2 := hok.1
    have hok := hok.2
    refine g_cIp (g_runS (As := [.int (σ.1 192 (σ.1 191 6).toNatClampNeg)]) (rest := []) X (c_X7_kindOf l G hG σ (σ.1 192 (σ.1 191 6).toNatClampNeg) hs2) ca_X7_kindOf km_X7_46 rfl rfl ⟨Nat.le_of_ble_eq_true rfl, Nat.le_of_ble_eq_true rfl⟩ hP hS rfl hl.1 rfl (Nat.le_of_ble_eq_true rfl) ⟨Nat.le_of_ble_eq_true rfl, Nat.le_of_ble_eq_true rfl⟩ dX7_scanOrder_20) hS (fun H locs hP hS => ?_)
    refine lv_goto (tgt := 27) hx hb dX7_scanOrder_23 (by decide) ?_
    refine lv_istore_n (lv' := [(1, .int (f_X7_kindOf (σ.1 192 (σ.1 191 6).toNatClampNeg))), (0, .ref (G.2.1 191))]) hx hb dX7_scanOrder_27 rfl hl (by decide) rfl (fun ls hl => ?_)
    refine lv_iload_n hx hb dX7_scanOrder_28 rfl (lv_at hl 0 rfl) ?_
    refine lv_iconst (v := -1) hx hb dX7_scanOrder_29 (by decide) ?_
    refine lv_icmp_ne (tgt := 35) hx hb dX7_scanOrder_30 (by decide) (fun hc => ?_) (fun hc => ?_)
    · have hf := ite_f hc hf
      have hok := hok.2 hc
      refine lv_aload_n hx hb dX7_scanOrder_35 rfl (lv_at hl 1 rfl) ?_
      refine lv_dup hx hb dX7_scanOrder_36 rfl ?_
      refine gg_7_6 X hP ab_191 kf_X7_29 dX7_scanOrder_37 ?_
      refine lv_iconst (v := 1) hx hb dX7_scanOrder_40 (by decide) ?_
      refine lv_iadd hx hb dX7_scanOrder_41 ?_
      refine gp_7_6 X hP hS ab_191 kf_X7_29 dX7_scanOrder_42 (fun H locs hP hS => ?_)
      refine g_name hP (fun q3 hq3 hP => ?_)
      have hf := bnd_go hq3 hf
      have hok := bnd_goP hq3 hok
      refine lv_aload_n hx hb dX7_scanOrder_45 rfl (lv_at hl 1 rfl) ?_
      refine gg_7_1 (j := 193) rfl X hP ab_191 kf_X7_15 dX7_scanOrder_46 ?_
      refine lv_aload_n hx hb dX7_scanOrder_49 rfl (lv_at hl 1 rfl) ?_
      refine gg_7_4 X hP ab_191 kf_X7_32 dX7_scanOrder_50 ?_
      refine lv_iload_n hx hb dX7_scanOrder_53 rfl (lv_at hl 0 rfl) ?_
      have hs4 := hok.1
      have hok := hok.2
      refine g_iast X hP hS ab_193 (by rw [al_193]; exact hs4) dX7_scanOrder_54 (fun H locs hP hS => ?_)
      refine g_name hP (fun q5 hq5 hP => ?_)
      have hf := bnd_go hq5 hf
      have hok := bnd_goP hq5 hok
      refine lv_aload_n hx hb dX7_scanOrder_55 rfl (lv_at hl 1 rfl) ?_
      refine lv_iconst (v := 0) hx hb dX7_scanOrder_56 (by decide) ?_
      refine gp_7_7 X hP hS ab_191 kf_X7_50 dX7_scanOrder_57 (fun H locs hP hS => ?_)
      refine g_name hP (fun q6 hq6 hP => ?_)
      have hf := bnd_go hq6 hf
      have hok := bnd_goP hq6 hok
      refine lv_iload_n hx hb dX7_scanOrder_60 rfl (lv_at hl 0 rfl) ?_
      refine g_cS (g_runS (As := [.int (f_X7_kindOf (σ.1 192 (σ.1 191 6).toNatClampNeg))]) (rest := []) X (c_X7_partsOf l G hG q6 (f_X7_kindOf (σ.1 192 (σ.1 191 6).toNatClampNeg))) ca_X7_partsOf km_X7_53 rfl rfl ⟨Nat.le_of_ble_eq_true rfl, Nat.le_of_ble_eq_true rfl⟩ hP hS rfl hl.1 rfl (Nat.le_of_ble_eq_true rfl) ⟨Nat.le_of_ble_eq_true rfl, Nat.le_of_ble_eq_true rfl⟩ dX7_scanOrder_61) hS (fun H locs hP hS => ?_)
      refine lv_astore_n (lv' := [(2, .ref (G.2.2.2.2.1 (f_X7_partsOf (f_X7_kindOf (σ.1 192 (σ.1 191 6).toNatClampNeg))))), (1, .int (f_X7_kindOf (σ.1 192 (σ.1 191 6).toNatClampNeg))), (0, .ref (G.2.1 191))]) hx hb dX7_scanOrder_64 rfl hl (by decide) rfl (fun ls hl => ?_)
      refine lv_iconst (v := 0) hx hb dX7_scanOrder_65 (by decide) ?_
      refine lv_istore_n (lv' := [(3, .int (0 : Int32)), (2, .ref (G.2.2.2.2.1 (f_X7_partsOf (f_X7_kindOf (σ.1 192 (σ.1 191 6).toNatClampNeg))))), (1, .int (f_X7_kindOf (σ.1 192 (σ.1 191 6).toNatClampNeg))), (0, .ref (G.2.1 191))]) hx hb dX7_scanOrder_66 rfl hl (by decide) rfl (fun ls hl => ?_)
      have K67 : ∀ (n67 : Nat) (σ : St) (x1 : Int32) (x2 : Nat) (x3 : Int32), okX7_scanOrder_L67 n67 σ x1 x2 x3 → fX7_scanOrder_L67 n67 σ x1 x2 x3 = fv → ∀ (H : Heap) (locs : List Loc), va_P G.1 vcl (wl G σ) H → va_S (GA G) s.heap H locs → ∀ (ls : Array Slot), lv_has ls 4 [(0, .ref (G.2.1 191)), (1, .int x1), (2, .ref (G.2.2.2.2.1 x2)), (3, .int x3)] → W p l e rm_X7_scanOrder s m args below meth c H locs 0 0 (MQ below (va_Qi (fun r u => (u, r) = ((fv : St × Bool).1, bI (fv : St × Bool).2)) (PB G) (GA G)) args s 0 0 (GA G)) (F0 m 67 ls []) := by
        intro n67
        induction n67 with
        | zero =>
          intro σ x1 x2 x3 hok
          exact hok.elim
        | succ n67 ih67 =>
          intro σ x1 x2 x3 hok hf H locs hP hS ls hl
          rw [okX7_scanOrder_L67] at hok
          rw [fX7_scanOrder_L67] at hf
          refine lv_iload_n hx hb dX7_scanOrder_67 rfl (lv_at hl 3 rfl) ?_
          refine lv_aload_n hx hb dX7_scanOrder_68 rfl (lv_at hl 2 rfl) ?_
          have hs7 := hok.1
          have hok := hok.2
          refine g_cIp (g_runVS (k := x2) (As := []) (rest := [.int x3]) X (c_J0_length l G hG σ x2 hs7) ca_J0_length_8abf5 km_X7_57 rfl rfl ⟨Nat.le_of_ble_eq_true rfl, Nat.le_of_ble_eq_true rfl⟩ hP hS hs7 rfl rfl hl.1 rfl (Nat.le_of_ble_eq_true rfl) ⟨Nat.le_of_ble_eq_true rfl, Nat.le_of_ble_eq_true rfl⟩ dX7_scanOrder_69) hS (fun H locs hP hS => ?_)
          refine lv_icmp_ge (tgt := 95) hx hb dX7_scanOrder_72 (by decide) (fun hc => ?_) (fun hc => ?_)
          · have hf := ite_t hc hf
            refine lv_iconst (v := 1) hx hb dX7_scanOrder_95 (by decide) ?_
            exact g_zret (b := true) X hr hlk rfl hP hS hf dX7_scanOrder_96
          · have hf := ite_f hc hf
            have hok := hok.2 hc
            refine lv_aload_n hx hb dX7_scanOrder_75 rfl (lv_at hl 0 rfl) ?_
            refine lv_aload_n hx hb dX7_scanOrder_76 rfl (lv_at hl 2 rfl) ?_
            refine lv_iload_n hx hb dX7_scanOrder_77 rfl (lv_at hl 3 rfl) ?_
            have hs8 := hok.1
            have hok := hok.2
            have hs9 := hok.1
            have hok := hok.2
            refine g_cIp (g_runVS (k := x2) (As := [.int x3]) (rest := [.ref (G.2.1 191)]) X (c_J0_charAt l G hG σ x2 hs8 x3 hs9) ca_J0_charAt_5068e km_X7_62 rfl rfl ⟨Nat.le_of_ble_eq_true rfl, Nat.le_of_ble_eq_true rfl⟩ hP hS hs8 rfl rfl hl.1 rfl (Nat.le_of_ble_eq_true rfl) ⟨Nat.le_of_ble_eq_true rfl, Nat.le_of_ble_eq_true rfl⟩ dX7_scanOrder_78) hS (fun H locs hP hS => ?_)
            have hs10 := hok.1
            have hok := hok.2
            refine g_cZ (g_runV (i := 191) (As := [.int (chS x2 x3)]) (rest := []) X (c_X7_scanPart l G hG σ (chS x2 x3) hs10) ca_X7_scanPart km_X7_66 rfl rfl ⟨Nat.le_of_ble_eq_true rfl, Nat.le_of_ble_eq_true rfl⟩ hP hS (ty_lt ab_191) (cell_7 ab_191) rfl rfl rfl hl.1 rfl (Nat.le_of_ble_eq_true rfl) ⟨Nat.le_of_ble_eq_true rfl, Nat.le_of_ble_eq_true rfl⟩ dX7_scanOrder_81) hS (fun q11 hq11 H locs hP hS => ?_)
            have hf := bnd_go hq11 hf
            have hok := bnd_goP hq11 hok
            refine g_ifneZ (tgt := 89) X dX7_scanOrder_84 (by decide) (fun hc => ?_) (fun hc => ?_)
            · have hf := ite_t hc hf
              have hok := hok.1 hc
              refine lv_iinc (v := (x3 + (1 : Int32))) (lv' := [(3, .int (x3 + (1 : Int32))), (0, .ref (G.2.1 191)), (1, .int x1), (2, .ref (G.2.2.2.2.1 x2))]) hx hb dX7_scanOrder_89 hl (k := 3) rfl rfl (by decide) rfl (fun ls hl => ?_)
              refine lv_goto (tgt := 67) hx hb dX7_scanOrder_92 (by decide) ?_
              exact ih67 q11.1 x1 x2 (x3 + (1 : Int32)) hok hf _ _ hP hS ls (lv_sub hl [1, 2, 3, 0] rfl)
            · have hf := ite_z hc hf
              refine lv_iconst (v := 0) hx hb dX7_scanOrder_87 (by decide) ?_
              exact g_zret (b := false) X hr hlk rfl hP hS hf dX7_scanOrder_88
      exact K67 2000 q6 (f_X7_kindOf (σ.1 192 (σ.1 191 6).toNatClampNeg)) (f_X7_partsOf (f_X7_kindOf (σ.1 192 (σ.1 191 6).toNatClampNeg))) (0 : Int32) hok hf _ _ hP hS ls (lv_sub hl [3, 2, 1, 0] rfl)
    · have hf := ite_t hc hf
      refine lv_iconst (v := 0) hx hb dX7_scanOrder_33 (by decide) ?_
      exact g_zret (b := false) X hr hlk rfl hP hS hf dX7_scanOrder_34
def fX7_scanOrders_L0 : Nat → St → St × Bool
  | 0, σ => (σ, false)
  | n0 + 1, σ => (if (21 : Int32) ≤ (σ.1 191 4) then (σ, false) else (bnd (f_X7_scanOrder σ) (fun q2 => (if q2.2 = true then (bnd (setI q2.1 191 4 ((q2.1.1 191 4) + (1 : Int32))) (fun q3 => (if (q3.1 191 6) = (q3.1 191 3) then (q3, true) else (bnd (f_X7_scanSign q3 (59 : Int32)) (fun q5 => (if q5.2 = true then (fX7_scanOrders_L0 n0 q5.1) else (q5.1, false))))))) else (q2.1, false)))))
def okX7_scanOrders_L0 : Nat → St → Prop
  | 0, _ => False
  | n0 + 1, σ => (((21 : Int32) ≤ (σ.1 191 4) → True) ∧ (¬ (21 : Int32) ≤ (σ.1 191 4) → (ok_X7_scanOrder σ ∧ (bndP (f_X7_scanOrder σ) (fun q2 => ((q2.2 = true → (bndP (setI q2.1 191 4 ((q2.1.1 191 4) + (1 : Int32))) (fun q3 => (((q3.1 191 6) = (q3.1 191 3) → True) ∧ (¬ (q3.1 191 6) = (q3.1 191 3) → (ok_X7_scanSign q3 (59 : Int32) ∧ (bndP (f_X7_scanSign q3 (59 : Int32)) (fun q5 => ((q5.2 = true → (okX7_scanOrders_L0 n0 q5.1)) ∧ (q5.2 = false → True)))))))))) ∧ (q2.2 = false → True)))))))
def f_X7_scanOrders (σ : St) : St × Bool := (fX7_scanOrders_L0 2000 σ)
def ok_X7_scanOrders (σ : St) : Prop := (okX7_scanOrders_L0 2000 σ)
abbrev rm_X7_scanOrders : Room := { frames := 6, cells := 0, slots := 0, locals := 129 }
set_option maxHeartbeats 4000000 in
set_option maxRecDepth 100000 in
theorem c_X7_scanOrders (l : Launch) (G : GE) (hG : Gok G) (σ : St) (hok : ok_X7_scanOrders σ) : MtZ l G yX7_scanOrders cX7_scanOrders 1 rm_X7_scanOrders [.ref (G.2.1 191)] σ (f_X7_scanOrders σ) := by
  generalize hf : f_X7_scanOrders σ = fv
  rw [f_X7_scanOrders] at hf
  rw [ok_X7_scanOrders] at hok
  refine g_start hG (plainFor_of_name (by decide)) (Nat.le_of_ble_eq_true rfl) ?_
  intro p e s m args below meth c X hr hlk ls hl H locs hP hS
  have X : Cx G p s m args c cX7_scanOrders 1 RX7 := X
  obtain ⟨hx, hb, hml, hown, hts, hK, hbs, hXW, -⟩ := id X
  have hl : lv_has ls 1 [(0, .ref (G.2.1 191))] := hl
  have K0 : ∀ (n0 : Nat) (σ : St), okX7_scanOrders_L0 n0 σ → fX7_scanOrders_L0 n0 σ = fv → ∀ (H : Heap) (locs : List Loc), va_P G.1 vcl (wl G σ) H → va_S (GA G) s.heap H locs → ∀ (ls : Array Slot), lv_has ls 1 [(0, .ref (G.2.1 191))] → W p l e rm_X7_scanOrders s m args below meth c H locs 0 0 (MQ below (va_Qi (fun r u => (u, r) = ((fv : St × Bool).1, bI (fv : St × Bool).2)) (PB G) (GA G)) args s 0 0 (GA G)) (F0 m 0 ls []) := by
    intro n0
    induction n0 with
    | zero =>
      intro σ hok
      exact hok.elim
    | succ n0 ih0 =>
      intro σ hok hf H locs hP hS ls hl
      rw [okX7_scanOrders_L0] at hok
      rw [fX7_scanOrders_L0] at hf
      refine lv_aload_n hx hb dX7_scanOrders_0 rfl (lv_at hl 0 rfl) ?_
      refine gg_7_4 X hP ab_191 kf_X7_32 dX7_scanOrders_1 ?_
      refine lv_bipush (v := 21) hx hb dX7_scanOrders_4 (by decide) ?_
      refine lv_icmp_ge (tgt := 50) hx hb dX7_scanOrders_6 (by decide) (fun hc => ?_) (fun hc => ?_)
      · have hf := ite_t hc hf
        refine lv_iconst (v := 0) hx hb dX7_scanOrders_50 (by decide) ?_
        exact g_zret (b := false) X hr hlk rfl hP hS hf dX7_scanOrders_51
      · have hf := ite_f hc hf
        have hok := hok.2 hc
        refine lv_aload_n hx hb dX7_scanOrders_9 rfl (lv_at hl 0 rfl) ?_
        have hs1 := hok.1
        have hok := hok.2
        refine g_cZ (g_runV (i := 191) (As := []) (rest := []) X (c_X7_scanOrder l G hG σ hs1) ca_X7_scanOrder km_X7_39 rfl rfl ⟨Nat.le_of_ble_eq_true rfl, Nat.le_of_ble_eq_true rfl⟩ hP hS (ty_lt ab_191) (cell_7 ab_191) rfl rfl rfl hl.1 rfl (Nat.le_of_ble_eq_true rfl) ⟨Nat.le_of_ble_eq_true rfl, Nat.le_of_ble_eq_true rfl⟩ dX7_scanOrders_10) hS (fun q2 hq2 H locs hP hS => ?_)
        have hf := bnd_go hq2 hf
        have hok := bnd_goP hq2 hok
        refine g_ifeqZ (tgt := 50) X dX7_scanOrders_13 (by decide) (fun hc => ?_) (fun hc => ?_)
        · have hf := ite_z hc hf
          refine lv_iconst (v := 0) hx hb dX7_scanOrders_50 (by decide) ?_
          exact g_zret (b := false) X hr hlk rfl hP hS hf dX7_scanOrders_51
        · have hf := ite_t hc hf
          have hok := hok.1 hc
          refine lv_aload_n hx hb dX7_scanOrders_16 rfl (lv_at hl 0 rfl) ?_
          refine lv_dup hx hb dX7_scanOrders_17 rfl ?_
          refine gg_7_4 X hP ab_191 kf_X7_32 dX7_scanOrders_18 ?_
          refine lv_iconst (v := 1) hx hb dX7_scanOrders_21 (by decide) ?_
          refine lv_iadd hx hb dX7_scanOrders_22 ?_
          refine gp_7_4 X hP hS ab_191 kf_X7_32 dX7_scanOrders_23 (fun H locs hP hS => ?_)
          refine g_name hP (fun q3 hq3 hP => ?_)
          have hf := bnd_go hq3 hf
          have hok := bnd_goP hq3 hok
          refine lv_aload_n hx hb dX7_scanOrders_26 rfl (lv_at hl 0 rfl) ?_
          refine gg_7_6 X hP ab_191 kf_X7_29 dX7_scanOrders_27 ?_
          refine lv_aload_n hx hb dX7_scanOrders_30 rfl (lv_at hl 0 rfl) ?_
          refine gg_7_3 X hP ab_191 kf_X7_26 dX7_scanOrders_31 ?_
          refine lv_icmp_ne (tgt := 39) hx hb dX7_scanOrders_34 (by decide) (fun hc => ?_) (fun hc => ?_)
          · have hf := ite_f hc hf
            have hok := hok.2 hc
            refine lv_aload_n hx hb dX7_scanOrders_39 rfl (lv_at hl 0 rfl) ?_
            refine lv_bipush (v := 59) hx hb dX7_scanOrders_40 (by decide) ?_
            have hs4 := hok.1
            have hok := hok.2
            refine g_cZ (g_runV (i := 191) (As := [.int (59 : Int32)]) (rest := []) X (c_X7_scanSign l G hG q3 (59 : Int32) hs4) ca_X7_scanSign km_X7_42 rfl rfl ⟨Nat.le_of_ble_eq_true rfl, Nat.le_of_ble_eq_true rfl⟩ hP hS (ty_lt ab_191) (cell_7 ab_191) rfl rfl rfl hl.1 rfl (Nat.le_of_ble_eq_true rfl) ⟨Nat.le_of_ble_eq_true rfl, Nat.le_of_ble_eq_true rfl⟩ dX7_scanOrders_42) hS (fun q5 hq5 H locs hP hS => ?_)
            have hf := bnd_go hq5 hf
            have hok := bnd_goP hq5 hok
            refine g_ifneZ (tgt := 0) X dX7_scanOrders_45 (by decide) (fun hc => ?_) (fun hc => ?_)
            · have hf := ite_t hc hf
              have hok := hok.1 hc
              exact ih0 q5.1 hok hf _ _ hP hS ls (lv_sub hl [0] rfl)
            · have hf := ite_z hc hf
              refine lv_iconst (v := 0) hx hb dX7_scanOrders_48 (by decide) ?_
              exact g_zret (b := false) X hr hlk rfl hP hS hf dX7_scanOrders_49
          · have hf := ite_t hc hf
            refine lv_iconst (v := 1) hx hb dX7_scanOrders_37 (by decide) ?_
            exact g_zret (b := true) X hr hlk rfl hP hS hf dX7_scanOrders_38
  exact K0 2000 σ hok hf _ _ hP hS ls (lv_sub hl [0] rfl)
def f_X7_scan (σ : St) : St := (bnd (setI σ 191 6 (0 : Int32)) (fun q1 => (bnd (setI q1 191 4 (0 : Int32)) (fun q2 => (bnd (f_X7_scanOrders q2) (fun q4 => (if q4.2 = true then (bnd (setI q4.1 191 5 (-1 : Int32)) (fun q7 => (bnd (setI q7 191 3 (0 : Int32)) (fun q8 => q8)))) else (bnd (setI q4.1 191 5 (q4.1.1 191 6)) (fun q5 => (bnd (setI q5 191 3 (0 : Int32)) (fun q6 => q6)))))))))))
def ok_X7_scan (σ : St) : Prop := (bndP (setI σ 191 6 (0 : Int32)) (fun q1 => (bndP (setI q1 191 4 (0 : Int32)) (fun q2 => ok_X7_scanOrders q2))))
abbrev rm_X7_scan : Room := { frames := 7, cells := 0, slots := 0, locals := 149 }
set_option maxHeartbeats 4000000 in
set_option maxRecDepth 100000 in
theorem c_X7_scan (l : Launch) (G : GE) (hG : Gok G) (σ : St) (hok : ok_X7_scan σ) : MtV l G yX7_scan cX7_scan 1 rm_X7_scan [.ref (G.2.1 191)] σ (f_X7_scan σ) := by
  generalize hf : f_X7_scan σ = fv
  rw [f_X7_scan] at hf
  rw [ok_X7_scan] at hok
  refine g_start hG (plainFor_of_name (by decide)) (Nat.le_of_ble_eq_true rfl) ?_
  intro p e s m args below meth c X hr hlk ls hl H locs hP hS
  have X : Cx G p s m args c cX7_scan 1 RX7 := X
  obtain ⟨hx, hb, hml, hown, hts, hK, hbs, hXW, -⟩ := id X
  have hl : lv_has ls 1 [(0, .ref (G.2.1 191))] := hl
  refine lv_aload_n hx hb dX7_scan_0 rfl (lv_at hl 0 rfl) ?_
  refine lv_iconst (v := 0) hx hb dX7_scan_1 (by decide) ?_
  refine gp_7_6 X hP hS ab_191 kf_X7_29 dX7_scan_2 (fun H locs hP hS => ?_)
  refine g_name hP (fun q1 hq1 hP => ?_)
  have hf := bnd_go hq1 hf
  have hok := bnd_goP hq1 hok
  refine lv_aload_n hx hb dX7_scan_5 rfl (lv_at hl 0 rfl) ?_
  refine lv_iconst (v := 0) hx hb dX7_scan_6 (by decide) ?_
  refine gp_7_4 X hP hS ab_191 kf_X7_32 dX7_scan_7 (fun H locs hP hS => ?_)
  refine g_name hP (fun q2 hq2 hP => ?_)
  have hf := bnd_go hq2 hf
  have hok := bnd_goP hq2 hok
  refine lv_aload_n hx hb dX7_scan_10 rfl (lv_at hl 0 rfl) ?_
  refine lv_aload_n hx hb dX7_scan_11 rfl (lv_at hl 0 rfl) ?_
  have hs3 := hok
  refine g_cZ (g_runV (i := 191) (As := []) (rest := [.ref (G.2.1 191)]) X (c_X7_scanOrders l G hG q2 hs3) ca_X7_scanOrders km_X7_35 rfl rfl ⟨Nat.le_of_ble_eq_true rfl, Nat.le_of_ble_eq_true rfl⟩ hP hS (ty_lt ab_191) (cell_7 ab_191) rfl rfl rfl hl.1 rfl (Nat.le_of_ble_eq_true rfl) ⟨Nat.le_of_ble_eq_true rfl, Nat.le_of_ble_eq_true rfl⟩ dX7_scan_12) hS (fun q4 hq4 H locs hP hS => ?_)
  have hf := bnd_go hq4 hf
  refine g_ifeqZ (tgt := 22) X dX7_scan_15 (by decide) (fun hc => ?_) (fun hc => ?_)
  · have hf := ite_z hc hf
    refine lv_aload_n hx hb dX7_scan_22 rfl (lv_at hl 0 rfl) ?_
    refine gg_7_6 X hP ab_191 kf_X7_29 dX7_scan_23 ?_
    refine gp_7_5 X hP hS ab_191 kf_X7_22 dX7_scan_26 (fun H locs hP hS => ?_)
    refine g_name hP (fun q5 hq5 hP => ?_)
    have hf := bnd_go hq5 hf
    refine lv_aload_n hx hb dX7_scan_29 rfl (lv_at hl 0 rfl) ?_
    refine lv_iconst (v := 0) hx hb dX7_scan_30 (by decide) ?_
    refine gp_7_3 X hP hS ab_191 kf_X7_26 dX7_scan_31 (fun H locs hP hS => ?_)
    refine g_name hP (fun q6 hq6 hP => ?_)
    have hf := bnd_go hq6 hf
    exact g_vret X hr hlk hP hS hf dX7_scan_34
  · have hf := ite_t hc hf
    refine lv_iconst (v := -1) hx hb dX7_scan_18 (by decide) ?_
    refine lv_goto (tgt := 26) hx hb dX7_scan_19 (by decide) ?_
    refine gp_7_5 X hP hS ab_191 kf_X7_22 dX7_scan_26 (fun H locs hP hS => ?_)
    refine g_name hP (fun q7 hq7 hP => ?_)
    have hf := bnd_go hq7 hf
    refine lv_aload_n hx hb dX7_scan_29 rfl (lv_at hl 0 rfl) ?_
    refine lv_iconst (v := 0) hx hb dX7_scan_30 (by decide) ?_
    refine gp_7_3 X hP hS ab_191 kf_X7_26 dX7_scan_31 (fun H locs hP hS => ?_)
    refine g_name hP (fun q8 hq8 hP => ?_)
    have hf := bnd_go hq8 hf
    exact g_vret X hr hlk hP hS hf dX7_scan_34
