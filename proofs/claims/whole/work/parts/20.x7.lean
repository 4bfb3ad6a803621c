def f_X7_add (σ : St) (x1 : Int32) : St := (bnd (setI σ 192 (σ.1 191 3).toNatClampNeg (vp_nar .char x1)) (fun q2 => (bnd (setI q2 191 3 ((q2.1 191 3) + (1 : Int32))) (fun q3 => q3))))
def ok_X7_add (σ : St) (x1 : Int32) : Prop := vp_in (σ.1 191 3) 60
abbrev rm_X7_add : Room := { frames := 0, cells := 0, slots := 0, locals := 0 }
set_option maxHeartbeats 4000000 in
set_option maxRecDepth 100000 in
theorem c_X7_add (l : Launch) (G : GE) (hG : Gok G) (σ : St) (x1 : Int32) (hok : ok_X7_add σ x1) : MtV l G yX7_add cX7_add 2 rm_X7_add [.ref (G.2.1 191), .int x1] σ (f_X7_add σ x1) := by
  generalize hf : f_X7_add σ x1 = fv
  rw [f_X7_add] at hf
  rw [ok_X7_add] at hok
  refine g_start hG (plainFor_of_name (by decide)) (Nat.le_of_ble_eq_true rfl) ?_
  intro p e s m args below meth c X hr hlk ls hl H locs hP hS
  have X : Cx G p s m args c cX7_add 2 RX7 := X
  obtain ⟨hx, hb, hml, hown, hts, hK, hbs, hXW, -⟩ := id X
  have hl : lv_has ls 2 [(0, .ref (G.2.1 191)), (1, .int x1)] := hl
  refine lv_aload_n hx hb dX7_add_0 rfl (lv_at hl 0 rfl) ?_
  refine gg_7_0 (j := 192) rfl X hP ab_191 kf_X7_9 dX7_add_1 ?_
  refine lv_aload_n hx hb dX7_add_4 rfl (lv_at hl 0 rfl) ?_
  refine gg_7_3 X hP ab_191 kf_X7_26 dX7_add_5 ?_
  refine lv_iload_n hx hb dX7_add_8 rfl (lv_at hl 1 rfl) ?_
  have hs1 := hok
  refine g_cast X hP hS ab_192 (by rw [al_192]; exact hs1) dX7_add_9 (fun H locs hP hS => ?_)
  refine g_name hP (fun q2 hq2 hP => ?_)
  have hf := bnd_go hq2 hf
  refine lv_aload_n hx hb dX7_add_10 rfl (lv_at hl 0 rfl) ?_
  refine lv_dup hx hb dX7_add_11 rfl ?_
  refine gg_7_3 X hP ab_191 kf_X7_26 dX7_add_12 ?_
  refine lv_iconst (v := 1) hx hb dX7_add_15 (by decide) ?_
  refine lv_iadd hx hb dX7_add_16 ?_
  refine gp_7_3 X hP hS ab_191 kf_X7_26 dX7_add_17 (fun H locs hP hS => ?_)
  refine g_name hP (fun q3 hq3 hP => ?_)
  have hf := bnd_go hq3 hf
  exact g_vret X hr hlk hP hS hf dX7_add_20
def f_X7_numberOf (σ : St) (x1 : Int32) (x2 : Int32) : Int32 := (σ.1 194 ((x1 * (4 : Int32)) + x2).toNatClampNeg)
def ok_X7_numberOf (σ : St) (x1 : Int32) (x2 : Int32) : Prop := vp_in ((x1 * (4 : Int32)) + x2) 84
abbrev rm_X7_numberOf : Room := { frames := 0, cells := 0, slots := 0, locals := 0 }
set_option maxHeartbeats 4000000 in
set_option maxRecDepth 100000 in
theorem c_X7_numberOf (l : Launch) (G : GE) (hG : Gok G) (σ : St) (x1 : Int32) (x2 : Int32) (hok : ok_X7_numberOf σ x1 x2) : MtI l G yX7_numberOf cX7_numberOf 3 rm_X7_numberOf [.ref (G.2.1 191), .int x1, .int x2] σ (σ, f_X7_numberOf σ x1 x2) := by
  generalize hf : f_X7_numberOf σ x1 x2 = fv
  rw [f_X7_numberOf] at hf
  rw [ok_X7_numberOf] at hok
  refine g_start hG (plainFor_of_name (by decide)) (Nat.le_of_ble_eq_true rfl) ?_
  intro p e s m args below meth c X hr hlk ls hl H locs hP hS
  have X : Cx G p s m args c cX7_numberOf 3 RX7 := X
  obtain ⟨hx, hb, hml, hown, hts, hK, hbs, hXW, -⟩ := id X
  have hl : lv_has ls 3 [(0, .ref (G.2.1 191)), (1, .int x1), (2, .int x2)] := hl
  refine lv_aload_n hx hb dX7_numberOf_0 rfl (lv_at hl 0 rfl) ?_
  refine gg_7_2 (j := 194) rfl X hP ab_191 kf_X7_19 dX7_numberOf_1 ?_
  refine lv_iload_n hx hb dX7_numberOf_4 rfl (lv_at hl 1 rfl) ?_
  refine lv_iconst (v := 4) hx hb dX7_numberOf_5 (by decide) ?_
  refine lv_imul hx hb dX7_numberOf_6 ?_
  refine lv_iload_n hx hb dX7_numberOf_7 rfl (lv_at hl 2 rfl) ?_
  refine lv_iadd hx hb dX7_numberOf_8 ?_
  have hs1 := hok
  refine g_iald X hP ab_194 (by rw [al_194]; exact hs1) dX7_numberOf_9 ?_
  exact g_iret X hr hlk hP hS (congrArg (Prod.mk σ) hf) dX7_numberOf_10
def f_X7_isDigitNext (σ : St) : Bool := (if (σ.1 191 3) ≤ (σ.1 191 6) then false else (if (σ.1 192 (σ.1 191 6).toNatClampNeg) < (48 : Int32) then false else (if (57 : Int32) < (σ.1 192 (σ.1 191 6).toNatClampNeg) then false else true)))
def ok_X7_isDigitNext (σ : St) : Prop := (((σ.1 191 3) ≤ (σ.1 191 6) → True) ∧ (¬ (σ.1 191 3) ≤ (σ.1 191 6) → (vp_in (σ.1 191 6) 60 ∧ (((σ.1 192 (σ.1 191 6).toNatClampNeg) < (48 : Int32) → True) ∧ (¬ (σ.1 192 (σ.1 191 6).toNatClampNeg) < (48 : Int32) → vp_in (σ.1 191 6) 60)))))
abbrev rm_X7_isDigitNext : Room := { frames := 0, cells := 0, slots := 0, locals := 0 }
set_option maxHeartbeats 4000000 in
set_option maxRecDepth 100000 in
theorem c_X7_isDigitNext (l : Launch) (G : GE) (hG : Gok G) (σ : St) (hok : ok_X7_isDigitNext σ) : MtZ l G yX7_isDigitNext cX7_isDigitNext 1 rm_X7_isDigitNext [.ref (G.2.1 191)] σ (σ, f_X7_isDigitNext σ) := by
  generalize hf : f_X7_isDigitNext σ = fv
  rw [f_X7_isDigitNext] at hf
  rw [ok_X7_isDigitNext] at hok
  refine g_start hG (plainFor_of_name (by decide)) (Nat.le_of_ble_eq_true rfl) ?_
  intro p e s m args below meth c X hr hlk ls hl H locs hP hS
  have X : Cx G p s m args c cX7_isDigitNext 1 RX7 := X
  obtain ⟨hx, hb, hml, hown, hts, hK, hbs, hXW, -⟩ := id X
  have hl : lv_has ls 1 [(0, .ref (G.2.1 191))] := hl
  refine lv_aload_n hx hb dX7_isDigitNext_0 rfl (lv_at hl 0 rfl) ?_
  refine gg_7_6 X hP ab_191 kf_X7_29 dX7_isDigitNext_1 ?_
  refine lv_aload_n hx hb dX7_isDigitNext_4 rfl (lv_at hl 0 rfl) ?_
  refine gg_7_3 X hP ab_191 kf_X7_26 dX7_isDigitNext_5 ?_
  refine lv_icmp_ge (tgt := 43) hx hb dX7_isDigitNext_8 (by decide) (fun hc => ?_) (fun hc => ?_)
  · have hf := ite_t hc hf
    refine lv_iconst (v := 0) hx hb dX7_isDigitNext_43 (by decide) ?_
    exact g_zret (b := false) X hr hlk rfl hP hS (congrArg (Prod.mk σ) hf) dX7_isDigitNext_44
  · have hf := ite_f hc hf
    have hok := hok.2 hc
    refine lv_aload_n hx hb dX7_isDigitNext_11 rfl (lv_at hl 0 rfl) ?_
    refine gg_7_0 (j := 192) rfl X hP ab_191 kf_X7_9 dX7_isDigitNext_12 ?_
    refine lv_aload_n hx hb dX7_isDigitNext_15 rfl (lv_at hl 0 rfl) ?_
    refine gg_7_6 X hP ab_191 kf_X7_29 dX7_isDigitNext_16 ?_
    have hs1 := hok.1
    have hok := hok.2
    refine g_cald X hP ab_192 (by rw [al_192]; exact hs1) dX7_isDigitNext_19 ?_
    refine lv_bipush (v := 48) hx hb dX7_isDigitNext_20 (by decide) ?_
    refine lv_icmp_lt (tgt := 43) hx hb dX7_isDigitNext_22 (by decide) (fun hc => ?_) (fun hc => ?_)
    · have hf := ite_t hc hf
      refine lv_iconst (v := 0) hx hb dX7_isDigitNext_43 (by decide) ?_
      exact g_zret (b := false) X hr hlk rfl hP hS (congrArg (Prod.mk σ) hf) dX7_isDigitNext_44
    · have hf := ite_f hc hf
      have hok := hok.2 hc
      refine lv_aload_n hx hb dX7_isDigitNext_25 rfl (lv_at hl 0 rfl) ?_
      refine gg_7_0 (j := 192) rfl X hP ab_191 kf_X7_9 dX7_isDigitNext_26 ?_
      refine lv_aload_n hx hb dX7_isDigitNext_29 rfl (lv_at hl 0 rfl) ?_
      refine gg_7_6 X hP ab_191 kf_X7_29 dX7_isDigitNext_30 ?_
      have hs2 := hok
      refine g_cald X hP ab_192 (by rw [al_192]; exact hs2) dX7_isDigitNext_33 ?_
      refine lv_bipush (v := 57) hx hb dX7_isDigitNext_34 (by decide) ?_
      refine lv_icmp_gt (tgt := 43) hx hb dX7_isDigitNext_36 (by decide) (fun hc => ?_) (fun hc => ?_)
      · have hf := ite_t hc hf
        refine lv_iconst (v := 0) hx hb dX7_isDigitNext_43 (by decide) ?_
        exact g_zret (b := false) X hr hlk rfl hP hS (congrArg (Prod.mk σ) hf) dX7_isDigitNext_44
      · have hf := ite_f hc hf
        refine lv_iconst (v := 1) hx hb dX7_isDigitNext_39 (by decide) ?_
        refine lv_goto (tgt := 44) hx hb dX7_isDigitNext_40 (by decide) ?_
        exact g_zret (b := true) X hr hlk rfl hP hS (congrArg (Prod.mk σ) hf) dX7_isDigitNext_44
def fX7_scanNumber_L4 : Nat → St → Int32 → Int32 → Int32 → St × Bool
  | 0, σ, _, _, _ => (σ, false)
  | n4 + 1, σ, x1, x2, x3 => (if x1 ≤ x3 then (if x3 ≤ 0 then (if x3 ≤ 0 then (σ, false) else (σ, true)) else (if (4 : Int32) ≤ (σ.1 191 7) then (if x3 ≤ 0 then (σ, false) else (σ, true)) else (bnd (setI σ 194 (((σ.1 191 4) * (4 : Int32)) + (σ.1 191 7)).toNatClampNeg x2) (fun q2 => (bnd (setI q2 191 7 ((q2.1 191 7) + (1 : Int32))) (fun q3 => (if x3 ≤ 0 then (q3, false) else (q3, true)))))))) else (if (f_X7_isDigitNext σ) = true then (bnd (setI σ 191 6 ((σ.1 191 6) + (1 : Int32))) (fun q9 => (fX7_scanNumber_L4 n4 q9 x1 ((x2 * (10 : Int32)) + ((σ.1 192 (σ.1 191 6).toNatClampNeg) - (48 : Int32))) (x3 + (1 : Int32))))) else (if x3 ≤ 0 then (if x3 ≤ 0 then (σ, false) else (σ, true)) else (if (4 : Int32) ≤ (σ.1 191 7) then (if x3 ≤ 0 then (σ, false) else (σ, true)) else (bnd (setI σ 194 (((σ.1 191 4) * (4 : Int32)) + (σ.1 191 7)).toNatClampNeg x2) (fun q6 => (bnd (setI q6 191 7 ((q6.1 191 7) + (1 : Int32))) (fun q7 => (if x3 ≤ 0 then (q7, false) else (q7, true))))))))))
def okX7_scanNumber_L4 : Nat → St → Int32 → Int32 → Int32 → Prop
  | 0, _, _, _, _ => False
  | n4 + 1, σ, x1, x2, x3 => ((x1 ≤ x3 → ((x3 ≤ 0 → True) ∧ (¬ x3 ≤ 0 → (((4 : Int32) ≤ (σ.1 191 7) → True) ∧ (¬ (4 : Int32) ≤ (σ.1 191 7) → vp_in (((σ.1 191 4) * (4 : Int32)) + (σ.1 191 7)) 84))))) ∧ (¬ x1 ≤ x3 → (ok_X7_isDigitNext σ ∧ (((f_X7_isDigitNext σ) = true → (vp_in (σ.1 191 6) 60 ∧ (bndP (setI σ 191 6 ((σ.1 191 6) + (1 : Int32))) (fun q9 => (okX7_scanNumber_L4 n4 q9 x1 ((x2 * (10 : Int32)) + ((σ.1 192 (σ.1 191 6).toNatClampNeg) - (48 : Int32))) (x3 + (1 : Int32))))))) ∧ ((f_X7_isDigitNext σ) = false → ((x3 ≤ 0 → True) ∧ (¬ x3 ≤ 0 → (((4 : Int32) ≤ (σ.1 191 7) → True) ∧ (¬ (4 : Int32) ≤ (σ.1 191 7) → vp_in (((σ.1 191 4) * (4 : Int32)) + (σ.1 191 7)) 84)))))))))
def f_X7_scanNumber (σ : St) (x1 : Int32) : St × Bool := (fX7_scanNumber_L4 2000 σ x1 (0 : Int32) (0 : Int32))
def ok_X7_scanNumber (σ : St) (x1 : Int32) : Prop := (okX7_scanNumber_L4 2000 σ x1 (0 : Int32) (0 : Int32))
abbrev rm_X7_scanNumber : Room := { frames := 1, cells := 0, slots := 0, locals := 20 }
set_option maxHeartbeats 4000000 in
set_option maxRecDepth 100000 in
theorem c_X7_scanNumber (l : Launch) (G : GE) (hG : Gok G) (σ : St) (x1 : Int32) (hok : ok_X7_scanNumber σ x1) : MtZ l G yX7_scanNumber cX7_scanNumber 4 rm_X7_scanNumber [.ref (G.2.1 191), .int x1] σ (f_X7_scanNumber σ x1) := by
  generalize hf : f_X7_scanNumber σ x1 = fv
  rw [f_X7_scanNumber] at hf
  rw [ok_X7_scanNumber] at hok
  refine g_start hG (plainFor_of_name (by decide)) (Nat.le_of_ble_eq_true rfl) ?_
  intro p e s m args below meth c X hr hlk ls hl H locs hP hS
  have X : Cx G p s m args c cX7_scanNumber 4 RX7 := X
  obtain ⟨hx, hb, hml, hown, hts, hK, hbs, hXW, -⟩ := id X
  have hl : lv_has ls 4 [(0, .ref (G.2.1 191)), (1, .int x1)] := hl
  refine lv_iconst (v := 0) hx hb dX7_scanNumber_0 (by decide) ?_
  refine lv_istore_n (lv' := [(2, .int (0 : Int32)), (0, .ref (G.2.1 191)), (1, .int x1)]) hx hb dX7_scanNumber_1 rfl hl (by decide) rfl (fun ls hl => ?_)
  refine lv_iconst (v := 0) hx hb dX7_scanNumber_2 (by decide) ?_
  refine lv_istore_n (lv' := [(3, .int (0 : Int32)), (2, .int (0 : Int32)), (0, .ref (G.2.1 191)), (1, .int x1)]) hx hb dX7_scanNumber_3 rfl hl (by decide) rfl (fun ls hl => ?_)
  have K4 : ∀ (n4 : Nat) (σ : St) (x1 : Int32) (x2 : Int32) (x3 : Int32), okX7_scanNumber_L4 n4 σ x1 x2 x3 → fX7_scanNumber_L4 n4 σ x1 x2 x3 = fv → ∀ (H : Heap) (locs : List Loc), va_P G.1 vcl (wl G σ) H → va_S (GA G) s.heap H locs → ∀ (ls : Array Slot), lv_has ls 4 [(0, .ref (G.2.1 191)), (1, .int x1), (2, .int x2), (3, .int x3)] → W p l e rm_X7_scanNumber s m args below meth c H locs 0 0 (MQ below (va_Qi (fun r u => (u, r) = ((fv : St × Bool).1, bI (fv : St × Bool).2)) (PB G) (GA G)) args s 0 0 (GA G)) (F0 m 4 ls []) := by
    intro n4
    induction n4 with
    | zero =>
      intro σ x1 x2 x3 hok
      exact hok.elim
    | succ n4 ih4 =>
      intro σ x1 x2 x3 hok hf H locs hP hS ls hl
      rw [okX7_scanNumber_L4] at hok
      rw [fX7_scanNumber_L4] at hf
      refine lv_iload_n hx hb dX7_scanNumber_4 rfl (lv_at hl 3 rfl) ?_
      refine lv_iload_n hx hb dX7_scanNumber_5 rfl (lv_at hl 1 rfl) ?_
      refine lv_icmp_ge (tgt := 50) hx hb dX7_scanNumber_6 (by decide) (fun hc => ?_) (fun hc => ?_)
      · have hf := ite_t hc hf
        have hok := hok.1 hc
        refine lv_iload_n hx hb dX7_scanNumber_50 rfl (lv_at hl 3 rfl) ?_
        refine lv_if_le (tgt := 89) hx hb dX7_scanNumber_51 (by decide) (fun hc => ?_) (fun hc => ?_)
        · have hf := ite_t hc hf
          refine lv_iload_n hx hb dX7_scanNumber_89 rfl (lv_at hl 3 rfl) ?_
          refine lv_if_le (tgt := 97) hx hb dX7_scanNumber_90 (by decide) (fun hc => ?_) (fun hc => ?_)
          · have hf := ite_t hc hf
            refine lv_iconst (v := 0) hx hb dX7_scanNumber_97 (by decide) ?_
            exact g_zret (b := false) X hr hlk rfl hP hS hf dX7_scanNumber_98
          · have hf := ite_f hc hf
            refine lv_iconst (v := 1) hx hb dX7_scanNumber_93 (by decide) ?_
            refine lv_goto (tgt := 98) hx hb dX7_scanNumber_94 (by decide) ?_
            exact g_zret (b := true) X hr hlk rfl hP hS hf dX7_scanNumber_98
        · have hf := ite_f hc hf
          have hok := hok.2 hc
          refine lv_aload_n hx hb dX7_scanNumber_54 rfl (lv_at hl 0 rfl) ?_
          refine gg_7_7 X hP ab_191 kf_X7_50 dX7_scanNumber_55 ?_
          refine lv_iconst (v := 4) hx hb dX7_scanNumber_58 (by decide) ?_
          refine lv_icmp_ge (tgt := 89) hx hb dX7_scanNumber_59 (by decide) (fun hc => ?_) (fun hc => ?_)
          · have hf := ite_t hc hf
            refine lv_iload_n hx hb dX7_scanNumber_89 rfl (lv_at hl 3 rfl) ?_
            refine lv_if_le (tgt := 97) hx hb dX7_scanNumber_90 (by decide) (fun hc => ?_) (fun hc => ?_)
            · have hf := ite_t hc hf
              refine lv_iconst (v := 0) hx hb dX7_scanNumber_97 (by decide) ?_
              exact g_zret (b := false) X hr hlk rfl hP hS hf dX7_scanNumber_98
            · have hf := ite_f hc hf
              refine lv_iconst (v := 1) hx hb dX7_scanNumber_93 (by decide) ?_
              refine lv_goto (tgt := 98) hx hb dX7_scanNumber_94 (by decide) ?_
              exact g_zret (b := true) X hr hlk rfl hP hS hf dX7_scanNumber_98
          · have hf := ite_f hc hf
            have hok := hok.2 hc
            refine lv_aload_n hx hb dX7_scanNumber_62 rfl (lv_at hl 0 rfl) ?_
            refine gg_7_2 (j := 194) rfl X hP ab_191 kf_X7_19 dX7_scanNumber_63 ?_
            refine lv_aload_n hx hb dX7_scanNumber_66 rfl (lv_at hl 0 rfl) ?_
            refine gg_7_4 X hP ab_191 kf_X7_32 dX7_scanNumber_67 ?_
            refine lv_iconst (v := 4) hx hb dX7_scanNumber_70 (by decide) ?_
            refine lv_imul hx hb dX7_scanNumber_71 ?_
            refine lv_aload_n hx hb dX7_scanNumber_72 rfl (lv_at hl 0 rfl) ?_
            refine gg_7_7 X hP ab_191 kf_X7_50 dX7_scanNumber_73 ?_
            refine lv_iadd hx hb dX7_scanNumber_76 ?_
            refine lv_iload_n hx hb dX7_scanNumber_77 rfl (lv_at hl 2 rfl) ?_
            have hs1 := hok
            refine g_iast X hP hS ab_194 (by rw [al_194]; exact hs1) dX7_scanNumber_78 (fun H locs hP hS => ?_)
            refine g_name hP (fun q2 hq2 hP => ?_)
            have hf := bnd_go hq2 hf
            refine lv_aload_n hx hb dX7_scanNumber_79 rfl (lv_at hl 0 rfl) ?_
            refine lv_dup hx hb dX7_scanNumber_80 rfl ?_
            refine gg_7_7 X hP ab_191 kf_X7_50 dX7_scanNumber_81 ?_
            refine lv_iconst (v := 1) hx hb dX7_scanNumber_84 (by decide) ?_
            refine lv_iadd hx hb dX7_scanNumber_85 ?_
            refine gp_7_7 X hP hS ab_191 kf_X7_50 dX7_scanNumber_86 (fun H locs hP hS => ?_)
            refine g_name hP (fun q3 hq3 hP => ?_)
            have hf := bnd_go hq3 hf
            refine lv_iload_n hx hb dX7_scanNumber_89 rfl (lv_at hl 3 rfl) ?_
            refine lv_if_le (tgt := 97) hx hb dX7_scanNumber_90 (by decide) (fun hc => ?_) (fun hc => ?_)
            · have hf := ite_t hc hf
              refine lv_iconst (v := 0) hx hb dX7_scanNumber_97 (by decide) ?_
              exact g_zret (b := false) X hr hlk rfl hP hS hf dX7_scanNumber_98
            · have hf := ite_f hc hf
              refine lv_iconst (v := 1) hx hb dX7_scanNumber_93 (by decide) ?_
              refine lv_goto (tgt := 98) hx hb dX7_scanNumber_94 (by decide) ?_
              exact g_zret (b := true) X hr hlk rfl hP hS hf dX7_scanNumber_98
      · have hf := ite_f hc hf
        have hok := hok.2 hc
        refine lv_aload_n hx hb dX7_scanNumber_9 rfl (lv_at hl 0 rfl) ?_
        have hs4 := hok.1
        have hok := hok.2
        refine g_cZp (g_runV (i := 191) (As := []) (rest := []) X (c_X7_isDigitNext l G hG σ hs4) ca_X7_isDigitNext km_X7_83 rfl rfl ⟨Nat.le_of_ble_eq_true rfl, Nat.le_of_ble_eq_true rfl⟩ hP hS (ty_lt ab_191) (cell_7 ab_191) rfl rfl rfl hl.1 rfl (Nat.le_of_ble_eq_true rfl) ⟨Nat.zero_le _, Nat.zero_le _⟩ dX7_scanNumber_10) hS (fun H locs hP hS => ?_)
        refine g_ifeqZ (tgt := 50) X dX7_scanNumber_13 (by decide) (fun hc => ?_) (fun hc => ?_)
        · have hf := ite_z hc hf
          have hok := hok.2 hc
          refine lv_iload_n hx hb dX7_scanNumber_50 rfl (lv_at hl 3 rfl) ?_
          refine lv_if_le (tgt := 89) hx hb dX7_scanNumber_51 (by decide) (fun hc => ?_) (fun hc => ?_)
          · have hf := ite_t hc hf
            refine lv_iload_n hx hb dX7_scanNumber_89 rfl (lv_at hl 3 rfl) ?_
            refine lv_if_le (tgt := 97) hx hb dX7_scanNumber_90 (by decide) (fun hc => ?_) (fun hc => ?_)
            · have hf := ite_t hc hf
              refine lv_iconst (v := 0) hx hb dX7_scanNumber_97 (by decide) ?_
              exact g_zret (b := false) X hr hlk rfl hP hS hf dX7_scanNumber_98
            · have hf := ite_f hc hf
              refine lv_iconst (v := 1) hx hb dX7_scanNumber_93 (by decide) ?_
              refine lv_goto (tgt := 98) hx hb dX7_scanNumber_94 (by decide) ?_
              exact g_zret (b := true) X hr hlk rfl hP hS hf dX7_scanNumber_98
          · have hf := ite_f hc hf
            have hok := hok.2 hc
            refine lv_aload_n hx hb dX7_scanNumber_54 rfl (lv_at hl 0 rfl) ?_
            refine gg_7_7 X hP ab_191 kf_X7_50 dX7_scanNumber_55 ?_
            refine lv_iconst (v := 4) hx hb dX7_scanNumber_58 (by decide) ?_
            refine lv_icmp_ge (tgt := 89) hx hb dX7_scanNumber_59 (by decide) (fun hc => ?_) (fun hc => ?_)
            · have hf := ite_t hc hf
              refine lv_iload_n hx hb dX7_scanNumber_89 rfl (lv_at hl 3 rfl) ?_
              refine lv_if_le (tgt := 97) hx hb dX7_scanNumber_90 (by decide) (fun hc => ?_) (fun hc => ?_)
              · have hf := ite_t hc hf
                refine lv_iconst (v := 0) hx hb dX7_scanNumber_97 (by decide) ?_
                exact g_zret (b := false) X hr hlk rfl hP hS hf dX7_scanNumber_98
              · have hf := ite_f hc hf
                refine lv_iconst (v := 1) hx hb dX7_scanNumber_93 (by decide) ?_
                refine lv_goto (tgt := 98) hx hb dX7_scanNumber_94 (by decide) ?_
                exact g_zret (b := true) X hr hlk rfl hP hS hf dX7_scanNumber_98
            · have hf := ite_f hc hf
              have hok := hok.2 hc
              refine lv_aload_n hx hb dX7_scanNumber_62 rfl (lv_at hl 0 rfl) ?_
              refine gg_7_2 (j := 194) rfl X hP ab_191 kf_X7_19 dX7_scanNumber_63 ?_
              refine lv_aload_n hx hb dX7_scanNumber_66 rfl (lv_at hl 0 rfl) ?_
              refine gg_7_4 X hP ab_191 kf_X7_32 dX7_scanNumber_67 ?_
              refine lv_iconst (v := 4) hx hb dX7_scanNumber_70 (by decide) ?_
              refine lv_imul hx hb dX7_scanNumber_71 ?_
              refine lv_aload_n hx hb dX7_scanNumber_72 rfl (lv_at hl 0 rfl) ?_
              refine gg_7_7 X hP ab_191 kf_X7_50 dX7_scanNumber_73 ?_
              refine lv_iadd hx hb dX7_scanNumber_76 ?_
              refine lv_iload_n hx hb dX7_scanNumber_77 rfl (lv_at hl 2 rfl) ?_
              have hs5 := hok
              refine g_iast X hP hS ab_194 (by rw [al_194]; exact hs5) dX7_scanNumber_78 (fun H locs hP hS => ?_)
              refine g_name hP (fun q6 hq6 hP => ?_)
              have hf := bnd_go hq6 hf
              refine lv_aload_n hx hb dX7_scanNumber_79 rfl (lv_at hl 0 rfl) ?_
              refine lv_dup hx hb dX7_scanNumber_80 rfl ?_
              refine gg_7_7 X hP ab_191 kf_X7_50 dX7_scanNumber_81 ?_
              refine lv_iconst (v := 1) hx hb dX7_scanNumber_84 (by decide) ?_
              refine lv_iadd hx hb dX7_scanNumber_85 ?_
              refine gp_7_7 X hP hS ab_191 kf_X7_50 dX7_scanNumber_86 (fun H locs hP hS => ?_)
              refine g_name hP (fun q7 hq7 hP => ?_)
              have hf := bnd_go hq7 hf
              refine lv_iload_n hx hb dX7_scanNumber_89 rfl (lv_at hl 3 rfl) ?_
              refine lv_if_le (tgt := 97) hx hb dX7_scanNumber_90 (by decide) (fun hc => ?_) (fun hc => ?_)
              · have hf := ite_t hc hf
                refine lv_iconst (v := 0) hx hb dX7_scanNumber_97 (by decide) ?_
                exact g_zret (b := false) X hr hlk rfl hP hS hf dX7_scanNumber_98
              · have hf := ite_f hc hf
                refine lv_iconst (v := 1) hx hb dX7_scanNumber_93 (by decide) ?_
                refine lv_goto (tgt := 98) hx hb dX7_scanNumber_94 (by decide) ?_
                exact g_zret (b := true) X hr hlk rfl hP hS hf dX7_scanNumber_98
        · have hf := ite_t hc hf
          have hok := hok.1 hc
          refine lv_iload_n hx hb dX7_scanNumber_16 rfl (lv_at hl 2 rfl) ?_
          refine lv_bipush (v := 10) hx hb dX7_scanNumber_17 (by decide) ?_
          refine lv_imul hx hb dX7_scanNumber_19 ?_
          refine lv_aload_n hx hb dX7_scanNumber_20 rfl (lv_at hl 0 rfl) ?_
          refine gg_7_0 (j := 192) rfl X hP ab_191 kf_X7_9 dX7_scanNumber_21 ?_
          refine lv_aload_n hx hb dX7_scanNumber_24 rfl (lv_at hl 0 rfl) ?_
          refine gg_7_6 X hP ab_191 kf_X7_29 dX7_scanNumber_25 ?_
          have hs8 := hok.1
          have hok := hok.2
          refine g_cald X hP ab_192 (by rw [al_192]; exact hs8) dX7_scanNumber_28 ?_
          refine lv_bipush (v := 48) hx hb dX7_scanNumber_29 (by decide) ?_
          refine lv_isub hx hb dX7_scanNumber_31 ?_
          refine lv_iadd hx hb dX7_scanNumber_32 ?_
          refine lv_istore_n (lv' := [(2, .int ((x2 * (10 : Int32)) + ((σ.1 192 (σ.1 191 6).toNatClampNeg) - (48 : Int32)))), (0, .ref (G.2.1 191)), (1, .int x1), (3, .int x3)]) hx hb dX7_scanNumber_33 rfl hl (by decide) rfl (fun ls hl => ?_)
          refine lv_aload_n hx hb dX7_scanNumber_34 rfl (lv_at hl 1 rfl) ?_
          refine lv_dup hx hb dX7_scanNumber_35 rfl ?_
          refine gg_7_6 X hP ab_191 kf_X7_29 dX7_scanNumber_36 ?_
          refine lv_iconst (v := 1) hx hb dX7_scanNumber_39 (by decide) ?_
          refine lv_iadd hx hb dX7_scanNumber_40 ?_
          refine gp_7_6 X hP hS ab_191 kf_X7_29 dX7_scanNumber_41 (fun H locs hP hS => ?_)
          refine g_name hP (fun q9 hq9 hP => ?_)
          have hf := bnd_go hq9 hf
          have hok := bnd_goP hq9 hok
          refine lv_iinc (v := (x3 + (1 : Int32))) (lv' := [(3, .int (x3 + (1 : Int32))), (2, .int ((x2 * (10 : Int32)) + ((σ.1 192 (σ.1 191 6).toNatClampNeg) - (48 : Int32)))), (0, .ref (G.2.1 191)), (1, .int x1)]) hx hb dX7_scanNumber_44 hl (k := 3) rfl rfl (by decide) rfl (fun ls hl => ?_)
          refine lv_goto (tgt := 4) hx hb dX7_scanNumber_47 (by decide) ?_
          exact ih4 q9 x1 ((x2 * (10 : Int32)) + ((σ.1 192 (σ.1 191 6).toNatClampNeg) - (48 : Int32))) (x3 + (1 : Int32)) hok hf _ _ hP hS ls (lv_sub hl [2, 3, 1, 0] rfl)
  exact K4 2000 σ x1 (0 : Int32) (0 : Int32) hok hf _ _ hP hS ls (lv_sub hl [2, 3, 1, 0] rfl)
def f_X7_scanSign (σ : St) (x1 : Int32) : St × Bool := (if (σ.1 191 3) ≤ (σ.1 191 6) then (σ, false) else (if (σ.1 192 (σ.1 191 6).toNatClampNeg) = x1 then (bnd (setI σ 191 6 ((σ.1 191 6) + (1 : Int32))) (fun q2 => (q2, true))) else (σ, false)))
def ok_X7_scanSign (σ : St) (x1 : Int32) : Prop := (((σ.1 191 3) ≤ (σ.1 191 6) → True) ∧ (¬ (σ.1 191 3) ≤ (σ.1 191 6) → vp_in (σ.1 191 6) 60))
abbrev rm_X7_scanSign : Room := { frames := 0, cells := 0, slots := 0, locals := 0 }
set_option maxHeartbeats 4000000 in
set_option maxRecDepth 100000 in
theorem c_X7_scanSign (l : Launch) (G : GE) (hG : Gok G) (σ : St) (x1 : Int32) (hok : ok_X7_scanSign σ x1) : MtZ l G yX7_scanSign cX7_scanSign 2 rm_X7_scanSign [.ref (G.2.1 191), .int x1] σ (f_X7_scanSign σ x1) := by
  generalize hf : f_X7_scanSign σ x1 = fv
  rw [f_X7_scanSign] at hf
  rw [ok_X7_scanSign] at hok
  refine g_start hG (plainFor_of_name (by decide)) (Nat.le_of_ble_eq_true rfl) ?_
  intro p e s m args below meth c X hr hlk ls hl H locs hP hS
  have X : Cx G p s m args c cX7_scanSign 2 RX7 := X
  obtain ⟨hx, hb, hml, hown, hts, hK, hbs, hXW, -⟩ := id X
  have hl : lv_has ls 2 [(0, .ref (G.2.1 191)), (1, .int x1)] := hl
  refine lv_aload_n hx hb dX7_scanSign_0 rfl (lv_at hl 0 rfl) ?_
  refine gg_7_6 X hP ab_191 kf_X7_29 dX7_scanSign_1 ?_
  refine lv_aload_n hx hb dX7_scanSign_4 rfl (lv_at hl 0 rfl) ?_
  refine gg_7_3 X hP ab_191 kf_X7_26 dX7_scanSign_5 ?_
  refine lv_icmp_ge (tgt := 24) hx hb dX7_scanSign_8 (by decide) (fun hc => ?_) (fun hc => ?_)
  · have hf := ite_t hc hf
    refine lv_iconst (v := 0) hx hb dX7_scanSign_24 (by decide) ?_
    exact g_zret (b := false) X hr hlk rfl hP hS hf dX7_scanSign_25
  · have hf := ite_f hc hf
    have hok := hok.2 hc
    refine lv_aload_n hx hb dX7_scanSign_11 rfl (lv_at hl 0 rfl) ?_
    refine gg_7_0 (j := 192) rfl X hP ab_191 kf_X7_9 dX7_scanSign_12 ?_
    refine lv_aload_n hx hb dX7_scanSign_15 rfl (lv_at hl 0 rfl) ?_
    refine gg_7_6 X hP ab_191 kf_X7_29 dX7_scanSign_16 ?_
    have hs1 := hok
    refine g_cald X hP ab_192 (by rw [al_192]; exact hs1) dX7_scanSign_19 ?_
    refine lv_iload_n hx hb dX7_scanSign_20 rfl (lv_at hl 1 rfl) ?_
    refine lv_icmp_eq (tgt := 26) hx hb dX7_scanSign_21 (by decide) (fun hc => ?_) (fun hc => ?_)
    · have hf := ite_t hc hf
      refine lv_aload_n hx hb dX7_scanSign_26 rfl (lv_at hl 0 rfl) ?_
      refine lv_dup hx hb dX7_scanSign_27 rfl ?_
      refine gg_7_6 X hP ab_191 kf_X7_29 dX7_scanSign_28 ?_
      refine lv_iconst (v := 1) hx hb dX7_scanSign_31 (by decide) ?_
      refine lv_iadd hx hb dX7_scanSign_32 ?_
      refine gp_7_6 X hP hS ab_191 kf_X7_29 dX7_scanSign_33 (fun H locs hP hS => ?_)
      refine g_name hP (fun q2 hq2 hP => ?_)
      have hf := bnd_go hq2 hf
      refine lv_iconst (v := 1) hx hb dX7_scanSign_36 (by decide) ?_
      exact g_zret (b := true) X hr hlk rfl hP hS hf dX7_scanSign_37
    · have hf := ite_f hc hf
      refine lv_iconst (v := 0) hx hb dX7_scanSign_24 (by decide) ?_
      exact g_zret (b := false) X hr hlk rfl hP hS hf dX7_scanSign_25
def f_X7_scanPart (σ : St) (x1 : Int32) : St × Bool := (if x1 = (100 : Int32) then (bnd (f_X7_scanNumber σ (1 : Int32)) (fun q6 => (q6.1, q6.2))) else (if x1 = (110 : Int32) then (bnd (f_X7_scanNumber σ (2 : Int32)) (fun q4 => (q4.1, q4.2))) else (bnd (f_X7_scanSign σ x1) (fun q2 => (q2.1, q2.2)))))
def ok_X7_scanPart (σ : St) (x1 : Int32) : Prop := ((x1 = (100 : Int32) → ok_X7_scanNumber σ (1 : Int32)) ∧ (¬ x1 = (100 : Int32) → ((x1 = (110 : Int32) → ok_X7_scanNumber σ (2 : Int32)) ∧ (¬ x1 = (110 : Int32) → ok_X7_scanSign σ x1))))
abbrev rm_X7_scanPart : Room := { frames := 2, cells := 0, slots := 0, locals := 43 }
set_option maxHeartbeats 4000000 in
set_option maxRecDepth 100000 in
theorem c_X7_scanPart (l : Launch) (G : GE) (hG : Gok G) (σ : St) (x1 : Int32) (hok : ok_X7_scanPart σ x1) : MtZ l G yX7_scanPart cX7_scanPart 2 rm_X7_scanPart [.ref (G.2.1 191), .int x1] σ (f_X7_scanPart σ x1) := by
  generalize hf : f_X7_scanPart σ x1 = fv
  rw [f_X7_scanPart] at hf
  rw [ok_X7_scanPart] at hok
  refine g_start hG (plainFor_of_name (by decide)) (Nat.le_of_ble_eq_true rfl) ?_
  intro p e s m args below meth c X hr hlk ls hl H locs hP hS
  have X : Cx G p s m args c cX7_scanPart 2 RX7 := X
  obtain ⟨hx, hb, hml, hown, hts, hK, hbs, hXW, -⟩ := id X
  have hl : lv_has ls 2 [(0, .ref (G.2.1 191)), (1, .int x1)] := hl
  refine lv_iload_n hx hb dX7_scanPart_0 rfl (lv_at hl 1 rfl) ?_
  refine lv_bipush (v := 100) hx hb dX7_scanPart_1 (by decide) ?_
  refine lv_icmp_ne (tgt := 12) hx hb dX7_scanPart_3 (by decide) (fun hc => ?_) (fun hc => ?_)
  · have hf := ite_f hc hf
    have hok := hok.2 hc
    refine lv_iload_n hx hb dX7_scanPart_12 rfl (lv_at hl 1 rfl) ?_
    refine lv_bipush (v := 110) hx hb dX7_scanPart_13 (by decide) ?_
    refine lv_icmp_ne (tgt := 26) hx hb dX7_scanPart_15 (by decide) (fun hc => ?_) (fun hc => ?_)
    · have hf := ite_f hc hf
      have hok := hok.2 hc
      refine lv_aload_n hx hb dX7_scanPart_26 rfl (lv_at hl 0 rfl) ?_
      refine lv_iload_n hx hb dX7_scanPart_27 rfl (lv_at hl 1 rfl) ?_
      have hs1 := hok
      refine g_cZ (g_runV (i := 191) (As := [.int x1]) (rest := []) X (c_X7_scanSign l G hG σ x1 hs1) ca_X7_scanSign km_X7_42 rfl rfl ⟨Nat.le_of_ble_eq_true rfl, Nat.le_of_ble_eq_true rfl⟩ hP hS (ty_lt ab_191) (cell_7 ab_191) rfl rfl rfl hl.1 rfl (Nat.le_of_ble_eq_true rfl) ⟨Nat.zero_le _, Nat.zero_le _⟩ dX7_scanPart_28) hS (fun q2 hq2 H locs hP hS => ?_)
      have hf := bnd_go hq2 hf
      exact g_zret (b := q2.2) X hr hlk rfl hP hS hf dX7_scanPart_31
    · have hf := ite_t hc hf
      have hok := hok.1 hc
      refine lv_aload_n hx hb dX7_scanPart_18 rfl (lv_at hl 0 rfl) ?_
      refine lv_iconst (v := 2) hx hb dX7_scanPart_19 (by decide) ?_
      have hs3 := hok
      refine g_cZ (g_runV (i := 191) (As := [.int (2 : Int32)]) (rest := []) X (c_X7_scanNumber l G hG σ (2 : Int32) hs3) ca_X7_scanNumber km_X7_79 rfl rfl ⟨Nat.le_of_ble_eq_true rfl, Nat.le_of_ble_eq_true rfl⟩ hP hS (ty_lt ab_191) (cell_7 ab_191) rfl rfl rfl hl.1 rfl (Nat.le_of_ble_eq_true rfl) ⟨Nat.zero_le _, Nat.zero_le _⟩ dX7_scanPart_20) hS (fun q4 hq4 H locs hP hS => ?_)
      have hf := bnd_go hq4 hf
      refine lv_goto (tgt := 31) hx hb dX7_scanPart_23 (by decide) ?_
      exact g_zret (b := q4.2) X hr hlk rfl hP hS hf dX7_scanPart_31
  · have hf := ite_t hc hf
    have hok := hok.1 hc
    refine lv_aload_n hx hb dX7_scanPart_6 rfl (lv_at hl 0 rfl) ?_
    refine lv_iconst (v := 1) hx hb dX7_scanPart_7 (by decide) ?_
    have hs5 := hok
    refine g_cZ (g_runV (i := 191) (As := [.int (1 : Int32)]) (rest := []) X (c_X7_scanNumber l G hG σ (1 : Int32) hs5) ca_X7_scanNumber km_X7_79 rfl rfl ⟨Nat.le_of_ble_eq_true rfl, Nat.le_of_ble_eq_true rfl⟩ hP hS (ty_lt ab_191) (cell_7 ab_191) rfl rfl rfl hl.1 rfl (Nat.le_of_ble_eq_true rfl) ⟨Nat.zero_le _, Nat.zero_le _⟩ dX7_scanPart_8) hS (fun q6 hq6 H locs hP hS => ?_)
    have hf := bnd_go hq6 hf
    exact g_zret (b := q6.2) X hr hlk rfl hP hS hf dX7_scanPart_11
