def fL_writes_L64 : Nat → St → Int32 → Int32 → Int64 → Int64 → Int64 → St × Bool
  | 0, σ, _, _, _, _, _ => (σ, false)
  | n64 + 1, σ, x1, x2, x3, x5, x7 => (if 0 ≤ (lg_cmp x7 x3) then (bnd (f_L_letter σ (0 : Int32) (1 : Int32) x2 x1) (fun q11 => (if (lg_cmp q11.2 (-4000000000000000003 : Int64)) = 0 then (bnd (f_L_restore q11.1) (fun q15 => (bnd (f_L_mark q15.1) (fun q17 => (if (lg_cmp q17.2 x5) = 0 then (q17.1, true) else (q17.1, false)))))) else (bnd (f_L_restore q11.1) (fun q13 => (q13.1, false)))))) else (bnd (f_L_letter σ (0 : Int32) (1 : Int32) x2 x1) (fun q19 => (if 0 ≤ (lg_cmp q19.2 (0 : Int64)) then (fL_writes_L64 n64 q19.1 x1 x2 x3 x5 (x7 + (1 : Int64))) else (q19.1, false)))))
def okL_writes_L64 : Nat → St → Int32 → Int32 → Int64 → Int64 → Int64 → Prop
  | 0, _, _, _, _, _, _ => False
  | n64 + 1, σ, x1, x2, x3, x5, x7 => ((0 ≤ (lg_cmp x7 x3) → (ok_L_letter σ (0 : Int32) (1 : Int32) x2 x1 ∧ (bndP (f_L_letter σ (0 : Int32) (1 : Int32) x2 x1) (fun q11 => (((lg_cmp q11.2 (-4000000000000000003 : Int64)) = 0 → (ok_L_restore q11.1 ∧ (bndP (f_L_restore q11.1) (fun q15 => ok_L_mark q15.1)))) ∧ (¬ (lg_cmp q11.2 (-4000000000000000003 : Int64)) = 0 → ok_L_restore q11.1)))))) ∧ (¬ 0 ≤ (lg_cmp x7 x3) → (ok_L_letter σ (0 : Int32) (1 : Int32) x2 x1 ∧ (bndP (f_L_letter σ (0 : Int32) (1 : Int32) x2 x1) (fun q19 => ((0 ≤ (lg_cmp q19.2 (0 : Int64)) → (okL_writes_L64 n64 q19.1 x1 x2 x3 x5 (x7 + (1 : Int64)))) ∧ (¬ 0 ≤ (lg_cmp q19.2 (0 : Int64)) → True)))))))
def f_L_writes (σ : St) (x1 : Int32) (x2 : Int32) : St × Bool := (bnd (f_L_lettersOf σ x1 x2) (fun q2 => (bnd (f_L_lettersAgain q2.1 x1 x2) (fun q4 => (if (lg_cmp q2.2 q4.2) = 0 then (if (lg_cmp q2.2 (0 : Int64)) < 0 then (q4.1, true) else (if 0 < (lg_cmp q2.2 (6 : Int64)) then (q4.1, true) else (bnd (f_L_account q4.1 (2 : Int32)) (fun q6 => (if (lg_cmp (q2.2 + q6.2) (20 : Int64)) < 0 then (bnd (f_L_save q6.1) (fun q7 => (bnd (f_L_mark q7.1) (fun q9 => (fL_writes_L64 7 q9.1 x1 x2 q2.2 q9.2 (0 : Int64)))))) else (q6.1, true)))))) else (q4.1, false))))))
def ok_L_writes (σ : St) (x1 : Int32) (x2 : Int32) : Prop := (ok_L_lettersOf σ x1 x2 ∧ (bndP (f_L_lettersOf σ x1 x2) (fun q2 => (ok_L_lettersAgain q2.1 x1 x2 ∧ (bndP (f_L_lettersAgain q2.1 x1 x2) (fun q4 => (((lg_cmp q2.2 q4.2) = 0 → (((lg_cmp q2.2 (0 : Int64)) < 0 → True) ∧ (¬ (lg_cmp q2.2 (0 : Int64)) < 0 → ((0 < (lg_cmp q2.2 (6 : Int64)) → True) ∧ (¬ 0 < (lg_cmp q2.2 (6 : Int64)) → (ok_L_account q4.1 (2 : Int32) ∧ (bndP (f_L_account q4.1 (2 : Int32)) (fun q6 => (((lg_cmp (q2.2 + q6.2) (20 : Int64)) < 0 → (bndP (f_L_save q6.1) (fun q7 => (ok_L_mark q7.1 ∧ (bndP (f_L_mark q7.1) (fun q9 => (okL_writes_L64 7 q9.1 x1 x2 q2.2 q9.2 (0 : Int64)))))))) ∧ (¬ (lg_cmp (q2.2 + q6.2) (20 : Int64)) < 0 → True)))))))))) ∧ (¬ (lg_cmp q2.2 q4.2) = 0 → True))))))))
abbrev rm_L_writes : Room := { frames := 11, cells := 922, slots := 5532, locals := 210 }
set_option maxHeartbeats 8000000 in
set_option maxRecDepth 100000 in
theorem c_L_writes (l : Launch) (hfl : l.stackTraces = false) (G : GE) (hG : Gok G) (σ : St) (x1 : Int32) (x2 : Int32) (hok : ok_L_writes σ x1 x2) : Met l yL_writes (wsA yL_writes cL_writes 9 (some .boolean)) rm_L_writes (va_Pc [.ref (G.2.1 0), .int x1, .int x2] (Wd G σ)) (va_Qi (fun r u => (u, r) = ((f_L_writes σ x1 x2).1, bI (f_L_writes σ x1 x2).2)) (PB G) (GA G)) 922 5532 (GA G) := by
  generalize hf : f_L_writes σ x1 x2 = fv
  rw [f_L_writes] at hf
  rw [ok_L_writes] at hok
  refine gm_start hG (plainFor_of_name (by decide)) (Nat.le_of_ble_eq_true rfl) ?_
  intro p e s m args below meth c X hr hlk ls hl H locs hP hS
  have X : Cx G p s m args c cL_writes 9 RL := X
  obtain ⟨hx, hb, hml, hown, hts, hK, hbs, hXW, -⟩ := id X
  have hl : lv_has ls 9 [(0, .ref (G.2.1 0)), (1, .int x1), (2, .int x2)] := hl
  refine lv_aload_n hx hb dL_writes_0 rfl (lv_at hl 0 rfl) ?_
  refine lv_iload_n hx hb dL_writes_1 rfl (lv_at hl 1 rfl) ?_
  refine lv_iload_n hx hb dL_writes_2 rfl (lv_at hl 2 rfl) ?_
  have hs1 := hok.1
  have hok := hok.2
  refine gl_rJ (mc := 2) (ms := 12) (gl_run (As := [.ref (G.2.1 0), .int x1, .int x2]) (rest := []) X (c_L_lettersOf l hfl G hG σ x1 x2 hs1) ca_L_lettersOf km_L_239 rfl rfl ⟨Nat.le_of_ble_eq_true rfl, Nat.le_of_ble_eq_true rfl⟩ hP hS rfl hl.1 rfl (Nat.le_of_ble_eq_true rfl) ⟨by show 0 + 2 ≤ 922; omega, by show 0 + 12 ≤ 5532; omega⟩ dL_writes_3) hS (fun q2 hq2 H locs hP hS => ?_)
  have hf := bnd_go hq2 hf
  have hok := bnd_goP hq2 hok
  refine lv_lstore_n (lv' := [(3, .long q2.2), (0, .ref (G.2.1 0)), (1, .int x1), (2, .int x2)]) hx hb dL_writes_6 rfl hl (by decide) rfl (fun ls hl => ?_)
  refine lv_lload_n hx hb dL_writes_7 rfl (lv_at hl 0 rfl) ?_
  refine lv_aload_n hx hb dL_writes_8 rfl (lv_at hl 1 rfl) ?_
  refine lv_iload_n hx hb dL_writes_9 rfl (lv_at hl 2 rfl) ?_
  refine lv_iload_n hx hb dL_writes_10 rfl (lv_at hl 3 rfl) ?_
  have hs3 := hok.1
  have hok := hok.2
  refine gl_rJ (mc := 2) (ms := 12) (gl_run (As := [.ref (G.2.1 0), .int x1, .int x2]) (rest := [.long q2.2]) X (c_L_lettersAgain l hfl G hG q2.1 x1 x2 hs3) ca_L_lettersAgain km_L_241 rfl rfl ⟨Nat.le_of_ble_eq_true rfl, Nat.le_of_ble_eq_true rfl⟩ hP hS rfl hl.1 rfl (Nat.le_of_ble_eq_true rfl) ⟨by show (0 + 2) + 2 ≤ 922; omega, by show (0 + 12) + 12 ≤ 5532; omega⟩ dL_writes_11) hS (fun q4 hq4 H locs hP hS => ?_)
  have hf := bnd_go hq4 hf
  have hok := bnd_goP hq4 hok
  refine W.lcmp hx hb dL_writes_14 ?_
  refine lv_if_eq (tgt := 20) hx hb dL_writes_15 (by decide) (fun hc => ?_) (fun hc => ?_)
  · have hf := ite_t hc hf
    have hok := hok.1 hc
    refine lv_lload_n hx hb dL_writes_20 rfl (lv_at hl 0 rfl) ?_
    refine lv_lconst (v := 0) hx hb dL_writes_21 (by decide) ?_
    refine W.lcmp hx hb dL_writes_22 ?_
    refine lv_if_lt (tgt := 48) hx hb dL_writes_23 (by decide) (fun hc => ?_) (fun hc => ?_)
    · have hf := ite_t hc hf
      refine lv_iconst (v := 1) hx hb dL_writes_48 (by decide) ?_
      exact gl_zret (b := true) X hr hlk rfl hP hS hf (by omega) (by omega) dL_writes_49
    · have hf := ite_f hc hf
      have hok := hok.2 hc
      refine lv_lload_n hx hb dL_writes_26 rfl (lv_at hl 0 rfl) ?_
      refine lv_ldc2 hx hb hown (hts _ kc_L_243) dL_writes_27 ?_
      refine W.lcmp hx hb dL_writes_30 ?_
      refine lv_if_gt (tgt := 48) hx hb dL_writes_31 (by decide) (fun hc => ?_) (fun hc => ?_)
      · have hf := ite_t hc hf
        refine lv_iconst (v := 1) hx hb dL_writes_48 (by decide) ?_
        exact gl_zret (b := true) X hr hlk rfl hP hS hf (by omega) (by omega) dL_writes_49
      · have hf := ite_f hc hf
        have hok := hok.2 hc
        refine lv_lload_n hx hb dL_writes_34 rfl (lv_at hl 0 rfl) ?_
        refine lv_aload_n hx hb dL_writes_35 rfl (lv_at hl 1 rfl) ?_
        refine lv_iconst (v := 2) hx hb dL_writes_36 (by decide) ?_
        have hs5 := hok.1
        have hok := hok.2
        refine gl_rJ (mc := 1) (ms := 6) (gl_run (As := [.ref (G.2.1 0), .int (2 : Int32)]) (rest := [.long q2.2]) X (c_L_account l hfl G hG q4.1 (2 : Int32) hs5) ca_L_account km_L_184 rfl rfl ⟨Nat.le_of_ble_eq_true rfl, Nat.le_of_ble_eq_true rfl⟩ hP hS rfl hl.1 rfl (Nat.le_of_ble_eq_true rfl) ⟨by show ((0 + 2) + 2) + 1 ≤ 922; omega, by show ((0 + 12) + 12) + 6 ≤ 5532; omega⟩ dL_writes_37) hS (fun q6 hq6 H locs hP hS => ?_)
        have hf := bnd_go hq6 hf
        have hok := bnd_goP hq6 hok
        refine lv_ladd hx hb dL_writes_40 ?_
        refine lv_ldc2 hx hb hown (hts _ kc_L_245) dL_writes_41 ?_
        refine W.lcmp hx hb dL_writes_44 ?_
        refine lv_if_lt (tgt := 50) hx hb dL_writes_45 (by decide) (fun hc => ?_) (fun hc => ?_)
        · have hf := ite_t hc hf
          have hok := hok.1 hc
          refine lv_aload_n hx hb dL_writes_50 rfl (lv_at hl 1 rfl) ?_
          refine gl_rJ (mc := 0) (ms := 0) (g_runS (As := [.ref (G.2.1 0)]) (rest := []) X (c_L_save l G hG q6.1) ca_L_save km_L_247 rfl rfl ⟨Nat.le_of_ble_eq_true rfl, Nat.le_of_ble_eq_true rfl⟩ hP hS rfl hl.1 rfl (Nat.le_of_ble_eq_true rfl) ⟨by show (((0 + 2) + 2) + 1) + 0 ≤ 922; omega, by show (((0 + 12) + 12) + 6) + 0 ≤ 5532; omega⟩ dL_writes_51) hS (fun q7 hq7 H locs hP hS => ?_)
          have hf := bnd_go hq7 hf
          have hok := bnd_goP hq7 hok
          refine lv_pop2_2 hx hb dL_writes_54 rfl ?_
          refine lv_aload_n hx hb dL_writes_55 rfl (lv_at hl 1 rfl) ?_
          have hs8 := hok.1
          have hok := hok.2
          refine gl_rJ (mc := 454) (ms := 2724) (g_runS (As := [.ref (G.2.1 0)]) (rest := []) X (c_L_mark l hfl G hG q7.1 hs8) ca_L_mark km_L_249 rfl rfl ⟨Nat.le_of_ble_eq_true rfl, Nat.le_of_ble_eq_true rfl⟩ hP hS rfl hl.1 rfl (Nat.le_of_ble_eq_true rfl) ⟨by show ((((0 + 2) + 2) + 1) + 0) + 454 ≤ 922; omega, by show ((((0 + 12) + 12) + 6) + 0) + 2724 ≤ 5532; omega⟩ dL_writes_56) hS (fun q9 hq9 H locs hP hS => ?_)
          have hf := bnd_go hq9 hf
          have hok := bnd_goP hq9 hok
          refine lv_lstore (lv' := [(5, .long q9.2), (3, .long q2.2), (0, .ref (G.2.1 0)), (1, .int x1), (2, .int x2)]) hx hb dL_writes_59 hl (by decide) rfl (fun ls hl => ?_)
          refine lv_lconst (v := 0) hx hb dL_writes_61 (by decide) ?_
          refine lv_lstore (lv' := [(7, .long (0 : Int64)), (5, .long q9.2), (3, .long q2.2), (0, .ref (G.2.1 0)), (1, .int x1), (2, .int x2)]) hx hb dL_writes_62 hl (by decide) rfl (fun ls hl => ?_)
          have K64 : ∀ (n64 : Nat), n64 ≤ 7 → ∀ (σ : St) (x1 : Int32) (x2 : Int32) (x3 : Int64) (x5 : Int64) (x7 : Int64), okL_writes_L64 n64 σ x1 x2 x3 x5 x7 → fL_writes_L64 n64 σ x1 x2 x3 x5 x7 = fv → ∀ (H : Heap) (locs : List Loc), va_P G.1 vcl (wl G σ) H → va_S (GA G) s.heap H locs → ∀ (ls : Array Slot), lv_has ls 9 [(0, .ref (G.2.1 0)), (1, .int x1), (2, .int x2), (3, .long x3), (5, .long x5), (7, .long x7)] → W p l e rm_L_writes s m args below meth c H locs (459 + 1 * (7 - n64)) (2754 + 6 * (7 - n64)) (MQ below (va_Qi (fun r u => (u, r) = (fv.1, bI fv.2)) (PB G) (GA G)) args s 922 5532 (GA G)) (F0 m 64 ls []) := by
            intro n64
            induction n64 with
            | zero =>
              intro _ σ x1 x2 x3 x5 x7 hok
              exact hok.elim
            | succ n64 ih64 =>
              intro hn64 σ x1 x2 x3 x5 x7 hok hf H locs hP hS ls hl
              rw [okL_writes_L64] at hok
              rw [fL_writes_L64] at hf
              refine lv_lload hx hb dL_writes_64 (lv_at hl 5 rfl) ?_
              refine lv_lload_n hx hb dL_writes_66 rfl (lv_at hl 3 rfl) ?_
              refine W.lcmp hx hb dL_writes_67 ?_
              refine lv_if_ge (tgt := 95) hx hb dL_writes_68 (by decide) (fun hc => ?_) (fun hc => ?_)
              · have hf := ite_t hc hf
                have hok := hok.1 hc
                refine lv_aload_n hx hb dL_writes_95 rfl (lv_at hl 0 rfl) ?_
                refine lv_iconst (v := 0) hx hb dL_writes_96 (by decide) ?_
                refine lv_iconst (v := 1) hx hb dL_writes_97 (by decide) ?_
                refine lv_iload_n hx hb dL_writes_98 rfl (lv_at hl 2 rfl) ?_
                refine lv_iload_n hx hb dL_writes_99 rfl (lv_at hl 1 rfl) ?_
                have hs10 := hok.1
                have hok := hok.2
                refine gl_rJ (mc := 1) (ms := 6) (gl_run (As := [.ref (G.2.1 0), .int (0 : Int32), .int (1 : Int32), .int x2, .int x1]) (rest := []) X (c_L_letter l hfl G hG σ (0 : Int32) (1 : Int32) x2 x1 hs10) ca_L_letter km_L_207 rfl rfl ⟨Nat.le_of_ble_eq_true rfl, Nat.le_of_ble_eq_true rfl⟩ hP hS rfl hl.1 rfl (Nat.le_of_ble_eq_true rfl) ⟨by show (459 + 1 * (7 - (n64 + 1))) + 1 ≤ 922; omega, by show (2754 + 6 * (7 - (n64 + 1))) + 6 ≤ 5532; omega⟩ dL_writes_100) hS (fun q11 hq11 H locs hP hS => ?_)
                have hf := bnd_go hq11 hf
                have hok := bnd_goP hq11 hok
                refine lv_ldc2 hx hb hown (hts _ kc_L_39) dL_writes_103 ?_
                refine W.lcmp hx hb dL_writes_106 ?_
                refine lv_if_ne (tgt := 114) hx hb dL_writes_107 (by decide) (fun hc => ?_) (fun hc => ?_)
                · have hf := ite_f hc hf
                  have hok := hok.2 hc
                  refine lv_iconst (v := 0) hx hb dL_writes_114 (by decide) ?_
                  refine lv_istore (lv' := [(7, .int (0 : Int32)), (0, .ref (G.2.1 0)), (1, .int x1), (2, .int x2), (3, .long x3), (5, .long x5)]) hx hb dL_writes_115 hl (by decide) rfl (fun ls hl => ?_)
                  refine lv_aload_n hx hb dL_writes_117 rfl (lv_at hl 1 rfl) ?_
                  have hs12 := hok
                  refine gl_rJ (mc := 1) (ms := 6) (gl_run (As := [.ref (G.2.1 0)]) (rest := []) X (c_L_restore l hfl G hG q11.1 hs12) ca_L_restore km_L_252 rfl rfl ⟨Nat.le_of_ble_eq_true rfl, Nat.le_of_ble_eq_true rfl⟩ hP hS rfl hl.1 rfl (Nat.le_of_ble_eq_true rfl) ⟨by show ((459 + 1 * (7 - (n64 + 1))) + 1) + 1 ≤ 922; omega, by show ((2754 + 6 * (7 - (n64 + 1))) + 6) + 6 ≤ 5532; omega⟩ dL_writes_118) hS (fun q13 hq13 H locs hP hS => ?_)
                  have hf := bnd_go hq13 hf
                  refine lv_pop2_2 hx hb dL_writes_121 rfl ?_
                  refine lv_iload hx hb dL_writes_122 (lv_at hl 0 rfl) ?_
                  refine lv_if_eq (tgt := 141) hx hb dL_writes_124 (by decide) (fun hc => ?_) (fun hc => absurd hc (by decide))
                  refine lv_iconst (v := 0) hx hb dL_writes_141 (by decide) ?_
                  exact gl_zret (b := false) X hr hlk rfl hP hS hf (by omega) (by omega) dL_writes_142
                · have hf := ite_t hc hf
                  have hok := hok.1 hc
                  refine lv_iconst (v := 1) hx hb dL_writes_110 (by decide) ?_
                  refine lv_goto (tgt := 115) hx hb dL_writes_111 (by decide) ?_
                  refine lv_istore (lv' := [(7, .int (1 : Int32)), (0, .ref (G.2.1 0)), (1, .int x1), (2, .int x2), (3, .long x3), (5, .long x5)]) hx hb dL_writes_115 hl (by decide) rfl (fun ls hl => ?_)
                  refine lv_aload_n hx hb dL_writes_117 rfl (lv_at hl 1 rfl) ?_
                  have hs14 := hok.1
                  have hok := hok.2
                  refine gl_rJ (mc := 1) (ms := 6) (gl_run (As := [.ref (G.2.1 0)]) (rest := []) X (c_L_restore l hfl G hG q11.1 hs14) ca_L_restore km_L_252 rfl rfl ⟨Nat.le_of_ble_eq_true rfl, Nat.le_of_ble_eq_true rfl⟩ hP hS rfl hl.1 rfl (Nat.le_of_ble_eq_true rfl) ⟨by show ((459 + 1 * (7 - (n64 + 1))) + 1) + 1 ≤ 922; omega, by show ((2754 + 6 * (7 - (n64 + 1))) + 6) + 6 ≤ 5532; omega⟩ dL_writes_118) hS (fun q15 hq15 H locs hP hS => ?_)
                  have hf := bnd_go hq15 hf
                  have hok := bnd_goP hq15 hok
                  refine lv_pop2_2 hx hb dL_writes_121 rfl ?_
                  refine lv_iload hx hb dL_writes_122 (lv_at hl 0 rfl) ?_
                  refine lv_if_eq (tgt := 141) hx hb dL_writes_124 (by decide) (fun hc => absurd hc (by decide)) (fun hc => ?_)
                  refine lv_aload_n hx hb dL_writes_127 rfl (lv_at hl 1 rfl) ?_
                  have hs16 := hok
                  refine gl_rJ (mc := 454) (ms := 2724) (g_runS (As := [.ref (G.2.1 0)]) (rest := []) X (c_L_mark l hfl G hG q15.1 hs16) ca_L_mark km_L_249 rfl rfl ⟨Nat.le_of_ble_eq_true rfl, Nat.le_of_ble_eq_true rfl⟩ hP hS rfl hl.1 rfl (Nat.le_of_ble_eq_true rfl) ⟨by show (((459 + 1 * (7 - (n64 + 1))) + 1) + 1) + 454 ≤ 922; omega, by show (((2754 + 6 * (7 - (n64 + 1))) + 6) + 6) + 2724 ≤ 5532; omega⟩ dL_writes_128) hS (fun q17 hq17 H locs hP hS => ?_)
                  have hf := bnd_go hq17 hf
                  refine lv_lload hx hb dL_writes_131 (lv_at hl 5 rfl) ?_
                  refine W.lcmp hx hb dL_writes_133 ?_
                  refine lv_if_ne (tgt := 141) hx hb dL_writes_134 (by decide) (fun hc => ?_) (fun hc => ?_)
                  · have hf := ite_f hc hf
                    refine lv_iconst (v := 0) hx hb dL_writes_141 (by decide) ?_
                    exact gl_zret (b := false) X hr hlk rfl hP hS hf (by omega) (by omega) dL_writes_142
                  · have hf := ite_t hc hf
                    refine lv_iconst (v := 1) hx hb dL_writes_137 (by decide) ?_
                    refine lv_goto (tgt := 142) hx hb dL_writes_138 (by decide) ?_
                    exact gl_zret (b := true) X hr hlk rfl hP hS hf (by omega) (by omega) dL_writes_142
              · have hf := ite_f hc hf
                have hok := hok.2 hc
                refine lv_aload_n hx hb dL_writes_71 rfl (lv_at hl 0 rfl) ?_
                refine lv_iconst (v := 0) hx hb dL_writes_72 (by decide) ?_
                refine lv_iconst (v := 1) hx hb dL_writes_73 (by decide) ?_
                refine lv_iload_n hx hb dL_writes_74 rfl (lv_at hl 2 rfl) ?_
                refine lv_iload_n hx hb dL_writes_75 rfl (lv_at hl 1 rfl) ?_
                have hs18 := hok.1
                have hok := hok.2
                refine gl_rJ (mc := 1) (ms := 6) (gl_run (As := [.ref (G.2.1 0), .int (0 : Int32), .int (1 : Int32), .int x2, .int x1]) (rest := []) X (c_L_letter l hfl G hG σ (0 : Int32) (1 : Int32) x2 x1 hs18) ca_L_letter km_L_207 rfl rfl ⟨Nat.le_of_ble_eq_true rfl, Nat.le_of_ble_eq_true rfl⟩ hP hS rfl hl.1 rfl (Nat.le_of_ble_eq_true rfl) ⟨by show (459 + 1 * (7 - (n64 + 1))) + 1 ≤ 922; omega, by show (2754 + 6 * (7 - (n64 + 1))) + 6 ≤ 5532; omega⟩ dL_writes_76) hS (fun q19 hq19 H locs hP hS => ?_)
                have hf := bnd_go hq19 hf
                have hok := bnd_goP hq19 hok
                refine lv_lconst (v := 0) hx hb dL_writes_79 (by decide) ?_
                refine W.lcmp hx hb dL_writes_80 ?_
                refine lv_if_ge (tgt := 86) hx hb dL_writes_81 (by decide) (fun hc => ?_) (fun hc => ?_)
                · have hf := ite_t hc hf
                  have hok := hok.1 hc
                  refine lv_lload hx hb dL_writes_86 (lv_at hl 5 rfl) ?_
                  refine lv_lconst (v := 1) hx hb dL_writes_88 (by decide) ?_
                  refine lv_ladd hx hb dL_writes_89 ?_
                  refine lv_lstore (lv' := [(7, .long (x7 + (1 : Int64))), (0, .ref (G.2.1 0)), (1, .int x1), (2, .int x2), (3, .long x3), (5, .long x5)]) hx hb dL_writes_90 hl (by decide) rfl (fun ls hl => ?_)
                  refine lv_goto (tgt := 64) hx hb dL_writes_92 (by decide) ?_
                  exact W.widen (k := 459 + 1 * (7 - n64)) (n := 2754 + 6 * (7 - n64)) (by omega) (by omega) (ih64 (by omega) q19.1 x1 x2 x3 x5 (x7 + (1 : Int64)) hok hf _ _ hP hS ls (lv_sub hl [1, 2, 3, 4, 5, 0] rfl))
                · have hf := ite_f hc hf
                  refine lv_iconst (v := 0) hx hb dL_writes_84 (by decide) ?_
                  exact gl_zret (b := false) X hr hlk rfl hP hS hf (by omega) (by omega) dL_writes_85
          exact W.widen (k := 459 + 1 * (7 - 7)) (n := 2754 + 6 * (7 - 7)) (by omega) (by omega) (K64 7 (Nat.le_refl _) q9.1 x1 x2 q2.2 q9.2 (0 : Int64) hok hf _ _ hP hS ls (lv_sub hl [3, 4, 5, 2, 1, 0] rfl))
        · have hf := ite_f hc hf
          refine lv_iconst (v := 1) hx hb dL_writes_48 (by decide) ?_
          exact gl_zret (b := true) X hr hlk rfl hP hS hf (by omega) (by omega) dL_writes_49
  · have hf := ite_f hc hf
    refine lv_iconst (v := 0) hx hb dL_writes_18 (by decide) ?_
    exact gl_zret (b := false) X hr hlk rfl hP hS hf (by omega) (by omega) dL_writes_19
def f_L_eats (σ : St) : St × Bool := (bnd (f_L_eatsIn σ) (fun q2 => (if (lg_cmp q2.2 (-4000000000000000001 : Int64)) = 0 then (bnd (f_L_prey q2.1) (fun q40 => (if (lg_cmp q40.2 (-4000000000000000001 : Int64)) = 0 then (q40.1, true) else (q40.1, false)))) else (if (lg_cmp q2.2 (1 : Int64)) < 0 then (q2.1, false) else (if (lg_cmp q2.2 (60 : Int64)) ≤ 0 then (bnd (f_L_mark q2.1) (fun q4 => (bnd (f_L_account q4.1 (9 : Int32)) (fun q6 => (bnd (f_L_pass q6.1 ((q2.2).toInt32)) (fun q8 => (if (lg_cmp q8.2 (1 : Int64)) = 0 then (bnd (f_L_account q8.1 (9 : Int32)) (fun q18 => (if (lg_cmp q18.2 (q6.2 + (1 : Int64))) = 0 then (bnd (f_L_undo q18.1) (fun q28 => (if (lg_cmp q2.2 (1 : Int64)) ≤ 0 then (bnd (f_L_mark q28.1) (fun q30 => (if (lg_cmp q30.2 q4.2) = 0 then (q30.1, true) else (q30.1, false)))) else (bnd (f_L_pass q28.1 ((q2.2).toInt32 - (1 : Int32))) (fun q32 => (if (lg_cmp q32.2 (0 : Int64)) = 0 then (bnd (f_L_undo q32.1) (fun q36 => (bnd (f_L_mark q36.1) (fun q38 => (if (lg_cmp q38.2 q4.2) = 0 then (q38.1, true) else (q38.1, false)))))) else (bnd (f_L_undo q32.1) (fun q34 => (q34.1, false))))))))) else (bnd (f_L_undo q18.1) (fun q20 => (if (lg_cmp q2.2 (1 : Int64)) ≤ 0 then (q20.1, false) else (bnd (f_L_pass q20.1 ((q2.2).toInt32 - (1 : Int32))) (fun q22 => (if (lg_cmp q22.2 (0 : Int64)) = 0 then (bnd (f_L_undo q22.1) (fun q26 => (q26.1, false))) else (bnd (f_L_undo q22.1) (fun q24 => (q24.1, false)))))))))))) else (bnd (f_L_undo q8.1) (fun q10 => (if (lg_cmp q2.2 (1 : Int64)) ≤ 0 then (q10.1, false) else (bnd (f_L_pass q10.1 ((q2.2).toInt32 - (1 : Int32))) (fun q12 => (if (lg_cmp q12.2 (0 : Int64)) = 0 then (bnd (f_L_undo q12.1) (fun q16 => (q16.1, false))) else (bnd (f_L_undo q12.1) (fun q14 => (q14.1, false)))))))))))))))) else (q2.1, false))))))
def ok_L_eats (σ : St) : Prop := (ok_L_eatsIn σ ∧ (bndP (f_L_eatsIn σ) (fun q2 => (((lg_cmp q2.2 (-4000000000000000001 : Int64)) = 0 → ok_L_prey q2.1) ∧ (¬ (lg_cmp q2.2 (-4000000000000000001 : Int64)) = 0 → (((lg_cmp q2.2 (1 : Int64)) < 0 → True) ∧ (¬ (lg_cmp q2.2 (1 : Int64)) < 0 → (((lg_cmp q2.2 (60 : Int64)) ≤ 0 → (ok_L_mark q2.1 ∧ (bndP (f_L_mark q2.1) (fun q4 => (ok_L_account q4.1 (9 : Int32) ∧ (bndP (f_L_account q4.1 (9 : Int32)) (fun q6 => (ok_L_pass q6.1 ((q2.2).toInt32) ∧ (bndP (f_L_pass q6.1 ((q2.2).toInt32)) (fun q8 => (((lg_cmp q8.2 (1 : Int64)) = 0 → (ok_L_account q8.1 (9 : Int32) ∧ (bndP (f_L_account q8.1 (9 : Int32)) (fun q18 => (((lg_cmp q18.2 (q6.2 + (1 : Int64))) = 0 → (ok_L_undo q18.1 ∧ (bndP (f_L_undo q18.1) (fun q28 => (((lg_cmp q2.2 (1 : Int64)) ≤ 0 → ok_L_mark q28.1) ∧ (¬ (lg_cmp q2.2 (1 : Int64)) ≤ 0 → (ok_L_pass q28.1 ((q2.2).toInt32 - (1 : Int32)) ∧ (bndP (f_L_pass q28.1 ((q2.2).toInt32 - (1 : Int32))) (fun q32 => (((lg_cmp q32.2 (0 : Int64)) = 0 → (ok_L_undo q32.1 ∧ (bndP (f_L_undo q32.1) (fun q36 => ok_L_mark q36.1)))) ∧ (¬ (lg_cmp q32.2 (0 : Int64)) = 0 → ok_L_undo q32.1))))))))))) ∧ (¬ (lg_cmp q18.2 (q6.2 + (1 : Int64))) = 0 → (ok_L_undo q18.1 ∧ (bndP (f_L_undo q18.1) (fun q20 => (((lg_cmp q2.2 (1 : Int64)) ≤ 0 → True) ∧ (¬ (lg_cmp q2.2 (1 : Int64)) ≤ 0 → (ok_L_pass q20.1 ((q2.2).toInt32 - (1 : Int32)) ∧ (bndP (f_L_pass q20.1 ((q2.2).toInt32 - (1 : Int32))) (fun q22 => (((lg_cmp q22.2 (0 : Int64)) = 0 → ok_L_undo q22.1) ∧ (¬ (lg_cmp q22.2 (0 : Int64)) = 0 → ok_L_undo q22.1)))))))))))))))) ∧ (¬ (lg_cmp q8.2 (1 : Int64)) = 0 → (ok_L_undo q8.1 ∧ (bndP (f_L_undo q8.1) (fun q10 => (((lg_cmp q2.2 (1 : Int64)) ≤ 0 → True) ∧ (¬ (lg_cmp q2.2 (1 : Int64)) ≤ 0 → (ok_L_pass q10.1 ((q2.2).toInt32 - (1 : Int32)) ∧ (bndP (f_L_pass q10.1 ((q2.2).toInt32 - (1 : Int32))) (fun q12 => (((lg_cmp q12.2 (0 : Int64)) = 0 → ok_L_undo q12.1) ∧ (¬ (lg_cmp q12.2 (0 : Int64)) = 0 → ok_L_undo q12.1)))))))))))))))))))))) ∧ (¬ (lg_cmp q2.2 (60 : Int64)) ≤ 0 → True)))))))))
abbrev rm_L_eats : Room := { frames := 11, cells := 915, slots := 5490, locals := 210 }
set_option maxHeartbeats 8000000 in
set_option maxRecDepth 100000 in
theorem c_L_eats (l : Launch) (hfl : l.stackTraces = false) (G : GE) (hG : Gok G) (σ : St) (hok : ok_L_eats σ) : Met l yL_eats (wsA yL_eats cL_eats 8 (some .boolean)) rm_L_eats (va_Pc [.ref (G.2.1 0)] (Wd G σ)) (va_Qi (fun r u => (u, r) = ((f_L_eats σ).1, bI (f_L_eats σ).2)) (PB G) (GA G)) 915 5490 (GA G) := by
  generalize hf : f_L_eats σ = fv
  rw [f_L_eats] at hf
  rw [ok_L_eats] at hok
  refine gm_start hG (plainFor_of_name (by decide)) (Nat.le_of_ble_eq_true rfl) ?_
  intro p e s m args below meth c X hr hlk ls hl H locs hP hS
  have X : Cx G p s m args c cL_eats 8 RL := X
  obtain ⟨hx, hb, hml, hown, hts, hK, hbs, hXW, -⟩ := id X
  have hl : lv_has ls 8 [(0, .ref (G.2.1 0))] := hl
  refine lv_aload_n hx hb dL_eats_0 rfl (lv_at hl 0 rfl) ?_
  have hs1 := hok.1
  have hok := hok.2
  refine gl_rJ (mc := 1) (ms := 6) (gl_run (As := [.ref (G.2.1 0)]) (rest := []) X (c_L_eatsIn l hfl G hG σ hs1) ca_L_eatsIn km_L_254 rfl rfl ⟨Nat.le_of_ble_eq_true rfl, Nat.le_of_ble_eq_true rfl⟩ hP hS rfl hl.1 rfl (Nat.le_of_ble_eq_true rfl) ⟨by show 0 + 1 ≤ 915; omega, by show 0 + 6 ≤ 5490; omega⟩ dL_eats_1) hS (fun q2 hq2 H locs hP hS => ?_)
  have hf := bnd_go hq2 hf
  have hok := bnd_goP hq2 hok
  refine lv_lstore_n (lv' := [(1, .long q2.2), (0, .ref (G.2.1 0))]) hx hb dL_eats_4 rfl hl (by decide) rfl (fun ls hl => ?_)
  refine lv_lload_n hx hb dL_eats_5 rfl (lv_at hl 0 rfl) ?_
  refine lv_ldc2 hx hb hown (hts _ kc_L_17) dL_eats_6 ?_
  refine W.lcmp hx hb dL_eats_9 ?_
  refine lv_if_ne (tgt := 30) hx hb dL_eats_10 (by decide) (fun hc => ?_) (fun hc => ?_)
  · have hf := ite_f hc hf
    have hok := hok.2 hc
    refine lv_lload_n hx hb dL_eats_30 rfl (lv_at hl 0 rfl) ?_
    refine lv_lconst (v := 1) hx hb dL_eats_31 (by decide) ?_
    refine W.lcmp hx hb dL_eats_32 ?_
    refine lv_if_lt (tgt := 44) hx hb dL_eats_33 (by decide) (fun hc => ?_) (fun hc => ?_)
    · have hf := ite_t hc hf
      refine lv_iconst (v := 0) hx hb dL_eats_44 (by decide) ?_
      exact gl_zret (b := false) X hr hlk rfl hP hS hf (by omega) (by omega) dL_eats_45
    · have hf := ite_f hc hf
      have hok := hok.2 hc
      refine lv_lload_n hx hb dL_eats_36 rfl (lv_at hl 0 rfl) ?_
      refine lv_ldc2 hx hb hown (hts _ kc_L_258) dL_eats_37 ?_
      refine W.lcmp hx hb dL_eats_40 ?_
      refine lv_if_le (tgt := 46) hx hb dL_eats_41 (by decide) (fun hc => ?_) (fun hc => ?_)
      · have hf := ite_t hc hf
        have hok := hok.1 hc
        refine lv_aload_n hx hb dL_eats_46 rfl (lv_at hl 1 rfl) ?_
        have hs3 := hok.1
        have hok := hok.2
        refine gl_rJ (mc := 454) (ms := 2724) (g_runS (As := [.ref (G.2.1 0)]) (rest := []) X (c_L_mark l hfl G hG q2.1 hs3) ca_L_mark km_L_249 rfl rfl ⟨Nat.le_of_ble_eq_true rfl, Nat.le_of_ble_eq_true rfl⟩ hP hS rfl hl.1 rfl (Nat.le_of_ble_eq_true rfl) ⟨by show (0 + 1) + 454 ≤ 915; omega, by show (0 + 6) + 2724 ≤ 5490; omega⟩ dL_eats_47) hS (fun q4 hq4 H locs hP hS => ?_)
        have hf := bnd_go hq4 hf
        have hok := bnd_goP hq4 hok
        refine lv_lstore_n (lv' := [(3, .long q4.2), (1, .long q2.2), (0, .ref (G.2.1 0))]) hx hb dL_eats_50 rfl hl (by decide) rfl (fun ls hl => ?_)
        refine lv_aload_n hx hb dL_eats_51 rfl (lv_at hl 2 rfl) ?_
        refine lv_bipush (v := 9) hx hb dL_eats_52 (by decide) ?_
        have hs5 := hok.1
        have hok := hok.2
        refine gl_rJ (mc := 1) (ms := 6) (gl_run (As := [.ref (G.2.1 0), .int (9 : Int32)]) (rest := []) X (c_L_account l hfl G hG q4.1 (9 : Int32) hs5) ca_L_account km_L_184 rfl rfl ⟨Nat.le_of_ble_eq_true rfl, Nat.le_of_ble_eq_true rfl⟩ hP hS rfl hl.1 rfl (Nat.le_of_ble_eq_true rfl) ⟨by show ((0 + 1) + 454) + 1 ≤ 915; omega, by show ((0 + 6) + 2724) + 6 ≤ 5490; omega⟩ dL_eats_54) hS (fun q6 hq6 H locs hP hS => ?_)
        have hf := bnd_go hq6 hf
        have hok := bnd_goP hq6 hok
        refine lv_lstore (lv' := [(5, .long q6.2), (3, .long q4.2), (1, .long q2.2), (0, .ref (G.2.1 0))]) hx hb dL_eats_57 hl (by decide) rfl (fun ls hl => ?_)
        refine lv_aload_n hx hb dL_eats_59 rfl (lv_at hl 3 rfl) ?_
        refine lv_lload_n hx hb dL_eats_60 rfl (lv_at hl 2 rfl) ?_
        refine lv_l2i (v := (q2.2).toInt32) hx hb dL_eats_61 rfl ?_
        have hs7 := hok.1
        have hok := hok.2
        refine gl_rJ (mc := 1) (ms := 6) (gl_run (As := [.ref (G.2.1 0), .int ((q2.2).toInt32)]) (rest := []) X (c_L_pass l hfl G hG q6.1 ((q2.2).toInt32) hs7) ca_L_pass km_L_237 rfl rfl ⟨Nat.le_of_ble_eq_true rfl, Nat.le_of_ble_eq_true rfl⟩ hP hS rfl hl.1 rfl (Nat.le_of_ble_eq_true rfl) ⟨by show (((0 + 1) + 454) + 1) + 1 ≤ 915; omega, by show (((0 + 6) + 2724) + 6) + 6 ≤ 5490; omega⟩ dL_eats_62) hS (fun q8 hq8 H locs hP hS => ?_)
        have hf := bnd_go hq8 hf
        have hok := bnd_goP hq8 hok
        refine lv_lconst (v := 1) hx hb dL_eats_65 (by decide) ?_
        refine W.lcmp hx hb dL_eats_66 ?_
        refine lv_if_ne (tgt := 88) hx hb dL_eats_67 (by decide) (fun hc => ?_) (fun hc => ?_)
        · have hf := ite_f hc hf
          have hok := hok.2 hc
          refine lv_iconst (v := 0) hx hb dL_eats_88 (by decide) ?_
          refine lv_istore (lv' := [(7, .int (0 : Int32)), (5, .long q6.2), (3, .long q4.2), (1, .long q2.2), (0, .ref (G.2.1 0))]) hx hb dL_eats_89 hl (by decide) rfl (fun ls hl => ?_)
          refine lv_aload_n hx hb dL_eats_91 rfl (lv_at hl 4 rfl) ?_
          have hs9 := hok.1
          have hok := hok.2
          refine gl_rJ (mc := 1) (ms := 6) (gl_run (As := [.ref (G.2.1 0)]) (rest := []) X (c_L_undo l hfl G hG q8.1 hs9) ca_L_undo km_L_260 rfl rfl ⟨Nat.le_of_ble_eq_true rfl, Nat.le_of_ble_eq_true rfl⟩ hP hS rfl hl.1 rfl (Nat.le_of_ble_eq_true rfl) ⟨by show ((((0 + 1) + 454) + 1) + 1) + 1 ≤ 915; omega, by show ((((0 + 6) + 2724) + 6) + 6) + 6 ≤ 5490; omega⟩ dL_eats_92) hS (fun q10 hq10 H locs hP hS => ?_)
          have hf := bnd_go hq10 hf
          have hok := bnd_goP hq10 hok
          refine lv_pop2_2 hx hb dL_eats_95 rfl ?_
          refine lv_lload_n hx hb dL_eats_96 rfl (lv_at hl 3 rfl) ?_
          refine lv_lconst (v := 1) hx hb dL_eats_97 (by decide) ?_
          refine W.lcmp hx hb dL_eats_98 ?_
          refine lv_if_le (tgt := 130) hx hb dL_eats_99 (by decide) (fun hc => ?_) (fun hc => ?_)
          · have hf := ite_t hc hf
            refine lv_iload hx hb dL_eats_130 (lv_at hl 0 rfl) ?_
            refine lv_if_eq (tgt := 148) hx hb dL_eats_132 (by decide) (fun hc => ?_) (fun hc => absurd hc (by decide))
            refine lv_iconst (v := 0) hx hb dL_eats_148 (by decide) ?_
            exact gl_zret (b := false) X hr hlk rfl hP hS hf (by omega) (by omega) dL_eats_149
          · have hf := ite_f hc hf
            have hok := hok.2 hc
            refine lv_iload hx hb dL_eats_102 (lv_at hl 0 rfl) ?_
            refine lv_aload_n hx hb dL_eats_104 rfl (lv_at hl 4 rfl) ?_
            refine lv_lload_n hx hb dL_eats_105 rfl (lv_at hl 3 rfl) ?_
            refine lv_l2i (v := (q2.2).toInt32) hx hb dL_eats_106 rfl ?_
            refine lv_iconst (v := 1) hx hb dL_eats_107 (by decide) ?_
            refine lv_isub hx hb dL_eats_108 ?_
            have hs11 := hok.1
            have hok := hok.2
            refine gl_rJ (mc := 1) (ms := 6) (gl_run (As := [.ref (G.2.1 0), .int ((q2.2).toInt32 - (1 : Int32))]) (rest := [.int (0 : Int32)]) X (c_L_pass l hfl G hG q10.1 ((q2.2).toInt32 - (1 : Int32)) hs11) ca_L_pass km_L_237 rfl rfl ⟨Nat.le_of_ble_eq_true rfl, Nat.le_of_ble_eq_true rfl⟩ hP hS rfl hl.1 rfl (Nat.le_of_ble_eq_true rfl) ⟨by show (((((0 + 1) + 454) + 1) + 1) + 1) + 1 ≤ 915; omega, by show (((((0 + 6) + 2724) + 6) + 6) + 6) + 6 ≤ 5490; omega⟩ dL_eats_109) hS (fun q12 hq12 H locs hP hS => ?_)
            have hf := bnd_go hq12 hf
            have hok := bnd_goP hq12 hok
            refine lv_lconst (v := 0) hx hb dL_eats_112 (by decide) ?_
            refine W.lcmp hx hb dL_eats_113 ?_
            refine lv_if_ne (tgt := 121) hx hb dL_eats_114 (by decide) (fun hc => ?_) (fun hc => ?_)
            · have hf := ite_f hc hf
              have hok := hok.2 hc
              refine lv_iconst (v := 0) hx hb dL_eats_121 (by decide) ?_
              refine lv_iand hx hb dL_eats_122 ?_
              refine lv_istore (lv' := [(7, .int ((0 : Int32) &&& (0 : Int32))), (5, .long q6.2), (3, .long q4.2), (1, .long q2.2), (0, .ref (G.2.1 0))]) hx hb dL_eats_123 hl (by decide) rfl (fun ls hl => ?_)
              refine lv_aload_n hx hb dL_eats_125 rfl (lv_at hl 4 rfl) ?_
              have hs13 := hok
              refine gl_rJ (mc := 1) (ms := 6) (gl_run (As := [.ref (G.2.1 0)]) (rest := []) X (c_L_undo l hfl G hG q12.1 hs13) ca_L_undo km_L_260 rfl rfl ⟨Nat.le_of_ble_eq_true rfl, Nat.le_of_ble_eq_true rfl⟩ hP hS rfl hl.1 rfl (Nat.le_of_ble_eq_true rfl) ⟨by show ((((((0 + 1) + 454) + 1) + 1) + 1) + 1) + 1 ≤ 915; omega, by show ((((((0 + 6) + 2724) + 6) + 6) + 6) + 6) + 6 ≤ 5490; omega⟩ dL_eats_126) hS (fun q14 hq14 H locs hP hS => ?_)
              have hf := bnd_go hq14 hf
              refine lv_pop2_2 hx hb dL_eats_129 rfl ?_
              refine lv_iload hx hb dL_eats_130 (lv_at hl 0 rfl) ?_
              refine lv_if_eq (tgt := 148) hx hb dL_eats_132 (by decide) (fun hc => ?_) (fun hc => absurd hc (by decide))
              refine lv_iconst (v := 0) hx hb dL_eats_148 (by decide) ?_
              exact gl_zret (b := false) X hr hlk rfl hP hS hf (by omega) (by omega) dL_eats_149
            · have hf := ite_t hc hf
              have hok := hok.1 hc
              refine lv_iconst (v := 1) hx hb dL_eats_117 (by decide) ?_
              refine lv_goto (tgt := 122) hx hb dL_eats_118 (by decide) ?_
              refine lv_iand hx hb dL_eats_122 ?_
              refine lv_istore (lv' := [(7, .int ((0 : Int32) &&& (1 : Int32))), (5, .long q6.2), (3, .long q4.2), (1, .long q2.2), (0, .ref (G.2.1 0))]) hx hb dL_eats_123 hl (by decide) rfl (fun ls hl => ?_)
              refine lv_aload_n hx hb dL_eats_125 rfl (lv_at hl 4 rfl) ?_
              have hs15 := hok
              refine gl_rJ (mc := 1) (ms := 6) (gl_run (As := [.ref (G.2.1 0)]) (rest := []) X (c_L_undo l hfl G hG q12.1 hs15) ca_L_undo km_L_260 rfl rfl ⟨Nat.le_of_ble_eq_true rfl, Nat.le_of_ble_eq_true rfl⟩ hP hS rfl hl.1 rfl (Nat.le_of_ble_eq_true rfl) ⟨by show ((((((0 + 1) + 454) + 1) + 1) + 1) + 1) + 1 ≤ 915; omega, by show ((((((0 + 6) + 2724) + 6) + 6) + 6) + 6) + 6 ≤ 5490; omega⟩ dL_eats_126) hS (fun q16 hq16 H locs hP hS => ?_)
              have hf := bnd_go hq16 hf
              refine lv_pop2_2 hx hb dL_eats_129 rfl ?_
              refine lv_iload hx hb dL_eats_130 (lv_at hl 0 rfl) ?_
              refine lv_if_eq (tgt := 148) hx hb dL_eats_132 (by decide) (fun hc => ?_) (fun hc => absurd hc (by decide))
              refine lv_iconst (v := 0) hx hb dL_eats_148 (by decide) ?_
              exact gl_zret (b := false) X hr hlk rfl hP hS hf (by omega) (by omega) dL_eats_149
        · have hf := ite_t hc hf
          have hok := hok.1 hc
          refine lv_aload_n hx hb dL_eats_70 rfl (lv_at hl 3 rfl) ?_
          refine lv_bipush (v := 9) hx hb dL_eats_71 (by decide) ?_
          have hs17 := hok.1
          have hok := hok.2
          refine gl_rJ (mc := 1) (ms := 6) (gl_run (As := [.ref (G.2.1 0), .int (9 : Int32)]) (rest := []) X (c_L_account l hfl G hG q8.1 (9 : Int32) hs17) ca_L_account km_L_184 rfl rfl ⟨Nat.le_of_ble_eq_true rfl, Nat.le_of_ble_eq_true rfl⟩ hP hS rfl hl.1 rfl (Nat.le_of_ble_eq_true rfl) ⟨by show ((((0 + 1) + 454) + 1) + 1) + 1 ≤ 915; omega, by show ((((0 + 6) + 2724) + 6) + 6) + 6 ≤ 5490; omega⟩ dL_eats_73) hS (fun q18 hq18 H locs hP hS => ?_)
          have hf := bnd_go hq18 hf
          have hok := bnd_goP hq18 hok
          refine lv_lload hx hb dL_eats_76 (lv_at hl 0 rfl) ?_
          refine lv_lconst (v := 1) hx hb dL_eats_78 (by decide) ?_
          refine lv_ladd hx hb dL_eats_79 ?_
          refine W.lcmp hx hb dL_eats_80 ?_
          refine lv_if_ne (tgt := 88) hx hb dL_eats_81 (by decide) (fun hc => ?_) (fun hc => ?_)
          · have hf := ite_f hc hf
            have hok := hok.2 hc
            refine lv_iconst (v := 0) hx hb dL_eats_88 (by decide) ?_
            refine lv_istore (lv' := [(7, .int (0 : Int32)), (5, .long q6.2), (3, .long q4.2), (1, .long q2.2), (0, .ref (G.2.1 0))]) hx hb dL_eats_89 hl (by decide) rfl (fun ls hl => ?_)
            refine lv_aload_n hx hb dL_eats_91 rfl (lv_at hl 4 rfl) ?_
            have hs19 := hok.1
            have hok := hok.2
            refine gl_rJ (mc := 1) (ms := 6) (gl_run (As := [.ref (G.2.1 0)]) (rest := []) X (c_L_undo l hfl G hG q18.1 hs19) ca_L_undo km_L_260 rfl rfl ⟨Nat.le_of_ble_eq_true rfl, Nat.le_of_ble_eq_true rfl⟩ hP hS rfl hl.1 rfl (Nat.le_of_ble_eq_true rfl) ⟨by show (((((0 + 1) + 454) + 1) + 1) + 1) + 1 ≤ 915; omega, by show (((((0 + 6) + 2724) + 6) + 6) + 6) + 6 ≤ 5490; omega⟩ dL_eats_92) hS (fun q20 hq20 H locs hP hS => ?_)
            have hf := bnd_go hq20 hf
            have hok := bnd_goP hq20 hok
            refine lv_pop2_2 hx hb dL_eats_95 rfl ?_
            refine lv_lload_n hx hb dL_eats_96 rfl (lv_at hl 3 rfl) ?_
            refine lv_lconst (v := 1) hx hb dL_eats_97 (by decide) ?_
            refine W.lcmp hx hb dL_eats_98 ?_
            refine lv_if_le (tgt := 130) hx hb dL_eats_99 (by decide) (fun hc => ?_) (fun hc => ?_)
            · have hf := ite_t hc hf
              refine lv_iload hx hb dL_eats_130 (lv_at hl 0 rfl) ?_
              refine lv_if_eq (tgt := 148) hx hb dL_eats_132 (by decide) (fun hc => ?_) (fun hc => absurd hc (by decide))
              refine lv_iconst (v := 0) hx hb dL_eats_148 (by decide) ?_
              exact gl_zret (b := false) X hr hlk rfl hP hS hf (by omega) (by omega) dL_eats_149
            · have hf := ite_f hc hf
              have hok := hok.2 hc
              refine lv_iload hx hb dL_eats_102 (lv_at hl 0 rfl) ?_
              refine lv_aload_n hx hb dL_eats_104 rfl (lv_at hl 4 rfl) ?_
              refine lv_lload_n hx hb dL_eats_105 rfl (lv_at hl 3 rfl) ?_
              refine lv_l2i (v := (q2.2).toInt32) hx hb dL_eats_106 rfl ?_
              refine lv_iconst (v := 1) hx hb dL_eats_107 (by decide) ?_
              refine lv_isub hx hb dL_eats_108 ?_
              have hs21 := hok.1
              have hok := hok.2
              refine gl_rJ (mc := 1) (ms := 6) (gl_run (As := [.ref (G.2.1 0), .int ((q2.2).toInt32 - (1 : Int32))]) (rest := [.int (0 : Int32)]) X (c_L_pass l hfl G hG q20.1 ((q2.2).toInt32 - (1 : Int32)) hs21) ca_L_pass km_L_237 rfl rfl ⟨Nat.le_of_ble_eq_true rfl, Nat.le_of_ble_eq_true rfl⟩ hP hS rfl hl.1 rfl (Nat.le_of_ble_eq_true rfl) ⟨by show ((((((0 + 1) + 454) + 1) + 1) + 1) + 1) + 1 ≤ 915; omega, by show ((((((0 + 6) + 2724) + 6) + 6) + 6) + 6) + 6 ≤ 5490; omega⟩ dL_eats_109) hS (fun q22 hq22 H locs hP hS => ?_)
              have hf := bnd_go hq22 hf
              have hok := bnd_goP hq22 hok
              refine lv_lconst (v := 0) hx hb dL_eats_112 (by decide) ?_
              refine W.lcmp hx hb dL_eats_113 ?_
              refine lv_if_ne (tgt := 121) hx hb dL_eats_114 (by decide) (fun hc => ?_) (fun hc => ?_)
              · have hf := ite_f hc hf
                have hok := hok.2 hc
                refine lv_iconst (v := 0) hx hb dL_eats_121 (by decide) ?_
                refine lv_iand hx hb dL_eats_122 ?_
                refine lv_istore (lv' := [(7, .int ((0 : Int32) &&& (0 : Int32))), (5, .long q6.2), (3, .long q4.2), (1, .long q2.2), (0, .ref (G.2.1 0))]) hx hb dL_eats_123 hl (by decide) rfl (fun ls hl => ?_)
                refine lv_aload_n hx hb dL_eats_125 rfl (lv_at hl 4 rfl) ?_
                have hs23 := hok
                refine gl_rJ (mc := 1) (ms := 6) (gl_run (As := [.ref (G.2.1 0)]) (rest := []) X (c_L_undo l hfl G hG q22.1 hs23) ca_L_undo km_L_260 rfl rfl ⟨Nat.le_of_ble_eq_true rfl, Nat.le_of_ble_eq_true rfl⟩ hP hS rfl hl.1 rfl (Nat.le_of_ble_eq_true rfl) ⟨by show (((((((0 + 1) + 454) + 1) + 1) + 1) + 1) + 1) + 1 ≤ 915; omega, by show (((((((0 + 6) + 2724) + 6) + 6) + 6) + 6) + 6) + 6 ≤ 5490; omega⟩ dL_eats_126) hS (fun q24 hq24 H locs hP hS => ?_)
                have hf := bnd_go hq24 hf
                refine lv_pop2_2 hx hb dL_eats_129 rfl ?_
                refine lv_iload hx hb dL_eats_130 (lv_at hl 0 rfl) ?_
                refine lv_if_eq (tgt := 148) hx hb dL_eats_132 (by decide) (fun hc => ?_) (fun hc => absurd hc (by decide))
                refine lv_iconst (v := 0) hx hb dL_eats_148 (by decide) ?_
                exact gl_zret (b := false) X hr hlk rfl hP hS hf (by omega) (by omega) dL_eats_149
              · have hf := ite_t hc hf
                have hok := hok.1 hc
                refine lv_iconst (v := 1) hx hb dL_eats_117 (by decide) ?_
                refine lv_goto (tgt := 122) hx hb dL_eats_118 (by decide) ?_
                refine lv_iand hx hb dL_eats_122 ?_
                refine lv_istore (lv' := [(7, .int ((0 : Int32) &&& (1 : Int32))), (5, .long q6.2), (3, .long q4.2), (1, .long q2.2), (0, .ref (G.2.1 0))]) hx hb dL_eats_123 hl (by decide) rfl (fun ls hl => ?_)
                refine lv_aload_n hx hb dL_eats_125 rfl (lv_at hl 4 rfl) ?_
                have hs25 := hok
                refine gl_rJ (mc := 1) (ms := 6) (gl_run (As := [.ref (G.2.1 0)]) (rest := []) X (c_L_undo l hfl G hG q22.1 hs25) ca_L_undo km_L_260 rfl rfl ⟨Nat.le_of_ble_eq_true rfl, Nat.le_of_ble_eq_true rfl⟩ hP hS rfl hl.1 rfl (Nat.le_of_ble_eq_true rfl) ⟨by show (((((((0 + 1) + 454) + 1) + 1) + 1) + 1) + 1) + 1 ≤ 915; omega, by show (((((((0 + 6) + 2724) + 6) + 6) + 6) + 6) + 6) + 6 ≤ 5490; omega⟩ dL_eats_126) hS (fun q26 hq26 H locs hP hS => ?_)
                have hf := bnd_go hq26 hf
                refine lv_pop2_2 hx hb dL_eats_129 rfl ?_
                refine lv_iload hx hb dL_eats_130 (lv_at hl 0 rfl) ?_
                refine lv_if_eq (tgt := 148) hx hb dL_eats_132 (by decide) (fun hc => ?_) (fun hc => absurd hc (by decide))
                refine lv_iconst (v := 0) hx hb dL_eats_148 (by decide) ?_
                exact gl_zret (b := false) X hr hlk rfl hP hS hf (by omega) (by omega) dL_eats_149
          · have hf := ite_t hc hf
            have hok := hok.1 hc
            refine lv_iconst (v := 1) hx hb dL_eats_84 (by decide) ?_
            refine lv_goto (tgt := 89) hx hb dL_eats_85 (by decide) ?_
            refine lv_istore (lv' := [(7, .int (1 : Int32)), (5, .long q6.2), (3, .long q4.2), (1, .long q2.2), (0, .ref (G.2.1 0))]) hx hb dL_eats_89 hl (by decide) rfl (fun ls hl => ?_)
            refine lv_aload_n hx hb dL_eats_91 rfl (lv_at hl 4 rfl) ?_
            have hs27 := hok.1
            have hok := hok.2
            refine gl_rJ (mc := 1) (ms := 6) (gl_run (As := [.ref (G.2.1 0)]) (rest := []) X (c_L_undo l hfl G hG q18.1 hs27) ca_L_undo km_L_260 rfl rfl ⟨Nat.le_of_ble_eq_true rfl, Nat.le_of_ble_eq_true rfl⟩ hP hS rfl hl.1 rfl (Nat.le_of_ble_eq_true rfl) ⟨by show (((((0 + 1) + 454) + 1) + 1) + 1) + 1 ≤ 915; omega, by show (((((0 + 6) + 2724) + 6) + 6) + 6) + 6 ≤ 5490; omega⟩ dL_eats_92) hS (fun q28 hq28 H locs hP hS => ?_)
            have hf := bnd_go hq28 hf
            have hok := bnd_goP hq28 hok
            refine lv_pop2_2 hx hb dL_eats_95 rfl ?_
            refine lv_lload_n hx hb dL_eats_96 rfl (lv_at hl 3 rfl) ?_
            refine lv_lconst (v := 1) hx hb dL_eats_97 (by decide) ?_
            refine W.lcmp hx hb dL_eats_98 ?_
            refine lv_if_le (tgt := 130) hx hb dL_eats_99 (by decide) (fun hc => ?_) (fun hc => ?_)
            · have hf := ite_t hc hf
              have hok := hok.1 hc
              refine lv_iload hx hb dL_eats_130 (lv_at hl 0 rfl) ?_
              refine lv_if_eq (tgt := 148) hx hb dL_eats_132 (by decide) (fun hc => absurd hc (by decide)) (fun hc => ?_)
              refine lv_aload_n hx hb dL_eats_135 rfl (lv_at hl 4 rfl) ?_
              have hs29 := hok
              refine gl_rJ (mc := 454) (ms := 2724) (g_runS (As := [.ref (G.2.1 0)]) (rest := []) X (c_L_mark l hfl G hG q28.1 hs29) ca_L_mark km_L_249 rfl rfl ⟨Nat.le_of_ble_eq_true rfl, Nat.le_of_ble_eq_true rfl⟩ hP hS rfl hl.1 rfl (Nat.le_of_ble_eq_true rfl) ⟨by show ((((((0 + 1) + 454) + 1) + 1) + 1) + 1) + 454 ≤ 915; omega, by show ((((((0 + 6) + 2724) + 6) + 6) + 6) + 6) + 2724 ≤ 5490; omega⟩ dL_eats_136) hS (fun q30 hq30 H locs hP hS => ?_)
              have hf := bnd_go hq30 hf
              refine lv_lload_n hx hb dL_eats_139 rfl (lv_at hl 2 rfl) ?_
              refine W.lcmp hx hb dL_eats_140 ?_
              refine lv_if_ne (tgt := 148) hx hb dL_eats_141 (by decide) (fun hc => ?_) (fun hc => ?_)
              · have hf := ite_f hc hf
                refine lv_iconst (v := 0) hx hb dL_eats_148 (by decide) ?_
                exact gl_zret (b := false) X hr hlk rfl hP hS hf (by omega) (by omega) dL_eats_149
              · have hf := ite_t hc hf
                refine lv_iconst (v := 1) hx hb dL_eats_144 (by decide) ?_
                refine lv_goto (tgt := 149) hx hb dL_eats_145 (by decide) ?_
                exact gl_zret (b := true) X hr hlk rfl hP hS hf (by omega) (by omega) dL_eats_149
            · have hf := ite_f hc hf
              have hok := hok.2 hc
              refine lv_iload hx hb dL_eats_102 (lv_at hl 0 rfl) ?_
              refine lv_aload_n hx hb dL_eats_104 rfl (lv_at hl 4 rfl) ?_
              refine lv_lload_n hx hb dL_eats_105 rfl (lv_at hl 3 rfl) ?_
              refine lv_l2i (v := (q2.2).toInt32) hx hb dL_eats_106 rfl ?_
              refine lv_iconst (v := 1) hx hb dL_eats_107 (by decide) ?_
              refine lv_isub hx hb dL_eats_108 ?_
              have hs31 := hok.1
              have hok := hok.2
              refine gl_rJ (mc := 1) (ms := 6) (gl_run (As := [.ref (G.2.1 0), .int ((q2.2).toInt32 - (1 : Int32))]) (rest := [.int (1 : Int32)]) X (c_L_pass l hfl G hG q28.1 ((q2.2).toInt32 - (1 : Int32)) hs31) ca_L_pass km_L_237 rfl rfl ⟨Nat.le_of_ble_eq_true rfl, Nat.le_of_ble_eq_true rfl⟩ hP hS rfl hl.1 rfl (Nat.le_of_ble_eq_true rfl) ⟨by show ((((((0 + 1) + 454) + 1) + 1) + 1) + 1) + 1 ≤ 915; omega, by show ((((((0 + 6) + 2724) + 6) + 6) + 6) + 6) + 6 ≤ 5490; omega⟩ dL_eats_109) hS (fun q32 hq32 H locs hP hS => ?_)
              have hf := bnd_go hq32 hf
              have hok := bnd_goP hq32 hok
              refine lv_lconst (v := 0) hx hb dL_eats_112 (by decide) ?_
              refine W.lcmp hx hb dL_eats_113 ?_
              refine lv_if_ne (tgt := 121) hx hb dL_eats_114 (by decide) (fun hc => ?_) (fun hc => ?_)
              · have hf := ite_f hc hf
                have hok := hok.2 hc
                refine lv_iconst (v := 0) hx hb dL_eats_121 (by decide) ?_
                refine lv_iand hx hb dL_eats_122 ?_
                refine lv_istore (lv' := [(7, .int ((1 : Int32) &&& (0 : Int32))), (5, .long q6.2), (3, .long q4.2), (1, .long q2.2), (0, .ref (G.2.1 0))]) hx hb dL_eats_123 hl (by decide) rfl (fun ls hl => ?_)
                refine lv_aload_n hx hb dL_eats_125 rfl (lv_at hl 4 rfl) ?_
                have hs33 := hok
                refine gl_rJ (mc := 1) (ms := 6) (gl_run (As := [.ref (G.2.1 0)]) (rest := []) X (c_L_undo l hfl G hG q32.1 hs33) ca_L_undo km_L_260 rfl rfl ⟨Nat.le_of_ble_eq_true rfl, Nat.le_of_ble_eq_true rfl⟩ hP hS rfl hl.1 rfl (Nat.le_of_ble_eq_true rfl) ⟨by show (((((((0 + 1) + 454) + 1) + 1) + 1) + 1) + 1) + 1 ≤ 915; omega, by show (((((((0 + 6) + 2724) + 6) + 6) + 6) + 6) + 6) + 6 ≤ 5490; omega⟩ dL_eats_126) hS (fun q34 hq34 H locs hP hS => ?_)
                have hf := bnd_go hq34 hf
                refine lv_pop2_2 hx hb dL_eats_129 rfl ?_
                refine lv_iload hx hb dL_eats_130 (lv_at hl 0 rfl) ?_
                refine lv_if_eq (tgt := 148) hx hb dL_eats_132 (by decide) (fun hc => ?_) (fun hc => absurd hc (by decide))
                refine lv_iconst (v := 0) hx hb dL_eats_148 (by decide) ?_
                exact gl_zret (b := false) X hr hlk rfl hP hS hf (by omega) (by omega) dL_eats_149
              · have hf := ite_t hc hf
                have hok := hok.1 hc
                refine lv_iconst (v := 1) hx hb dL_eats_117 (by decide) ?_
                refine lv_goto (tgt := 122) hx hb dL_eats_118 (by decide) ?_
                refine lv_iand hx hb dL_eats_122 ?_
                refine lv_istore (lv' := [(7, .int ((1 : Int32) &&& (1 : Int32))), (5, .long q6.2), (3, .long q4.2), (1, .long q2.2), (0, .ref (G.2.1 0))]) hx hb dL_eats_123 hl (by decide) rfl (fun ls hl => ?_)
                refine lv_aload_n hx hb dL_eats_125 rfl (lv_at hl 4 rfl) ?_
                have hs35 := hok.1
                have hok := hok.2
                refine gl_rJ (mc := 1) (ms := 6) (gl_run (As := [.ref (G.2.1 0)]) (rest := []) X (c_L_undo l hfl G hG q32.1 hs35) ca_L_undo km_L_260 rfl rfl ⟨Nat.le_of_ble_eq_true rfl, Nat.le_of_ble_eq_true rfl⟩ hP hS rfl hl.1 rfl (Nat.le_of_ble_eq_true rfl) ⟨by show (((((((0 + 1) + 454) + 1) + 1) + 1) + 1) + 1) + 1 ≤ 915; omega, by show (((((((0 + 6) + 2724) + 6) + 6) + 6) + 6) + 6) + 6 ≤ 5490; omega⟩ dL_eats_126) hS (fun q36 hq36 H locs hP hS => ?_)
                have hf := bnd_go hq36 hf
                have hok := bnd_goP hq36 hok
                refine lv_pop2_2 hx hb dL_eats_129 rfl ?_
                refine lv_iload hx hb dL_eats_130 (lv_at hl 0 rfl) ?_
                refine lv_if_eq (tgt := 148) hx hb dL_eats_132 (by decide) (fun hc => absurd hc (by decide)) (fun hc => ?_)
                refine lv_aload_n hx hb dL_eats_135 rfl (lv_at hl 4 rfl) ?_
                have hs37 := hok
                refine gl_rJ (mc := 454) (ms := 2724) (g_runS (As := [.ref (G.2.1 0)]) (rest := []) X (c_L_mark l hfl G hG q36.1 hs37) ca_L_mark km_L_249 rfl rfl ⟨Nat.le_of_ble_eq_true rfl, Nat.le_of_ble_eq_true rfl⟩ hP hS rfl hl.1 rfl (Nat.le_of_ble_eq_true rfl) ⟨by show ((((((((0 + 1) + 454) + 1) + 1) + 1) + 1) + 1) + 1) + 454 ≤ 915; omega, by show ((((((((0 + 6) + 2724) + 6) + 6) + 6) + 6) + 6) + 6) + 2724 ≤ 5490; omega⟩ dL_eats_136) hS (fun q38 hq38 H locs hP hS => ?_)
                have hf := bnd_go hq38 hf
                refine lv_lload_n hx hb dL_eats_139 rfl (lv_at hl 2 rfl) ?_
                refine W.lcmp hx hb dL_eats_140 ?_
                refine lv_if_ne (tgt := 148) hx hb dL_eats_141 (by decide) (fun hc => ?_) (fun hc => ?_)
                · have hf := ite_f hc hf
                  refine lv_iconst (v := 0) hx hb dL_eats_148 (by decide) ?_
                  exact gl_zret (b := false) X hr hlk rfl hP hS hf (by omega) (by omega) dL_eats_149
                · have hf := ite_t hc hf
                  refine lv_iconst (v := 1) hx hb dL_eats_144 (by decide) ?_
                  refine lv_goto (tgt := 149) hx hb dL_eats_145 (by decide) ?_
                  exact gl_zret (b := true) X hr hlk rfl hP hS hf (by omega) (by omega) dL_eats_149
      · have hf := ite_f hc hf
        refine lv_iconst (v := 0) hx hb dL_eats_44 (by decide) ?_
        exact gl_zret (b := false) X hr hlk rfl hP hS hf (by omega) (by omega) dL_eats_45
  · have hf := ite_t hc hf
    have hok := hok.1 hc
    refine lv_aload_n hx hb dL_eats_13 rfl (lv_at hl 1 rfl) ?_
    have hs39 := hok
    refine gl_rJ (mc := 1) (ms := 6) (gl_run (As := [.ref (G.2.1 0)]) (rest := []) X (c_L_prey l hfl G hG q2.1 hs39) ca_L_prey km_L_256 rfl rfl ⟨Nat.le_of_ble_eq_true rfl, Nat.le_of_ble_eq_true rfl⟩ hP hS rfl hl.1 rfl (Nat.le_of_ble_eq_true rfl) ⟨by show (0 + 1) + 1 ≤ 915; omega, by show (0 + 6) + 6 ≤ 5490; omega⟩ dL_eats_14) hS (fun q40 hq40 H locs hP hS => ?_)
    have hf := bnd_go hq40 hf
    refine lv_ldc2 hx hb hown (hts _ kc_L_17) dL_eats_17 ?_
    refine W.lcmp hx hb dL_eats_20 ?_
    refine lv_if_ne (tgt := 28) hx hb dL_eats_21 (by decide) (fun hc => ?_) (fun hc => ?_)
    · have hf := ite_f hc hf
      refine lv_iconst (v := 0) hx hb dL_eats_28 (by decide) ?_
      exact gl_zret (b := false) X hr hlk rfl hP hS hf (by omega) (by omega) dL_eats_29
    · have hf := ite_t hc hf
      refine lv_iconst (v := 1) hx hb dL_eats_24 (by decide) ?_
      refine lv_goto (tgt := 29) hx hb dL_eats_25 (by decide) ?_
      exact gl_zret (b := true) X hr hlk rfl hP hS hf (by omega) (by omega) dL_eats_29
