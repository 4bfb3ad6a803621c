def fL_fits_L218 : Nat → St → Int32 → Int64 → Int64 → Int32 → St × Bool
  | 0, σ, _, _, _, _ => (σ, false)
  | n218 + 1, σ, x1, x2, x4, x6 => (bnd (f_L_account σ (3 : Int32)) (fun q7 => (if 0 ≤ (lg_cmp (((x6 + (1 : Int32))).toInt64) q7.2) then (bnd (f_L_writes q7.1 (f_L_pick x1 (2 : Int32)) ((1 : Int32) + (f_L_pick (x1 >>> ((2 : Int32) &&& 31)) (40 : Int32)))) (fun q11 => (if q11.2 = true then (bnd (f_L_eats q11.1) (fun q13 => (if q13.2 = true then (q13.1, true) else (q13.1, false)))) else (q11.1, false)))) else (bnd (f_L_ranked q7.1 x6) (fun q15 => (bnd (f_L_reads q15.1 ((q15.2).toInt32)) (fun q17 => (bnd (f_L_ranked q17.1 (x6 + (1 : Int32))) (fun q20 => (bnd (f_L_reads q20.1 ((q20.2).toInt32)) (fun q22 => (if 0 ≤ (Op.cmpValue (FP.fcmp (((q17.2).toInt32).toUInt32) (((q22.2).toInt32).toUInt32)) CmpOp.g) then (fL_fits_L218 n218 q22.1 x1 x2 x4 (x6 + (1 : Int32))) else (q22.1, false)))))))))))))
def okL_fits_L218 : Nat → St → Int32 → Int64 → Int64 → Int32 → Prop
  | 0, _, _, _, _, _ => False
  | n218 + 1, σ, x1, x2, x4, x6 => (ok_L_account σ (3 : Int32) ∧ (bndP (f_L_account σ (3 : Int32)) (fun q7 => ((0 ≤ (lg_cmp (((x6 + (1 : Int32))).toInt64) q7.2) → (ok_L_pick x1 (2 : Int32) ∧ (ok_L_pick (x1 >>> ((2 : Int32) &&& 31)) (40 : Int32) ∧ (ok_L_writes q7.1 (f_L_pick x1 (2 : Int32)) ((1 : Int32) + (f_L_pick (x1 >>> ((2 : Int32) &&& 31)) (40 : Int32))) ∧ (bndP (f_L_writes q7.1 (f_L_pick x1 (2 : Int32)) ((1 : Int32) + (f_L_pick (x1 >>> ((2 : Int32) &&& 31)) (40 : Int32)))) (fun q11 => ((q11.2 = true → ok_L_eats q11.1) ∧ (q11.2 = false → True)))))))) ∧ (¬ 0 ≤ (lg_cmp (((x6 + (1 : Int32))).toInt64) q7.2) → (ok_L_ranked q7.1 x6 ∧ (bndP (f_L_ranked q7.1 x6) (fun q15 => (ok_L_reads q15.1 ((q15.2).toInt32) ∧ (bndP (f_L_reads q15.1 ((q15.2).toInt32)) (fun q17 => (vn_sni2f ((q17.2).toInt32) = false ∧ (ok_L_ranked q17.1 (x6 + (1 : Int32)) ∧ (bndP (f_L_ranked q17.1 (x6 + (1 : Int32))) (fun q20 => (ok_L_reads q20.1 ((q20.2).toInt32) ∧ (bndP (f_L_reads q20.1 ((q20.2).toInt32)) (fun q22 => (vn_sni2f ((q22.2).toInt32) = false ∧ ((0 ≤ (Op.cmpValue (FP.fcmp (((q17.2).toInt32).toUInt32) (((q22.2).toInt32).toUInt32)) CmpOp.g) → (okL_fits_L218 n218 q22.1 x1 x2 x4 (x6 + (1 : Int32)))) ∧ (¬ 0 ≤ (Op.cmpValue (FP.fcmp (((q17.2).toInt32).toUInt32) (((q22.2).toInt32).toUInt32)) CmpOp.g) → True)))))))))))))))))))))
def fL_fits_L95 : Nat → St → Int32 → Int64 → Int64 → Int32 → St × Bool
  | 0, σ, _, _, _, _ => (σ, false)
  | n95 + 1, σ, x1, x2, x4, x6 => (if (30 : Int32) ≤ x6 then (fL_fits_L218 21 σ x1 x2 x4 (0 : Int32)) else (bnd (f_L_inHole σ (x6 / (5 : Int32)) ((x6 - x6 / (5 : Int32) * (5 : Int32)) / (3 : Int32)) ((x6 - x6 / (5 : Int32) * (5 : Int32)) - ((3 : Int32) * ((x6 - x6 / (5 : Int32) * (5 : Int32)) / (3 : Int32))))) (fun q25 => (if (lg_cmp q25.2 (0 : Int64)) < 0 then (fL_fits_L95 n95 q25.1 x1 x2 x4 (x6 + (1 : Int32))) else (bnd (f_L_itemOf q25.1 ((q25.2).toInt32) (2 : Int32)) (fun q27 => (if (lg_cmp q27.2 (((x6 / (5 : Int32))).toInt64)) = 0 then (bnd (f_L_itemOf q27.1 ((q25.2).toInt32) (0 : Int32)) (fun q29 => (if (lg_cmp q29.2 ((((x6 - x6 / (5 : Int32) * (5 : Int32)) / (3 : Int32))).toInt64)) = 0 then (bnd (f_L_itemOf q29.1 ((q25.2).toInt32) (4 : Int32)) (fun q31 => (if (lg_cmp q31.2 (2 : Int64)) = 0 then (bnd (f_L_itemOf q31.1 ((q25.2).toInt32) (5 : Int32)) (fun q33 => (if (lg_cmp q33.2 ((((x6 - x6 / (5 : Int32) * (5 : Int32)) - ((3 : Int32) * ((x6 - x6 / (5 : Int32) * (5 : Int32)) / (3 : Int32))))).toInt64)) = 0 then (fL_fits_L95 n95 q33.1 x1 x2 x4 (x6 + (1 : Int32))) else (q33.1, false)))) else (q31.1, false)))) else (q29.1, false)))) else (q27.1, false))))))))
def okL_fits_L95 : Nat → St → Int32 → Int64 → Int64 → Int32 → Prop
  | 0, _, _, _, _, _ => False
  | n95 + 1, σ, x1, x2, x4, x6 => (((30 : Int32) ≤ x6 → (okL_fits_L218 21 σ x1 x2 x4 (0 : Int32))) ∧ (¬ (30 : Int32) ≤ x6 → (ok_L_inHole σ (x6 / (5 : Int32)) ((x6 - x6 / (5 : Int32) * (5 : Int32)) / (3 : Int32)) ((x6 - x6 / (5 : Int32) * (5 : Int32)) - ((3 : Int32) * ((x6 - x6 / (5 : Int32) * (5 : Int32)) / (3 : Int32)))) ∧ (bndP (f_L_inHole σ (x6 / (5 : Int32)) ((x6 - x6 / (5 : Int32) * (5 : Int32)) / (3 : Int32)) ((x6 - x6 / (5 : Int32) * (5 : Int32)) - ((3 : Int32) * ((x6 - x6 / (5 : Int32) * (5 : Int32)) / (3 : Int32))))) (fun q25 => (((lg_cmp q25.2 (0 : Int64)) < 0 → (okL_fits_L95 n95 q25.1 x1 x2 x4 (x6 + (1 : Int32)))) ∧ (¬ (lg_cmp q25.2 (0 : Int64)) < 0 → (ok_L_itemOf q25.1 ((q25.2).toInt32) (2 : Int32) ∧ (bndP (f_L_itemOf q25.1 ((q25.2).toInt32) (2 : Int32)) (fun q27 => (((lg_cmp q27.2 (((x6 / (5 : Int32))).toInt64)) = 0 → (ok_L_itemOf q27.1 ((q25.2).toInt32) (0 : Int32) ∧ (bndP (f_L_itemOf q27.1 ((q25.2).toInt32) (0 : Int32)) (fun q29 => (((lg_cmp q29.2 ((((x6 - x6 / (5 : Int32) * (5 : Int32)) / (3 : Int32))).toInt64)) = 0 → (ok_L_itemOf q29.1 ((q25.2).toInt32) (4 : Int32) ∧ (bndP (f_L_itemOf q29.1 ((q25.2).toInt32) (4 : Int32)) (fun q31 => (((lg_cmp q31.2 (2 : Int64)) = 0 → (ok_L_itemOf q31.1 ((q25.2).toInt32) (5 : Int32) ∧ (bndP (f_L_itemOf q31.1 ((q25.2).toInt32) (5 : Int32)) (fun q33 => (((lg_cmp q33.2 ((((x6 - x6 / (5 : Int32) * (5 : Int32)) - ((3 : Int32) * ((x6 - x6 / (5 : Int32) * (5 : Int32)) / (3 : Int32))))).toInt64)) = 0 → (okL_fits_L95 n95 q33.1 x1 x2 x4 (x6 + (1 : Int32)))) ∧ (¬ (lg_cmp q33.2 ((((x6 - x6 / (5 : Int32) * (5 : Int32)) - ((3 : Int32) * ((x6 - x6 / (5 : Int32) * (5 : Int32)) / (3 : Int32))))).toInt64)) = 0 → True)))))) ∧ (¬ (lg_cmp q31.2 (2 : Int64)) = 0 → True)))))) ∧ (¬ (lg_cmp q29.2 ((((x6 - x6 / (5 : Int32) * (5 : Int32)) / (3 : Int32))).toInt64)) = 0 → True)))))) ∧ (¬ (lg_cmp q27.2 (((x6 / (5 : Int32))).toInt64)) = 0 → True))))))))))))
def fL_fits_L44 : Nat → St → Int32 → Int64 → Int64 → Int32 → St × Bool
  | 0, σ, _, _, _, _ => (σ, false)
  | n44 + 1, σ, x1, x2, x4, x6 => (if (6 : Int32) ≤ x6 then (bnd (f_L_account σ (2 : Int32)) (fun q3 => (if (lg_cmp x2 q3.2) = 0 then (bnd (f_L_account q3.1 (8 : Int32)) (fun q5 => (if (lg_cmp x4 q5.2) ≤ 0 then (fL_fits_L95 31 q5.1 x1 x2 x4 (0 : Int32)) else (q5.1, false)))) else (q3.1, false)))) else (bnd (f_L_read σ x6) (fun q35 => (fL_fits_L44 n44 q35.1 x1 x2 (x4 + q35.2) (x6 + (1 : Int32))))))
def okL_fits_L44 : Nat → St → Int32 → Int64 → Int64 → Int32 → Prop
  | 0, _, _, _, _, _ => False
  | n44 + 1, σ, x1, x2, x4, x6 => (((6 : Int32) ≤ x6 → (ok_L_account σ (2 : Int32) ∧ (bndP (f_L_account σ (2 : Int32)) (fun q3 => (((lg_cmp x2 q3.2) = 0 → (ok_L_account q3.1 (8 : Int32) ∧ (bndP (f_L_account q3.1 (8 : Int32)) (fun q5 => (((lg_cmp x4 q5.2) ≤ 0 → (okL_fits_L95 31 q5.1 x1 x2 x4 (0 : Int32))) ∧ (¬ (lg_cmp x4 q5.2) ≤ 0 → True)))))) ∧ (¬ (lg_cmp x2 q3.2) = 0 → True)))))) ∧ (¬ (6 : Int32) ≤ x6 → (ok_L_read σ x6 ∧ (bndP (f_L_read σ x6) (fun q35 => (okL_fits_L44 n44 q35.1 x1 x2 (x4 + q35.2) (x6 + (1 : Int32))))))))
def fL_fits_L16 : Nat → St → Int32 → Int64 → Int32 → St × Bool
  | 0, σ, _, _, _ => (σ, false)
  | n16 + 1, σ, x1, x2, x4 => (if (10 : Int32) ≤ x4 then (fL_fits_L44 7 σ x1 x2 (0 : Int64) (0 : Int32)) else (bnd (f_L_account σ x4) (fun q37 => (fL_fits_L16 n16 q37.1 x1 (x2 + q37.2) (x4 + (1 : Int32))))))
def okL_fits_L16 : Nat → St → Int32 → Int64 → Int32 → Prop
  | 0, _, _, _, _ => False
  | n16 + 1, σ, x1, x2, x4 => (((10 : Int32) ≤ x4 → (okL_fits_L44 7 σ x1 x2 (0 : Int64) (0 : Int32))) ∧ (¬ (10 : Int32) ≤ x4 → (ok_L_account σ x4 ∧ (bndP (f_L_account σ x4) (fun q37 => (okL_fits_L16 n16 q37.1 x1 (x2 + q37.2) (x4 + (1 : Int32))))))))
def f_L_fits (σ : St) (x1 : Int32) : St × Bool := (if (lg_cmp (f_L_isWell σ) (1 : Int64)) = 0 then (fL_fits_L16 6 σ x1 (0 : Int64) (5 : Int32)) else (σ, false))
def ok_L_fits (σ : St) (x1 : Int32) : Prop := (ok_L_isWell σ ∧ (((lg_cmp (f_L_isWell σ) (1 : Int64)) = 0 → (okL_fits_L16 6 σ x1 (0 : Int64) (5 : Int32))) ∧ (¬ (lg_cmp (f_L_isWell σ) (1 : Int64)) = 0 → True)))
abbrev rm_L_fits : Room := { frames := 12, cells := 2310, slots := 13860, locals := 238 }
set_option maxHeartbeats 8000000 in
set_option maxRecDepth 100000 in
theorem c_L_fits (l : Launch) (hfl : l.stackTraces = false) (G : GE) (hG : Gok G) (σ : St) (x1 : Int32) (hok : ok_L_fits σ x1) : Met l yL_fits (wsA yL_fits cL_fits 10 (some .boolean)) rm_L_fits (va_Pc [.ref (G.2.1 0), .int x1] (Wd G σ)) (va_Qi (fun r u => (u, r) = ((f_L_fits σ x1).1, bI (f_L_fits σ x1).2)) (PB G) (GA G)) 2310 13860 (GA G) := by
  generalize hf : f_L_fits σ x1 = fv
  rw [f_L_fits] at hf
  rw [ok_L_fits] at hok
  refine gm_start hG (plainFor_of_name (by decide)) (Nat.le_of_ble_eq_true rfl) ?_
  intro p e s m args below meth c X hr hlk ls hl H locs hP hS
  have X : Cx G p s m args c cL_fits 10 RL := X
  obtain ⟨hx, hb, hml, hown, hts, hK, hbs, hXW, -⟩ := id X
  have hl : lv_has ls 10 [(0, .ref (G.2.1 0)), (1, .int x1)] := hl
  refine lv_aload_n hx hb dL_fits_0 rfl (lv_at hl 0 rfl) ?_
  have hs1 := hok.1
  have hok := hok.2
  refine g_cJp (g_runS (As := [.ref (G.2.1 0)]) (rest := []) X (c_L_isWell l G hG σ hs1) ca_L_isWell km_L_262 rfl rfl ⟨Nat.le_of_ble_eq_true rfl, Nat.le_of_ble_eq_true rfl⟩ hP hS rfl hl.1 rfl (Nat.le_of_ble_eq_true rfl) ⟨by show 0 + 0 ≤ 2310; omega, by show 0 + 0 ≤ 13860; omega⟩ dL_fits_1) hS (fun H locs hP hS => ?_)
  refine lv_lconst (v := 1) hx hb dL_fits_4 (by decide) ?_
  refine W.lcmp hx hb dL_fits_5 ?_
  refine lv_if_eq (tgt := 11) hx hb dL_fits_6 (by decide) (fun hc => ?_) (fun hc => ?_)
  · have hf := ite_t hc hf
    have hok := hok.1 hc
    refine lv_lconst (v := 0) hx hb dL_fits_11 (by decide) ?_
    refine lv_lstore_n (lv' := [(2, .long (0 : Int64)), (0, .ref (G.2.1 0)), (1, .int x1)]) hx hb dL_fits_12 rfl hl (by decide) rfl (fun ls hl => ?_)
    refine lv_iconst (v := 5) hx hb dL_fits_13 (by decide) ?_
    refine lv_istore (lv' := [(4, .int (5 : Int32)), (2, .long (0 : Int64)), (0, .ref (G.2.1 0)), (1, .int x1)]) hx hb dL_fits_14 hl (by decide) rfl (fun ls hl => ?_)
    have K16 : ∀ (n16 : Nat), n16 ≤ 6 → ∀ (σ : St) (x1 : Int32) (x2 : Int64) (x4 : Int32), okL_fits_L16 n16 σ x1 x2 x4 → fL_fits_L16 n16 σ x1 x2 x4 = fv → ∀ (H : Heap) (locs : List Loc), va_P G.1 vcl (wl G σ) H → va_S (GA G) s.heap H locs → ∀ (ls : Array Slot), lv_has ls 10 [(0, .ref (G.2.1 0)), (1, .int x1), (2, .long x2), (4, .int x4)] → W p l e rm_L_fits s m args below meth c H locs (0 + 1 * (6 - n16)) (0 + 6 * (6 - n16)) (MQ below (va_Qi (fun r u => (u, r) = (fv.1, bI fv.2)) (PB G) (GA G)) args s 2310 13860 (GA G)) (F0 m 16 ls []) := by
      intro n16
      induction n16 with
      | zero =>
        intro _ σ x1 x2 x4 hok
        exact hok.elim
      | succ n16 ih16 =>
        intro hn16 σ x1 x2 x4 hok hf H locs hP hS ls hl
        rw [okL_fits_L16] at hok
        rw [fL_fits_L16] at hf
        refine lv_iload hx hb dL_fits_16 (lv_at hl 3 rfl) ?_
        refine lv_bipush (v := 10) hx hb dL_fits_18 (by decide) ?_
        refine lv_icmp_ge (tgt := 38) hx hb dL_fits_20 (by decide) (fun hc => ?_) (fun hc => ?_)
        · have hf := ite_t hc hf
          have hok := hok.1 hc
          refine lv_lconst (v := 0) hx hb dL_fits_38 (by decide) ?_
          refine lv_lstore (lv' := [(4, .long (0 : Int64)), (0, .ref (G.2.1 0)), (1, .int x1), (2, .long x2)]) hx hb dL_fits_39 hl (by decide) rfl (fun ls hl => ?_)
          refine lv_iconst (v := 0) hx hb dL_fits_41 (by decide) ?_
          refine lv_istore (lv' := [(6, .int (0 : Int32)), (4, .long (0 : Int64)), (0, .ref (G.2.1 0)), (1, .int x1), (2, .long x2)]) hx hb dL_fits_42 hl (by decide) rfl (fun ls hl => ?_)
          have K44 : ∀ (n44 : Nat), n44 ≤ 7 → ∀ (σ : St) (x1 : Int32) (x2 : Int64) (x4 : Int64) (x6 : Int32), okL_fits_L44 n44 σ x1 x2 x4 x6 → fL_fits_L44 n44 σ x1 x2 x4 x6 = fv → ∀ (H : Heap) (locs : List Loc), va_P G.1 vcl (wl G σ) H → va_S (GA G) s.heap H locs → ∀ (ls : Array Slot), lv_has ls 10 [(0, .ref (G.2.1 0)), (1, .int x1), (2, .long x2), (4, .long x4), (6, .int x6)] → W p l e rm_L_fits s m args below meth c H locs (6 + 1 * (7 - n44)) (36 + 6 * (7 - n44)) (MQ below (va_Qi (fun r u => (u, r) = (fv.1, bI fv.2)) (PB G) (GA G)) args s 2310 13860 (GA G)) (F0 m 44 ls []) := by
            intro n44
            induction n44 with
            | zero =>
              intro _ σ x1 x2 x4 x6 hok
              exact hok.elim
            | succ n44 ih44 =>
              intro hn44 σ x1 x2 x4 x6 hok hf H locs hP hS ls hl
              rw [okL_fits_L44] at hok
              rw [fL_fits_L44] at hf
              refine lv_iload hx hb dL_fits_44 (lv_at hl 4 rfl) ?_
              refine lv_bipush (v := 6) hx hb dL_fits_46 (by decide) ?_
              refine lv_icmp_ge (tgt := 68) hx hb dL_fits_48 (by decide) (fun hc => ?_) (fun hc => ?_)
              · have hf := ite_t hc hf
                have hok := hok.1 hc
                refine lv_lload_n hx hb dL_fits_68 rfl (lv_at hl 2 rfl) ?_
                refine lv_aload_n hx hb dL_fits_69 rfl (lv_at hl 0 rfl) ?_
                refine lv_iconst (v := 2) hx hb dL_fits_70 (by decide) ?_
                have hs2 := hok.1
                have hok := hok.2
                refine gl_rJ (mc := 1) (ms := 6) (gl_run (As := [.ref (G.2.1 0), .int (2 : Int32)]) (rest := [.long x2]) X (c_L_account l hfl G hG σ (2 : Int32) hs2) ca_L_account km_L_184 rfl rfl ⟨Nat.le_of_ble_eq_true rfl, Nat.le_of_ble_eq_true rfl⟩ hP hS rfl hl.1 rfl (Nat.le_of_ble_eq_true rfl) ⟨by show (6 + 1 * (7 - (n44 + 1))) + 1 ≤ 2310; omega, by show (36 + 6 * (7 - (n44 + 1))) + 6 ≤ 13860; omega⟩ dL_fits_71) hS (fun q3 hq3 H locs hP hS => ?_)
                have hf := bnd_go hq3 hf
                have hok := bnd_goP hq3 hok
                refine W.lcmp hx hb dL_fits_74 ?_
                refine lv_if_ne (tgt := 90) hx hb dL_fits_75 (by decide) (fun hc => ?_) (fun hc => ?_)
                · have hf := ite_f hc hf
                  refine lv_iconst (v := 0) hx hb dL_fits_90 (by decide) ?_
                  exact gl_zret (b := false) X hr hlk rfl hP hS hf (by omega) (by omega) dL_fits_91
                · have hf := ite_t hc hf
                  have hok := hok.1 hc
                  refine lv_lload hx hb dL_fits_78 (lv_at hl 3 rfl) ?_
                  refine lv_aload_n hx hb dL_fits_80 rfl (lv_at hl 0 rfl) ?_
                  refine lv_bipush (v := 8) hx hb dL_fits_81 (by decide) ?_
                  have hs4 := hok.1
                  have hok := hok.2
                  refine gl_rJ (mc := 1) (ms := 6) (gl_run (As := [.ref (G.2.1 0), .int (8 : Int32)]) (rest := [.long x4]) X (c_L_account l hfl G hG q3.1 (8 : Int32) hs4) ca_L_account km_L_184 rfl rfl ⟨Nat.le_of_ble_eq_true rfl, Nat.le_of_ble_eq_true rfl⟩ hP hS rfl hl.1 rfl (Nat.le_of_ble_eq_true rfl) ⟨by show ((6 + 1 * (7 - (n44 + 1))) + 1) + 1 ≤ 2310; omega, by show ((36 + 6 * (7 - (n44 + 1))) + 6) + 6 ≤ 13860; omega⟩ dL_fits_83) hS (fun q5 hq5 H locs hP hS => ?_)
                  have hf := bnd_go hq5 hf
                  have hok := bnd_goP hq5 hok
                  refine W.lcmp hx hb dL_fits_86 ?_
                  refine lv_if_le (tgt := 92) hx hb dL_fits_87 (by decide) (fun hc => ?_) (fun hc => ?_)
                  · have hf := ite_t hc hf
                    have hok := hok.1 hc
                    refine lv_iconst (v := 0) hx hb dL_fits_92 (by decide) ?_
                    refine lv_istore (lv' := [(6, .int (0 : Int32)), (0, .ref (G.2.1 0)), (1, .int x1), (2, .long x2), (4, .long x4)]) hx hb dL_fits_93 hl (by decide) rfl (fun ls hl => ?_)
                    have K95 : ∀ (n95 : Nat), n95 ≤ 31 → ∀ (σ : St) (x1 : Int32) (x2 : Int64) (x4 : Int64) (x6 : Int32), okL_fits_L95 n95 σ x1 x2 x4 x6 → fL_fits_L95 n95 σ x1 x2 x4 x6 = fv → ∀ (H : Heap) (locs : List Loc), va_P G.1 vcl (wl G σ) H → va_S (GA G) s.heap H locs → ∀ (ls : Array Slot), lv_has ls 10 [(0, .ref (G.2.1 0)), (1, .int x1), (2, .long x2), (4, .long x4), (6, .int x6)] → W p l e rm_L_fits s m args below meth c H locs (15 + 10 * (31 - n95)) (90 + 60 * (31 - n95)) (MQ below (va_Qi (fun r u => (u, r) = (fv.1, bI fv.2)) (PB G) (GA G)) args s 2310 13860 (GA G)) (F0 m 95 ls []) := by
                      intro n95
                      induction n95 with
                      | zero =>
                        intro _ σ x1 x2 x4 x6 hok
                        exact hok.elim
                      | succ n95 ih95 =>
                        intro hn95 σ x1 x2 x4 x6 hok hf H locs hP hS ls hl
                        rw [okL_fits_L95] at hok
                        rw [fL_fits_L95] at hf
                        refine lv_iload hx hb dL_fits_95 (lv_at hl 4 rfl) ?_
                        refine lv_bipush (v := 30) hx hb dL_fits_97 (by decide) ?_
                        refine lv_icmp_ge (tgt := 215) hx hb dL_fits_99 (by decide) (fun hc => ?_) (fun hc => ?_)
                        · have hf := ite_t hc hf
                          have hok := hok.1 hc
                          refine lv_iconst (v := 0) hx hb dL_fits_215 (by decide) ?_
                          refine lv_istore (lv' := [(6, .int (0 : Int32)), (0, .ref (G.2.1 0)), (1, .int x1), (2, .long x2), (4, .long x4)]) hx hb dL_fits_216 hl (by decide) rfl (fun ls hl => ?_)
                          have K218 : ∀ (n218 : Nat), n218 ≤ 21 → ∀ (σ : St) (x1 : Int32) (x2 : Int64) (x4 : Int64) (x6 : Int32), okL_fits_L218 n218 σ x1 x2 x4 x6 → fL_fits_L218 n218 σ x1 x2 x4 x6 = fv → ∀ (H : Heap) (locs : List Loc), va_P G.1 vcl (wl G σ) H → va_S (GA G) s.heap H locs → ∀ (ls : Array Slot), lv_has ls 10 [(0, .ref (G.2.1 0)), (1, .int x1), (2, .long x2), (4, .long x4), (6, .int x6)] → W p l e rm_L_fits s m args below meth c H locs (325 + 7 * (21 - n218)) (1950 + 42 * (21 - n218)) (MQ below (va_Qi (fun r u => (u, r) = (fv.1, bI fv.2)) (PB G) (GA G)) args s 2310 13860 (GA G)) (F0 m 218 ls []) := by
                            intro n218
                            induction n218 with
                            | zero =>
                              intro _ σ x1 x2 x4 x6 hok
                              exact hok.elim
                            | succ n218 ih218 =>
                              intro hn218 σ x1 x2 x4 x6 hok hf H locs hP hS ls hl
                              rw [okL_fits_L218] at hok
                              rw [fL_fits_L218] at hf
                              refine lv_iload hx hb dL_fits_218 (lv_at hl 4 rfl) ?_
                              refine lv_iconst (v := 1) hx hb dL_fits_220 (by decide) ?_
                              refine lv_iadd hx hb dL_fits_221 ?_
                              refine lv_i2l (v := ((x6 + (1 : Int32))).toInt64) hx hb dL_fits_222 rfl ?_
                              refine lv_aload_n hx hb dL_fits_223 rfl (lv_at hl 0 rfl) ?_
                              refine lv_iconst (v := 3) hx hb dL_fits_224 (by decide) ?_
                              have hs6 := hok.1
                              have hok := hok.2
                              refine gl_rJ (mc := 1) (ms := 6) (gl_run (As := [.ref (G.2.1 0), .int (3 : Int32)]) (rest := [.long (((x6 + (1 : Int32))).toInt64)]) X (c_L_account l hfl G hG σ (3 : Int32) hs6) ca_L_account km_L_184 rfl rfl ⟨Nat.le_of_ble_eq_true rfl, Nat.le_of_ble_eq_true rfl⟩ hP hS rfl hl.1 rfl (Nat.le_of_ble_eq_true rfl) ⟨by show (325 + 7 * (21 - (n218 + 1))) + 1 ≤ 2310; omega, by show (1950 + 42 * (21 - (n218 + 1))) + 6 ≤ 13860; omega⟩ dL_fits_225) hS (fun q7 hq7 H locs hP hS => ?_)
                              have hf := bnd_go hq7 hf
                              have hok := bnd_goP hq7 hok
                              refine W.lcmp hx hb dL_fits_228 ?_
                              refine lv_if_ge (tgt := 276) hx hb dL_fits_229 (by decide) (fun hc => ?_) (fun hc => ?_)
                              · have hf := ite_t hc hf
                                have hok := hok.1 hc
                                refine lv_aload_n hx hb dL_fits_276 rfl (lv_at hl 0 rfl) ?_
                                refine lv_iload_n hx hb dL_fits_277 rfl (lv_at hl 1 rfl) ?_
                                refine lv_iconst (v := 2) hx hb dL_fits_278 (by decide) ?_
                                have hs8 := hok.1
                                have hok := hok.2
                                refine g_cIp (g_runS (As := [.int x1, .int (2 : Int32)]) (rest := [.ref (G.2.1 0)]) X (c_L_pick l G hG q7.1 x1 (2 : Int32) hs8) ca_L_pick km_L_202 rfl rfl ⟨Nat.le_of_ble_eq_true rfl, Nat.le_of_ble_eq_true rfl⟩ hP hS rfl hl.1 rfl (Nat.le_of_ble_eq_true rfl) ⟨by show ((325 + 7 * (21 - (n218 + 1))) + 1) + 0 ≤ 2310; omega, by show ((1950 + 42 * (21 - (n218 + 1))) + 6) + 0 ≤ 13860; omega⟩ dL_fits_279) hS (fun H locs hP hS => ?_)
                                refine lv_iconst (v := 1) hx hb dL_fits_282 (by decide) ?_
                                refine lv_iload_n hx hb dL_fits_283 rfl (lv_at hl 1 rfl) ?_
                                refine lv_iconst (v := 2) hx hb dL_fits_284 (by decide) ?_
                                refine lv_ishr hx hb dL_fits_285 ?_
                                refine lv_bipush (v := 40) hx hb dL_fits_286 (by decide) ?_
                                have hs9 := hok.1
                                have hok := hok.2
                                refine g_cIp (g_runS (As := [.int (x1 >>> ((2 : Int32) &&& 31)), .int (40 : Int32)]) (rest := [.int (1 : Int32), .int (f_L_pick x1 (2 : Int32)), .ref (G.2.1 0)]) X (c_L_pick l G hG q7.1 (x1 >>> ((2 : Int32) &&& 31)) (40 : Int32) hs9) ca_L_pick km_L_202 rfl rfl ⟨Nat.le_of_ble_eq_true rfl, Nat.le_of_ble_eq_true rfl⟩ hP hS rfl hl.1 rfl (Nat.le_of_ble_eq_true rfl) ⟨by show ((325 + 7 * (21 - (n218 + 1))) + 1) + 0 ≤ 2310; omega, by show ((1950 + 42 * (21 - (n218 + 1))) + 6) + 0 ≤ 13860; omega⟩ dL_fits_288) hS (fun H locs hP hS => ?_)
                                refine lv_iadd hx hb dL_fits_291 ?_
                                have hs10 := hok.1
                                have hok := hok.2
                                refine gl_rZ (mc := 922) (ms := 5532) (g_runS (As := [.ref (G.2.1 0), .int (f_L_pick x1 (2 : Int32)), .int ((1 : Int32) + (f_L_pick (x1 >>> ((2 : Int32) &&& 31)) (40 : Int32)))]) (rest := []) X (c_L_writes l hfl G hG q7.1 (f_L_pick x1 (2 : Int32)) ((1 : Int32) + (f_L_pick (x1 >>> ((2 : Int32) &&& 31)) (40 : Int32))) hs10) ca_L_writes km_L_274 rfl rfl ⟨Nat.le_of_ble_eq_true rfl, Nat.le_of_ble_eq_true rfl⟩ hP hS rfl hl.1 rfl (Nat.le_of_ble_eq_true rfl) ⟨by show ((325 + 7 * (21 - (n218 + 1))) + 1) + 922 ≤ 2310; omega, by show ((1950 + 42 * (21 - (n218 + 1))) + 6) + 5532 ≤ 13860; omega⟩ dL_fits_292) hS (fun q11 hq11 H locs hP hS => ?_)
                                have hf := bnd_go hq11 hf
                                have hok := bnd_goP hq11 hok
                                refine g_ifeqZ (tgt := 309) X dL_fits_295 (by decide) (fun hc => ?_) (fun hc => ?_)
                                · have hf := ite_z hc hf
                                  refine lv_iconst (v := 0) hx hb dL_fits_309 (by decide) ?_
                                  exact gl_zret (b := false) X hr hlk rfl hP hS hf (by omega) (by omega) dL_fits_310
                                · have hf := ite_t hc hf
                                  have hok := hok.1 hc
                                  refine lv_aload_n hx hb dL_fits_298 rfl (lv_at hl 0 rfl) ?_
                                  have hs12 := hok
                                  refine gl_rZ (mc := 915) (ms := 5490) (g_runS (As := [.ref (G.2.1 0)]) (rest := []) X (c_L_eats l hfl G hG q11.1 hs12) ca_L_eats km_L_278 rfl rfl ⟨Nat.le_of_ble_eq_true rfl, Nat.le_of_ble_eq_true rfl⟩ hP hS rfl hl.1 rfl (Nat.le_of_ble_eq_true rfl) ⟨by show (((325 + 7 * (21 - (n218 + 1))) + 1) + 922) + 915 ≤ 2310; omega, by show (((1950 + 42 * (21 - (n218 + 1))) + 6) + 5532) + 5490 ≤ 13860; omega⟩ dL_fits_299) hS (fun q13 hq13 H locs hP hS => ?_)
                                  have hf := bnd_go hq13 hf
                                  refine g_ifeqZ (tgt := 309) X dL_fits_302 (by decide) (fun hc => ?_) (fun hc => ?_)
                                  · have hf := ite_z hc hf
                                    refine lv_iconst (v := 0) hx hb dL_fits_309 (by decide) ?_
                                    exact gl_zret (b := false) X hr hlk rfl hP hS hf (by omega) (by omega) dL_fits_310
                                  · have hf := ite_t hc hf
                                    refine lv_iconst (v := 1) hx hb dL_fits_305 (by decide) ?_
                                    refine lv_goto (tgt := 310) hx hb dL_fits_306 (by decide) ?_
                                    exact gl_zret (b := true) X hr hlk rfl hP hS hf (by omega) (by omega) dL_fits_310
                              · have hf := ite_f hc hf
                                have hok := hok.2 hc
                                refine lv_aload_n hx hb dL_fits_232 rfl (lv_at hl 0 rfl) ?_
                                refine lv_aload_n hx hb dL_fits_233 rfl (lv_at hl 0 rfl) ?_
                                refine lv_iload hx hb dL_fits_234 (lv_at hl 4 rfl) ?_
                                have hs14 := hok.1
                                have hok := hok.2
                                refine gl_rJ (mc := 1) (ms := 6) (gl_run (As := [.ref (G.2.1 0), .int x6]) (rest := [.ref (G.2.1 0)]) X (c_L_ranked l hfl G hG q7.1 x6 hs14) ca_L_ranked km_L_269 rfl rfl ⟨Nat.le_of_ble_eq_true rfl, Nat.le_of_ble_eq_true rfl⟩ hP hS rfl hl.1 rfl (Nat.le_of_ble_eq_true rfl) ⟨by show ((325 + 7 * (21 - (n218 + 1))) + 1) + 1 ≤ 2310; omega, by show ((1950 + 42 * (21 - (n218 + 1))) + 6) + 6 ≤ 13860; omega⟩ dL_fits_236) hS (fun q15 hq15 H locs hP hS => ?_)
                                have hf := bnd_go hq15 hf
                                have hok := bnd_goP hq15 hok
                                refine lv_l2i (v := (q15.2).toInt32) hx hb dL_fits_239 rfl ?_
                                have hs16 := hok.1
                                have hok := hok.2
                                refine gl_rJ (mc := 2) (ms := 12) (gl_run (As := [.ref (G.2.1 0), .int ((q15.2).toInt32)]) (rest := []) X (c_L_reads l hfl G hG q15.1 ((q15.2).toInt32) hs16) ca_L_reads km_L_190 rfl rfl ⟨Nat.le_of_ble_eq_true rfl, Nat.le_of_ble_eq_true rfl⟩ hP hS rfl hl.1 rfl (Nat.le_of_ble_eq_true rfl) ⟨by show (((325 + 7 * (21 - (n218 + 1))) + 1) + 1) + 2 ≤ 2310; omega, by show (((1950 + 42 * (21 - (n218 + 1))) + 6) + 6) + 12 ≤ 13860; omega⟩ dL_fits_240) hS (fun q17 hq17 H locs hP hS => ?_)
                                have hf := bnd_go hq17 hf
                                have hok := bnd_goP hq17 hok
                                refine lv_l2i (v := (q17.2).toInt32) hx hb dL_fits_243 rfl ?_
                                have hs18 := hok.1
                                have hok := hok.2
                                refine vn_i2f (b := (q17.2).toInt32) hx hb (hml.trans hl.1.symm) hown (hts _ km_L_271) (hts _ dr_nat) (hts _ dr_sta) (hts _ dr_ini) hs18 (Nat.le_of_ble_eq_true rfl) (Nat.le_of_ble_eq_true rfl) dL_fits_244 ?_
                                refine lv_aload_n hx hb dL_fits_247 rfl (lv_at hl 0 rfl) ?_
                                refine lv_aload_n hx hb dL_fits_248 rfl (lv_at hl 0 rfl) ?_
                                refine lv_iload hx hb dL_fits_249 (lv_at hl 4 rfl) ?_
                                refine lv_iconst (v := 1) hx hb dL_fits_251 (by decide) ?_
                                refine lv_iadd hx hb dL_fits_252 ?_
                                have hs19 := hok.1
                                have hok := hok.2
                                refine gl_rJ (mc := 1) (ms := 6) (gl_run (As := [.ref (G.2.1 0), .int (x6 + (1 : Int32))]) (rest := [.ref (G.2.1 0), .float (((q17.2).toInt32).toUInt32)]) X (c_L_ranked l hfl G hG q17.1 (x6 + (1 : Int32)) hs19) ca_L_ranked km_L_269 rfl rfl ⟨Nat.le_of_ble_eq_true rfl, Nat.le_of_ble_eq_true rfl⟩ hP hS rfl hl.1 rfl (Nat.le_of_ble_eq_true rfl) ⟨by show ((((325 + 7 * (21 - (n218 + 1))) + 1) + 1) + 2) + 1 ≤ 2310; omega, by show ((((1950 + 42 * (21 - (n218 + 1))) + 6) + 6) + 12) + 6 ≤ 13860; omega⟩ dL_fits_253) hS (fun q20 hq20 H locs hP hS => ?_)
                                have hf := bnd_go hq20 hf
                                have hok := bnd_goP hq20 hok
                                refine lv_l2i (v := (q20.2).toInt32) hx hb dL_fits_256 rfl ?_
                                have hs21 := hok.1
                                have hok := hok.2
                                refine gl_rJ (mc := 2) (ms := 12) (gl_run (As := [.ref (G.2.1 0), .int ((q20.2).toInt32)]) (rest := [.float (((q17.2).toInt32).toUInt32)]) X (c_L_reads l hfl G hG q20.1 ((q20.2).toInt32) hs21) ca_L_reads km_L_190 rfl rfl ⟨Nat.le_of_ble_eq_true rfl, Nat.le_of_ble_eq_true rfl⟩ hP hS rfl hl.1 rfl (Nat.le_of_ble_eq_true rfl) ⟨by show (((((325 + 7 * (21 - (n218 + 1))) + 1) + 1) + 2) + 1) + 2 ≤ 2310; omega, by show (((((1950 + 42 * (21 - (n218 + 1))) + 6) + 6) + 12) + 6) + 12 ≤ 13860; omega⟩ dL_fits_257) hS (fun q22 hq22 H locs hP hS => ?_)
                                have hf := bnd_go hq22 hf
                                have hok := bnd_goP hq22 hok
                                refine lv_l2i (v := (q22.2).toInt32) hx hb dL_fits_260 rfl ?_
                                have hs23 := hok.1
                                have hok := hok.2
                                refine vn_i2f (b := (q22.2).toInt32) hx hb (hml.trans hl.1.symm) hown (hts _ km_L_271) (hts _ dr_nat) (hts _ dr_sta) (hts _ dr_ini) hs23 (Nat.le_of_ble_eq_true rfl) (Nat.le_of_ble_eq_true rfl) dL_fits_261 ?_
                                refine lv_fcmp hx hb dL_fits_264 ?_
                                refine lv_if_ge (tgt := 270) hx hb dL_fits_265 (by decide) (fun hc => ?_) (fun hc => ?_)
                                · have hf := ite_t hc hf
                                  have hok := hok.1 hc
                                  refine lv_iinc (v := (x6 + (1 : Int32))) (lv' := [(6, .int (x6 + (1 : Int32))), (0, .ref (G.2.1 0)), (1, .int x1), (2, .long x2), (4, .long x4)]) hx hb dL_fits_270 hl (k := 4) rfl rfl (by decide) rfl (fun ls hl => ?_)
                                  refine lv_goto (tgt := 218) hx hb dL_fits_273 (by decide) ?_
                                  exact W.widen (k := 325 + 7 * (21 - n218)) (n := 1950 + 42 * (21 - n218)) (by omega) (by omega) (ih218 (by omega) q22.1 x1 x2 x4 (x6 + (1 : Int32)) hok hf _ _ hP hS ls (lv_sub hl [1, 2, 3, 4, 0] rfl))
                                · have hf := ite_f hc hf
                                  refine lv_iconst (v := 0) hx hb dL_fits_268 (by decide) ?_
                                  exact gl_zret (b := false) X hr hlk rfl hP hS hf (by omega) (by omega) dL_fits_269
                          exact W.widen (k := 325 + 7 * (21 - 21)) (n := 1950 + 42 * (21 - 21)) (by omega) (by omega) (K218 21 (Nat.le_refl _) σ x1 x2 x4 (0 : Int32) hok hf _ _ hP hS ls (lv_sub hl [1, 2, 3, 4, 0] rfl))
                        · have hf := ite_f hc hf
                          have hok := hok.2 hc
                          refine lv_iload hx hb dL_fits_102 (lv_at hl 4 rfl) ?_
                          refine lv_iconst (v := 5) hx hb dL_fits_104 (by decide) ?_
                          refine lv_irem hx hb dL_fits_105 (by decide) ?_
                          refine lv_iconst (v := 3) hx hb dL_fits_106 (by decide) ?_
                          refine lv_idiv hx hb dL_fits_107 (by decide) ?_
                          refine lv_istore (lv' := [(7, .int ((x6 - x6 / (5 : Int32) * (5 : Int32)) / (3 : Int32))), (0, .ref (G.2.1 0)), (1, .int x1), (2, .long x2), (4, .long x4), (6, .int x6)]) hx hb dL_fits_108 hl (by decide) rfl (fun ls hl => ?_)
                          refine lv_aload_n hx hb dL_fits_110 rfl (lv_at hl 1 rfl) ?_
                          refine lv_iload hx hb dL_fits_111 (lv_at hl 5 rfl) ?_
                          refine lv_iconst (v := 5) hx hb dL_fits_113 (by decide) ?_
                          refine lv_idiv hx hb dL_fits_114 (by decide) ?_
                          refine lv_iload hx hb dL_fits_115 (lv_at hl 0 rfl) ?_
                          refine lv_iload hx hb dL_fits_117 (lv_at hl 5 rfl) ?_
                          refine lv_iconst (v := 5) hx hb dL_fits_119 (by decide) ?_
                          refine lv_irem hx hb dL_fits_120 (by decide) ?_
                          refine lv_iconst (v := 3) hx hb dL_fits_121 (by decide) ?_
                          refine lv_iload hx hb dL_fits_122 (lv_at hl 0 rfl) ?_
                          refine lv_imul hx hb dL_fits_124 ?_
                          refine lv_isub hx hb dL_fits_125 ?_
                          have hs24 := hok.1
                          have hok := hok.2
                          refine gl_rJ (mc := 2) (ms := 12) (gl_run (As := [.ref (G.2.1 0), .int (x6 / (5 : Int32)), .int ((x6 - x6 / (5 : Int32) * (5 : Int32)) / (3 : Int32)), .int ((x6 - x6 / (5 : Int32) * (5 : Int32)) - ((3 : Int32) * ((x6 - x6 / (5 : Int32) * (5 : Int32)) / (3 : Int32))))]) (rest := []) X (c_L_inHole l hfl G hG σ (x6 / (5 : Int32)) ((x6 - x6 / (5 : Int32) * (5 : Int32)) / (3 : Int32)) ((x6 - x6 / (5 : Int32) * (5 : Int32)) - ((3 : Int32) * ((x6 - x6 / (5 : Int32) * (5 : Int32)) / (3 : Int32)))) hs24) ca_L_inHole km_L_264 rfl rfl ⟨Nat.le_of_ble_eq_true rfl, Nat.le_of_ble_eq_true rfl⟩ hP hS rfl hl.1 rfl (Nat.le_of_ble_eq_true rfl) ⟨by show (15 + 10 * (31 - (n95 + 1))) + 2 ≤ 2310; omega, by show (90 + 60 * (31 - (n95 + 1))) + 12 ≤ 13860; omega⟩ dL_fits_126) hS (fun q25 hq25 H locs hP hS => ?_)
                          have hf := bnd_go hq25 hf
                          have hok := bnd_goP hq25 hok
                          refine lv_lstore (lv' := [(8, .long q25.2), (7, .int ((x6 - x6 / (5 : Int32) * (5 : Int32)) / (3 : Int32))), (0, .ref (G.2.1 0)), (1, .int x1), (2, .long x2), (4, .long x4), (6, .int x6)]) hx hb dL_fits_129 hl (by decide) rfl (fun ls hl => ?_)
                          refine lv_lload hx hb dL_fits_131 (lv_at hl 0 rfl) ?_
                          refine lv_lconst (v := 0) hx hb dL_fits_133 (by decide) ?_
                          refine W.lcmp hx hb dL_fits_134 ?_
                          refine lv_if_lt (tgt := 209) hx hb dL_fits_135 (by decide) (fun hc => ?_) (fun hc => ?_)
                          · have hf := ite_t hc hf
                            have hok := hok.1 hc
                            refine lv_iinc (v := (x6 + (1 : Int32))) (lv' := [(6, .int (x6 + (1 : Int32))), (8, .long q25.2), (7, .int ((x6 - x6 / (5 : Int32) * (5 : Int32)) / (3 : Int32))), (0, .ref (G.2.1 0)), (1, .int x1), (2, .long x2), (4, .long x4)]) hx hb dL_fits_209 hl (k := 6) rfl rfl (by decide) rfl (fun ls hl => ?_)
                            refine lv_goto (tgt := 95) hx hb dL_fits_212 (by decide) ?_
                            exact W.widen (k := 15 + 10 * (31 - n95)) (n := 90 + 60 * (31 - n95)) (by omega) (by omega) (ih95 (by omega) q25.1 x1 x2 x4 (x6 + (1 : Int32)) hok hf _ _ hP hS ls (lv_sub hl [3, 4, 5, 6, 0] rfl))
                          · have hf := ite_f hc hf
                            have hok := hok.2 hc
                            refine lv_aload_n hx hb dL_fits_138 rfl (lv_at hl 2 rfl) ?_
                            refine lv_lload hx hb dL_fits_139 (lv_at hl 0 rfl) ?_
                            refine lv_l2i (v := (q25.2).toInt32) hx hb dL_fits_141 rfl ?_
                            refine lv_iconst (v := 2) hx hb dL_fits_142 (by decide) ?_
                            have hs26 := hok.1
                            have hok := hok.2
                            refine gl_rJ (mc := 2) (ms := 12) (gl_run (As := [.ref (G.2.1 0), .int ((q25.2).toInt32), .int (2 : Int32)]) (rest := []) X (c_L_itemOf l hfl G hG q25.1 ((q25.2).toInt32) (2 : Int32) hs26) ca_L_itemOf km_L_187 rfl rfl ⟨Nat.le_of_ble_eq_true rfl, Nat.le_of_ble_eq_true rfl⟩ hP hS rfl hl.1 rfl (Nat.le_of_ble_eq_true rfl) ⟨by show ((15 + 10 * (31 - (n95 + 1))) + 2) + 2 ≤ 2310; omega, by show ((90 + 60 * (31 - (n95 + 1))) + 12) + 12 ≤ 13860; omega⟩ dL_fits_143) hS (fun q27 hq27 H locs hP hS => ?_)
                            have hf := bnd_go hq27 hf
                            have hok := bnd_goP hq27 hok
                            refine lv_iload hx hb dL_fits_146 (lv_at hl 6 rfl) ?_
                            refine lv_iconst (v := 5) hx hb dL_fits_148 (by decide) ?_
                            refine lv_idiv hx hb dL_fits_149 (by decide) ?_
                            refine lv_i2l (v := ((x6 / (5 : Int32))).toInt64) hx hb dL_fits_150 rfl ?_
                            refine W.lcmp hx hb dL_fits_151 ?_
                            refine lv_if_ne (tgt := 207) hx hb dL_fits_152 (by decide) (fun hc => ?_) (fun hc => ?_)
                            · have hf := ite_f hc hf
                              refine lv_iconst (v := 0) hx hb dL_fits_207 (by decide) ?_
                              exact gl_zret (b := false) X hr hlk rfl hP hS hf (by omega) (by omega) dL_fits_208
                            · have hf := ite_t hc hf
                              have hok := hok.1 hc
                              refine lv_aload_n hx hb dL_fits_155 rfl (lv_at hl 2 rfl) ?_
                              refine lv_lload hx hb dL_fits_156 (lv_at hl 0 rfl) ?_
                              refine lv_l2i (v := (q25.2).toInt32) hx hb dL_fits_158 rfl ?_
                              refine lv_iconst (v := 0) hx hb dL_fits_159 (by decide) ?_
                              have hs28 := hok.1
                              have hok := hok.2
                              refine gl_rJ (mc := 2) (ms := 12) (gl_run (As := [.ref (G.2.1 0), .int ((q25.2).toInt32), .int (0 : Int32)]) (rest := []) X (c_L_itemOf l hfl G hG q27.1 ((q25.2).toInt32) (0 : Int32) hs28) ca_L_itemOf km_L_187 rfl rfl ⟨Nat.le_of_ble_eq_true rfl, Nat.le_of_ble_eq_true rfl⟩ hP hS rfl hl.1 rfl (Nat.le_of_ble_eq_true rfl) ⟨by show (((15 + 10 * (31 - (n95 + 1))) + 2) + 2) + 2 ≤ 2310; omega, by show (((90 + 60 * (31 - (n95 + 1))) + 12) + 12) + 12 ≤ 13860; omega⟩ dL_fits_160) hS (fun q29 hq29 H locs hP hS => ?_)
                              have hf := bnd_go hq29 hf
                              have hok := bnd_goP hq29 hok
                              refine lv_iload hx hb dL_fits_163 (lv_at hl 1 rfl) ?_
                              refine lv_i2l (v := (((x6 - x6 / (5 : Int32) * (5 : Int32)) / (3 : Int32))).toInt64) hx hb dL_fits_165 rfl ?_
                              refine W.lcmp hx hb dL_fits_166 ?_
                              refine lv_if_ne (tgt := 207) hx hb dL_fits_167 (by decide) (fun hc => ?_) (fun hc => ?_)
                              · have hf := ite_f hc hf
                                refine lv_iconst (v := 0) hx hb dL_fits_207 (by decide) ?_
                                exact gl_zret (b := false) X hr hlk rfl hP hS hf (by omega) (by omega) dL_fits_208
                              · have hf := ite_t hc hf
                                have hok := hok.1 hc
                                refine lv_aload_n hx hb dL_fits_170 rfl (lv_at hl 2 rfl) ?_
                                refine lv_lload hx hb dL_fits_171 (lv_at hl 0 rfl) ?_
                                refine lv_l2i (v := (q25.2).toInt32) hx hb dL_fits_173 rfl ?_
                                refine lv_iconst (v := 4) hx hb dL_fits_174 (by decide) ?_
                                have hs30 := hok.1
                                have hok := hok.2
                                refine gl_rJ (mc := 2) (ms := 12) (gl_run (As := [.ref (G.2.1 0), .int ((q25.2).toInt32), .int (4 : Int32)]) (rest := []) X (c_L_itemOf l hfl G hG q29.1 ((q25.2).toInt32) (4 : Int32) hs30) ca_L_itemOf km_L_187 rfl rfl ⟨Nat.le_of_ble_eq_true rfl, Nat.le_of_ble_eq_true rfl⟩ hP hS rfl hl.1 rfl (Nat.le_of_ble_eq_true rfl) ⟨by show ((((15 + 10 * (31 - (n95 + 1))) + 2) + 2) + 2) + 2 ≤ 2310; omega, by show ((((90 + 60 * (31 - (n95 + 1))) + 12) + 12) + 12) + 12 ≤ 13860; omega⟩ dL_fits_175) hS (fun q31 hq31 H locs hP hS => ?_)
                                have hf := bnd_go hq31 hf
                                have hok := bnd_goP hq31 hok
                                refine lv_ldc2 hx hb hown (hts _ kc_L_267) dL_fits_178 ?_
                                refine W.lcmp hx hb dL_fits_181 ?_
                                refine lv_if_ne (tgt := 207) hx hb dL_fits_182 (by decide) (fun hc => ?_) (fun hc => ?_)
                                · have hf := ite_f hc hf
                                  refine lv_iconst (v := 0) hx hb dL_fits_207 (by decide) ?_
                                  exact gl_zret (b := false) X hr hlk rfl hP hS hf (by omega) (by omega) dL_fits_208
                                · have hf := ite_t hc hf
                                  have hok := hok.1 hc
                                  refine lv_aload_n hx hb dL_fits_185 rfl (lv_at hl 2 rfl) ?_
                                  refine lv_lload hx hb dL_fits_186 (lv_at hl 0 rfl) ?_
                                  refine lv_l2i (v := (q25.2).toInt32) hx hb dL_fits_188 rfl ?_
                                  refine lv_iconst (v := 5) hx hb dL_fits_189 (by decide) ?_
                                  have hs32 := hok.1
                                  have hok := hok.2
                                  refine gl_rJ (mc := 2) (ms := 12) (gl_run (As := [.ref (G.2.1 0), .int ((q25.2).toInt32), .int (5 : Int32)]) (rest := []) X (c_L_itemOf l hfl G hG q31.1 ((q25.2).toInt32) (5 : Int32) hs32) ca_L_itemOf km_L_187 rfl rfl ⟨Nat.le_of_ble_eq_true rfl, Nat.le_of_ble_eq_true rfl⟩ hP hS rfl hl.1 rfl (Nat.le_of_ble_eq_true rfl) ⟨by show (((((15 + 10 * (31 - (n95 + 1))) + 2) + 2) + 2) + 2) + 2 ≤ 2310; omega, by show (((((90 + 60 * (31 - (n95 + 1))) + 12) + 12) + 12) + 12) + 12 ≤ 13860; omega⟩ dL_fits_190) hS (fun q33 hq33 H locs hP hS => ?_)
                                  have hf := bnd_go hq33 hf
                                  have hok := bnd_goP hq33 hok
                                  refine lv_iload hx hb dL_fits_193 (lv_at hl 6 rfl) ?_
                                  refine lv_iconst (v := 5) hx hb dL_fits_195 (by decide) ?_
                                  refine lv_irem hx hb dL_fits_196 (by decide) ?_
                                  refine lv_iconst (v := 3) hx hb dL_fits_197 (by decide) ?_
                                  refine lv_iload hx hb dL_fits_198 (lv_at hl 1 rfl) ?_
                                  refine lv_imul hx hb dL_fits_200 ?_
                                  refine lv_isub hx hb dL_fits_201 ?_
                                  refine lv_i2l (v := (((x6 - x6 / (5 : Int32) * (5 : Int32)) - ((3 : Int32) * ((x6 - x6 / (5 : Int32) * (5 : Int32)) / (3 : Int32))))).toInt64) hx hb dL_fits_202 rfl ?_
                                  refine W.lcmp hx hb dL_fits_203 ?_
                                  refine lv_if_eq (tgt := 209) hx hb dL_fits_204 (by decide) (fun hc => ?_) (fun hc => ?_)
                                  · have hf := ite_t hc hf
                                    have hok := hok.1 hc
                                    refine lv_iinc (v := (x6 + (1 : Int32))) (lv' := [(6, .int (x6 + (1 : Int32))), (8, .long q25.2), (7, .int ((x6 - x6 / (5 : Int32) * (5 : Int32)) / (3 : Int32))), (0, .ref (G.2.1 0)), (1, .int x1), (2, .long x2), (4, .long x4)]) hx hb dL_fits_209 hl (k := 6) rfl rfl (by decide) rfl (fun ls hl => ?_)
                                    refine lv_goto (tgt := 95) hx hb dL_fits_212 (by decide) ?_
                                    exact W.widen (k := 15 + 10 * (31 - n95)) (n := 90 + 60 * (31 - n95)) (by omega) (by omega) (ih95 (by omega) q33.1 x1 x2 x4 (x6 + (1 : Int32)) hok hf _ _ hP hS ls (lv_sub hl [3, 4, 5, 6, 0] rfl))
                                  · have hf := ite_f hc hf
                                    refine lv_iconst (v := 0) hx hb dL_fits_207 (by decide) ?_
                                    exact gl_zret (b := false) X hr hlk rfl hP hS hf (by omega) (by omega) dL_fits_208
                    exact W.widen (k := 15 + 10 * (31 - 31)) (n := 90 + 60 * (31 - 31)) (by omega) (by omega) (K95 31 (Nat.le_refl _) q5.1 x1 x2 x4 (0 : Int32) hok hf _ _ hP hS ls (lv_sub hl [1, 2, 3, 4, 0] rfl))
                  · have hf := ite_f hc hf
                    refine lv_iconst (v := 0) hx hb dL_fits_90 (by decide) ?_
                    exact gl_zret (b := false) X hr hlk rfl hP hS hf (by omega) (by omega) dL_fits_91
              · have hf := ite_f hc hf
                have hok := hok.2 hc
                refine lv_lload hx hb dL_fits_51 (lv_at hl 3 rfl) ?_
                refine lv_aload_n hx hb dL_fits_53 rfl (lv_at hl 0 rfl) ?_
                refine lv_iload hx hb dL_fits_54 (lv_at hl 4 rfl) ?_
                have hs34 := hok.1
                have hok := hok.2
                refine gl_rJ (mc := 1) (ms := 6) (gl_run (As := [.ref (G.2.1 0), .int x6]) (rest := [.long x4]) X (c_L_read l hfl G hG σ x6 hs34) ca_L_read km_L_196 rfl rfl ⟨Nat.le_of_ble_eq_true rfl, Nat.le_of_ble_eq_true rfl⟩ hP hS rfl hl.1 rfl (Nat.le_of_ble_eq_true rfl) ⟨by show (6 + 1 * (7 - (n44 + 1))) + 1 ≤ 2310; omega, by show (36 + 6 * (7 - (n44 + 1))) + 6 ≤ 13860; omega⟩ dL_fits_56) hS (fun q35 hq35 H locs hP hS => ?_)
                have hf := bnd_go hq35 hf
                have hok := bnd_goP hq35 hok
                refine lv_ladd hx hb dL_fits_59 ?_
                refine lv_lstore (lv' := [(4, .long (x4 + q35.2)), (0, .ref (G.2.1 0)), (1, .int x1), (2, .long x2), (6, .int x6)]) hx hb dL_fits_60 hl (by decide) rfl (fun ls hl => ?_)
                refine lv_iinc (v := (x6 + (1 : Int32))) (lv' := [(6, .int (x6 + (1 : Int32))), (4, .long (x4 + q35.2)), (0, .ref (G.2.1 0)), (1, .int x1), (2, .long x2)]) hx hb dL_fits_62 hl (k := 4) rfl rfl (by decide) rfl (fun ls hl => ?_)
                refine lv_goto (tgt := 44) hx hb dL_fits_65 (by decide) ?_
                exact W.widen (k := 6 + 1 * (7 - n44)) (n := 36 + 6 * (7 - n44)) (by omega) (by omega) (ih44 (by omega) q35.1 x1 x2 (x4 + q35.2) (x6 + (1 : Int32)) hok hf _ _ hP hS ls (lv_sub hl [2, 3, 4, 1, 0] rfl))
          exact W.widen (k := 6 + 1 * (7 - 7)) (n := 36 + 6 * (7 - 7)) (by omega) (by omega) (K44 7 (Nat.le_refl _) σ x1 x2 (0 : Int64) (0 : Int32) hok hf _ _ hP hS ls (lv_sub hl [2, 3, 4, 1, 0] rfl))
        · have hf := ite_f hc hf
          have hok := hok.2 hc
          refine lv_lload_n hx hb dL_fits_23 rfl (lv_at hl 2 rfl) ?_
          refine lv_aload_n hx hb dL_fits_24 rfl (lv_at hl 0 rfl) ?_
          refine lv_iload hx hb dL_fits_25 (lv_at hl 3 rfl) ?_
          have hs36 := hok.1
          have hok := hok.2
          refine gl_rJ (mc := 1) (ms := 6) (gl_run (As := [.ref (G.2.1 0), .int x4]) (rest := [.long x2]) X (c_L_account l hfl G hG σ x4 hs36) ca_L_account km_L_184 rfl rfl ⟨Nat.le_of_ble_eq_true rfl, Nat.le_of_ble_eq_true rfl⟩ hP hS rfl hl.1 rfl (Nat.le_of_ble_eq_true rfl) ⟨by show (0 + 1 * (6 - (n16 + 1))) + 1 ≤ 2310; omega, by show (0 + 6 * (6 - (n16 + 1))) + 6 ≤ 13860; omega⟩ dL_fits_27) hS (fun q37 hq37 H locs hP hS => ?_)
          have hf := bnd_go hq37 hf
          have hok := bnd_goP hq37 hok
          refine lv_ladd hx hb dL_fits_30 ?_
          refine lv_lstore_n (lv' := [(2, .long (x2 + q37.2)), (0, .ref (G.2.1 0)), (1, .int x1), (4, .int x4)]) hx hb dL_fits_31 rfl hl (by decide) rfl (fun ls hl => ?_)
          refine lv_iinc (v := (x4 + (1 : Int32))) (lv' := [(4, .int (x4 + (1 : Int32))), (2, .long (x2 + q37.2)), (0, .ref (G.2.1 0)), (1, .int x1)]) hx hb dL_fits_32 hl (k := 3) rfl rfl (by decide) rfl (fun ls hl => ?_)
          refine lv_goto (tgt := 16) hx hb dL_fits_35 (by decide) ?_
          exact W.widen (k := 0 + 1 * (6 - n16)) (n := 0 + 6 * (6 - n16)) (by omega) (by omega) (ih16 (by omega) q37.1 x1 (x2 + q37.2) (x4 + (1 : Int32)) hok hf _ _ hP hS ls (lv_sub hl [2, 3, 1, 0] rfl))
    exact W.widen (k := 0 + 1 * (6 - 6)) (n := 0 + 6 * (6 - 6)) (by omega) (by omega) (K16 6 (Nat.le_refl _) σ x1 (0 : Int64) (5 : Int32) hok hf _ _ hP hS ls (lv_sub hl [2, 3, 1, 0] rfl))
  · have hf := ite_f hc hf
    refine lv_iconst (v := 0) hx hb dL_fits_9 (by decide) ?_
    exact gl_zret (b := false) X hr hlk rfl hP hS hf (by omega) (by omega) dL_fits_10
