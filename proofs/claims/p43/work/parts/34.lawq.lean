def fL_text_L2 : Nat → St → Nat → Int32 → St × Int64
  | 0, σ, _, _ => (σ, 0)
  | n2 + 1, σ, x1, x2 => (if (lenV x1) ≤ x2 then (bnd (f_L_run σ) (fun q3 => (q3.1, q3.2))) else (bnd (f_X9_append σ (chS x1 x2)) (fun q8 => (fL_text_L2 n2 q8.2.1 x1 (x2 + (1 : Int32))))))
def okL_text_L2 : Nat → St → Nat → Int32 → Prop
  | 0, _, _, _ => False
  | n2 + 1, σ, x1, x2 => (x1 < 19 ∧ (((lenV x1) ≤ x2 → ok_L_run σ) ∧ (¬ (lenV x1) ≤ x2 → (x1 < 19 ∧ (vp_in x2 (lenS.getD x1 0) ∧ (ok_X9_append σ (chS x1 x2) ∧ ((f_X9_append σ (chS x1 x2)).1 = 0 ∧ (bndP (f_X9_append σ (chS x1 x2)) (fun q8 => (okL_text_L2 n2 q8.2.1 x1 (x2 + (1 : Int32))))))))))))
def f_L_text (σ : St) (x1 : Nat) : St × Int64 := (fL_text_L2 61 σ x1 (0 : Int32))
def ok_L_text (σ : St) (x1 : Nat) : Prop := (okL_text_L2 61 σ x1 (0 : Int32))
abbrev rm_L_text : Room := { frames := 10, cells := 63, slots := 378, locals := 212 }
set_option maxHeartbeats 8000000 in
set_option maxRecDepth 100000 in
theorem c_L_text (l : Launch) (hfl : l.stackTraces = false) (G : GE) (hG : Gok G) (σ : St) (x1 : Nat) (hok : ok_L_text σ x1) : Met l yL_text (wsA yL_text cL_text 3 (some .long)) rm_L_text (va_Pc [.ref (G.2.1 0), .ref (G.2.2.2.2.1 x1)] (Wd G σ)) (va_Ql (fun r u => (u, r) = f_L_text σ x1) (PB G) (GA G)) 63 378 (GA G) := by
  generalize hf : f_L_text σ x1 = fv
  rw [f_L_text] at hf
  rw [ok_L_text] at hok
  refine gm_start hG (plainFor_of_name (by decide)) (Nat.le_of_ble_eq_true rfl) ?_
  intro p e s m args below meth c X hr hlk ls hl H locs hP hS
  have X : Cx G p s m args c cL_text 3 RL := X
  obtain ⟨hx, hb, hml, hown, hts, hK, hbs, hXW, -⟩ := id X
  have hl : lv_has ls 3 [(0, .ref (G.2.1 0)), (1, .ref (G.2.2.2.2.1 x1))] := hl
  refine lv_iconst (v := 0) hx hb dL_text_0 (by decide) ?_
  refine lv_istore_n (lv' := [(2, .int (0 : Int32)), (0, .ref (G.2.1 0)), (1, .ref (G.2.2.2.2.1 x1))]) hx hb dL_text_1 rfl hl (by decide) rfl (fun ls hl => ?_)
  have K2 : ∀ (n2 : Nat), n2 ≤ 61 → ∀ (σ : St) (x1 : Nat) (x2 : Int32), okL_text_L2 n2 σ x1 x2 → fL_text_L2 n2 σ x1 x2 = fv → ∀ (H : Heap) (locs : List Loc), va_P G.1 vcl (wl G σ) H → va_S (GA G) s.heap H locs → ∀ (ls : Array Slot), lv_has ls 3 [(0, .ref (G.2.1 0)), (1, .ref (G.2.2.2.2.1 x1)), (2, .int x2)] → W p l e rm_L_text s m args below meth c H locs (0 + 1 * (61 - n2)) (0 + 6 * (61 - n2)) (MQ below (va_Ql (fun r u => (u, r) = fv) (PB G) (GA G)) args s 63 378 (GA G)) (F0 m 2 ls []) := by
    intro n2
    induction n2 with
    | zero =>
      intro _ σ x1 x2 hok
      exact hok.elim
    | succ n2 ih2 =>
      intro hn2 σ x1 x2 hok hf H locs hP hS ls hl
      rw [okL_text_L2] at hok
      rw [fL_text_L2] at hf
      refine lv_iload_n hx hb dL_text_2 rfl (lv_at hl 2 rfl) ?_
      refine lv_aload_n hx hb dL_text_3 rfl (lv_at hl 1 rfl) ?_
      have hs1 := hok.1
      have hok := hok.2
      refine g_cIp (g_runVS (k := x1) (As := []) (rest := [.int x2]) X (c_J0_length l G hG σ x1 hs1) ca_J0_length_8abf5 km_L_169 rfl rfl ⟨Nat.le_of_ble_eq_true rfl, Nat.le_of_ble_eq_true rfl⟩ hP hS hs1 rfl rfl hl.1 rfl (Nat.le_of_ble_eq_true rfl) ⟨by show (0 + 1 * (61 - (n2 + 1))) + 0 ≤ 63; omega, by show (0 + 6 * (61 - (n2 + 1))) + 0 ≤ 378; omega⟩ dL_text_4) hS (fun H locs hP hS => ?_)
      refine lv_icmp_ge (tgt := 26) hx hb dL_text_7 (by decide) (fun hc => ?_) (fun hc => ?_)
      · have hf := ite_t hc hf
        have hok := hok.1 hc
        refine lv_aload_n hx hb dL_text_26 rfl (lv_at hl 0 rfl) ?_
        have hs2 := hok
        refine gl_rJ (mc := 2) (ms := 12) (gl_run (As := [.ref (G.2.1 0)]) (rest := []) X (c_L_run l hfl G hG σ hs2) ca_L_run km_L_177 rfl rfl ⟨Nat.le_of_ble_eq_true rfl, Nat.le_of_ble_eq_true rfl⟩ hP hS rfl hl.1 rfl (Nat.le_of_ble_eq_true rfl) ⟨by show (0 + 1 * (61 - (n2 + 1))) + 2 ≤ 63; omega, by show (0 + 6 * (61 - (n2 + 1))) + 12 ≤ 378; omega⟩ dL_text_27) hS (fun q3 hq3 H locs hP hS => ?_)
        have hf := bnd_go hq3 hf
        exact gl_lret X hr hlk hP hS hf (by omega) (by omega) dL_text_30
      · have hf := ite_f hc hf
        have hok := hok.2 hc
        refine lv_aload_n hx hb dL_text_10 rfl (lv_at hl 0 rfl) ?_
        refine lv_aload_n hx hb dL_text_11 rfl (lv_at hl 1 rfl) ?_
        refine lv_iload_n hx hb dL_text_12 rfl (lv_at hl 2 rfl) ?_
        have hs4 := hok.1
        have hok := hok.2
        have hs5 := hok.1
        have hok := hok.2
        refine g_cIp (g_runVS (k := x1) (As := [.int x2]) (rest := [.ref (G.2.1 0)]) X (c_J0_charAt l G hG σ x1 hs4 x2 hs5) ca_J0_charAt_5068e km_L_174 rfl rfl ⟨Nat.le_of_ble_eq_true rfl, Nat.le_of_ble_eq_true rfl⟩ hP hS hs4 rfl rfl hl.1 rfl (Nat.le_of_ble_eq_true rfl) ⟨by show (0 + 1 * (61 - (n2 + 1))) + 0 ≤ 63; omega, by show (0 + 6 * (61 - (n2 + 1))) + 0 ≤ 378; omega⟩ dL_text_13) hS (fun H locs hP hS => ?_)
        have hs6 := hok.1
        have hok := hok.2
        have hs7 := hok.1
        have hok := hok.2
        refine gl_cI (gx_runV (i := 0) (As := [.int (chS x1 x2)]) (rest := []) X (c_X9_append l hfl G hG σ (chS x1 x2) hs6) ca_X9_append km_L_130 rfl rfl ⟨Nat.le_of_ble_eq_true rfl, Nat.le_of_ble_eq_true rfl⟩ hP hS (ty_lt ab_0) (cell_9 ab_0) rfl rfl rfl hl.1 rfl (Nat.le_of_ble_eq_true rfl) ⟨by show (0 + 1 * (61 - (n2 + 1))) + 1 ≤ 63; omega, by show (0 + 6 * (61 - (n2 + 1))) + 6 ≤ 378; omega⟩ dL_text_16) hS (fun q8 hq8 hc H locs hP hS ce q9 hce hcv hcl => absurd (by rw [hq8]; exact hs7) hc) (fun q8 hq8 hc H locs hP hS => ?_)
        have hf := bnd_go hq8 hf
        have hok := bnd_goP hq8 hok
        refine lv_pop hx hb dL_text_19 rfl ?_
        refine lv_iinc (v := (x2 + (1 : Int32))) (lv' := [(2, .int (x2 + (1 : Int32))), (0, .ref (G.2.1 0)), (1, .ref (G.2.2.2.2.1 x1))]) hx hb dL_text_20 hl (k := 2) rfl rfl (by decide) rfl (fun ls hl => ?_)
        refine lv_goto (tgt := 2) hx hb dL_text_23 (by decide) ?_
        exact W.widen (k := 0 + 1 * (61 - n2)) (n := 0 + 6 * (61 - n2)) (by omega) (by omega) (ih2 (by omega) q8.2.1 x1 (x2 + (1 : Int32)) hok hf _ _ hP hS ls (lv_sub hl [1, 2, 0] rfl))
  exact W.widen (k := 0 + 1 * (61 - 61)) (n := 0 + 6 * (61 - 61)) (by omega) (by omega) (K2 61 (Nat.le_refl _) σ x1 (0 : Int32) hok hf _ _ hP hS ls (lv_sub hl [1, 2, 0] rfl))
def fL_mark_L155 : Nat → St → Int64 → Int32 → St × Int64
  | 0, σ, _, _ => (σ, 0)
  | n155 + 1, σ, x1, x3 => (if (6 : Int32) ≤ x3 then (σ, (((31 : Int64) * (((31 : Int64) * x1) + (f_L_inkNow σ))) + (f_L_hunger σ))) else (bnd (f_L_read σ x3) (fun q8 => (fL_mark_L155 n155 q8.1 (((31 : Int64) * x1) + q8.2) (x3 + (1 : Int32))))))
def okL_mark_L155 : Nat → St → Int64 → Int32 → Prop
  | 0, _, _, _ => False
  | n155 + 1, σ, x1, x3 => (((6 : Int32) ≤ x3 → True) ∧ (¬ (6 : Int32) ≤ x3 → (ok_L_read σ x3 ∧ (bndP (f_L_read σ x3) (fun q8 => (okL_mark_L155 n155 q8.1 (((31 : Int64) * x1) + q8.2) (x3 + (1 : Int32))))))))
def fL_mark_L124 : Nat → St → Int64 → Int32 → St × Int64
  | 0, σ, _, _ => (σ, 0)
  | n124 + 1, σ, x1, x3 => (bnd (f_L_account σ (4 : Int32)) (fun q6 => (if 0 ≤ (lg_cmp ((x3).toInt64) q6.2) then (fL_mark_L155 7 q6.1 x1 (0 : Int32)) else (bnd (f_L_firmness q6.1 x3) (fun q10 => (fL_mark_L124 n124 q10.1 (((31 : Int64) * x1) + q10.2) (x3 + (1 : Int32))))))))
def okL_mark_L124 : Nat → St → Int64 → Int32 → Prop
  | 0, _, _, _ => False
  | n124 + 1, σ, x1, x3 => (ok_L_account σ (4 : Int32) ∧ (bndP (f_L_account σ (4 : Int32)) (fun q6 => ((0 ≤ (lg_cmp ((x3).toInt64) q6.2) → (okL_mark_L155 7 q6.1 x1 (0 : Int32))) ∧ (¬ 0 ≤ (lg_cmp ((x3).toInt64) q6.2) → (ok_L_firmness q6.1 x3 ∧ (bndP (f_L_firmness q6.1 x3) (fun q10 => (okL_mark_L124 n124 q10.1 (((31 : Int64) * x1) + q10.2) (x3 + (1 : Int32)))))))))))
def fL_mark_L93 : Nat → St → Int64 → Int32 → St × Int64
  | 0, σ, _, _ => (σ, 0)
  | n93 + 1, σ, x1, x3 => (bnd (f_L_account σ (1 : Int32)) (fun q4 => (if 0 ≤ (lg_cmp ((x3).toInt64) q4.2) then (fL_mark_L124 6 q4.1 x1 (0 : Int32)) else (bnd (f_L_crayonOf q4.1 x3) (fun q12 => (fL_mark_L93 n93 q12.1 (((31 : Int64) * x1) + q12.2) (x3 + (1 : Int32))))))))
def okL_mark_L93 : Nat → St → Int64 → Int32 → Prop
  | 0, _, _, _ => False
  | n93 + 1, σ, x1, x3 => (ok_L_account σ (1 : Int32) ∧ (bndP (f_L_account σ (1 : Int32)) (fun q4 => ((0 ≤ (lg_cmp ((x3).toInt64) q4.2) → (okL_mark_L124 6 q4.1 x1 (0 : Int32))) ∧ (¬ 0 ≤ (lg_cmp ((x3).toInt64) q4.2) → (ok_L_crayonOf q4.1 x3 ∧ (bndP (f_L_crayonOf q4.1 x3) (fun q12 => (okL_mark_L93 n93 q12.1 (((31 : Int64) * x1) + q12.2) (x3 + (1 : Int32)))))))))))
def fL_mark_L46 (k32 : St → Int64 → Int32 → St × Int64) : Nat → St → Int64 → Int32 → Int32 → St × Int64
  | 0, σ, _, _, _ => (σ, 0)
  | n46 + 1, σ, x1, x3, x4 => (if (7 : Int32) ≤ x4 then (bnd (f_L_reads σ x3) (fun q14 => (k32 q14.1 (((31 : Int64) * x1) + q14.2) (x3 + (1 : Int32))))) else (bnd (f_L_itemOf σ x3 x4) (fun q16 => (fL_mark_L46 k32 n46 q16.1 (((31 : Int64) * x1) + q16.2) x3 (x4 + (1 : Int32))))))
def okL_mark_L46 (k32 : St → Int64 → Int32 → Prop) : Nat → St → Int64 → Int32 → Int32 → Prop
  | 0, _, _, _, _ => False
  | n46 + 1, σ, x1, x3, x4 => (((7 : Int32) ≤ x4 → (ok_L_reads σ x3 ∧ (bndP (f_L_reads σ x3) (fun q14 => (k32 q14.1 (((31 : Int64) * x1) + q14.2) (x3 + (1 : Int32))))))) ∧ (¬ (7 : Int32) ≤ x4 → (ok_L_itemOf σ x3 x4 ∧ (bndP (f_L_itemOf σ x3 x4) (fun q16 => (okL_mark_L46 k32 n46 q16.1 (((31 : Int64) * x1) + q16.2) x3 (x4 + (1 : Int32))))))))
def fL_mark_L32 : Nat → St → Int64 → Int32 → St × Int64
  | 0, σ, _, _ => (σ, 0)
  | n32 + 1, σ, x1, x3 => (bnd (f_L_account σ (2 : Int32)) (fun q2 => (if 0 ≤ (lg_cmp ((x3).toInt64) q2.2) then (fL_mark_L93 9 q2.1 x1 (0 : Int32)) else (fL_mark_L46 (fun σ x1 x3 => fL_mark_L32 n32 σ x1 x3) 8 q2.1 x1 x3 (0 : Int32)))))
def okL_mark_L32 : Nat → St → Int64 → Int32 → Prop
  | 0, _, _, _ => False
  | n32 + 1, σ, x1, x3 => (ok_L_account σ (2 : Int32) ∧ (bndP (f_L_account σ (2 : Int32)) (fun q2 => ((0 ≤ (lg_cmp ((x3).toInt64) q2.2) → (okL_mark_L93 9 q2.1 x1 (0 : Int32))) ∧ (¬ 0 ≤ (lg_cmp ((x3).toInt64) q2.2) → (okL_mark_L46 (fun σ x1 x3 => okL_mark_L32 n32 σ x1 x3) 8 q2.1 x1 x3 (0 : Int32)))))))
def fL_mark_L6 : Nat → St → Int64 → Int32 → St × Int64
  | 0, σ, _, _ => (σ, 0)
  | n6 + 1, σ, x1, x3 => (if (13 : Int32) ≤ x3 then (fL_mark_L32 21 σ x1 (0 : Int32)) else (bnd (f_L_account σ x3) (fun q18 => (fL_mark_L6 n6 q18.1 (((31 : Int64) * x1) + q18.2) (x3 + (1 : Int32))))))
def okL_mark_L6 : Nat → St → Int64 → Int32 → Prop
  | 0, _, _, _ => False
  | n6 + 1, σ, x1, x3 => (((13 : Int32) ≤ x3 → (okL_mark_L32 21 σ x1 (0 : Int32))) ∧ (¬ (13 : Int32) ≤ x3 → (ok_L_account σ x3 ∧ (bndP (f_L_account σ x3) (fun q18 => (okL_mark_L6 n6 q18.1 (((31 : Int64) * x1) + q18.2) (x3 + (1 : Int32))))))))
def f_L_mark (σ : St) : St × Int64 := (fL_mark_L6 14 σ (17 : Int64) (0 : Int32))
def ok_L_mark (σ : St) : Prop := (okL_mark_L6 14 σ (17 : Int64) (0 : Int32))
abbrev rm_L_mark : Room := { frames := 10, cells := 454, slots := 2724, locals := 186 }
set_option maxHeartbeats 8000000 in
set_option maxRecDepth 100000 in
theorem c_L_mark (l : Launch) (hfl : l.stackTraces = false) (G : GE) (hG : Gok G) (σ : St) (hok : ok_L_mark σ) : Met l yL_mark (wsA yL_mark cL_mark 5 (some .long)) rm_L_mark (va_Pc [.ref (G.2.1 0)] (Wd G σ)) (va_Ql (fun r u => (u, r) = f_L_mark σ) (PB G) (GA G)) 454 2724 (GA G) := by
  generalize hf : f_L_mark σ = fv
  rw [f_L_mark] at hf
  rw [ok_L_mark] at hok
  refine gm_start hG (plainFor_of_name (by decide)) (Nat.le_of_ble_eq_true rfl) ?_
  intro p e s m args below meth c X hr hlk ls hl H locs hP hS
  have X : Cx G p s m args c cL_mark 5 RL := X
  obtain ⟨hx, hb, hml, hown, hts, hK, hbs, hXW, -⟩ := id X
  have hl : lv_has ls 5 [(0, .ref (G.2.1 0))] := hl
  refine lv_ldc2 hx hb hown (hts _ kc_L_180) dL_mark_0 ?_
  refine lv_lstore_n (lv' := [(1, .long (17 : Int64)), (0, .ref (G.2.1 0))]) hx hb dL_mark_3 rfl hl (by decide) rfl (fun ls hl => ?_)
  refine lv_iconst (v := 0) hx hb dL_mark_4 (by decide) ?_
  refine lv_istore_n (lv' := [(3, .int (0 : Int32)), (1, .long (17 : Int64)), (0, .ref (G.2.1 0))]) hx hb dL_mark_5 rfl hl (by decide) rfl (fun ls hl => ?_)
  have K6 : ∀ (n6 : Nat), n6 ≤ 14 → ∀ (σ : St) (x1 : Int64) (x3 : Int32), okL_mark_L6 n6 σ x1 x3 → fL_mark_L6 n6 σ x1 x3 = fv → ∀ (H : Heap) (locs : List Loc), va_P G.1 vcl (wl G σ) H → va_S (GA G) s.heap H locs → ∀ (ls : Array Slot), lv_has ls 5 [(0, .ref (G.2.1 0)), (1, .long x1), (3, .int x3)] → W p l e rm_L_mark s m args below meth c H locs (0 + 1 * (14 - n6)) (0 + 6 * (14 - n6)) (MQ below (va_Ql (fun r u => (u, r) = fv) (PB G) (GA G)) args s 454 2724 (GA G)) (F0 m 6 ls []) := by
    intro n6
    induction n6 with
    | zero =>
      intro _ σ x1 x3 hok
      exact hok.elim
    | succ n6 ih6 =>
      intro hn6 σ x1 x3 hok hf H locs hP hS ls hl
      rw [okL_mark_L6] at hok
      rw [fL_mark_L6] at hf
      refine lv_iload_n hx hb dL_mark_6 rfl (lv_at hl 2 rfl) ?_
      refine lv_bipush (v := 13) hx hb dL_mark_7 (by decide) ?_
      refine lv_icmp_ge (tgt := 30) hx hb dL_mark_9 (by decide) (fun hc => ?_) (fun hc => ?_)
      · have hf := ite_t hc hf
        have hok := hok.1 hc
        refine lv_iconst (v := 0) hx hb dL_mark_30 (by decide) ?_
        refine lv_istore_n (lv' := [(3, .int (0 : Int32)), (0, .ref (G.2.1 0)), (1, .long x1)]) hx hb dL_mark_31 rfl hl (by decide) rfl (fun ls hl => ?_)
        have K32 : ∀ (n32 : Nat), n32 ≤ 21 → ∀ (σ : St) (x1 : Int64) (x3 : Int32), okL_mark_L32 n32 σ x1 x3 → fL_mark_L32 n32 σ x1 x3 = fv → ∀ (H : Heap) (locs : List Loc), va_P G.1 vcl (wl G σ) H → va_S (GA G) s.heap H locs → ∀ (ls : Array Slot), lv_has ls 5 [(0, .ref (G.2.1 0)), (1, .long x1), (3, .int x3)] → W p l e rm_L_mark s m args below meth c H locs (14 + 19 * (21 - n32)) (84 + 114 * (21 - n32)) (MQ below (va_Ql (fun r u => (u, r) = fv) (PB G) (GA G)) args s 454 2724 (GA G)) (F0 m 32 ls []) := by
          intro n32
          induction n32 with
          | zero =>
            intro _ σ x1 x3 hok
            exact hok.elim
          | succ n32 ih32 =>
            intro hn32 σ x1 x3 hok hf H locs hP hS ls hl
            rw [okL_mark_L32] at hok
            rw [fL_mark_L32] at hf
            refine lv_iload_n hx hb dL_mark_32 rfl (lv_at hl 2 rfl) ?_
            refine lv_i2l (v := (x3).toInt64) hx hb dL_mark_33 rfl ?_
            refine lv_aload_n hx hb dL_mark_34 rfl (lv_at hl 0 rfl) ?_
            refine lv_iconst (v := 2) hx hb dL_mark_35 (by decide) ?_
            have hs1 := hok.1
            have hok := hok.2
            refine gl_rJ (mc := 1) (ms := 6) (gl_run (As := [.ref (G.2.1 0), .int (2 : Int32)]) (rest := [.long ((x3).toInt64)]) X (c_L_account l hfl G hG σ (2 : Int32) hs1) ca_L_account km_L_184 rfl rfl ⟨Nat.le_of_ble_eq_true rfl, Nat.le_of_ble_eq_true rfl⟩ hP hS rfl hl.1 rfl (Nat.le_of_ble_eq_true rfl) ⟨by show (14 + 19 * (21 - (n32 + 1))) + 1 ≤ 454; omega, by show (84 + 114 * (21 - (n32 + 1))) + 6 ≤ 2724; omega⟩ dL_mark_36) hS (fun q2 hq2 H locs hP hS => ?_)
            have hf := bnd_go hq2 hf
            have hok := bnd_goP hq2 hok
            refine W.lcmp hx hb dL_mark_39 ?_
            refine lv_if_ge (tgt := 91) hx hb dL_mark_40 (by decide) (fun hc => ?_) (fun hc => ?_)
            · have hf := ite_t hc hf
              have hok := hok.1 hc
              refine lv_iconst (v := 0) hx hb dL_mark_91 (by decide) ?_
              refine lv_istore_n (lv' := [(3, .int (0 : Int32)), (0, .ref (G.2.1 0)), (1, .long x1)]) hx hb dL_mark_92 rfl hl (by decide) rfl (fun ls hl => ?_)
              have K93 : ∀ (n93 : Nat), n93 ≤ 9 → ∀ (σ : St) (x1 : Int64) (x3 : Int32), okL_mark_L93 n93 σ x1 x3 → fL_mark_L93 n93 σ x1 x3 = fv → ∀ (H : Heap) (locs : List Loc), va_P G.1 vcl (wl G σ) H → va_S (GA G) s.heap H locs → ∀ (ls : Array Slot), lv_has ls 5 [(0, .ref (G.2.1 0)), (1, .long x1), (3, .int x3)] → W p l e rm_L_mark s m args below meth c H locs (414 + 2 * (9 - n93)) (2484 + 12 * (9 - n93)) (MQ below (va_Ql (fun r u => (u, r) = fv) (PB G) (GA G)) args s 454 2724 (GA G)) (F0 m 93 ls []) := by
                intro n93
                induction n93 with
                | zero =>
                  intro _ σ x1 x3 hok
                  exact hok.elim
                | succ n93 ih93 =>
                  intro hn93 σ x1 x3 hok hf H locs hP hS ls hl
                  rw [okL_mark_L93] at hok
                  rw [fL_mark_L93] at hf
                  refine lv_iload_n hx hb dL_mark_93 rfl (lv_at hl 2 rfl) ?_
                  refine lv_i2l (v := (x3).toInt64) hx hb dL_mark_94 rfl ?_
                  refine lv_aload_n hx hb dL_mark_95 rfl (lv_at hl 0 rfl) ?_
                  refine lv_iconst (v := 1) hx hb dL_mark_96 (by decide) ?_
                  have hs3 := hok.1
                  have hok := hok.2
                  refine gl_rJ (mc := 1) (ms := 6) (gl_run (As := [.ref (G.2.1 0), .int (1 : Int32)]) (rest := [.long ((x3).toInt64)]) X (c_L_account l hfl G hG σ (1 : Int32) hs3) ca_L_account km_L_184 rfl rfl ⟨Nat.le_of_ble_eq_true rfl, Nat.le_of_ble_eq_true rfl⟩ hP hS rfl hl.1 rfl (Nat.le_of_ble_eq_true rfl) ⟨by show (414 + 2 * (9 - (n93 + 1))) + 1 ≤ 454; omega, by show (2484 + 12 * (9 - (n93 + 1))) + 6 ≤ 2724; omega⟩ dL_mark_97) hS (fun q4 hq4 H locs hP hS => ?_)
                  have hf := bnd_go hq4 hf
                  have hok := bnd_goP hq4 hok
                  refine W.lcmp hx hb dL_mark_100 ?_
                  refine lv_if_ge (tgt := 122) hx hb dL_mark_101 (by decide) (fun hc => ?_) (fun hc => ?_)
                  · have hf := ite_t hc hf
                    have hok := hok.1 hc
                    refine lv_iconst (v := 0) hx hb dL_mark_122 (by decide) ?_
                    refine lv_istore_n (lv' := [(3, .int (0 : Int32)), (0, .ref (G.2.1 0)), (1, .long x1)]) hx hb dL_mark_123 rfl hl (by decide) rfl (fun ls hl => ?_)
                    have K124 : ∀ (n124 : Nat), n124 ≤ 6 → ∀ (σ : St) (x1 : Int64) (x3 : Int32), okL_mark_L124 n124 σ x1 x3 → fL_mark_L124 n124 σ x1 x3 = fv → ∀ (H : Heap) (locs : List Loc), va_P G.1 vcl (wl G σ) H → va_S (GA G) s.heap H locs → ∀ (ls : Array Slot), lv_has ls 5 [(0, .ref (G.2.1 0)), (1, .long x1), (3, .int x3)] → W p l e rm_L_mark s m args below meth c H locs (433 + 2 * (6 - n124)) (2598 + 12 * (6 - n124)) (MQ below (va_Ql (fun r u => (u, r) = fv) (PB G) (GA G)) args s 454 2724 (GA G)) (F0 m 124 ls []) := by
                      intro n124
                      induction n124 with
                      | zero =>
                        intro _ σ x1 x3 hok
                        exact hok.elim
                      | succ n124 ih124 =>
                        intro hn124 σ x1 x3 hok hf H locs hP hS ls hl
                        rw [okL_mark_L124] at hok
                        rw [fL_mark_L124] at hf
                        refine lv_iload_n hx hb dL_mark_124 rfl (lv_at hl 2 rfl) ?_
                        refine lv_i2l (v := (x3).toInt64) hx hb dL_mark_125 rfl ?_
                        refine lv_aload_n hx hb dL_mark_126 rfl (lv_at hl 0 rfl) ?_
                        refine lv_iconst (v := 4) hx hb dL_mark_127 (by decide) ?_
                        have hs5 := hok.1
                        have hok := hok.2
                        refine gl_rJ (mc := 1) (ms := 6) (gl_run (As := [.ref (G.2.1 0), .int (4 : Int32)]) (rest := [.long ((x3).toInt64)]) X (c_L_account l hfl G hG σ (4 : Int32) hs5) ca_L_account km_L_184 rfl rfl ⟨Nat.le_of_ble_eq_true rfl, Nat.le_of_ble_eq_true rfl⟩ hP hS rfl hl.1 rfl (Nat.le_of_ble_eq_true rfl) ⟨by show (433 + 2 * (6 - (n124 + 1))) + 1 ≤ 454; omega, by show (2598 + 12 * (6 - (n124 + 1))) + 6 ≤ 2724; omega⟩ dL_mark_128) hS (fun q6 hq6 H locs hP hS => ?_)
                        have hf := bnd_go hq6 hf
                        have hok := bnd_goP hq6 hok
                        refine W.lcmp hx hb dL_mark_131 ?_
                        refine lv_if_ge (tgt := 153) hx hb dL_mark_132 (by decide) (fun hc => ?_) (fun hc => ?_)
                        · have hf := ite_t hc hf
                          have hok := hok.1 hc
                          refine lv_iconst (v := 0) hx hb dL_mark_153 (by decide) ?_
                          refine lv_istore_n (lv' := [(3, .int (0 : Int32)), (0, .ref (G.2.1 0)), (1, .long x1)]) hx hb dL_mark_154 rfl hl (by decide) rfl (fun ls hl => ?_)
                          have K155 : ∀ (n155 : Nat), n155 ≤ 7 → ∀ (σ : St) (x1 : Int64) (x3 : Int32), okL_mark_L155 n155 σ x1 x3 → fL_mark_L155 n155 σ x1 x3 = fv → ∀ (H : Heap) (locs : List Loc), va_P G.1 vcl (wl G σ) H → va_S (GA G) s.heap H locs → ∀ (ls : Array Slot), lv_has ls 5 [(0, .ref (G.2.1 0)), (1, .long x1), (3, .int x3)] → W p l e rm_L_mark s m args below meth c H locs (446 + 1 * (7 - n155)) (2676 + 6 * (7 - n155)) (MQ below (va_Ql (fun r u => (u, r) = fv) (PB G) (GA G)) args s 454 2724 (GA G)) (F0 m 155 ls []) := by
                            intro n155
                            induction n155 with
                            | zero =>
                              intro _ σ x1 x3 hok
                              exact hok.elim
                            | succ n155 ih155 =>
                              intro hn155 σ x1 x3 hok hf H locs hP hS ls hl
                              rw [okL_mark_L155] at hok
                              rw [fL_mark_L155] at hf
                              refine lv_iload_n hx hb dL_mark_155 rfl (lv_at hl 2 rfl) ?_
                              refine lv_bipush (v := 6) hx hb dL_mark_156 (by decide) ?_
                              refine lv_icmp_ge (tgt := 179) hx hb dL_mark_158 (by decide) (fun hc => ?_) (fun hc => ?_)
                              · have hf := ite_t hc hf
                                refine lv_ldc2 hx hb hown (hts _ kc_L_182) dL_mark_179 ?_
                                refine lv_ldc2 hx hb hown (hts _ kc_L_182) dL_mark_182 ?_
                                refine lv_lload_n hx hb dL_mark_185 rfl (lv_at hl 1 rfl) ?_
                                refine lv_lmul hx hb dL_mark_186 ?_
                                refine lv_aload_n hx hb dL_mark_187 rfl (lv_at hl 0 rfl) ?_
                                refine g_cJp (g_runS (As := [.ref (G.2.1 0)]) (rest := [.long ((31 : Int64) * x1), .long (31 : Int64)]) X (c_L_inkNow l G hG σ) ca_L_inkNow km_L_198 rfl rfl ⟨Nat.le_of_ble_eq_true rfl, Nat.le_of_ble_eq_true rfl⟩ hP hS rfl hl.1 rfl (Nat.le_of_ble_eq_true rfl) ⟨by show (446 + 1 * (7 - (n155 + 1))) + 0 ≤ 454; omega, by show (2676 + 6 * (7 - (n155 + 1))) + 0 ≤ 2724; omega⟩ dL_mark_188) hS (fun H locs hP hS => ?_)
                                refine lv_ladd hx hb dL_mark_191 ?_
                                refine lv_lmul hx hb dL_mark_192 ?_
                                refine lv_aload_n hx hb dL_mark_193 rfl (lv_at hl 0 rfl) ?_
                                refine g_cJp (g_runS (As := [.ref (G.2.1 0)]) (rest := [.long ((31 : Int64) * (((31 : Int64) * x1) + (f_L_inkNow σ)))]) X (c_L_hunger l G hG σ) ca_L_hunger km_L_200 rfl rfl ⟨Nat.le_of_ble_eq_true rfl, Nat.le_of_ble_eq_true rfl⟩ hP hS rfl hl.1 rfl (Nat.le_of_ble_eq_true rfl) ⟨by show (446 + 1 * (7 - (n155 + 1))) + 0 ≤ 454; omega, by show (2676 + 6 * (7 - (n155 + 1))) + 0 ≤ 2724; omega⟩ dL_mark_194) hS (fun H locs hP hS => ?_)
                                refine lv_ladd hx hb dL_mark_197 ?_
                                exact gl_lret X hr hlk hP hS hf (by omega) (by omega) dL_mark_198
                              · have hf := ite_f hc hf
                                have hok := hok.2 hc
                                refine lv_ldc2 hx hb hown (hts _ kc_L_182) dL_mark_161 ?_
                                refine lv_lload_n hx hb dL_mark_164 rfl (lv_at hl 1 rfl) ?_
                                refine lv_lmul hx hb dL_mark_165 ?_
                                refine lv_aload_n hx hb dL_mark_166 rfl (lv_at hl 0 rfl) ?_
                                refine lv_iload_n hx hb dL_mark_167 rfl (lv_at hl 2 rfl) ?_
                                have hs7 := hok.1
                                have hok := hok.2
                                refine gl_rJ (mc := 1) (ms := 6) (gl_run (As := [.ref (G.2.1 0), .int x3]) (rest := [.long ((31 : Int64) * x1)]) X (c_L_read l hfl G hG σ x3 hs7) ca_L_read km_L_196 rfl rfl ⟨Nat.le_of_ble_eq_true rfl, Nat.le_of_ble_eq_true rfl⟩ hP hS rfl hl.1 rfl (Nat.le_of_ble_eq_true rfl) ⟨by show (446 + 1 * (7 - (n155 + 1))) + 1 ≤ 454; omega, by show (2676 + 6 * (7 - (n155 + 1))) + 6 ≤ 2724; omega⟩ dL_mark_168) hS (fun q8 hq8 H locs hP hS => ?_)
                                have hf := bnd_go hq8 hf
                                have hok := bnd_goP hq8 hok
                                refine lv_ladd hx hb dL_mark_171 ?_
                                refine lv_lstore_n (lv' := [(1, .long (((31 : Int64) * x1) + q8.2)), (0, .ref (G.2.1 0)), (3, .int x3)]) hx hb dL_mark_172 rfl hl (by decide) rfl (fun ls hl => ?_)
                                refine lv_iinc (v := (x3 + (1 : Int32))) (lv' := [(3, .int (x3 + (1 : Int32))), (1, .long (((31 : Int64) * x1) + q8.2)), (0, .ref (G.2.1 0))]) hx hb dL_mark_173 hl (k := 2) rfl rfl (by decide) rfl (fun ls hl => ?_)
                                refine lv_goto (tgt := 155) hx hb dL_mark_176 (by decide) ?_
                                exact W.widen (k := 446 + 1 * (7 - n155)) (n := 2676 + 6 * (7 - n155)) (by omega) (by omega) (ih155 (by omega) q8.1 (((31 : Int64) * x1) + q8.2) (x3 + (1 : Int32)) hok hf _ _ hP hS ls (lv_sub hl [2, 1, 0] rfl))
                          exact W.widen (k := 446 + 1 * (7 - 7)) (n := 2676 + 6 * (7 - 7)) (by omega) (by omega) (K155 7 (Nat.le_refl _) q6.1 x1 (0 : Int32) hok hf _ _ hP hS ls (lv_sub hl [1, 2, 0] rfl))
                        · have hf := ite_f hc hf
                          have hok := hok.2 hc
                          refine lv_ldc2 hx hb hown (hts _ kc_L_182) dL_mark_135 ?_
                          refine lv_lload_n hx hb dL_mark_138 rfl (lv_at hl 1 rfl) ?_
                          refine lv_lmul hx hb dL_mark_139 ?_
                          refine lv_aload_n hx hb dL_mark_140 rfl (lv_at hl 0 rfl) ?_
                          refine lv_iload_n hx hb dL_mark_141 rfl (lv_at hl 2 rfl) ?_
                          have hs9 := hok.1
                          have hok := hok.2
                          refine gl_rJ (mc := 1) (ms := 6) (gl_run (As := [.ref (G.2.1 0), .int x3]) (rest := [.long ((31 : Int64) * x1)]) X (c_L_firmness l hfl G hG q6.1 x3 hs9) ca_L_firmness km_L_194 rfl rfl ⟨Nat.le_of_ble_eq_true rfl, Nat.le_of_ble_eq_true rfl⟩ hP hS rfl hl.1 rfl (Nat.le_of_ble_eq_true rfl) ⟨by show ((433 + 2 * (6 - (n124 + 1))) + 1) + 1 ≤ 454; omega, by show ((2598 + 12 * (6 - (n124 + 1))) + 6) + 6 ≤ 2724; omega⟩ dL_mark_142) hS (fun q10 hq10 H locs hP hS => ?_)
                          have hf := bnd_go hq10 hf
                          have hok := bnd_goP hq10 hok
                          refine lv_ladd hx hb dL_mark_145 ?_
                          refine lv_lstore_n (lv' := [(1, .long (((31 : Int64) * x1) + q10.2)), (0, .ref (G.2.1 0)), (3, .int x3)]) hx hb dL_mark_146 rfl hl (by decide) rfl (fun ls hl => ?_)
                          refine lv_iinc (v := (x3 + (1 : Int32))) (lv' := [(3, .int (x3 + (1 : Int32))), (1, .long (((31 : Int64) * x1) + q10.2)), (0, .ref (G.2.1 0))]) hx hb dL_mark_147 hl (k := 2) rfl rfl (by decide) rfl (fun ls hl => ?_)
                          refine lv_goto (tgt := 124) hx hb dL_mark_150 (by decide) ?_
                          exact W.widen (k := 433 + 2 * (6 - n124)) (n := 2598 + 12 * (6 - n124)) (by omega) (by omega) (ih124 (by omega) q10.1 (((31 : Int64) * x1) + q10.2) (x3 + (1 : Int32)) hok hf _ _ hP hS ls (lv_sub hl [2, 1, 0] rfl))
                    exact W.widen (k := 433 + 2 * (6 - 6)) (n := 2598 + 12 * (6 - 6)) (by omega) (by omega) (K124 6 (Nat.le_refl _) q4.1 x1 (0 : Int32) hok hf _ _ hP hS ls (lv_sub hl [1, 2, 0] rfl))
                  · have hf := ite_f hc hf
                    have hok := hok.2 hc
                    refine lv_ldc2 hx hb hown (hts _ kc_L_182) dL_mark_104 ?_
                    refine lv_lload_n hx hb dL_mark_107 rfl (lv_at hl 1 rfl) ?_
                    refine lv_lmul hx hb dL_mark_108 ?_
                    refine lv_aload_n hx hb dL_mark_109 rfl (lv_at hl 0 rfl) ?_
                    refine lv_iload_n hx hb dL_mark_110 rfl (lv_at hl 2 rfl) ?_
                    have hs11 := hok.1
                    have hok := hok.2
                    refine gl_rJ (mc := 1) (ms := 6) (gl_run (As := [.ref (G.2.1 0), .int x3]) (rest := [.long ((31 : Int64) * x1)]) X (c_L_crayonOf l hfl G hG q4.1 x3 hs11) ca_L_crayonOf km_L_192 rfl rfl ⟨Nat.le_of_ble_eq_true rfl, Nat.le_of_ble_eq_true rfl⟩ hP hS rfl hl.1 rfl (Nat.le_of_ble_eq_true rfl) ⟨by show ((414 + 2 * (9 - (n93 + 1))) + 1) + 1 ≤ 454; omega, by show ((2484 + 12 * (9 - (n93 + 1))) + 6) + 6 ≤ 2724; omega⟩ dL_mark_111) hS (fun q12 hq12 H locs hP hS => ?_)
                    have hf := bnd_go hq12 hf
                    have hok := bnd_goP hq12 hok
                    refine lv_ladd hx hb dL_mark_114 ?_
                    refine lv_lstore_n (lv' := [(1, .long (((31 : Int64) * x1) + q12.2)), (0, .ref (G.2.1 0)), (3, .int x3)]) hx hb dL_mark_115 rfl hl (by decide) rfl (fun ls hl => ?_)
                    refine lv_iinc (v := (x3 + (1 : Int32))) (lv' := [(3, .int (x3 + (1 : Int32))), (1, .long (((31 : Int64) * x1) + q12.2)), (0, .ref (G.2.1 0))]) hx hb dL_mark_116 hl (k := 2) rfl rfl (by decide) rfl (fun ls hl => ?_)
                    refine lv_goto (tgt := 93) hx hb dL_mark_119 (by decide) ?_
                    exact W.widen (k := 414 + 2 * (9 - n93)) (n := 2484 + 12 * (9 - n93)) (by omega) (by omega) (ih93 (by omega) q12.1 (((31 : Int64) * x1) + q12.2) (x3 + (1 : Int32)) hok hf _ _ hP hS ls (lv_sub hl [2, 1, 0] rfl))
              exact W.widen (k := 414 + 2 * (9 - 9)) (n := 2484 + 12 * (9 - 9)) (by omega) (by omega) (K93 9 (Nat.le_refl _) q2.1 x1 (0 : Int32) hok hf _ _ hP hS ls (lv_sub hl [1, 2, 0] rfl))
            · have hf := ite_f hc hf
              have hok := hok.2 hc
              refine lv_iconst (v := 0) hx hb dL_mark_43 (by decide) ?_
              refine lv_istore (lv' := [(4, .int (0 : Int32)), (0, .ref (G.2.1 0)), (1, .long x1), (3, .int x3)]) hx hb dL_mark_44 hl (by decide) rfl (fun ls hl => ?_)
              have K46 : ∀ (n46 : Nat), n46 ≤ 8 → ∀ (σ : St) (x1 : Int64) (x3 : Int32) (x4 : Int32), okL_mark_L46 (fun σ x1 x3 => okL_mark_L32 n32 σ x1 x3) n46 σ x1 x3 x4 → fL_mark_L46 (fun σ x1 x3 => fL_mark_L32 n32 σ x1 x3) n46 σ x1 x3 x4 = fv → ∀ (H : Heap) (locs : List Loc), va_P G.1 vcl (wl G σ) H → va_S (GA G) s.heap H locs → ∀ (ls : Array Slot), lv_has ls 5 [(0, .ref (G.2.1 0)), (1, .long x1), (3, .int x3), (4, .int x4)] → W p l e rm_L_mark s m args below meth c H locs (((14 + 19 * (21 - (n32 + 1))) + 1) + 2 * (8 - n46)) (((84 + 114 * (21 - (n32 + 1))) + 6) + 12 * (8 - n46)) (MQ below (va_Ql (fun r u => (u, r) = fv) (PB G) (GA G)) args s 454 2724 (GA G)) (F0 m 46 ls []) := by
                intro n46
                induction n46 with
                | zero =>
                  intro _ σ x1 x3 x4 hok
                  exact hok.elim
                | succ n46 ih46 =>
                  intro hn46 σ x1 x3 x4 hok hf H locs hP hS ls hl
                  rw [okL_mark_L46] at hok
                  rw [fL_mark_L46] at hf
                  refine lv_iload hx hb dL_mark_46 (lv_at hl 3 rfl) ?_
                  refine lv_bipush (v := 7) hx hb dL_mark_48 (by decide) ?_
                  refine lv_icmp_ge (tgt := 73) hx hb dL_mark_50 (by decide) (fun hc => ?_) (fun hc => ?_)
                  · have hf := ite_t hc hf
                    have hok := hok.1 hc
                    refine lv_ldc2 hx hb hown (hts _ kc_L_182) dL_mark_73 ?_
                    refine lv_lload_n hx hb dL_mark_76 rfl (lv_at hl 1 rfl) ?_
                    refine lv_lmul hx hb dL_mark_77 ?_
                    refine lv_aload_n hx hb dL_mark_78 rfl (lv_at hl 0 rfl) ?_
                    refine lv_iload_n hx hb dL_mark_79 rfl (lv_at hl 2 rfl) ?_
                    have hs13 := hok.1
                    have hok := hok.2
                    refine gl_rJ (mc := 2) (ms := 12) (gl_run (As := [.ref (G.2.1 0), .int x3]) (rest := [.long ((31 : Int64) * x1)]) X (c_L_reads l hfl G hG σ x3 hs13) ca_L_reads km_L_190 rfl rfl ⟨Nat.le_of_ble_eq_true rfl, Nat.le_of_ble_eq_true rfl⟩ hP hS rfl hl.1 rfl (Nat.le_of_ble_eq_true rfl) ⟨by show (((14 + 19 * (21 - (n32 + 1))) + 1) + 2 * (8 - (n46 + 1))) + 2 ≤ 454; omega, by show (((84 + 114 * (21 - (n32 + 1))) + 6) + 12 * (8 - (n46 + 1))) + 12 ≤ 2724; omega⟩ dL_mark_80) hS (fun q14 hq14 H locs hP hS => ?_)
                    have hf := bnd_go hq14 hf
                    have hok := bnd_goP hq14 hok
                    refine lv_ladd hx hb dL_mark_83 ?_
                    refine lv_lstore_n (lv' := [(1, .long (((31 : Int64) * x1) + q14.2)), (0, .ref (G.2.1 0)), (3, .int x3), (4, .int x4)]) hx hb dL_mark_84 rfl hl (by decide) rfl (fun ls hl => ?_)
                    refine lv_iinc (v := (x3 + (1 : Int32))) (lv' := [(3, .int (x3 + (1 : Int32))), (1, .long (((31 : Int64) * x1) + q14.2)), (0, .ref (G.2.1 0)), (4, .int x4)]) hx hb dL_mark_85 hl (k := 2) rfl rfl (by decide) rfl (fun ls hl => ?_)
                    refine lv_goto (tgt := 32) hx hb dL_mark_88 (by decide) ?_
                    exact W.widen (k := 14 + 19 * (21 - n32)) (n := 84 + 114 * (21 - n32)) (by omega) (by omega) (ih32 (by omega) q14.1 (((31 : Int64) * x1) + q14.2) (x3 + (1 : Int32)) hok hf _ _ hP hS ls (lv_sub hl [2, 1, 0] rfl))
                  · have hf := ite_f hc hf
                    have hok := hok.2 hc
                    refine lv_ldc2 hx hb hown (hts _ kc_L_182) dL_mark_53 ?_
                    refine lv_lload_n hx hb dL_mark_56 rfl (lv_at hl 1 rfl) ?_
                    refine lv_lmul hx hb dL_mark_57 ?_
                    refine lv_aload_n hx hb dL_mark_58 rfl (lv_at hl 0 rfl) ?_
                    refine lv_iload_n hx hb dL_mark_59 rfl (lv_at hl 2 rfl) ?_
                    refine lv_iload hx hb dL_mark_60 (lv_at hl 3 rfl) ?_
                    have hs15 := hok.1
                    have hok := hok.2
                    refine gl_rJ (mc := 2) (ms := 12) (gl_run (As := [.ref (G.2.1 0), .int x3, .int x4]) (rest := [.long ((31 : Int64) * x1)]) X (c_L_itemOf l hfl G hG σ x3 x4 hs15) ca_L_itemOf km_L_187 rfl rfl ⟨Nat.le_of_ble_eq_true rfl, Nat.le_of_ble_eq_true rfl⟩ hP hS rfl hl.1 rfl (Nat.le_of_ble_eq_true rfl) ⟨by show (((14 + 19 * (21 - (n32 + 1))) + 1) + 2 * (8 - (n46 + 1))) + 2 ≤ 454; omega, by show (((84 + 114 * (21 - (n32 + 1))) + 6) + 12 * (8 - (n46 + 1))) + 12 ≤ 2724; omega⟩ dL_mark_62) hS (fun q16 hq16 H locs hP hS => ?_)
                    have hf := bnd_go hq16 hf
                    have hok := bnd_goP hq16 hok
                    refine lv_ladd hx hb dL_mark_65 ?_
                    refine lv_lstore_n (lv' := [(1, .long (((31 : Int64) * x1) + q16.2)), (0, .ref (G.2.1 0)), (3, .int x3), (4, .int x4)]) hx hb dL_mark_66 rfl hl (by decide) rfl (fun ls hl => ?_)
                    refine lv_iinc (v := (x4 + (1 : Int32))) (lv' := [(4, .int (x4 + (1 : Int32))), (1, .long (((31 : Int64) * x1) + q16.2)), (0, .ref (G.2.1 0)), (3, .int x3)]) hx hb dL_mark_67 hl (k := 3) rfl rfl (by decide) rfl (fun ls hl => ?_)
                    refine lv_goto (tgt := 46) hx hb dL_mark_70 (by decide) ?_
                    exact W.widen (k := ((14 + 19 * (21 - (n32 + 1))) + 1) + 2 * (8 - n46)) (n := ((84 + 114 * (21 - (n32 + 1))) + 6) + 12 * (8 - n46)) (by omega) (by omega) (ih46 (by omega) q16.1 (((31 : Int64) * x1) + q16.2) x3 (x4 + (1 : Int32)) hok hf _ _ hP hS ls (lv_sub hl [2, 1, 3, 0] rfl))
              exact W.widen (k := ((14 + 19 * (21 - (n32 + 1))) + 1) + 2 * (8 - 8)) (n := ((84 + 114 * (21 - (n32 + 1))) + 6) + 12 * (8 - 8)) (by omega) (by omega) (K46 8 (Nat.le_refl _) q2.1 x1 x3 (0 : Int32) hok hf _ _ hP hS ls (lv_sub hl [1, 2, 3, 0] rfl))
        exact W.widen (k := 14 + 19 * (21 - 21)) (n := 84 + 114 * (21 - 21)) (by omega) (by omega) (K32 21 (Nat.le_refl _) σ x1 (0 : Int32) hok hf _ _ hP hS ls (lv_sub hl [1, 2, 0] rfl))
      · have hf := ite_f hc hf
        have hok := hok.2 hc
        refine lv_ldc2 hx hb hown (hts _ kc_L_182) dL_mark_12 ?_
        refine lv_lload_n hx hb dL_mark_15 rfl (lv_at hl 1 rfl) ?_
        refine lv_lmul hx hb dL_mark_16 ?_
        refine lv_aload_n hx hb dL_mark_17 rfl (lv_at hl 0 rfl) ?_
        refine lv_iload_n hx hb dL_mark_18 rfl (lv_at hl 2 rfl) ?_
        have hs17 := hok.1
        have hok := hok.2
        refine gl_rJ (mc := 1) (ms := 6) (gl_run (As := [.ref (G.2.1 0), .int x3]) (rest := [.long ((31 : Int64) * x1)]) X (c_L_account l hfl G hG σ x3 hs17) ca_L_account km_L_184 rfl rfl ⟨Nat.le_of_ble_eq_true rfl, Nat.le_of_ble_eq_true rfl⟩ hP hS rfl hl.1 rfl (Nat.le_of_ble_eq_true rfl) ⟨by show (0 + 1 * (14 - (n6 + 1))) + 1 ≤ 454; omega, by show (0 + 6 * (14 - (n6 + 1))) + 6 ≤ 2724; omega⟩ dL_mark_19) hS (fun q18 hq18 H locs hP hS => ?_)
        have hf := bnd_go hq18 hf
        have hok := bnd_goP hq18 hok
        refine lv_ladd hx hb dL_mark_22 ?_
        refine lv_lstore_n (lv' := [(1, .long (((31 : Int64) * x1) + q18.2)), (0, .ref (G.2.1 0)), (3, .int x3)]) hx hb dL_mark_23 rfl hl (by decide) rfl (fun ls hl => ?_)
        refine lv_iinc (v := (x3 + (1 : Int32))) (lv' := [(3, .int (x3 + (1 : Int32))), (1, .long (((31 : Int64) * x1) + q18.2)), (0, .ref (G.2.1 0))]) hx hb dL_mark_24 hl (k := 2) rfl rfl (by decide) rfl (fun ls hl => ?_)
        refine lv_goto (tgt := 6) hx hb dL_mark_27 (by decide) ?_
        exact W.widen (k := 0 + 1 * (14 - n6)) (n := 0 + 6 * (14 - n6)) (by omega) (by omega) (ih6 (by omega) q18.1 (((31 : Int64) * x1) + q18.2) (x3 + (1 : Int32)) hok hf _ _ hP hS ls (lv_sub hl [2, 1, 0] rfl))
  exact W.widen (k := 0 + 1 * (14 - 14)) (n := 0 + 6 * (14 - 14)) (by omega) (by omega) (K6 14 (Nat.le_refl _) σ (17 : Int64) (0 : Int32) hok hf _ _ hP hS ls (lv_sub hl [2, 1, 0] rfl))
def f_L_acts (σ : St) (x1 : Int32) : St × Int64 := (if (f_L_pick x1 (24 : Int32)) = (0 : Int32) then (bnd (f_L_crayon σ ((10 : Int32) + ((f_L_pick (x1 >>> ((8 : Int32) &&& 31)) (4000 : Int32)) - (f_L_pick (x1 >>> ((8 : Int32) &&& 31)) (4000 : Int32)) / (111 : Int32) * (111 : Int32)))) (fun q4 => (q4.1, q4.2))) else (if (f_L_pick x1 (24 : Int32)) = (1 : Int32) then (bnd (f_L_letter σ ((f_L_pick (x1 >>> ((8 : Int32) &&& 31)) (4000 : Int32)) - (f_L_pick (x1 >>> ((8 : Int32) &&& 31)) (4000 : Int32)) / (6 : Int32) * (6 : Int32)) (((f_L_pick (x1 >>> ((8 : Int32) &&& 31)) (4000 : Int32)) / (6 : Int32)) - ((f_L_pick (x1 >>> ((8 : Int32) &&& 31)) (4000 : Int32)) / (6 : Int32)) / (6 : Int32) * (6 : Int32)) ((1 : Int32) + (((f_L_pick (x1 >>> ((8 : Int32) &&& 31)) (4000 : Int32)) / (36 : Int32)) - ((f_L_pick (x1 >>> ((8 : Int32) &&& 31)) (4000 : Int32)) / (36 : Int32)) / (40 : Int32) * (40 : Int32))) ((f_L_pick (x1 >>> ((8 : Int32) &&& 31)) (4000 : Int32)) - (f_L_pick (x1 >>> ((8 : Int32) &&& 31)) (4000 : Int32)) / (2 : Int32) * (2 : Int32))) (fun q6 => (q6.1, q6.2))) else (if (f_L_pick x1 (24 : Int32)) = (2 : Int32) then (bnd (f_L_letter σ ((f_L_pick (x1 >>> ((8 : Int32) &&& 31)) (4000 : Int32)) - (f_L_pick (x1 >>> ((8 : Int32) &&& 31)) (4000 : Int32)) / (6 : Int32) * (6 : Int32)) (((f_L_pick (x1 >>> ((8 : Int32) &&& 31)) (4000 : Int32)) / (6 : Int32)) - ((f_L_pick (x1 >>> ((8 : Int32) &&& 31)) (4000 : Int32)) / (6 : Int32)) / (6 : Int32) * (6 : Int32)) ((1 : Int32) + (((f_L_pick (x1 >>> ((8 : Int32) &&& 31)) (4000 : Int32)) / (36 : Int32)) - ((f_L_pick (x1 >>> ((8 : Int32) &&& 31)) (4000 : Int32)) / (36 : Int32)) / (40 : Int32) * (40 : Int32))) ((f_L_pick (x1 >>> ((8 : Int32) &&& 31)) (4000 : Int32)) - (f_L_pick (x1 >>> ((8 : Int32) &&& 31)) (4000 : Int32)) / (2 : Int32) * (2 : Int32))) (fun q8 => (q8.1, q8.2))) else (if (f_L_pick x1 (24 : Int32)) = (3 : Int32) then (bnd (f_L_letter σ ((f_L_pick (x1 >>> ((8 : Int32) &&& 31)) (4000 : Int32)) - (f_L_pick (x1 >>> ((8 : Int32) &&& 31)) (4000 : Int32)) / (6 : Int32) * (6 : Int32)) (((f_L_pick (x1 >>> ((8 : Int32) &&& 31)) (4000 : Int32)) / (6 : Int32)) - ((f_L_pick (x1 >>> ((8 : Int32) &&& 31)) (4000 : Int32)) / (6 : Int32)) / (6 : Int32) * (6 : Int32)) ((1 : Int32) + (((f_L_pick (x1 >>> ((8 : Int32) &&& 31)) (4000 : Int32)) / (36 : Int32)) - ((f_L_pick (x1 >>> ((8 : Int32) &&& 31)) (4000 : Int32)) / (36 : Int32)) / (40 : Int32) * (40 : Int32))) ((f_L_pick (x1 >>> ((8 : Int32) &&& 31)) (4000 : Int32)) - (f_L_pick (x1 >>> ((8 : Int32) &&& 31)) (4000 : Int32)) / (2 : Int32) * (2 : Int32))) (fun q10 => (q10.1, q10.2))) else (if (f_L_pick x1 (24 : Int32)) = (4 : Int32) then (bnd (f_L_parcel σ ((f_L_pick (x1 >>> ((8 : Int32) &&& 31)) (4000 : Int32)) - (f_L_pick (x1 >>> ((8 : Int32) &&& 31)) (4000 : Int32)) / (6 : Int32) * (6 : Int32)) (((f_L_pick (x1 >>> ((8 : Int32) &&& 31)) (4000 : Int32)) / (6 : Int32)) - ((f_L_pick (x1 >>> ((8 : Int32) &&& 31)) (4000 : Int32)) / (6 : Int32)) / (6 : Int32) * (6 : Int32)) ((1 : Int32) + (((f_L_pick (x1 >>> ((8 : Int32) &&& 31)) (4000 : Int32)) / (36 : Int32)) - ((f_L_pick (x1 >>> ((8 : Int32) &&& 31)) (4000 : Int32)) / (36 : Int32)) / (9 : Int32) * (9 : Int32))) ((1 : Int32) + (((f_L_pick (x1 >>> ((8 : Int32) &&& 31)) (4000 : Int32)) / (324 : Int32)) - ((f_L_pick (x1 >>> ((8 : Int32) &&& 31)) (4000 : Int32)) / (324 : Int32)) / (9 : Int32) * (9 : Int32))) ((1 : Int32) + ((f_L_pick (x1 >>> ((8 : Int32) &&& 31)) (4000 : Int32)) - (f_L_pick (x1 >>> ((8 : Int32) &&& 31)) (4000 : Int32)) / (9 : Int32) * (9 : Int32)))) (fun q12 => (q12.1, q12.2))) else (if (f_L_pick x1 (24 : Int32)) = (5 : Int32) then (if ((f_L_pick (x1 >>> ((8 : Int32) &&& 31)) (4000 : Int32)) - (f_L_pick (x1 >>> ((8 : Int32) &&& 31)) (4000 : Int32)) / (2 : Int32) * (2 : Int32)) = 0 then (bnd (f_L_string σ ((1 : Int32) + ((f_L_pick (x1 >>> ((8 : Int32) &&& 31)) (4000 : Int32)) - (f_L_pick (x1 >>> ((8 : Int32) &&& 31)) (4000 : Int32)) / (20 : Int32) * (20 : Int32)))) (fun q16 => (q16.1, q16.2))) else (bnd (f_L_ink σ ((1 : Int32) + ((f_L_pick (x1 >>> ((8 : Int32) &&& 31)) (4000 : Int32)) - (f_L_pick (x1 >>> ((8 : Int32) &&& 31)) (4000 : Int32)) / (50 : Int32) * (50 : Int32)))) (fun q14 => (q14.1, q14.2)))) else (if (f_L_pick x1 (24 : Int32)) = (6 : Int32) then (bnd (f_L_potato σ) (fun q18 => (q18.1, q18.2))) else (if (f_L_pick x1 (24 : Int32)) = (7 : Int32) then (bnd (f_L_stamp σ ((f_L_pick (x1 >>> ((8 : Int32) &&& 31)) (4000 : Int32)) - (f_L_pick (x1 >>> ((8 : Int32) &&& 31)) (4000 : Int32)) / (8 : Int32) * (8 : Int32)) (((f_L_pick (x1 >>> ((8 : Int32) &&& 31)) (4000 : Int32)) / (8 : Int32)) - ((f_L_pick (x1 >>> ((8 : Int32) &&& 31)) (4000 : Int32)) / (8 : Int32)) / (2 : Int32) * (2 : Int32))) (fun q20 => (q20.1, q20.2))) else (if (f_L_pick x1 (24 : Int32)) = (8 : Int32) then (bnd (f_L_stamp σ ((f_L_pick (x1 >>> ((8 : Int32) &&& 31)) (4000 : Int32)) - (f_L_pick (x1 >>> ((8 : Int32) &&& 31)) (4000 : Int32)) / (8 : Int32) * (8 : Int32)) (((f_L_pick (x1 >>> ((8 : Int32) &&& 31)) (4000 : Int32)) / (8 : Int32)) - ((f_L_pick (x1 >>> ((8 : Int32) &&& 31)) (4000 : Int32)) / (8 : Int32)) / (2 : Int32) * (2 : Int32))) (fun q22 => (q22.1, q22.2))) else (if (f_L_pick x1 (24 : Int32)) = (9 : Int32) then (bnd (f_L_stamp σ ((f_L_pick (x1 >>> ((8 : Int32) &&& 31)) (4000 : Int32)) - (f_L_pick (x1 >>> ((8 : Int32) &&& 31)) (4000 : Int32)) / (8 : Int32) * (8 : Int32)) (((f_L_pick (x1 >>> ((8 : Int32) &&& 31)) (4000 : Int32)) / (8 : Int32)) - ((f_L_pick (x1 >>> ((8 : Int32) &&& 31)) (4000 : Int32)) / (8 : Int32)) / (2 : Int32) * (2 : Int32))) (fun q24 => (q24.1, q24.2))) else (if (f_L_pick x1 (24 : Int32)) = (10 : Int32) then (bnd (f_L_shelve σ ((f_L_pick (x1 >>> ((8 : Int32) &&& 31)) (4000 : Int32)) - (f_L_pick (x1 >>> ((8 : Int32) &&& 31)) (4000 : Int32)) / (8 : Int32) * (8 : Int32)) (((f_L_pick (x1 >>> ((8 : Int32) &&& 31)) (4000 : Int32)) / (8 : Int32)) - ((f_L_pick (x1 >>> ((8 : Int32) &&& 31)) (4000 : Int32)) / (8 : Int32)) / (2 : Int32) * (2 : Int32))) (fun q26 => (q26.1, q26.2))) else (if (f_L_pick x1 (24 : Int32)) = (11 : Int32) then (bnd (f_L_shelve σ ((f_L_pick (x1 >>> ((8 : Int32) &&& 31)) (4000 : Int32)) - (f_L_pick (x1 >>> ((8 : Int32) &&& 31)) (4000 : Int32)) / (8 : Int32) * (8 : Int32)) (((f_L_pick (x1 >>> ((8 : Int32) &&& 31)) (4000 : Int32)) / (8 : Int32)) - ((f_L_pick (x1 >>> ((8 : Int32) &&& 31)) (4000 : Int32)) / (8 : Int32)) / (2 : Int32) * (2 : Int32))) (fun q28 => (q28.1, q28.2))) else (if (f_L_pick x1 (24 : Int32)) = (12 : Int32) then (bnd (f_L_shelve σ ((f_L_pick (x1 >>> ((8 : Int32) &&& 31)) (4000 : Int32)) - (f_L_pick (x1 >>> ((8 : Int32) &&& 31)) (4000 : Int32)) / (8 : Int32) * (8 : Int32)) (((f_L_pick (x1 >>> ((8 : Int32) &&& 31)) (4000 : Int32)) / (8 : Int32)) - ((f_L_pick (x1 >>> ((8 : Int32) &&& 31)) (4000 : Int32)) / (8 : Int32)) / (2 : Int32) * (2 : Int32))) (fun q30 => (q30.1, q30.2))) else (if (f_L_pick x1 (24 : Int32)) = (13 : Int32) then (bnd (f_L_take σ ((f_L_pick (x1 >>> ((8 : Int32) &&& 31)) (4000 : Int32)) - (f_L_pick (x1 >>> ((8 : Int32) &&& 31)) (4000 : Int32)) / (6 : Int32) * (6 : Int32))) (fun q32 => (q32.1, q32.2))) else (if (f_L_pick x1 (24 : Int32)) = (14 : Int32) then (if ((f_L_pick (x1 >>> ((8 : Int32) &&& 31)) (4000 : Int32)) - (f_L_pick (x1 >>> ((8 : Int32) &&& 31)) (4000 : Int32)) / (2 : Int32) * (2 : Int32)) = 0 then (bnd (f_L_snacks σ ((1 : Int32) + ((f_L_pick (x1 >>> ((8 : Int32) &&& 31)) (4000 : Int32)) - (f_L_pick (x1 >>> ((8 : Int32) &&& 31)) (4000 : Int32)) / (20 : Int32) * (20 : Int32)))) (fun q36 => (q36.1, q36.2))) else (bnd (f_L_feed σ ((1 : Int32) + ((f_L_pick (x1 >>> ((8 : Int32) &&& 31)) (4000 : Int32)) - (f_L_pick (x1 >>> ((8 : Int32) &&& 31)) (4000 : Int32)) / (9 : Int32) * (9 : Int32)))) (fun q34 => (q34.1, q34.2)))) else (if (f_L_pick x1 (24 : Int32)) = (15 : Int32) then (bnd (f_L_text σ (13 + ((f_L_pick (x1 >>> ((8 : Int32) &&& 31)) (4000 : Int32)) - (f_L_pick (x1 >>> ((8 : Int32) &&& 31)) (4000 : Int32)) / (6 : Int32) * (6 : Int32)).toNatClampNeg)) (fun q39 => (q39.1, q39.2))) else (if (f_L_pick x1 (24 : Int32)) = (16 : Int32) then (bnd (f_L_text σ (13 + ((f_L_pick (x1 >>> ((8 : Int32) &&& 31)) (4000 : Int32)) - (f_L_pick (x1 >>> ((8 : Int32) &&& 31)) (4000 : Int32)) / (6 : Int32) * (6 : Int32)).toNatClampNeg)) (fun q42 => (q42.1, q42.2))) else (if (f_L_pick x1 (24 : Int32)) = (17 : Int32) then (bnd (f_L_text σ (13 + ((f_L_pick (x1 >>> ((8 : Int32) &&& 31)) (4000 : Int32)) - (f_L_pick (x1 >>> ((8 : Int32) &&& 31)) (4000 : Int32)) / (6 : Int32) * (6 : Int32)).toNatClampNeg)) (fun q45 => (q45.1, q45.2))) else (bnd (f_L_pass σ ((1 : Int32) + ((f_L_pick (x1 >>> ((8 : Int32) &&& 31)) (4000 : Int32)) - (f_L_pick (x1 >>> ((8 : Int32) &&& 31)) (4000 : Int32)) / (5 : Int32) * (5 : Int32)))) (fun q47 => (q47.1, q47.2)))))))))))))))))))))
def ok_L_acts (σ : St) (x1 : Int32) : Prop := (ok_L_pick (x1 >>> ((8 : Int32) &&& 31)) (4000 : Int32) ∧ (ok_L_pick x1 (24 : Int32) ∧ (((f_L_pick x1 (24 : Int32)) = (0 : Int32) → ok_L_crayon σ ((10 : Int32) + ((f_L_pick (x1 >>> ((8 : Int32) &&& 31)) (4000 : Int32)) - (f_L_pick (x1 >>> ((8 : Int32) &&& 31)) (4000 : Int32)) / (111 : Int32) * (111 : Int32)))) ∧ (¬ (f_L_pick x1 (24 : Int32)) = (0 : Int32) → (((f_L_pick x1 (24 : Int32)) = (1 : Int32) → ok_L_letter σ ((f_L_pick (x1 >>> ((8 : Int32) &&& 31)) (4000 : Int32)) - (f_L_pick (x1 >>> ((8 : Int32) &&& 31)) (4000 : Int32)) / (6 : Int32) * (6 : Int32)) (((f_L_pick (x1 >>> ((8 : Int32) &&& 31)) (4000 : Int32)) / (6 : Int32)) - ((f_L_pick (x1 >>> ((8 : Int32) &&& 31)) (4000 : Int32)) / (6 : Int32)) / (6 : Int32) * (6 : Int32)) ((1 : Int32) + (((f_L_pick (x1 >>> ((8 : Int32) &&& 31)) (4000 : Int32)) / (36 : Int32)) - ((f_L_pick (x1 >>> ((8 : Int32) &&& 31)) (4000 : Int32)) / (36 : Int32)) / (40 : Int32) * (40 : Int32))) ((f_L_pick (x1 >>> ((8 : Int32) &&& 31)) (4000 : Int32)) - (f_L_pick (x1 >>> ((8 : Int32) &&& 31)) (4000 : Int32)) / (2 : Int32) * (2 : Int32))) ∧ (¬ (f_L_pick x1 (24 : Int32)) = (1 : Int32) → (((f_L_pick x1 (24 : Int32)) = (2 : Int32) → ok_L_letter σ ((f_L_pick (x1 >>> ((8 : Int32) &&& 31)) (4000 : Int32)) - (f_L_pick (x1 >>> ((8 : Int32) &&& 31)) (4000 : Int32)) / (6 : Int32) * (6 : Int32)) (((f_L_pick (x1 >>> ((8 : Int32) &&& 31)) (4000 : Int32)) / (6 : Int32)) - ((f_L_pick (x1 >>> ((8 : Int32) &&& 31)) (4000 : Int32)) / (6 : Int32)) / (6 : Int32) * (6 : Int32)) ((1 : Int32) + (((f_L_pick (x1 >>> ((8 : Int32) &&& 31)) (4000 : Int32)) / (36 : Int32)) - ((f_L_pick (x1 >>> ((8 : Int32) &&& 31)) (4000 : Int32)) / (36 : Int32)) / (40 : Int32) * (40 : Int32))) ((f_L_pick (x1 >>> ((8 : Int32) &&& 31)) (4000 : Int32)) - (f_L_pick (x1 >>> ((8 : Int32) &&& 31)) (4000 : Int32)) / (2 : Int32) * (2 : Int32))) ∧ (¬ (f_L_pick x1 (24 : Int32)) = (2 : Int32) → (((f_L_pick x1 (24 : Int32)) = (3 : Int32) → ok_L_letter σ ((f_L_pick (x1 >>> ((8 : Int32) &&& 31)) (4000 : Int32)) - (f_L_pick (x1 >>> ((8 : Int32) &&& 31)) (4000 : Int32)) / (6 : Int32) * (6 : Int32)) (((f_L_pick (x1 >>> ((8 : Int32) &&& 31)) (4000 : Int32)) / (6 : Int32)) - ((f_L_pick (x1 >>> ((8 : Int32) &&& 31)) (4000 : Int32)) / (6 : Int32)) / (6 : Int32) * (6 : Int32)) ((1 : Int32) + (((f_L_pick (x1 >>> ((8 : Int32) &&& 31)) (4000 : Int32)) / (36 : Int32)) - ((f_L_pick (x1 >>> ((8 : Int32) &&& 31)) (4000 : Int32)) / (36 : Int32)) / (40 : Int32) * (40 : Int32))) ((f_L_pick (x1 >>> ((8 : Int32) &&& 31)) (4000 : Int32)) - (f_L_pick (x1 >>> ((8 : Int32) &&& 31)) (4000 : Int32)) / (2 : Int32) * (2 : Int32))) ∧ (¬ (f_L_pick x1 (24 : Int32)) = (3 : Int32) → (((f_L_pick x1 (24 : Int32)) = (4 : Int32) → ok_L_parcel σ ((f_L_pick (x1 >>> ((8 : Int32) &&& 31)) (4000 : Int32)) - (f_L_pick (x1 >>> ((8 : Int32) &&& 31)) (4000 : Int32)) / (6 : Int32) * (6 : Int32)) (((f_L_pick (x1 >>> ((8 : Int32) &&& 31)) (4000 : Int32)) / (6 : Int32)) - ((f_L_pick (x1 >>> ((8 : Int32) &&& 31)) (4000 : Int32)) / (6 : Int32)) / (6 : Int32) * (6 : Int32)) ((1 : Int32) + (((f_L_pick (x1 >>> ((8 : Int32) &&& 31)) (4000 : Int32)) / (36 : Int32)) - ((f_L_pick (x1 >>> ((8 : Int32) &&& 31)) (4000 : Int32)) / (36 : Int32)) / (9 : Int32) * (9 : Int32))) ((1 : Int32) + (((f_L_pick (x1 >>> ((8 : Int32) &&& 31)) (4000 : Int32)) / (324 : Int32)) - ((f_L_pick (x1 >>> ((8 : Int32) &&& 31)) (4000 : Int32)) / (324 : Int32)) / (9 : Int32) * (9 : Int32))) ((1 : Int32) + ((f_L_pick (x1 >>> ((8 : Int32) &&& 31)) (4000 : Int32)) - (f_L_pick (x1 >>> ((8 : Int32) &&& 31)) (4000 : Int32)) / (9 : Int32) * (9 : Int32)))) ∧ (¬ (f_L_pick x1 (24 : Int32)) = (4 : Int32) → (((f_L_pick x1 (24 : Int32)) = (5 : Int32) → ((((f_L_pick (x1 >>> ((8 : Int32) &&& 31)) (4000 : Int32)) - (f_L_pick (x1 >>> ((8 : Int32) &&& 31)) (4000 : Int32)) / (2 : Int32) * (2 : Int32)) = 0 → ok_L_string σ ((1 : Int32) + ((f_L_pick (x1 >>> ((8 : Int32) &&& 31)) (4000 : Int32)) - (f_L_pick (x1 >>> ((8 : Int32) &&& 31)) (4000 : Int32)) / (20 : Int32) * (20 : Int32)))) ∧ (¬ ((f_L_pick (x1 >>> ((8 : Int32) &&& 31)) (4000 : Int32)) - (f_L_pick (x1 >>> ((8 : Int32) &&& 31)) (4000 : Int32)) / (2 : Int32) * (2 : Int32)) = 0 → ok_L_ink σ ((1 : Int32) + ((f_L_pick (x1 >>> ((8 : Int32) &&& 31)) (4000 : Int32)) - (f_L_pick (x1 >>> ((8 : Int32) &&& 31)) (4000 : Int32)) / (50 : Int32) * (50 : Int32)))))) ∧ (¬ (f_L_pick x1 (24 : Int32)) = (5 : Int32) → (((f_L_pick x1 (24 : Int32)) = (6 : Int32) → ok_L_potato σ) ∧ (¬ (f_L_pick x1 (24 : Int32)) = (6 : Int32) → (((f_L_pick x1 (24 : Int32)) = (7 : Int32) → ok_L_stamp σ ((f_L_pick (x1 >>> ((8 : Int32) &&& 31)) (4000 : Int32)) - (f_L_pick (x1 >>> ((8 : Int32) &&& 31)) (4000 : Int32)) / (8 : Int32) * (8 : Int32)) (((f_L_pick (x1 >>> ((8 : Int32) &&& 31)) (4000 : Int32)) / (8 : Int32)) - ((f_L_pick (x1 >>> ((8 : Int32) &&& 31)) (4000 : Int32)) / (8 : Int32)) / (2 : Int32) * (2 : Int32))) ∧ (¬ (f_L_pick x1 (24 : Int32)) = (7 : Int32) → (((f_L_pick x1 (24 : Int32)) = (8 : Int32) → ok_L_stamp σ ((f_L_pick (x1 >>> ((8 : Int32) &&& 31)) (4000 : Int32)) - (f_L_pick (x1 >>> ((8 : Int32) &&& 31)) (4000 : Int32)) / (8 : Int32) * (8 : Int32)) (((f_L_pick (x1 >>> ((8 : Int32) &&& 31)) (4000 : Int32)) / (8 : Int32)) - ((f_L_pick (x1 >>> ((8 : Int32) &&& 31)) (4000 : Int32)) / (8 : Int32)) / (2 : Int32) * (2 : Int32))) ∧ (¬ (f_L_pick x1 (24 : Int32)) = (8 : Int32) → (((f_L_pick x1 (24 : Int32)) = (9 : Int32) → ok_L_stamp σ ((f_L_pick (x1 >>> ((8 : Int32) &&& 31)) (4000 : Int32)) - (f_L_pick (x1 >>> ((8 : Int32) &&& 31)) (4000 : Int32)) / (8 : Int32) * (8 : Int32)) (((f_L_pick (x1 >>> ((8 : Int32) &&& 31)) (4000 : Int32)) / (8 : Int32)) - ((f_L_pick (x1 >>> ((8 : Int32) &&& 31)) (4000 : Int32)) / (8 : Int32)) / (2 : Int32) * (2 : Int32))) ∧ (¬ (f_L_pick x1 (24 : Int32)) = (9 : Int32) → (((f_L_pick x1 (24 : Int32)) = (10 : Int32) → ok_L_shelve σ ((f_L_pick (x1 >>> ((8 : Int32) &&& 31)) (4000 : Int32)) - (f_L_pick (x1 >>> ((8 : Int32) &&& 31)) (4000 : Int32)) / (8 : Int32) * (8 : Int32)) (((f_L_pick (x1 >>> ((8 : Int32) &&& 31)) (4000 : Int32)) / (8 : Int32)) - ((f_L_pick (x1 >>> ((8 : Int32) &&& 31)) (4000 : Int32)) / (8 : Int32)) / (2 : Int32) * (2 : Int32))) ∧ (¬ (f_L_pick x1 (24 : Int32)) = (10 : Int32) → (((f_L_pick x1 (24 : Int32)) = (11 : Int32) → ok_L_shelve σ ((f_L_pick (x1 >>> ((8 : Int32) &&& 31)) (4000 : Int32)) - (f_L_pick (x1 >>> ((8 : Int32) &&& 31)) (4000 : Int32)) / (8 : Int32) * (8 : Int32)) (((f_L_pick (x1 >>> ((8 : Int32) &&& 31)) (4000 : Int32)) / (8 : Int32)) - ((f_L_pick (x1 >>> ((8 : Int32) &&& 31)) (4000 : Int32)) / (8 : Int32)) / (2 : Int32) * (2 : Int32))) ∧ (¬ (f_L_pick x1 (24 : Int32)) = (11 : Int32) → (((f_L_pick x1 (24 : Int32)) = (12 : Int32) → ok_L_shelve σ ((f_L_pick (x1 >>> ((8 : Int32) &&& 31)) (4000 : Int32)) - (f_L_pick (x1 >>> ((8 : Int32) &&& 31)) (4000 : Int32)) / (8 : Int32) * (8 : Int32)) (((f_L_pick (x1 >>> ((8 : Int32) &&& 31)) (4000 : Int32)) / (8 : Int32)) - ((f_L_pick (x1 >>> ((8 : Int32) &&& 31)) (4000 : Int32)) / (8 : Int32)) / (2 : Int32) * (2 : Int32))) ∧ (¬ (f_L_pick x1 (24 : Int32)) = (12 : Int32) → (((f_L_pick x1 (24 : Int32)) = (13 : Int32) → ok_L_take σ ((f_L_pick (x1 >>> ((8 : Int32) &&& 31)) (4000 : Int32)) - (f_L_pick (x1 >>> ((8 : Int32) &&& 31)) (4000 : Int32)) / (6 : Int32) * (6 : Int32))) ∧ (¬ (f_L_pick x1 (24 : Int32)) = (13 : Int32) → (((f_L_pick x1 (24 : Int32)) = (14 : Int32) → ((((f_L_pick (x1 >>> ((8 : Int32) &&& 31)) (4000 : Int32)) - (f_L_pick (x1 >>> ((8 : Int32) &&& 31)) (4000 : Int32)) / (2 : Int32) * (2 : Int32)) = 0 → ok_L_snacks σ ((1 : Int32) + ((f_L_pick (x1 >>> ((8 : Int32) &&& 31)) (4000 : Int32)) - (f_L_pick (x1 >>> ((8 : Int32) &&& 31)) (4000 : Int32)) / (20 : Int32) * (20 : Int32)))) ∧ (¬ ((f_L_pick (x1 >>> ((8 : Int32) &&& 31)) (4000 : Int32)) - (f_L_pick (x1 >>> ((8 : Int32) &&& 31)) (4000 : Int32)) / (2 : Int32) * (2 : Int32)) = 0 → ok_L_feed σ ((1 : Int32) + ((f_L_pick (x1 >>> ((8 : Int32) &&& 31)) (4000 : Int32)) - (f_L_pick (x1 >>> ((8 : Int32) &&& 31)) (4000 : Int32)) / (9 : Int32) * (9 : Int32)))))) ∧ (¬ (f_L_pick x1 (24 : Int32)) = (14 : Int32) → (((f_L_pick x1 (24 : Int32)) = (15 : Int32) → (vp_in ((f_L_pick (x1 >>> ((8 : Int32) &&& 31)) (4000 : Int32)) - (f_L_pick (x1 >>> ((8 : Int32) &&& 31)) (4000 : Int32)) / (6 : Int32) * (6 : Int32)) 6 ∧ ok_L_text σ (13 + ((f_L_pick (x1 >>> ((8 : Int32) &&& 31)) (4000 : Int32)) - (f_L_pick (x1 >>> ((8 : Int32) &&& 31)) (4000 : Int32)) / (6 : Int32) * (6 : Int32)).toNatClampNeg))) ∧ (¬ (f_L_pick x1 (24 : Int32)) = (15 : Int32) → (((f_L_pick x1 (24 : Int32)) = (16 : Int32) → (vp_in ((f_L_pick (x1 >>> ((8 : Int32) &&& 31)) (4000 : Int32)) - (f_L_pick (x1 >>> ((8 : Int32) &&& 31)) (4000 : Int32)) / (6 : Int32) * (6 : Int32)) 6 ∧ ok_L_text σ (13 + ((f_L_pick (x1 >>> ((8 : Int32) &&& 31)) (4000 : Int32)) - (f_L_pick (x1 >>> ((8 : Int32) &&& 31)) (4000 : Int32)) / (6 : Int32) * (6 : Int32)).toNatClampNeg))) ∧ (¬ (f_L_pick x1 (24 : Int32)) = (16 : Int32) → (((f_L_pick x1 (24 : Int32)) = (17 : Int32) → (vp_in ((f_L_pick (x1 >>> ((8 : Int32) &&& 31)) (4000 : Int32)) - (f_L_pick (x1 >>> ((8 : Int32) &&& 31)) (4000 : Int32)) / (6 : Int32) * (6 : Int32)) 6 ∧ ok_L_text σ (13 + ((f_L_pick (x1 >>> ((8 : Int32) &&& 31)) (4000 : Int32)) - (f_L_pick (x1 >>> ((8 : Int32) &&& 31)) (4000 : Int32)) / (6 : Int32) * (6 : Int32)).toNatClampNeg))) ∧ (¬ (f_L_pick x1 (24 : Int32)) = (17 : Int32) → ok_L_pass σ ((1 : Int32) + ((f_L_pick (x1 >>> ((8 : Int32) &&& 31)) (4000 : Int32)) - (f_L_pick (x1 >>> ((8 : Int32) &&& 31)) (4000 : Int32)) / (5 : Int32) * (5 : Int32)))))))))))))))))))))))))))))))))))))))))
abbrev rm_L_acts : Room := { frames := 11, cells := 63, slots := 378, locals := 234 }
set_option maxHeartbeats 8000000 in
set_option maxRecDepth 100000 in
theorem c_L_acts (l : Launch) (hfl : l.stackTraces = false) (G : GE) (hG : Gok G) (σ : St) (x1 : Int32) (hok : ok_L_acts σ x1) : Met l yL_acts (wsA yL_acts cL_acts 3 (some .long)) rm_L_acts (va_Pc [.ref (G.2.1 0), .int x1] (Wd G σ)) (va_Ql (fun r u => (u, r) = f_L_acts σ x1) (PB G) (GA G)) 63 378 (GA G) := by
  generalize hf : f_L_acts σ x1 = fv
  rw [f_L_acts] at hf
  rw [ok_L_acts] at hok
  refine gm_start hG (plainFor_of_name (by decide)) (Nat.le_of_ble_eq_true rfl) ?_
  intro p e s m args below meth c X hr hlk ls hl H locs hP hS
  have X : Cx G p s m args c cL_acts 3 RL := X
  obtain ⟨hx, hb, hml, hown, hts, hK, hbs, hXW, -⟩ := id X
  have hl : lv_has ls 3 [(0, .ref (G.2.1 0)), (1, .int x1)] := hl
  refine lv_iload_n hx hb dL_acts_0 rfl (lv_at hl 1 rfl) ?_
  refine lv_bipush (v := 8) hx hb dL_acts_1 (by decide) ?_
  refine lv_ishr hx hb dL_acts_3 ?_
  refine lv_sipush (v := 4000) hx hb dL_acts_4 (by decide) ?_
  have hs1 := hok.1
  have hok := hok.2
  refine g_cIp (g_runS (As := [.int (x1 >>> ((8 : Int32) &&& 31)), .int (4000 : Int32)]) (rest := []) X (c_L_pick l G hG σ (x1 >>> ((8 : Int32) &&& 31)) (4000 : Int32) hs1) ca_L_pick km_L_202 rfl rfl ⟨Nat.le_of_ble_eq_true rfl, Nat.le_of_ble_eq_true rfl⟩ hP hS rfl hl.1 rfl (Nat.le_of_ble_eq_true rfl) ⟨by show 0 + 0 ≤ 63; omega, by show 0 + 0 ≤ 378; omega⟩ dL_acts_7) hS (fun H locs hP hS => ?_)
  refine lv_istore_n (lv' := [(2, .int (f_L_pick (x1 >>> ((8 : Int32) &&& 31)) (4000 : Int32))), (0, .ref (G.2.1 0)), (1, .int x1)]) hx hb dL_acts_10 rfl hl (by decide) rfl (fun ls hl => ?_)
  refine lv_iload_n hx hb dL_acts_11 rfl (lv_at hl 2 rfl) ?_
  refine lv_bipush (v := 24) hx hb dL_acts_12 (by decide) ?_
  have hs2 := hok.1
  have hok := hok.2
  refine g_cIp (g_runS (As := [.int x1, .int (24 : Int32)]) (rest := []) X (c_L_pick l G hG σ x1 (24 : Int32) hs2) ca_L_pick km_L_202 rfl rfl ⟨Nat.le_of_ble_eq_true rfl, Nat.le_of_ble_eq_true rfl⟩ hP hS rfl hl.1 rfl (Nat.le_of_ble_eq_true rfl) ⟨by show 0 + 0 ≤ 63; omega, by show 0 + 0 ≤ 378; omega⟩ dL_acts_14) hS (fun H locs hP hS => ?_)
  by_cases hd0 : (f_L_pick x1 (24 : Int32)) = (0 : Int32)
  · have hf := ite_t hd0 hf
    have hok := hok.1 hd0
    refine lv_tableIn (off := 87) (tgt := 104) hx hb dL_acts_17 (by rw [hd0]; decide) (by rw [hd0]; decide) (by rw [hd0]; rfl) (by decide) ?_
    refine lv_aload_n hx hb dL_acts_104 rfl (lv_at hl 1 rfl) ?_
    refine lv_bipush (v := 10) hx hb dL_acts_105 (by decide) ?_
    refine lv_iload_n hx hb dL_acts_107 rfl (lv_at hl 0 rfl) ?_
    refine lv_bipush (v := 111) hx hb dL_acts_108 (by decide) ?_
    refine lv_irem hx hb dL_acts_110 (by decide) ?_
    refine lv_iadd hx hb dL_acts_111 ?_
    have hs3 := hok
    refine gl_rJ (mc := 1) (ms := 6) (gl_run (As := [.ref (G.2.1 0), .int ((10 : Int32) + ((f_L_pick (x1 >>> ((8 : Int32) &&& 31)) (4000 : Int32)) - (f_L_pick (x1 >>> ((8 : Int32) &&& 31)) (4000 : Int32)) / (111 : Int32) * (111 : Int32)))]) (rest := []) X (c_L_crayon l hfl G hG σ ((10 : Int32) + ((f_L_pick (x1 >>> ((8 : Int32) &&& 31)) (4000 : Int32)) - (f_L_pick (x1 >>> ((8 : Int32) &&& 31)) (4000 : Int32)) / (111 : Int32) * (111 : Int32))) hs3) ca_L_crayon km_L_205 rfl rfl ⟨Nat.le_of_ble_eq_true rfl, Nat.le_of_ble_eq_true rfl⟩ hP hS rfl hl.1 rfl (Nat.le_of_ble_eq_true rfl) ⟨by show 0 + 1 ≤ 63; omega, by show 0 + 6 ≤ 378; omega⟩ dL_acts_112) hS (fun q4 hq4 H locs hP hS => ?_)
    have hf := bnd_go hq4 hf
    exact gl_lret X hr hlk hP hS hf (by omega) (by omega) dL_acts_115
  · have hf := ite_f hd0 hf
    have hok := hok.2 hd0
    by_cases hd1 : (f_L_pick x1 (24 : Int32)) = (1 : Int32)
    · have hf := ite_t hd1 hf
      have hok := hok.1 hd1
      refine lv_tableIn (off := 99) (tgt := 116) hx hb dL_acts_17 (by rw [hd1]; decide) (by rw [hd1]; decide) (by rw [hd1]; rfl) (by decide) ?_
      refine lv_aload_n hx hb dL_acts_116 rfl (lv_at hl 1 rfl) ?_
      refine lv_iload_n hx hb dL_acts_117 rfl (lv_at hl 0 rfl) ?_
      refine lv_bipush (v := 6) hx hb dL_acts_118 (by decide) ?_
      refine lv_irem hx hb dL_acts_120 (by decide) ?_
      refine lv_iload_n hx hb dL_acts_121 rfl (lv_at hl 0 rfl) ?_
      refine lv_bipush (v := 6) hx hb dL_acts_122 (by decide) ?_
      refine lv_idiv hx hb dL_acts_124 (by decide) ?_
      refine lv_bipush (v := 6) hx hb dL_acts_125 (by decide) ?_
      refine lv_irem hx hb dL_acts_127 (by decide) ?_
      refine lv_iconst (v := 1) hx hb dL_acts_128 (by decide) ?_
      refine lv_iload_n hx hb dL_acts_129 rfl (lv_at hl 0 rfl) ?_
      refine lv_bipush (v := 36) hx hb dL_acts_130 (by decide) ?_
      refine lv_idiv hx hb dL_acts_132 (by decide) ?_
      refine lv_bipush (v := 40) hx hb dL_acts_133 (by decide) ?_
      refine lv_irem hx hb dL_acts_135 (by decide) ?_
      refine lv_iadd hx hb dL_acts_136 ?_
      refine lv_iload_n hx hb dL_acts_137 rfl (lv_at hl 0 rfl) ?_
      refine lv_iconst (v := 2) hx hb dL_acts_138 (by decide) ?_
      refine lv_irem hx hb dL_acts_139 (by decide) ?_
      have hs5 := hok
      refine gl_rJ (mc := 1) (ms := 6) (gl_run (As := [.ref (G.2.1 0), .int ((f_L_pick (x1 >>> ((8 : Int32) &&& 31)) (4000 : Int32)) - (f_L_pick (x1 >>> ((8 : Int32) &&& 31)) (4000 : Int32)) / (6 : Int32) * (6 : Int32)), .int (((f_L_pick (x1 >>> ((8 : Int32) &&& 31)) (4000 : Int32)) / (6 : Int32)) - ((f_L_pick (x1 >>> ((8 : Int32) &&& 31)) (4000 : Int32)) / (6 : Int32)) / (6 : Int32) * (6 : Int32)), .int ((1 : Int32) + (((f_L_pick (x1 >>> ((8 : Int32) &&& 31)) (4000 : Int32)) / (36 : Int32)) - ((f_L_pick (x1 >>> ((8 : Int32) &&& 31)) (4000 : Int32)) / (36 : Int32)) / (40 : Int32) * (40 : Int32))), .int ((f_L_pick (x1 >>> ((8 : Int32) &&& 31)) (4000 : Int32)) - (f_L_pick (x1 >>> ((8 : Int32) &&& 31)) (4000 : Int32)) / (2 : Int32) * (2 : Int32))]) (rest := []) X (c_L_letter l hfl G hG σ ((f_L_pick (x1 >>> ((8 : Int32) &&& 31)) (4000 : Int32)) - (f_L_pick (x1 >>> ((8 : Int32) &&& 31)) (4000 : Int32)) / (6 : Int32) * (6 : Int32)) (((f_L_pick (x1 >>> ((8 : Int32) &&& 31)) (4000 : Int32)) / (6 : Int32)) - ((f_L_pick (x1 >>> ((8 : Int32) &&& 31)) (4000 : Int32)) / (6 : Int32)) / (6 : Int32) * (6 : Int32)) ((1 : Int32) + (((f_L_pick (x1 >>> ((8 : Int32) &&& 31)) (4000 : Int32)) / (36 : Int32)) - ((f_L_pick (x1 >>> ((8 : Int32) &&& 31)) (4000 : Int32)) / (36 : Int32)) / (40 : Int32) * (40 : Int32))) ((f_L_pick (x1 >>> ((8 : Int32) &&& 31)) (4000 : Int32)) - (f_L_pick (x1 >>> ((8 : Int32) &&& 31)) (4000 : Int32)) / (2 : Int32) * (2 : Int32)) hs5) ca_L_letter km_L_207 rfl rfl ⟨Nat.le_of_ble_eq_true rfl, Nat.le_of_ble_eq_true rfl⟩ hP hS rfl hl.1 rfl (Nat.le_of_ble_eq_true rfl) ⟨by show 0 + 1 ≤ 63; omega, by show 0 + 6 ≤ 378; omega⟩ dL_acts_140) hS (fun q6 hq6 H locs hP hS => ?_)
      have hf := bnd_go hq6 hf
      exact gl_lret X hr hlk hP hS hf (by omega) (by omega) dL_acts_143
    · have hf := ite_f hd1 hf
      have hok := hok.2 hd1
      by_cases hd2 : (f_L_pick x1 (24 : Int32)) = (2 : Int32)
      · have hf := ite_t hd2 hf
        have hok := hok.1 hd2
        refine lv_tableIn (off := 99) (tgt := 116) hx hb dL_acts_17 (by rw [hd2]; decide) (by rw [hd2]; decide) (by rw [hd2]; rfl) (by decide) ?_
        refine lv_aload_n hx hb dL_acts_116 rfl (lv_at hl 1 rfl) ?_
        refine lv_iload_n hx hb dL_acts_117 rfl (lv_at hl 0 rfl) ?_
        refine lv_bipush (v := 6) hx hb dL_acts_118 (by decide) ?_
        refine lv_irem hx hb dL_acts_120 (by decide) ?_
        refine lv_iload_n hx hb dL_acts_121 rfl (lv_at hl 0 rfl) ?_
        refine lv_bipush (v := 6) hx hb dL_acts_122 (by decide) ?_
        refine lv_idiv hx hb dL_acts_124 (by decide) ?_
        refine lv_bipush (v := 6) hx hb dL_acts_125 (by decide) ?_
        refine lv_irem hx hb dL_acts_127 (by decide) ?_
        refine lv_iconst (v := 1) hx hb dL_acts_128 (by decide) ?_
        refine lv_iload_n hx hb dL_acts_129 rfl (lv_at hl 0 rfl) ?_
        refine lv_bipush (v := 36) hx hb dL_acts_130 (by decide) ?_
        refine lv_idiv hx hb dL_acts_132 (by decide) ?_
        refine lv_bipush (v := 40) hx hb dL_acts_133 (by decide) ?_
        refine lv_irem hx hb dL_acts_135 (by decide) ?_
        refine lv_iadd hx hb dL_acts_136 ?_
        refine lv_iload_n hx hb dL_acts_137 rfl (lv_at hl 0 rfl) ?_
        refine lv_iconst (v := 2) hx hb dL_acts_138 (by decide) ?_
        refine lv_irem hx hb dL_acts_139 (by decide) ?_
        have hs7 := hok
        refine gl_rJ (mc := 1) (ms := 6) (gl_run (As := [.ref (G.2.1 0), .int ((f_L_pick (x1 >>> ((8 : Int32) &&& 31)) (4000 : Int32)) - (f_L_pick (x1 >>> ((8 : Int32) &&& 31)) (4000 : Int32)) / (6 : Int32) * (6 : Int32)), .int (((f_L_pick (x1 >>> ((8 : Int32) &&& 31)) (4000 : Int32)) / (6 : Int32)) - ((f_L_pick (x1 >>> ((8 : Int32) &&& 31)) (4000 : Int32)) / (6 : Int32)) / (6 : Int32) * (6 : Int32)), .int ((1 : Int32) + (((f_L_pick (x1 >>> ((8 : Int32) &&& 31)) (4000 : Int32)) / (36 : Int32)) - ((f_L_pick (x1 >>> ((8 : Int32) &&& 31)) (4000 : Int32)) / (36 : Int32)) / (40 : Int32) * (40 : Int32))), .int ((f_L_pick (x1 >>> ((8 : Int32) &&& 31)) (4000 : Int32)) - (f_L_pick (x1 >>> ((8 : Int32) &&& 31)) (4000 : Int32)) / (2 : Int32) * (2 : Int32))]) (rest := []) X (c_L_letter l hfl G hG σ ((f_L_pick (x1 >>> ((8 : Int32) &&& 31)) (4000 : Int32)) - (f_L_pick (x1 >>> ((8 : Int32) &&& 31)) (4000 : Int32)) / (6 : Int32) * (6 : Int32)) (((f_L_pick (x1 >>> ((8 : Int32) &&& 31)) (4000 : Int32)) / (6 : Int32)) - ((f_L_pick (x1 >>> ((8 : Int32) &&& 31)) (4000 : Int32)) / (6 : Int32)) / (6 : Int32) * (6 : Int32)) ((1 : Int32) + (((f_L_pick (x1 >>> ((8 : Int32) &&& 31)) (4000 : Int32)) / (36 : Int32)) - ((f_L_pick (x1 >>> ((8 : Int32) &&& 31)) (4000 : Int32)) / (36 : Int32)) / (40 : Int32) * (40 : Int32))) ((f_L_pick (x1 >>> ((8 : Int32) &&& 31)) (4000 : Int32)) - (f_L_pick (x1 >>> ((8 : Int32) &&& 31)) (4000 : Int32)) / (2 : Int32) * (2 : Int32)) hs7) ca_L_letter km_L_207 rfl rfl ⟨Nat.le_of_ble_eq_true rfl, Nat.le_of_ble_eq_true rfl⟩ hP hS rfl hl.1 rfl (Nat.le_of_ble_eq_true rfl) ⟨by show 0 + 1 ≤ 63; omega, by show 0 + 6 ≤ 378; omega⟩ dL_acts_140) hS (fun q8 hq8 H locs hP hS => ?_)
        have hf := bnd_go hq8 hf
        exact gl_lret X hr hlk hP hS hf (by omega) (by omega) dL_acts_143
      · have hf := ite_f hd2 hf
        have hok := hok.2 hd2
        by_cases hd3 : (f_L_pick x1 (24 : Int32)) = (3 : Int32)
        · have hf := ite_t hd3 hf
          have hok := hok.1 hd3
          refine lv_tableIn (off := 99) (tgt := 116) hx hb dL_acts_17 (by rw [hd3]; decide) (by rw [hd3]; decide) (by rw [hd3]; rfl) (by decide) ?_
          refine lv_aload_n hx hb dL_acts_116 rfl (lv_at hl 1 rfl) ?_
          refine lv_iload_n hx hb dL_acts_117 rfl (lv_at hl 0 rfl) ?_
          refine lv_bipush (v := 6) hx hb dL_acts_118 (by decide) ?_
          refine lv_irem hx hb dL_acts_120 (by decide) ?_
          refine lv_iload_n hx hb dL_acts_121 rfl (lv_at hl 0 rfl) ?_
          refine lv_bipush (v := 6) hx hb dL_acts_122 (by decide) ?_
          refine lv_idiv hx hb dL_acts_124 (by decide) ?_
          refine lv_bipush (v := 6) hx hb dL_acts_125 (by decide) ?_
          refine lv_irem hx hb dL_acts_127 (by decide) ?_
          refine lv_iconst (v := 1) hx hb dL_acts_128 (by decide) ?_
          refine lv_iload_n hx hb dL_acts_129 rfl (lv_at hl 0 rfl) ?_
          refine lv_bipush (v := 36) hx hb dL_acts_130 (by decide) ?_
          refine lv_idiv hx hb dL_acts_132 (by decide) ?_
          refine lv_bipush (v := 40) hx hb dL_acts_133 (by decide) ?_
          refine lv_irem hx hb dL_acts_135 (by decide) ?_
          refine lv_iadd hx hb dL_acts_136 ?_
          refine lv_iload_n hx hb dL_acts_137 rfl (lv_at hl 0 rfl) ?_
          refine lv_iconst (v := 2) hx hb dL_acts_138 (by decide) ?_
          refine lv_irem hx hb dL_acts_139 (by decide) ?_
          have hs9 := hok
          refine gl_rJ (mc := 1) (ms := 6) (gl_run (As := [.ref (G.2.1 0), .int ((f_L_pick (x1 >>> ((8 : Int32) &&& 31)) (4000 : Int32)) - (f_L_pick (x1 >>> ((8 : Int32) &&& 31)) (4000 : Int32)) / (6 : Int32) * (6 : Int32)), .int (((f_L_pick (x1 >>> ((8 : Int32) &&& 31)) (4000 : Int32)) / (6 : Int32)) - ((f_L_pick (x1 >>> ((8 : Int32) &&& 31)) (4000 : Int32)) / (6 : Int32)) / (6 : Int32) * (6 : Int32)), .int ((1 : Int32) + (((f_L_pick (x1 >>> ((8 : Int32) &&& 31)) (4000 : Int32)) / (36 : Int32)) - ((f_L_pick (x1 >>> ((8 : Int32) &&& 31)) (4000 : Int32)) / (36 : Int32)) / (40 : Int32) * (40 : Int32))), .int ((f_L_pick (x1 >>> ((8 : Int32) &&& 31)) (4000 : Int32)) - (f_L_pick (x1 >>> ((8 : Int32) &&& 31)) (4000 : Int32)) / (2 : Int32) * (2 : Int32))]) (rest := []) X (c_L_letter l hfl G hG σ ((f_L_pick (x1 >>> ((8 : Int32) &&& 31)) (4000 : Int32)) - (f_L_pick (x1 >>> ((8 : Int32) &&& 31)) (4000 : Int32)) / (6 : Int32) * (6 : Int32)) (((f_L_pick (x1 >>> ((8 : Int32) &&& 31)) (4000 : Int32)) / (6 : Int32)) - ((f_L_pick (x1 >>> ((8 : Int32) &&& 31)) (4000 : Int32)) / (6 : Int32)) / (6 : Int32) * (6 : Int32)) ((1 : Int32) + (((f_L_pick (x1 >>> ((8 : Int32) &&& 31)) (4000 : Int32)) / (36 : Int32)) - ((f_L_pick (x1 >>> ((8 : Int32) &&& 31)) (4000 : Int32)) / (36 : Int32)) / (40 : Int32) * (40 : Int32))) ((f_L_pick (x1 >>> ((8 : Int32) &&& 31)) (4000 : Int32)) - (f_L_pick (x1 >>> ((8 : Int32) &&& 31)) (4000 : Int32)) / (2 : Int32) * (2 : Int32)) hs9) ca_L_letter km_L_207 rfl rfl ⟨Nat.le_of_ble_eq_true rfl, Nat.le_of_ble_eq_true rfl⟩ hP hS rfl hl.1 rfl (Nat.le_of_ble_eq_true rfl) ⟨by show 0 + 1 ≤ 63; omega, by show 0 + 6 ≤ 378; omega⟩ dL_acts_140) hS (fun q10 hq10 H locs hP hS => ?_)
          have hf := bnd_go hq10 hf
          exact gl_lret X hr hlk hP hS hf (by omega) (by omega) dL_acts_143
        · have hf := ite_f hd3 hf
          have hok := hok.2 hd3
          by_cases hd4 : (f_L_pick x1 (24 : Int32)) = (4 : Int32)
          · have hf := ite_t hd4 hf
            have hok := hok.1 hd4
            refine lv_tableIn (off := 127) (tgt := 144) hx hb dL_acts_17 (by rw [hd4]; decide) (by rw [hd4]; decide) (by rw [hd4]; rfl) (by decide) ?_
            refine lv_aload_n hx hb dL_acts_144 rfl (lv_at hl 1 rfl) ?_
            refine lv_iload_n hx hb dL_acts_145 rfl (lv_at hl 0 rfl) ?_
            refine lv_bipush (v := 6) hx hb dL_acts_146 (by decide) ?_
            refine lv_irem hx hb dL_acts_148 (by decide) ?_
            refine lv_iload_n hx hb dL_acts_149 rfl (lv_at hl 0 rfl) ?_
            refine lv_bipush (v := 6) hx hb dL_acts_150 (by decide) ?_
            refine lv_idiv hx hb dL_acts_152 (by decide) ?_
            refine lv_bipush (v := 6) hx hb dL_acts_153 (by decide) ?_
            refine lv_irem hx hb dL_acts_155 (by decide) ?_
            refine lv_iconst (v := 1) hx hb dL_acts_156 (by decide) ?_
            refine lv_iload_n hx hb dL_acts_157 rfl (lv_at hl 0 rfl) ?_
            refine lv_bipush (v := 36) hx hb dL_acts_158 (by decide) ?_
            refine lv_idiv hx hb dL_acts_160 (by decide) ?_
            refine lv_bipush (v := 9) hx hb dL_acts_161 (by decide) ?_
            refine lv_irem hx hb dL_acts_163 (by decide) ?_
            refine lv_iadd hx hb dL_acts_164 ?_
            refine lv_iconst (v := 1) hx hb dL_acts_165 (by decide) ?_
            refine lv_iload_n hx hb dL_acts_166 rfl (lv_at hl 0 rfl) ?_
            refine lv_sipush (v := 324) hx hb dL_acts_167 (by decide) ?_
            refine lv_idiv hx hb dL_acts_170 (by decide) ?_
            refine lv_bipush (v := 9) hx hb dL_acts_171 (by decide) ?_
            refine lv_irem hx hb dL_acts_173 (by decide) ?_
            refine lv_iadd hx hb dL_acts_174 ?_
            refine lv_iconst (v := 1) hx hb dL_acts_175 (by decide) ?_
            refine lv_iload_n hx hb dL_acts_176 rfl (lv_at hl 0 rfl) ?_
            refine lv_bipush (v := 9) hx hb dL_acts_177 (by decide) ?_
            refine lv_irem hx hb dL_acts_179 (by decide) ?_
            refine lv_iadd hx hb dL_acts_180 ?_
            have hs11 := hok
            refine gl_rJ (mc := 1) (ms := 6) (gl_run (As := [.ref (G.2.1 0), .int ((f_L_pick (x1 >>> ((8 : Int32) &&& 31)) (4000 : Int32)) - (f_L_pick (x1 >>> ((8 : Int32) &&& 31)) (4000 : Int32)) / (6 : Int32) * (6 : Int32)), .int (((f_L_pick (x1 >>> ((8 : Int32) &&& 31)) (4000 : Int32)) / (6 : Int32)) - ((f_L_pick (x1 >>> ((8 : Int32) &&& 31)) (4000 : Int32)) / (6 : Int32)) / (6 : Int32) * (6 : Int32)), .int ((1 : Int32) + (((f_L_pick (x1 >>> ((8 : Int32) &&& 31)) (4000 : Int32)) / (36 : Int32)) - ((f_L_pick (x1 >>> ((8 : Int32) &&& 31)) (4000 : Int32)) / (36 : Int32)) / (9 : Int32) * (9 : Int32))), .int ((1 : Int32) + (((f_L_pick (x1 >>> ((8 : Int32) &&& 31)) (4000 : Int32)) / (324 : Int32)) - ((f_L_pick (x1 >>> ((8 : Int32) &&& 31)) (4000 : Int32)) / (324 : Int32)) / (9 : Int32) * (9 : Int32))), .int ((1 : Int32) + ((f_L_pick (x1 >>> ((8 : Int32) &&& 31)) (4000 : Int32)) - (f_L_pick (x1 >>> ((8 : Int32) &&& 31)) (4000 : Int32)) / (9 : Int32) * (9 : Int32)))]) (rest := []) X (c_L_parcel l hfl G hG σ ((f_L_pick (x1 >>> ((8 : Int32) &&& 31)) (4000 : Int32)) - (f_L_pick (x1 >>> ((8 : Int32) &&& 31)) (4000 : Int32)) / (6 : Int32) * (6 : Int32)) (((f_L_pick (x1 >>> ((8 : Int32) &&& 31)) (4000 : Int32)) / (6 : Int32)) - ((f_L_pick (x1 >>> ((8 : Int32) &&& 31)) (4000 : Int32)) / (6 : Int32)) / (6 : Int32) * (6 : Int32)) ((1 : Int32) + (((f_L_pick (x1 >>> ((8 : Int32) &&& 31)) (4000 : Int32)) / (36 : Int32)) - ((f_L_pick (x1 >>> ((8 : Int32) &&& 31)) (4000 : Int32)) / (36 : Int32)) / (9 : Int32) * (9 : Int32))) ((1 : Int32) + (((f_L_pick (x1 >>> ((8 : Int32) &&& 31)) (4000 : Int32)) / (324 : Int32)) - ((f_L_pick (x1 >>> ((8 : Int32) &&& 31)) (4000 : Int32)) / (324 : Int32)) / (9 : Int32) * (9 : Int32))) ((1 : Int32) + ((f_L_pick (x1 >>> ((8 : Int32) &&& 31)) (4000 : Int32)) - (f_L_pick (x1 >>> ((8 : Int32) &&& 31)) (4000 : Int32)) / (9 : Int32) * (9 : Int32))) hs11) ca_L_parcel km_L_210 rfl rfl ⟨Nat.le_of_ble_eq_true rfl, Nat.le_of_ble_eq_true rfl⟩ hP hS rfl hl.1 rfl (Nat.le_of_ble_eq_true rfl) ⟨by show 0 + 1 ≤ 63; omega, by show 0 + 6 ≤ 378; omega⟩ dL_acts_181) hS (fun q12 hq12 H locs hP hS => ?_)
            have hf := bnd_go hq12 hf
            exact gl_lret X hr hlk hP hS hf (by omega) (by omega) dL_acts_184
          · have hf := ite_f hd4 hf
            have hok := hok.2 hd4
            by_cases hd5 : (f_L_pick x1 (24 : Int32)) = (5 : Int32)
            · have hf := ite_t hd5 hf
              have hok := hok.1 hd5
              refine lv_tableIn (off := 168) (tgt := 185) hx hb dL_acts_17 (by rw [hd5]; decide) (by rw [hd5]; decide) (by rw [hd5]; rfl) (by decide) ?_
              refine lv_iload_n hx hb dL_acts_185 rfl (lv_at hl 0 rfl) ?_
              refine lv_iconst (v := 2) hx hb dL_acts_186 (by decide) ?_
              refine lv_irem hx hb dL_acts_187 (by decide) ?_
              refine lv_if_ne (tgt := 204) hx hb dL_acts_188 (by decide) (fun hc => ?_) (fun hc => ?_)
              · have hf := ite_f hc hf
                have hok := hok.2 hc
                refine lv_aload_n hx hb dL_acts_204 rfl (lv_at hl 1 rfl) ?_
                refine lv_iconst (v := 1) hx hb dL_acts_205 (by decide) ?_
                refine lv_iload_n hx hb dL_acts_206 rfl (lv_at hl 0 rfl) ?_
                refine lv_bipush (v := 50) hx hb dL_acts_207 (by decide) ?_
                refine lv_irem hx hb dL_acts_209 (by decide) ?_
                refine lv_iadd hx hb dL_acts_210 ?_
                have hs13 := hok
                refine gl_rJ (mc := 1) (ms := 6) (gl_run (As := [.ref (G.2.1 0), .int ((1 : Int32) + ((f_L_pick (x1 >>> ((8 : Int32) &&& 31)) (4000 : Int32)) - (f_L_pick (x1 >>> ((8 : Int32) &&& 31)) (4000 : Int32)) / (50 : Int32) * (50 : Int32)))]) (rest := []) X (c_L_ink l hfl G hG σ ((1 : Int32) + ((f_L_pick (x1 >>> ((8 : Int32) &&& 31)) (4000 : Int32)) - (f_L_pick (x1 >>> ((8 : Int32) &&& 31)) (4000 : Int32)) / (50 : Int32) * (50 : Int32))) hs13) ca_L_ink km_L_215 rfl rfl ⟨Nat.le_of_ble_eq_true rfl, Nat.le_of_ble_eq_true rfl⟩ hP hS rfl hl.1 rfl (Nat.le_of_ble_eq_true rfl) ⟨by show 0 + 1 ≤ 63; omega, by show 0 + 6 ≤ 378; omega⟩ dL_acts_211) hS (fun q14 hq14 H locs hP hS => ?_)
                have hf := bnd_go hq14 hf
                exact gl_lret X hr hlk hP hS hf (by omega) (by omega) dL_acts_214
              · have hf := ite_t hc hf
                have hok := hok.1 hc
                refine lv_aload_n hx hb dL_acts_191 rfl (lv_at hl 1 rfl) ?_
                refine lv_iconst (v := 1) hx hb dL_acts_192 (by decide) ?_
                refine lv_iload_n hx hb dL_acts_193 rfl (lv_at hl 0 rfl) ?_
                refine lv_bipush (v := 20) hx hb dL_acts_194 (by decide) ?_
                refine lv_irem hx hb dL_acts_196 (by decide) ?_
                refine lv_iadd hx hb dL_acts_197 ?_
                have hs15 := hok
                refine gl_rJ (mc := 1) (ms := 6) (gl_run (As := [.ref (G.2.1 0), .int ((1 : Int32) + ((f_L_pick (x1 >>> ((8 : Int32) &&& 31)) (4000 : Int32)) - (f_L_pick (x1 >>> ((8 : Int32) &&& 31)) (4000 : Int32)) / (20 : Int32) * (20 : Int32)))]) (rest := []) X (c_L_string l hfl G hG σ ((1 : Int32) + ((f_L_pick (x1 >>> ((8 : Int32) &&& 31)) (4000 : Int32)) - (f_L_pick (x1 >>> ((8 : Int32) &&& 31)) (4000 : Int32)) / (20 : Int32) * (20 : Int32))) hs15) ca_L_string km_L_213 rfl rfl ⟨Nat.le_of_ble_eq_true rfl, Nat.le_of_ble_eq_true rfl⟩ hP hS rfl hl.1 rfl (Nat.le_of_ble_eq_true rfl) ⟨by show 0 + 1 ≤ 63; omega, by show 0 + 6 ≤ 378; omega⟩ dL_acts_198) hS (fun q16 hq16 H locs hP hS => ?_)
                have hf := bnd_go hq16 hf
                refine lv_goto (tgt := 214) hx hb dL_acts_201 (by decide) ?_
                exact gl_lret X hr hlk hP hS hf (by omega) (by omega) dL_acts_214
            · have hf := ite_f hd5 hf
              have hok := hok.2 hd5
              by_cases hd6 : (f_L_pick x1 (24 : Int32)) = (6 : Int32)
              · have hf := ite_t hd6 hf
                have hok := hok.1 hd6
                refine lv_tableIn (off := 198) (tgt := 215) hx hb dL_acts_17 (by rw [hd6]; decide) (by rw [hd6]; decide) (by rw [hd6]; rfl) (by decide) ?_
                refine lv_aload_n hx hb dL_acts_215 rfl (lv_at hl 1 rfl) ?_
                have hs17 := hok
                refine gl_rJ (mc := 1) (ms := 6) (gl_run (As := [.ref (G.2.1 0)]) (rest := []) X (c_L_potato l hfl G hG σ hs17) ca_L_potato km_L_217 rfl rfl ⟨Nat.le_of_ble_eq_true rfl, Nat.le_of_ble_eq_true rfl⟩ hP hS rfl hl.1 rfl (Nat.le_of_ble_eq_true rfl) ⟨by show 0 + 1 ≤ 63; omega, by show 0 + 6 ≤ 378; omega⟩ dL_acts_216) hS (fun q18 hq18 H locs hP hS => ?_)
                have hf := bnd_go hq18 hf
                exact gl_lret X hr hlk hP hS hf (by omega) (by omega) dL_acts_219
              · have hf := ite_f hd6 hf
                have hok := hok.2 hd6
                by_cases hd7 : (f_L_pick x1 (24 : Int32)) = (7 : Int32)
                · have hf := ite_t hd7 hf
                  have hok := hok.1 hd7
                  refine lv_tableIn (off := 203) (tgt := 220) hx hb dL_acts_17 (by rw [hd7]; decide) (by rw [hd7]; decide) (by rw [hd7]; rfl) (by decide) ?_
                  refine lv_aload_n hx hb dL_acts_220 rfl (lv_at hl 1 rfl) ?_
                  refine lv_iload_n hx hb dL_acts_221 rfl (lv_at hl 0 rfl) ?_
                  refine lv_bipush (v := 8) hx hb dL_acts_222 (by decide) ?_
                  refine lv_irem hx hb dL_acts_224 (by decide) ?_
                  refine lv_iload_n hx hb dL_acts_225 rfl (lv_at hl 0 rfl) ?_
                  refine lv_bipush (v := 8) hx hb dL_acts_226 (by decide) ?_
                  refine lv_idiv hx hb dL_acts_228 (by decide) ?_
                  refine lv_iconst (v := 2) hx hb dL_acts_229 (by decide) ?_
                  refine lv_irem hx hb dL_acts_230 (by decide) ?_
                  have hs19 := hok
                  refine gl_rJ (mc := 1) (ms := 6) (gl_run (As := [.ref (G.2.1 0), .int ((f_L_pick (x1 >>> ((8 : Int32) &&& 31)) (4000 : Int32)) - (f_L_pick (x1 >>> ((8 : Int32) &&& 31)) (4000 : Int32)) / (8 : Int32) * (8 : Int32)), .int (((f_L_pick (x1 >>> ((8 : Int32) &&& 31)) (4000 : Int32)) / (8 : Int32)) - ((f_L_pick (x1 >>> ((8 : Int32) &&& 31)) (4000 : Int32)) / (8 : Int32)) / (2 : Int32) * (2 : Int32))]) (rest := []) X (c_L_stamp l hfl G hG σ ((f_L_pick (x1 >>> ((8 : Int32) &&& 31)) (4000 : Int32)) - (f_L_pick (x1 >>> ((8 : Int32) &&& 31)) (4000 : Int32)) / (8 : Int32) * (8 : Int32)) (((f_L_pick (x1 >>> ((8 : Int32) &&& 31)) (4000 : Int32)) / (8 : Int32)) - ((f_L_pick (x1 >>> ((8 : Int32) &&& 31)) (4000 : Int32)) / (8 : Int32)) / (2 : Int32) * (2 : Int32)) hs19) ca_L_stamp km_L_219 rfl rfl ⟨Nat.le_of_ble_eq_true rfl, Nat.le_of_ble_eq_true rfl⟩ hP hS rfl hl.1 rfl (Nat.le_of_ble_eq_true rfl) ⟨by show 0 + 1 ≤ 63; omega, by show 0 + 6 ≤ 378; omega⟩ dL_acts_231) hS (fun q20 hq20 H locs hP hS => ?_)
                  have hf := bnd_go hq20 hf
                  exact gl_lret X hr hlk hP hS hf (by omega) (by omega) dL_acts_234
                · have hf := ite_f hd7 hf
                  have hok := hok.2 hd7
                  by_cases hd8 : (f_L_pick x1 (24 : Int32)) = (8 : Int32)
                  · have hf := ite_t hd8 hf
                    have hok := hok.1 hd8
                    refine lv_tableIn (off := 203) (tgt := 220) hx hb dL_acts_17 (by rw [hd8]; decide) (by rw [hd8]; decide) (by rw [hd8]; rfl) (by decide) ?_
                    refine lv_aload_n hx hb dL_acts_220 rfl (lv_at hl 1 rfl) ?_
                    refine lv_iload_n hx hb dL_acts_221 rfl (lv_at hl 0 rfl) ?_
                    refine lv_bipush (v := 8) hx hb dL_acts_222 (by decide) ?_
                    refine lv_irem hx hb dL_acts_224 (by decide) ?_
                    refine lv_iload_n hx hb dL_acts_225 rfl (lv_at hl 0 rfl) ?_
                    refine lv_bipush (v := 8) hx hb dL_acts_226 (by decide) ?_
                    refine lv_idiv hx hb dL_acts_228 (by decide) ?_
                    refine lv_iconst (v := 2) hx hb dL_acts_229 (by decide) ?_
                    refine lv_irem hx hb dL_acts_230 (by decide) ?_
                    have hs21 := hok
                    refine gl_rJ (mc := 1) (ms := 6) (gl_run (As := [.ref (G.2.1 0), .int ((f_L_pick (x1 >>> ((8 : Int32) &&& 31)) (4000 : Int32)) - (f_L_pick (x1 >>> ((8 : Int32) &&& 31)) (4000 : Int32)) / (8 : Int32) * (8 : Int32)), .int (((f_L_pick (x1 >>> ((8 : Int32) &&& 31)) (4000 : Int32)) / (8 : Int32)) - ((f_L_pick (x1 >>> ((8 : Int32) &&& 31)) (4000 : Int32)) / (8 : Int32)) / (2 : Int32) * (2 : Int32))]) (rest := []) X (c_L_stamp l hfl G hG σ ((f_L_pick (x1 >>> ((8 : Int32) &&& 31)) (4000 : Int32)) - (f_L_pick (x1 >>> ((8 : Int32) &&& 31)) (4000 : Int32)) / (8 : Int32) * (8 : Int32)) (((f_L_pick (x1 >>> ((8 : Int32) &&& 31)) (4000 : Int32)) / (8 : Int32)) - ((f_L_pick (x1 >>> ((8 : Int32) &&& 31)) (4000 : Int32)) / (8 : Int32)) / (2 : Int32) * (2 : Int32)) hs21) ca_L_stamp km_L_219 rfl rfl ⟨Nat.le_of_ble_eq_true rfl, Nat.le_of_ble_eq_true rfl⟩ hP hS rfl hl.1 rfl (Nat.le_of_ble_eq_true rfl) ⟨by show 0 + 1 ≤ 63; omega, by show 0 + 6 ≤ 378; omega⟩ dL_acts_231) hS (fun q22 hq22 H locs hP hS => ?_)
                    have hf := bnd_go hq22 hf
                    exact gl_lret X hr hlk hP hS hf (by omega) (by omega) dL_acts_234
                  · have hf := ite_f hd8 hf
                    have hok := hok.2 hd8
                    by_cases hd9 : (f_L_pick x1 (24 : Int32)) = (9 : Int32)
                    · have hf := ite_t hd9 hf
                      have hok := hok.1 hd9
                      refine lv_tableIn (off := 203) (tgt := 220) hx hb dL_acts_17 (by rw [hd9]; decide) (by rw [hd9]; decide) (by rw [hd9]; rfl) (by decide) ?_
                      refine lv_aload_n hx hb dL_acts_220 rfl (lv_at hl 1 rfl) ?_
                      refine lv_iload_n hx hb dL_acts_221 rfl (lv_at hl 0 rfl) ?_
                      refine lv_bipush (v := 8) hx hb dL_acts_222 (by decide) ?_
                      refine lv_irem hx hb dL_acts_224 (by decide) ?_
                      refine lv_iload_n hx hb dL_acts_225 rfl (lv_at hl 0 rfl) ?_
                      refine lv_bipush (v := 8) hx hb dL_acts_226 (by decide) ?_
                      refine lv_idiv hx hb dL_acts_228 (by decide) ?_
                      refine lv_iconst (v := 2) hx hb dL_acts_229 (by decide) ?_
                      refine lv_irem hx hb dL_acts_230 (by decide) ?_
                      have hs23 := hok
                      refine gl_rJ (mc := 1) (ms := 6) (gl_run (As := [.ref (G.2.1 0), .int ((f_L_pick (x1 >>> ((8 : Int32) &&& 31)) (4000 : Int32)) - (f_L_pick (x1 >>> ((8 : Int32) &&& 31)) (4000 : Int32)) / (8 : Int32) * (8 : Int32)), .int (((f_L_pick (x1 >>> ((8 : Int32) &&& 31)) (4000 : Int32)) / (8 : Int32)) - ((f_L_pick (x1 >>> ((8 : Int32) &&& 31)) (4000 : Int32)) / (8 : Int32)) / (2 : Int32) * (2 : Int32))]) (rest := []) X (c_L_stamp l hfl G hG σ ((f_L_pick (x1 >>> ((8 : Int32) &&& 31)) (4000 : Int32)) - (f_L_pick (x1 >>> ((8 : Int32) &&& 31)) (4000 : Int32)) / (8 : Int32) * (8 : Int32)) (((f_L_pick (x1 >>> ((8 : Int32) &&& 31)) (4000 : Int32)) / (8 : Int32)) - ((f_L_pick (x1 >>> ((8 : Int32) &&& 31)) (4000 : Int32)) / (8 : Int32)) / (2 : Int32) * (2 : Int32)) hs23) ca_L_stamp km_L_219 rfl rfl ⟨Nat.le_of_ble_eq_true rfl, Nat.le_of_ble_eq_true rfl⟩ hP hS rfl hl.1 rfl (Nat.le_of_ble_eq_true rfl) ⟨by show 0 + 1 ≤ 63; omega, by show 0 + 6 ≤ 378; omega⟩ dL_acts_231) hS (fun q24 hq24 H locs hP hS => ?_)
                      have hf := bnd_go hq24 hf
                      exact gl_lret X hr hlk hP hS hf (by omega) (by omega) dL_acts_234
                    · have hf := ite_f hd9 hf
                      have hok := hok.2 hd9
                      by_cases hd10 : (f_L_pick x1 (24 : Int32)) = (10 : Int32)
                      · have hf := ite_t hd10 hf
                        have hok := hok.1 hd10
                        refine lv_tableIn (off := 218) (tgt := 235) hx hb dL_acts_17 (by rw [hd10]; decide) (by rw [hd10]; decide) (by rw [hd10]; rfl) (by decide) ?_
                        refine lv_aload_n hx hb dL_acts_235 rfl (lv_at hl 1 rfl) ?_
                        refine lv_iload_n hx hb dL_acts_236 rfl (lv_at hl 0 rfl) ?_
                        refine lv_bipush (v := 8) hx hb dL_acts_237 (by decide) ?_
                        refine lv_irem hx hb dL_acts_239 (by decide) ?_
                        refine lv_iload_n hx hb dL_acts_240 rfl (lv_at hl 0 rfl) ?_
                        refine lv_bipush (v := 8) hx hb dL_acts_241 (by decide) ?_
                        refine lv_idiv hx hb dL_acts_243 (by decide) ?_
                        refine lv_iconst (v := 2) hx hb dL_acts_244 (by decide) ?_
                        refine lv_irem hx hb dL_acts_245 (by decide) ?_
                        have hs25 := hok
                        refine gl_rJ (mc := 1) (ms := 6) (gl_run (As := [.ref (G.2.1 0), .int ((f_L_pick (x1 >>> ((8 : Int32) &&& 31)) (4000 : Int32)) - (f_L_pick (x1 >>> ((8 : Int32) &&& 31)) (4000 : Int32)) / (8 : Int32) * (8 : Int32)), .int (((f_L_pick (x1 >>> ((8 : Int32) &&& 31)) (4000 : Int32)) / (8 : Int32)) - ((f_L_pick (x1 >>> ((8 : Int32) &&& 31)) (4000 : Int32)) / (8 : Int32)) / (2 : Int32) * (2 : Int32))]) (rest := []) X (c_L_shelve l hfl G hG σ ((f_L_pick (x1 >>> ((8 : Int32) &&& 31)) (4000 : Int32)) - (f_L_pick (x1 >>> ((8 : Int32) &&& 31)) (4000 : Int32)) / (8 : Int32) * (8 : Int32)) (((f_L_pick (x1 >>> ((8 : Int32) &&& 31)) (4000 : Int32)) / (8 : Int32)) - ((f_L_pick (x1 >>> ((8 : Int32) &&& 31)) (4000 : Int32)) / (8 : Int32)) / (2 : Int32) * (2 : Int32)) hs25) ca_L_shelve km_L_221 rfl rfl ⟨Nat.le_of_ble_eq_true rfl, Nat.le_of_ble_eq_true rfl⟩ hP hS rfl hl.1 rfl (Nat.le_of_ble_eq_true rfl) ⟨by show 0 + 1 ≤ 63; omega, by show 0 + 6 ≤ 378; omega⟩ dL_acts_246) hS (fun q26 hq26 H locs hP hS => ?_)
                        have hf := bnd_go hq26 hf
                        exact gl_lret X hr hlk hP hS hf (by omega) (by omega) dL_acts_249
                      · have hf := ite_f hd10 hf
                        have hok := hok.2 hd10
                        by_cases hd11 : (f_L_pick x1 (24 : Int32)) = (11 : Int32)
                        · have hf := ite_t hd11 hf
                          have hok := hok.1 hd11
                          refine lv_tableIn (off := 218) (tgt := 235) hx hb dL_acts_17 (by rw [hd11]; decide) (by rw [hd11]; decide) (by rw [hd11]; rfl) (by decide) ?_
                          refine lv_aload_n hx hb dL_acts_235 rfl (lv_at hl 1 rfl) ?_
                          refine lv_iload_n hx hb dL_acts_236 rfl (lv_at hl 0 rfl) ?_
                          refine lv_bipush (v := 8) hx hb dL_acts_237 (by decide) ?_
                          refine lv_irem hx hb dL_acts_239 (by decide) ?_
                          refine lv_iload_n hx hb dL_acts_240 rfl (lv_at hl 0 rfl) ?_
                          refine lv_bipush (v := 8) hx hb dL_acts_241 (by decide) ?_
                          refine lv_idiv hx hb dL_acts_243 (by decide) ?_
                          refine lv_iconst (v := 2) hx hb dL_acts_244 (by decide) ?_
                          refine lv_irem hx hb dL_acts_245 (by decide) ?_
                          have hs27 := hok
                          refine gl_rJ (mc := 1) (ms := 6) (gl_run (As := [.ref (G.2.1 0), .int ((f_L_pick (x1 >>> ((8 : Int32) &&& 31)) (4000 : Int32)) - (f_L_pick (x1 >>> ((8 : Int32) &&& 31)) (4000 : Int32)) / (8 : Int32) * (8 : Int32)), .int (((f_L_pick (x1 >>> ((8 : Int32) &&& 31)) (4000 : Int32)) / (8 : Int32)) - ((f_L_pick (x1 >>> ((8 : Int32) &&& 31)) (4000 : Int32)) / (8 : Int32)) / (2 : Int32) * (2 : Int32))]) (rest := []) X (c_L_shelve l hfl G hG σ ((f_L_pick (x1 >>> ((8 : Int32) &&& 31)) (4000 : Int32)) - (f_L_pick (x1 >>> ((8 : Int32) &&& 31)) (4000 : Int32)) / (8 : Int32) * (8 : Int32)) (((f_L_pick (x1 >>> ((8 : Int32) &&& 31)) (4000 : Int32)) / (8 : Int32)) - ((f_L_pick (x1 >>> ((8 : Int32) &&& 31)) (4000 : Int32)) / (8 : Int32)) / (2 : Int32) * (2 : Int32)) hs27) ca_L_shelve km_L_221 rfl rfl ⟨Nat.le_of_ble_eq_true rfl, Nat.le_of_ble_eq_true rfl⟩ hP hS rfl hl.1 rfl (Nat.le_of_ble_eq_true rfl) ⟨by show 0 + 1 ≤ 63; omega, by show 0 + 6 ≤ 378; omega⟩ dL_acts_246) hS (fun q28 hq28 H locs hP hS => ?_)
                          have hf := bnd_go hq28 hf
                          exact gl_lret X hr hlk hP hS hf (by omega) (by omega) dL_acts_249
                        · have hf := ite_f hd11 hf
                          have hok := hok.2 hd11
                          by_cases hd12 : (f_L_pick x1 (24 : Int32)) = (12 : Int32)
                          · have hf := ite_t hd12 hf
                            have hok := hok.1 hd12
                            refine lv_tableIn (off := 218) (tgt := 235) hx hb dL_acts_17 (by rw [hd12]; decide) (by rw [hd12]; decide) (by rw [hd12]; rfl) (by decide) ?_
                            refine lv_aload_n hx hb dL_acts_235 rfl (lv_at hl 1 rfl) ?_
                            refine lv_iload_n hx hb dL_acts_236 rfl (lv_at hl 0 rfl) ?_
                            refine lv_bipush (v := 8) hx hb dL_acts_237 (by decide) ?_
                            refine lv_irem hx hb dL_acts_239 (by decide) ?_
                            refine lv_iload_n hx hb dL_acts_240 rfl (lv_at hl 0 rfl) ?_
                            refine lv_bipush (v := 8) hx hb dL_acts_241 (by decide) ?_
                            refine lv_idiv hx hb dL_acts_243 (by decide) ?_
                            refine lv_iconst (v := 2) hx hb dL_acts_244 (by decide) ?_
                            refine lv_irem hx hb dL_acts_245 (by decide) ?_
                            have hs29 := hok
                            refine gl_rJ (mc := 1) (ms := 6) (gl_run (As := [.ref (G.2.1 0), .int ((f_L_pick (x1 >>> ((8 : Int32) &&& 31)) (4000 : Int32)) - (f_L_pick (x1 >>> ((8 : Int32) &&& 31)) (4000 : Int32)) / (8 : Int32) * (8 : Int32)), .int (((f_L_pick (x1 >>> ((8 : Int32) &&& 31)) (4000 : Int32)) / (8 : Int32)) - ((f_L_pick (x1 >>> ((8 : Int32) &&& 31)) (4000 : Int32)) / (8 : Int32)) / (2 : Int32) * (2 : Int32))]) (rest := []) X (c_L_shelve l hfl G hG σ ((f_L_pick (x1 >>> ((8 : Int32) &&& 31)) (4000 : Int32)) - (f_L_pick (x1 >>> ((8 : Int32) &&& 31)) (4000 : Int32)) / (8 : Int32) * (8 : Int32)) (((f_L_pick (x1 >>> ((8 : Int32) &&& 31)) (4000 : Int32)) / (8 : Int32)) - ((f_L_pick (x1 >>> ((8 : Int32) &&& 31)) (4000 : Int32)) / (8 : Int32)) / (2 : Int32) * (2 : Int32)) hs29) ca_L_shelve km_L_221 rfl rfl ⟨Nat.le_of_ble_eq_true rfl, Nat.le_of_ble_eq_true rfl⟩ hP hS rfl hl.1 rfl (Nat.le_of_ble_eq_true rfl) ⟨by show 0 + 1 ≤ 63; omega, by show 0 + 6 ≤ 378; omega⟩ dL_acts_246) hS (fun q30 hq30 H locs hP hS => ?_)
                            have hf := bnd_go hq30 hf
                            exact gl_lret X hr hlk hP hS hf (by omega) (by omega) dL_acts_249
                          · have hf := ite_f hd12 hf
                            have hok := hok.2 hd12
                            by_cases hd13 : (f_L_pick x1 (24 : Int32)) = (13 : Int32)
                            · have hf := ite_t hd13 hf
                              have hok := hok.1 hd13
                              refine lv_tableIn (off := 233) (tgt := 250) hx hb dL_acts_17 (by rw [hd13]; decide) (by rw [hd13]; decide) (by rw [hd13]; rfl) (by decide) ?_
                              refine lv_aload_n hx hb dL_acts_250 rfl (lv_at hl 1 rfl) ?_
                              refine lv_iload_n hx hb dL_acts_251 rfl (lv_at hl 0 rfl) ?_
                              refine lv_bipush (v := 6) hx hb dL_acts_252 (by decide) ?_
                              refine lv_irem hx hb dL_acts_254 (by decide) ?_
                              have hs31 := hok
                              refine gl_rJ (mc := 1) (ms := 6) (gl_run (As := [.ref (G.2.1 0), .int ((f_L_pick (x1 >>> ((8 : Int32) &&& 31)) (4000 : Int32)) - (f_L_pick (x1 >>> ((8 : Int32) &&& 31)) (4000 : Int32)) / (6 : Int32) * (6 : Int32))]) (rest := []) X (c_L_take l hfl G hG σ ((f_L_pick (x1 >>> ((8 : Int32) &&& 31)) (4000 : Int32)) - (f_L_pick (x1 >>> ((8 : Int32) &&& 31)) (4000 : Int32)) / (6 : Int32) * (6 : Int32)) hs31) ca_L_take km_L_223 rfl rfl ⟨Nat.le_of_ble_eq_true rfl, Nat.le_of_ble_eq_true rfl⟩ hP hS rfl hl.1 rfl (Nat.le_of_ble_eq_true rfl) ⟨by show 0 + 1 ≤ 63; omega, by show 0 + 6 ≤ 378; omega⟩ dL_acts_255) hS (fun q32 hq32 H locs hP hS => ?_)
                              have hf := bnd_go hq32 hf
                              exact gl_lret X hr hlk hP hS hf (by omega) (by omega) dL_acts_258
                            · have hf := ite_f hd13 hf
                              have hok := hok.2 hd13
                              by_cases hd14 : (f_L_pick x1 (24 : Int32)) = (14 : Int32)
                              · have hf := ite_t hd14 hf
                                have hok := hok.1 hd14
                                refine lv_tableIn (off := 242) (tgt := 259) hx hb dL_acts_17 (by rw [hd14]; decide) (by rw [hd14]; decide) (by rw [hd14]; rfl) (by decide) ?_
                                refine lv_iload_n hx hb dL_acts_259 rfl (lv_at hl 0 rfl) ?_
                                refine lv_iconst (v := 2) hx hb dL_acts_260 (by decide) ?_
                                refine lv_irem hx hb dL_acts_261 (by decide) ?_
                                refine lv_if_ne (tgt := 278) hx hb dL_acts_262 (by decide) (fun hc => ?_) (fun hc => ?_)
                                · have hf := ite_f hc hf
                                  have hok := hok.2 hc
                                  refine lv_aload_n hx hb dL_acts_278 rfl (lv_at hl 1 rfl) ?_
                                  refine lv_iconst (v := 1) hx hb dL_acts_279 (by decide) ?_
                                  refine lv_iload_n hx hb dL_acts_280 rfl (lv_at hl 0 rfl) ?_
                                  refine lv_bipush (v := 9) hx hb dL_acts_281 (by decide) ?_
                                  refine lv_irem hx hb dL_acts_283 (by decide) ?_
                                  refine lv_iadd hx hb dL_acts_284 ?_
                                  have hs33 := hok
                                  refine gl_rJ (mc := 1) (ms := 6) (gl_run (As := [.ref (G.2.1 0), .int ((1 : Int32) + ((f_L_pick (x1 >>> ((8 : Int32) &&& 31)) (4000 : Int32)) - (f_L_pick (x1 >>> ((8 : Int32) &&& 31)) (4000 : Int32)) / (9 : Int32) * (9 : Int32)))]) (rest := []) X (c_L_feed l hfl G hG σ ((1 : Int32) + ((f_L_pick (x1 >>> ((8 : Int32) &&& 31)) (4000 : Int32)) - (f_L_pick (x1 >>> ((8 : Int32) &&& 31)) (4000 : Int32)) / (9 : Int32) * (9 : Int32))) hs33) ca_L_feed km_L_227 rfl rfl ⟨Nat.le_of_ble_eq_true rfl, Nat.le_of_ble_eq_true rfl⟩ hP hS rfl hl.1 rfl (Nat.le_of_ble_eq_true rfl) ⟨by show 0 + 1 ≤ 63; omega, by show 0 + 6 ≤ 378; omega⟩ dL_acts_285) hS (fun q34 hq34 H locs hP hS => ?_)
                                  have hf := bnd_go hq34 hf
                                  exact gl_lret X hr hlk hP hS hf (by omega) (by omega) dL_acts_288
                                · have hf := ite_t hc hf
                                  have hok := hok.1 hc
                                  refine lv_aload_n hx hb dL_acts_265 rfl (lv_at hl 1 rfl) ?_
                                  refine lv_iconst (v := 1) hx hb dL_acts_266 (by decide) ?_
                                  refine lv_iload_n hx hb dL_acts_267 rfl (lv_at hl 0 rfl) ?_
                                  refine lv_bipush (v := 20) hx hb dL_acts_268 (by decide) ?_
                                  refine lv_irem hx hb dL_acts_270 (by decide) ?_
                                  refine lv_iadd hx hb dL_acts_271 ?_
                                  have hs35 := hok
                                  refine gl_rJ (mc := 1) (ms := 6) (gl_run (As := [.ref (G.2.1 0), .int ((1 : Int32) + ((f_L_pick (x1 >>> ((8 : Int32) &&& 31)) (4000 : Int32)) - (f_L_pick (x1 >>> ((8 : Int32) &&& 31)) (4000 : Int32)) / (20 : Int32) * (20 : Int32)))]) (rest := []) X (c_L_snacks l hfl G hG σ ((1 : Int32) + ((f_L_pick (x1 >>> ((8 : Int32) &&& 31)) (4000 : Int32)) - (f_L_pick (x1 >>> ((8 : Int32) &&& 31)) (4000 : Int32)) / (20 : Int32) * (20 : Int32))) hs35) ca_L_snacks km_L_225 rfl rfl ⟨Nat.le_of_ble_eq_true rfl, Nat.le_of_ble_eq_true rfl⟩ hP hS rfl hl.1 rfl (Nat.le_of_ble_eq_true rfl) ⟨by show 0 + 1 ≤ 63; omega, by show 0 + 6 ≤ 378; omega⟩ dL_acts_272) hS (fun q36 hq36 H locs hP hS => ?_)
                                  have hf := bnd_go hq36 hf
                                  refine lv_goto (tgt := 288) hx hb dL_acts_275 (by decide) ?_
                                  exact gl_lret X hr hlk hP hS hf (by omega) (by omega) dL_acts_288
                              · have hf := ite_f hd14 hf
                                have hok := hok.2 hd14
                                by_cases hd15 : (f_L_pick x1 (24 : Int32)) = (15 : Int32)
                                · have hf := ite_t hd15 hf
                                  have hok := hok.1 hd15
                                  refine lv_tableIn (off := 272) (tgt := 289) hx hb dL_acts_17 (by rw [hd15]; decide) (by rw [hd15]; decide) (by rw [hd15]; rfl) (by decide) ?_
                                  refine lv_aload_n hx hb dL_acts_289 rfl (lv_at hl 1 rfl) ?_
                                  refine va_gets hx hb hXW.2.2.2.2.2.2.2.2.2.2.1 hS hown (hts _ kf_L_229) (fun _ h => h) dL_acts_290 ?_
                                  refine lv_iload_n hx hb dL_acts_293 rfl (lv_at hl 0 rfl) ?_
                                  refine lv_bipush (v := 6) hx hb dL_acts_294 (by decide) ?_
                                  refine lv_irem hx hb dL_acts_296 (by decide) ?_
                                  have hs37 := hok.1
                                  have hok := hok.2
                                  refine vb_tq (v := .ref (G.2.2.2.2.1 (13 + ((f_L_pick (x1 >>> ((8 : Int32) &&& 31)) (4000 : Int32)) - (f_L_pick (x1 >>> ((8 : Int32) &&& 31)) (4000 : Int32)) / (6 : Int32) * (6 : Int32)).toNatClampNeg))) hx hb hXW.2.2.2.2.2.2.2.2.2.2.2 hS hs37 rfl dL_acts_297 ?_
                                  have hs38 := hok
                                  refine gl_rJ (mc := 63) (ms := 378) (g_runS (As := [.ref (G.2.1 0), .ref (G.2.2.2.2.1 (13 + ((f_L_pick (x1 >>> ((8 : Int32) &&& 31)) (4000 : Int32)) - (f_L_pick (x1 >>> ((8 : Int32) &&& 31)) (4000 : Int32)) / (6 : Int32) * (6 : Int32)).toNatClampNeg))]) (rest := []) X (c_L_text l hfl G hG σ (13 + ((f_L_pick (x1 >>> ((8 : Int32) &&& 31)) (4000 : Int32)) - (f_L_pick (x1 >>> ((8 : Int32) &&& 31)) (4000 : Int32)) / (6 : Int32) * (6 : Int32)).toNatClampNeg) hs38) ca_L_text km_L_233 rfl rfl ⟨Nat.le_of_ble_eq_true rfl, Nat.le_of_ble_eq_true rfl⟩ hP hS rfl hl.1 rfl (Nat.le_of_ble_eq_true rfl) ⟨by show 0 + 63 ≤ 63; omega, by show 0 + 378 ≤ 378; omega⟩ dL_acts_298) hS (fun q39 hq39 H locs hP hS => ?_)
                                  have hf := bnd_go hq39 hf
                                  exact gl_lret X hr hlk hP hS hf (by omega) (by omega) dL_acts_301
                                · have hf := ite_f hd15 hf
                                  have hok := hok.2 hd15
                                  by_cases hd16 : (f_L_pick x1 (24 : Int32)) = (16 : Int32)
                                  · have hf := ite_t hd16 hf
                                    have hok := hok.1 hd16
                                    refine lv_tableIn (off := 272) (tgt := 289) hx hb dL_acts_17 (by rw [hd16]; decide) (by rw [hd16]; decide) (by rw [hd16]; rfl) (by decide) ?_
                                    refine lv_aload_n hx hb dL_acts_289 rfl (lv_at hl 1 rfl) ?_
                                    refine va_gets hx hb hXW.2.2.2.2.2.2.2.2.2.2.1 hS hown (hts _ kf_L_229) (fun _ h => h) dL_acts_290 ?_
                                    refine lv_iload_n hx hb dL_acts_293 rfl (lv_at hl 0 rfl) ?_
                                    refine lv_bipush (v := 6) hx hb dL_acts_294 (by decide) ?_
                                    refine lv_irem hx hb dL_acts_296 (by decide) ?_
                                    have hs40 := hok.1
                                    have hok := hok.2
                                    refine vb_tq (v := .ref (G.2.2.2.2.1 (13 + ((f_L_pick (x1 >>> ((8 : Int32) &&& 31)) (4000 : Int32)) - (f_L_pick (x1 >>> ((8 : Int32) &&& 31)) (4000 : Int32)) / (6 : Int32) * (6 : Int32)).toNatClampNeg))) hx hb hXW.2.2.2.2.2.2.2.2.2.2.2 hS hs40 rfl dL_acts_297 ?_
                                    have hs41 := hok
                                    refine gl_rJ (mc := 63) (ms := 378) (g_runS (As := [.ref (G.2.1 0), .ref (G.2.2.2.2.1 (13 + ((f_L_pick (x1 >>> ((8 : Int32) &&& 31)) (4000 : Int32)) - (f_L_pick (x1 >>> ((8 : Int32) &&& 31)) (4000 : Int32)) / (6 : Int32) * (6 : Int32)).toNatClampNeg))]) (rest := []) X (c_L_text l hfl G hG σ (13 + ((f_L_pick (x1 >>> ((8 : Int32) &&& 31)) (4000 : Int32)) - (f_L_pick (x1 >>> ((8 : Int32) &&& 31)) (4000 : Int32)) / (6 : Int32) * (6 : Int32)).toNatClampNeg) hs41) ca_L_text km_L_233 rfl rfl ⟨Nat.le_of_ble_eq_true rfl, Nat.le_of_ble_eq_true rfl⟩ hP hS rfl hl.1 rfl (Nat.le_of_ble_eq_true rfl) ⟨by show 0 + 63 ≤ 63; omega, by show 0 + 378 ≤ 378; omega⟩ dL_acts_298) hS (fun q42 hq42 H locs hP hS => ?_)
                                    have hf := bnd_go hq42 hf
                                    exact gl_lret X hr hlk hP hS hf (by omega) (by omega) dL_acts_301
                                  · have hf := ite_f hd16 hf
                                    have hok := hok.2 hd16
                                    by_cases hd17 : (f_L_pick x1 (24 : Int32)) = (17 : Int32)
                                    · have hf := ite_t hd17 hf
                                      have hok := hok.1 hd17
                                      refine lv_tableIn (off := 272) (tgt := 289) hx hb dL_acts_17 (by rw [hd17]; decide) (by rw [hd17]; decide) (by rw [hd17]; rfl) (by decide) ?_
                                      refine lv_aload_n hx hb dL_acts_289 rfl (lv_at hl 1 rfl) ?_
                                      refine va_gets hx hb hXW.2.2.2.2.2.2.2.2.2.2.1 hS hown (hts _ kf_L_229) (fun _ h => h) dL_acts_290 ?_
                                      refine lv_iload_n hx hb dL_acts_293 rfl (lv_at hl 0 rfl) ?_
                                      refine lv_bipush (v := 6) hx hb dL_acts_294 (by decide) ?_
                                      refine lv_irem hx hb dL_acts_296 (by decide) ?_
                                      have hs43 := hok.1
                                      have hok := hok.2
                                      refine vb_tq (v := .ref (G.2.2.2.2.1 (13 + ((f_L_pick (x1 >>> ((8 : Int32) &&& 31)) (4000 : Int32)) - (f_L_pick (x1 >>> ((8 : Int32) &&& 31)) (4000 : Int32)) / (6 : Int32) * (6 : Int32)).toNatClampNeg))) hx hb hXW.2.2.2.2.2.2.2.2.2.2.2 hS hs43 rfl dL_acts_297 ?_
                                      have hs44 := hok
                                      refine gl_rJ (mc := 63) (ms := 378) (g_runS (As := [.ref (G.2.1 0), .ref (G.2.2.2.2.1 (13 + ((f_L_pick (x1 >>> ((8 : Int32) &&& 31)) (4000 : Int32)) - (f_L_pick (x1 >>> ((8 : Int32) &&& 31)) (4000 : Int32)) / (6 : Int32) * (6 : Int32)).toNatClampNeg))]) (rest := []) X (c_L_text l hfl G hG σ (13 + ((f_L_pick (x1 >>> ((8 : Int32) &&& 31)) (4000 : Int32)) - (f_L_pick (x1 >>> ((8 : Int32) &&& 31)) (4000 : Int32)) / (6 : Int32) * (6 : Int32)).toNatClampNeg) hs44) ca_L_text km_L_233 rfl rfl ⟨Nat.le_of_ble_eq_true rfl, Nat.le_of_ble_eq_true rfl⟩ hP hS rfl hl.1 rfl (Nat.le_of_ble_eq_true rfl) ⟨by show 0 + 63 ≤ 63; omega, by show 0 + 378 ≤ 378; omega⟩ dL_acts_298) hS (fun q45 hq45 H locs hP hS => ?_)
                                      have hf := bnd_go hq45 hf
                                      exact gl_lret X hr hlk hP hS hf (by omega) (by omega) dL_acts_301
                                    · have hf := ite_f hd17 hf
                                      have hok := hok.2 hd17
                                      refine lv_tableOut (tgt := 302) hx hb dL_acts_17 (by have z0 : (f_L_pick x1 (24 : Int32)).toInt ≠ 0 := sw_ne hd0; have z1 : (f_L_pick x1 (24 : Int32)).toInt ≠ 1 := sw_ne hd1; have z2 : (f_L_pick x1 (24 : Int32)).toInt ≠ 2 := sw_ne hd2; have z3 : (f_L_pick x1 (24 : Int32)).toInt ≠ 3 := sw_ne hd3; have z4 : (f_L_pick x1 (24 : Int32)).toInt ≠ 4 := sw_ne hd4; have z5 : (f_L_pick x1 (24 : Int32)).toInt ≠ 5 := sw_ne hd5; have z6 : (f_L_pick x1 (24 : Int32)).toInt ≠ 6 := sw_ne hd6; have z7 : (f_L_pick x1 (24 : Int32)).toInt ≠ 7 := sw_ne hd7; have z8 : (f_L_pick x1 (24 : Int32)).toInt ≠ 8 := sw_ne hd8; have z9 : (f_L_pick x1 (24 : Int32)).toInt ≠ 9 := sw_ne hd9; have z10 : (f_L_pick x1 (24 : Int32)).toInt ≠ 10 := sw_ne hd10; have z11 : (f_L_pick x1 (24 : Int32)).toInt ≠ 11 := sw_ne hd11; have z12 : (f_L_pick x1 (24 : Int32)).toInt ≠ 12 := sw_ne hd12; have z13 : (f_L_pick x1 (24 : Int32)).toInt ≠ 13 := sw_ne hd13; have z14 : (f_L_pick x1 (24 : Int32)).toInt ≠ 14 := sw_ne hd14; have z15 : (f_L_pick x1 (24 : Int32)).toInt ≠ 15 := sw_ne hd15; have z16 : (f_L_pick x1 (24 : Int32)).toInt ≠ 16 := sw_ne hd16; have z17 : (f_L_pick x1 (24 : Int32)).toInt ≠ 17 := sw_ne hd17; show (f_L_pick x1 (24 : Int32)).toInt < 0 ∨ 17 < (f_L_pick x1 (24 : Int32)).toInt; omega) (by decide) ?_
                                      refine lv_aload_n hx hb dL_acts_302 rfl (lv_at hl 1 rfl) ?_
                                      refine lv_iconst (v := 1) hx hb dL_acts_303 (by decide) ?_
                                      refine lv_iload_n hx hb dL_acts_304 rfl (lv_at hl 0 rfl) ?_
                                      refine lv_iconst (v := 5) hx hb dL_acts_305 (by decide) ?_
                                      refine lv_irem hx hb dL_acts_306 (by decide) ?_
                                      refine lv_iadd hx hb dL_acts_307 ?_
                                      have hs46 := hok
                                      refine gl_rJ (mc := 1) (ms := 6) (gl_run (As := [.ref (G.2.1 0), .int ((1 : Int32) + ((f_L_pick (x1 >>> ((8 : Int32) &&& 31)) (4000 : Int32)) - (f_L_pick (x1 >>> ((8 : Int32) &&& 31)) (4000 : Int32)) / (5 : Int32) * (5 : Int32)))]) (rest := []) X (c_L_pass l hfl G hG σ ((1 : Int32) + ((f_L_pick (x1 >>> ((8 : Int32) &&& 31)) (4000 : Int32)) - (f_L_pick (x1 >>> ((8 : Int32) &&& 31)) (4000 : Int32)) / (5 : Int32) * (5 : Int32))) hs46) ca_L_pass km_L_237 rfl rfl ⟨Nat.le_of_ble_eq_true rfl, Nat.le_of_ble_eq_true rfl⟩ hP hS rfl hl.1 rfl (Nat.le_of_ble_eq_true rfl) ⟨by show 0 + 1 ≤ 63; omega, by show 0 + 6 ≤ 378; omega⟩ dL_acts_308) hS (fun q47 hq47 H locs hP hS => ?_)
                                      have hf := bnd_go hq47 hf
                                      exact gl_lret X hr hlk hP hS hf (by omega) (by omega) dL_acts_311
