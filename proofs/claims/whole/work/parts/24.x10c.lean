def f_X10_holes (x0 : Int32) : Int32 := (if x0 = 0 then (3 : Int32) else (2 : Int32))
abbrev rm_X10_holes : Room := { frames := 0, cells := 0, slots := 0, locals := 0 }
set_option maxHeartbeats 4000000 in
set_option maxRecDepth 100000 in
theorem c_X10_holes (l : Launch) (G : GE) (hG : Gok G) (σ : St) (x0 : Int32) : MtI l G yX10_holes cX10_holes 1 rm_X10_holes [.int x0] σ (σ, f_X10_holes x0) := by
  generalize hf : f_X10_holes x0 = fv
  rw [f_X10_holes] at hf
  refine g_start hG (plainFor_of_name (by decide)) (Nat.le_of_ble_eq_true rfl) ?_
  intro p e s m args below meth c X hr hlk ls hl H locs hP hS
  have X : Cx G p s m args c cX10_holes 1 RX10 := X
  obtain ⟨hx, hb, hml, hown, hts, hK, hbs, hXW, -⟩ := id X
  have hl : lv_has ls 1 [(0, .int x0)] := hl
  refine lv_iload_n hx hb dX10_holes_0 rfl (lv_at hl 0 rfl) ?_
  refine lv_if_ne (tgt := 8) hx hb dX10_holes_1 (by decide) (fun hc => ?_) (fun hc => ?_)
  · have hf := ite_f hc hf
    refine lv_iconst (v := 2) hx hb dX10_holes_8 (by decide) ?_
    exact g_iret X hr hlk hP hS (congrArg (Prod.mk σ) hf) dX10_holes_9
  · have hf := ite_t hc hf
    refine lv_iconst (v := 3) hx hb dX10_holes_4 (by decide) ?_
    refine lv_goto (tgt := 9) hx hb dX10_holes_5 (by decide) ?_
    exact g_iret X hr hlk hP hS (congrArg (Prod.mk σ) hf) dX10_holes_9
def fX10_itemIn_L3 (σ : St) : Nat → Int32 → Int32 → Int32 → Int32 → Int32
  | 0, _, _, _, _ => 0
  | n3 + 1, x1, x2, x3, x4 => (if (σ.1 197 (2 : Int32).toNatClampNeg) ≤ x4 then (-1 : Int32) else (if (f_X10_of σ x4 (4 : Int32)) = (2 : Int32) then (if (f_X10_of σ x4 (2 : Int32)) = x1 then (if (f_X10_of σ x4 (0 : Int32)) = x2 then (if (f_X10_of σ x4 (5 : Int32)) = (x3 + (1 : Int32)) then x4 else (fX10_itemIn_L3 σ n3 x1 x2 x3 (x4 + (1 : Int32)))) else (fX10_itemIn_L3 σ n3 x1 x2 x3 (x4 + (1 : Int32)))) else (fX10_itemIn_L3 σ n3 x1 x2 x3 (x4 + (1 : Int32)))) else (fX10_itemIn_L3 σ n3 x1 x2 x3 (x4 + (1 : Int32)))))
def okX10_itemIn_L3 (σ : St) : Nat → Int32 → Int32 → Int32 → Int32 → Prop
  | 0, _, _, _, _ => False
  | n3 + 1, x1, x2, x3, x4 => (((σ.1 197 (2 : Int32).toNatClampNeg) ≤ x4 → True) ∧ (¬ (σ.1 197 (2 : Int32).toNatClampNeg) ≤ x4 → (ok_X10_of σ x4 (4 : Int32) ∧ (((f_X10_of σ x4 (4 : Int32)) = (2 : Int32) → (ok_X10_of σ x4 (2 : Int32) ∧ (((f_X10_of σ x4 (2 : Int32)) = x1 → (ok_X10_of σ x4 (0 : Int32) ∧ (((f_X10_of σ x4 (0 : Int32)) = x2 → (ok_X10_of σ x4 (5 : Int32) ∧ (((f_X10_of σ x4 (5 : Int32)) = (x3 + (1 : Int32)) → True) ∧ (¬ (f_X10_of σ x4 (5 : Int32)) = (x3 + (1 : Int32)) → (okX10_itemIn_L3 σ n3 x1 x2 x3 (x4 + (1 : Int32))))))) ∧ (¬ (f_X10_of σ x4 (0 : Int32)) = x2 → (okX10_itemIn_L3 σ n3 x1 x2 x3 (x4 + (1 : Int32))))))) ∧ (¬ (f_X10_of σ x4 (2 : Int32)) = x1 → (okX10_itemIn_L3 σ n3 x1 x2 x3 (x4 + (1 : Int32))))))) ∧ (¬ (f_X10_of σ x4 (4 : Int32)) = (2 : Int32) → (okX10_itemIn_L3 σ n3 x1 x2 x3 (x4 + (1 : Int32))))))))
def f_X10_itemIn (σ : St) (x1 : Int32) (x2 : Int32) (x3 : Int32) : Int32 := (fX10_itemIn_L3 σ 2000 x1 x2 x3 (0 : Int32))
def ok_X10_itemIn (σ : St) (x1 : Int32) (x2 : Int32) (x3 : Int32) : Prop := (okX10_itemIn_L3 σ 2000 x1 x2 x3 (0 : Int32))
abbrev rm_X10_itemIn : Room := { frames := 1, cells := 0, slots := 0, locals := 22 }
set_option maxHeartbeats 4000000 in
set_option maxRecDepth 100000 in
theorem c_X10_itemIn (l : Launch) (G : GE) (hG : Gok G) (σ : St) (x1 : Int32) (x2 : Int32) (x3 : Int32) (hok : ok_X10_itemIn σ x1 x2 x3) : MtI l G yX10_itemIn cX10_itemIn 5 rm_X10_itemIn [.ref (G.2.1 196), .int x1, .int x2, .int x3] σ (σ, f_X10_itemIn σ x1 x2 x3) := by
  generalize hf : f_X10_itemIn σ x1 x2 x3 = fv
  rw [f_X10_itemIn] at hf
  rw [ok_X10_itemIn] at hok
  refine g_start hG (plainFor_of_name (by decide)) (Nat.le_of_ble_eq_true rfl) ?_
  intro p e s m args below meth c X hr hlk ls hl H locs hP hS
  have X : Cx G p s m args c cX10_itemIn 5 RX10 := X
  obtain ⟨hx, hb, hml, hown, hts, hK, hbs, hXW, -⟩ := id X
  have hl : lv_has ls 5 [(0, .ref (G.2.1 196)), (1, .int x1), (2, .int x2), (3, .int x3)] := hl
  refine lv_iconst (v := 0) hx hb dX10_itemIn_0 (by decide) ?_
  refine lv_istore (lv' := [(4, .int (0 : Int32)), (0, .ref (G.2.1 196)), (1, .int x1), (2, .int x2), (3, .int x3)]) hx hb dX10_itemIn_1 hl (by decide) rfl (fun ls hl => ?_)
  have K3 : ∀ (n3 : Nat) (x1 : Int32) (x2 : Int32) (x3 : Int32) (x4 : Int32), okX10_itemIn_L3 σ n3 x1 x2 x3 x4 → fX10_itemIn_L3 σ n3 x1 x2 x3 x4 = fv → ∀ (H : Heap) (locs : List Loc), va_P G.1 vcl (wl G σ) H → va_S (GA G) s.heap H locs → ∀ (ls : Array Slot), lv_has ls 5 [(0, .ref (G.2.1 196)), (1, .int x1), (2, .int x2), (3, .int x3), (4, .int x4)] → W p l e rm_X10_itemIn s m args below meth c H locs 0 0 (MQ below (va_Qi (fun r u => (u, r) = (σ, fv)) (PB G) (GA G)) args s 0 0 (GA G)) (F0 m 3 ls []) := by
    intro n3
    induction n3 with
    | zero =>
      intro x1 x2 x3 x4 hok
      exact hok.elim
    | succ n3 ih3 =>
      intro x1 x2 x3 x4 hok hf H locs hP hS ls hl
      rw [okX10_itemIn_L3] at hok
      rw [fX10_itemIn_L3] at hf
      refine lv_iload hx hb dX10_itemIn_3 (lv_at hl 4 rfl) ?_
      refine lv_aload_n hx hb dX10_itemIn_5 rfl (lv_at hl 0 rfl) ?_
      refine gg_10_5 X hP ab_196 kf_X10_7 dX10_itemIn_6 ?_
      refine lv_iconst (v := 2) hx hb dX10_itemIn_9 (by decide) ?_
      refine g_iald X hP ab_197 (by rw [al_197]; unfold vp_in; decide) dX10_itemIn_10 ?_
      refine lv_icmp_ge (tgt := 69) hx hb dX10_itemIn_11 (by decide) (fun hc => ?_) (fun hc => ?_)
      · have hf := ite_t hc hf
        refine lv_iconst (v := -1) hx hb dX10_itemIn_69 (by decide) ?_
        exact g_iret X hr hlk hP hS (congrArg (Prod.mk σ) hf) dX10_itemIn_70
      · have hf := ite_f hc hf
        have hok := hok.2 hc
        refine lv_aload_n hx hb dX10_itemIn_14 rfl (lv_at hl 0 rfl) ?_
        refine lv_iload hx hb dX10_itemIn_15 (lv_at hl 4 rfl) ?_
        refine lv_iconst (v := 4) hx hb dX10_itemIn_17 (by decide) ?_
        have hs1 := hok.1
        have hok := hok.2
        refine g_cIp (g_runV (i := 196) (As := [.int x4, .int (4 : Int32)]) (rest := []) X (c_X10_of l G hG σ x4 (4 : Int32) hs1) ca_X10_of km_X10_85 rfl rfl ⟨Nat.le_of_ble_eq_true rfl, Nat.le_of_ble_eq_true rfl⟩ hP hS (ty_lt ab_196) (cell_10 ab_196) rfl rfl rfl hl.1 rfl (Nat.le_of_ble_eq_true rfl) ⟨Nat.le_of_ble_eq_true rfl, Nat.le_of_ble_eq_true rfl⟩ dX10_itemIn_18) hS (fun H locs hP hS => ?_)
        refine lv_iconst (v := 2) hx hb dX10_itemIn_21 (by decide) ?_
        refine lv_icmp_ne (tgt := 63) hx hb dX10_itemIn_22 (by decide) (fun hc => ?_) (fun hc => ?_)
        · have hf := ite_f hc hf
          have hok := hok.2 hc
          refine lv_iinc (v := (x4 + (1 : Int32))) (lv' := [(4, .int (x4 + (1 : Int32))), (0, .ref (G.2.1 196)), (1, .int x1), (2, .int x2), (3, .int x3)]) hx hb dX10_itemIn_63 hl (k := 4) rfl rfl (by decide) rfl (fun ls hl => ?_)
          refine lv_goto (tgt := 3) hx hb dX10_itemIn_66 (by decide) ?_
          exact ih3 x1 x2 x3 (x4 + (1 : Int32)) hok hf _ _ hP hS ls (lv_sub hl [1, 2, 3, 4, 0] rfl)
        · have hf := ite_t hc hf
          have hok := hok.1 hc
          refine lv_aload_n hx hb dX10_itemIn_25 rfl (lv_at hl 0 rfl) ?_
          refine lv_iload hx hb dX10_itemIn_26 (lv_at hl 4 rfl) ?_
          refine lv_iconst (v := 2) hx hb dX10_itemIn_28 (by decide) ?_
          have hs2 := hok.1
          have hok := hok.2
          refine g_cIp (g_runV (i := 196) (As := [.int x4, .int (2 : Int32)]) (rest := []) X (c_X10_of l G hG σ x4 (2 : Int32) hs2) ca_X10_of km_X10_85 rfl rfl ⟨Nat.le_of_ble_eq_true rfl, Nat.le_of_ble_eq_true rfl⟩ hP hS (ty_lt ab_196) (cell_10 ab_196) rfl rfl rfl hl.1 rfl (Nat.le_of_ble_eq_true rfl) ⟨Nat.le_of_ble_eq_true rfl, Nat.le_of_ble_eq_true rfl⟩ dX10_itemIn_29) hS (fun H locs hP hS => ?_)
          refine lv_iload_n hx hb dX10_itemIn_32 rfl (lv_at hl 1 rfl) ?_
          refine lv_icmp_ne (tgt := 63) hx hb dX10_itemIn_33 (by decide) (fun hc => ?_) (fun hc => ?_)
          · have hf := ite_f hc hf
            have hok := hok.2 hc
            refine lv_iinc (v := (x4 + (1 : Int32))) (lv' := [(4, .int (x4 + (1 : Int32))), (0, .ref (G.2.1 196)), (1, .int x1), (2, .int x2), (3, .int x3)]) hx hb dX10_itemIn_63 hl (k := 4) rfl rfl (by decide) rfl (fun ls hl => ?_)
            refine lv_goto (tgt := 3) hx hb dX10_itemIn_66 (by decide) ?_
            exact ih3 x1 x2 x3 (x4 + (1 : Int32)) hok hf _ _ hP hS ls (lv_sub hl [1, 2, 3, 4, 0] rfl)
          · have hf := ite_t hc hf
            have hok := hok.1 hc
            refine lv_aload_n hx hb dX10_itemIn_36 rfl (lv_at hl 0 rfl) ?_
            refine lv_iload hx hb dX10_itemIn_37 (lv_at hl 4 rfl) ?_
            refine lv_iconst (v := 0) hx hb dX10_itemIn_39 (by decide) ?_
            have hs3 := hok.1
            have hok := hok.2
            refine g_cIp (g_runV (i := 196) (As := [.int x4, .int (0 : Int32)]) (rest := []) X (c_X10_of l G hG σ x4 (0 : Int32) hs3) ca_X10_of km_X10_85 rfl rfl ⟨Nat.le_of_ble_eq_true rfl, Nat.le_of_ble_eq_true rfl⟩ hP hS (ty_lt ab_196) (cell_10 ab_196) rfl rfl rfl hl.1 rfl (Nat.le_of_ble_eq_true rfl) ⟨Nat.le_of_ble_eq_true rfl, Nat.le_of_ble_eq_true rfl⟩ dX10_itemIn_40) hS (fun H locs hP hS => ?_)
            refine lv_iload_n hx hb dX10_itemIn_43 rfl (lv_at hl 2 rfl) ?_
            refine lv_icmp_ne (tgt := 63) hx hb dX10_itemIn_44 (by decide) (fun hc => ?_) (fun hc => ?_)
            · have hf := ite_f hc hf
              have hok := hok.2 hc
              refine lv_iinc (v := (x4 + (1 : Int32))) (lv' := [(4, .int (x4 + (1 : Int32))), (0, .ref (G.2.1 196)), (1, .int x1), (2, .int x2), (3, .int x3)]) hx hb dX10_itemIn_63 hl (k := 4) rfl rfl (by decide) rfl (fun ls hl => ?_)
              refine lv_goto (tgt := 3) hx hb dX10_itemIn_66 (by decide) ?_
              exact ih3 x1 x2 x3 (x4 + (1 : Int32)) hok hf _ _ hP hS ls (lv_sub hl [1, 2, 3, 4, 0] rfl)
            · have hf := ite_t hc hf
              have hok := hok.1 hc
              refine lv_aload_n hx hb dX10_itemIn_47 rfl (lv_at hl 0 rfl) ?_
              refine lv_iload hx hb dX10_itemIn_48 (lv_at hl 4 rfl) ?_
              refine lv_iconst (v := 5) hx hb dX10_itemIn_50 (by decide) ?_
              have hs4 := hok.1
              have hok := hok.2
              refine g_cIp (g_runV (i := 196) (As := [.int x4, .int (5 : Int32)]) (rest := []) X (c_X10_of l G hG σ x4 (5 : Int32) hs4) ca_X10_of km_X10_85 rfl rfl ⟨Nat.le_of_ble_eq_true rfl, Nat.le_of_ble_eq_true rfl⟩ hP hS (ty_lt ab_196) (cell_10 ab_196) rfl rfl rfl hl.1 rfl (Nat.le_of_ble_eq_true rfl) ⟨Nat.le_of_ble_eq_true rfl, Nat.le_of_ble_eq_true rfl⟩ dX10_itemIn_51) hS (fun H locs hP hS => ?_)
              refine lv_iload_n hx hb dX10_itemIn_54 rfl (lv_at hl 3 rfl) ?_
              refine lv_iconst (v := 1) hx hb dX10_itemIn_55 (by decide) ?_
              refine lv_iadd hx hb dX10_itemIn_56 ?_
              refine lv_icmp_ne (tgt := 63) hx hb dX10_itemIn_57 (by decide) (fun hc => ?_) (fun hc => ?_)
              · have hf := ite_f hc hf
                have hok := hok.2 hc
                refine lv_iinc (v := (x4 + (1 : Int32))) (lv' := [(4, .int (x4 + (1 : Int32))), (0, .ref (G.2.1 196)), (1, .int x1), (2, .int x2), (3, .int x3)]) hx hb dX10_itemIn_63 hl (k := 4) rfl rfl (by decide) rfl (fun ls hl => ?_)
                refine lv_goto (tgt := 3) hx hb dX10_itemIn_66 (by decide) ?_
                exact ih3 x1 x2 x3 (x4 + (1 : Int32)) hok hf _ _ hP hS ls (lv_sub hl [1, 2, 3, 4, 0] rfl)
              · have hf := ite_t hc hf
                refine lv_iload hx hb dX10_itemIn_60 (lv_at hl 4 rfl) ?_
                exact g_iret X hr hlk hP hS (congrArg (Prod.mk σ) hf) dX10_itemIn_62
  exact K3 2000 x1 x2 x3 (0 : Int32) hok hf _ _ hP hS ls (lv_sub hl [1, 2, 3, 4, 0] rfl)
def fX10_freeHole_L2 (σ : St) : Nat → Int32 → Int32 → Int32 → Int32
  | 0, _, _, _ => 0
  | n2 + 1, x1, x2, x3 => (if (f_X10_holes x2) ≤ x3 then x3 else (if (f_X10_itemIn σ x1 x2 x3) < 0 then x3 else (fX10_freeHole_L2 σ n2 x1 x2 (x3 + (1 : Int32)))))
def okX10_freeHole_L2 (σ : St) : Nat → Int32 → Int32 → Int32 → Prop
  | 0, _, _, _ => False
  | n2 + 1, x1, x2, x3 => (((f_X10_holes x2) ≤ x3 → True) ∧ (¬ (f_X10_holes x2) ≤ x3 → (ok_X10_itemIn σ x1 x2 x3 ∧ (((f_X10_itemIn σ x1 x2 x3) < 0 → True) ∧ (¬ (f_X10_itemIn σ x1 x2 x3) < 0 → (okX10_freeHole_L2 σ n2 x1 x2 (x3 + (1 : Int32))))))))
def f_X10_freeHole (σ : St) (x1 : Int32) (x2 : Int32) : Int32 := (fX10_freeHole_L2 σ 2000 x1 x2 (0 : Int32))
def ok_X10_freeHole (σ : St) (x1 : Int32) (x2 : Int32) : Prop := (okX10_freeHole_L2 σ 2000 x1 x2 (0 : Int32))
abbrev rm_X10_freeHole : Room := { frames := 2, cells := 0, slots := 0, locals := 46 }
set_option maxHeartbeats 4000000 in
set_option maxRecDepth 100000 in
theorem c_X10_freeHole (l : Launch) (G : GE) (hG : Gok G) (σ : St) (x1 : Int32) (x2 : Int32) (hok : ok_X10_freeHole σ x1 x2) : MtI l G yX10_freeHole cX10_freeHole 4 rm_X10_freeHole [.ref (G.2.1 196), .int x1, .int x2] σ (σ, f_X10_freeHole σ x1 x2) := by
  generalize hf : f_X10_freeHole σ x1 x2 = fv
  rw [f_X10_freeHole] at hf
  rw [ok_X10_freeHole] at hok
  refine g_start hG (plainFor_of_name (by decide)) (Nat.le_of_ble_eq_true rfl) ?_
  intro p e s m args below meth c X hr hlk ls hl H locs hP hS
  have X : Cx G p s m args c cX10_freeHole 4 RX10 := X
  obtain ⟨hx, hb, hml, hown, hts, hK, hbs, hXW, -⟩ := id X
  have hl : lv_has ls 4 [(0, .ref (G.2.1 196)), (1, .int x1), (2, .int x2)] := hl
  refine lv_iconst (v := 0) hx hb dX10_freeHole_0 (by decide) ?_
  refine lv_istore_n (lv' := [(3, .int (0 : Int32)), (0, .ref (G.2.1 196)), (1, .int x1), (2, .int x2)]) hx hb dX10_freeHole_1 rfl hl (by decide) rfl (fun ls hl => ?_)
  have K2 : ∀ (n2 : Nat) (x1 : Int32) (x2 : Int32) (x3 : Int32), okX10_freeHole_L2 σ n2 x1 x2 x3 → fX10_freeHole_L2 σ n2 x1 x2 x3 = fv → ∀ (H : Heap) (locs : List Loc), va_P G.1 vcl (wl G σ) H → va_S (GA G) s.heap H locs → ∀ (ls : Array Slot), lv_has ls 4 [(0, .ref (G.2.1 196)), (1, .int x1), (2, .int x2), (3, .int x3)] → W p l e rm_X10_freeHole s m args below meth c H locs 0 0 (MQ below (va_Qi (fun r u => (u, r) = (σ, fv)) (PB G) (GA G)) args s 0 0 (GA G)) (F0 m 2 ls []) := by
    intro n2
    induction n2 with
    | zero =>
      intro x1 x2 x3 hok
      exact hok.elim
    | succ n2 ih2 =>
      intro x1 x2 x3 hok hf H locs hP hS ls hl
      rw [okX10_freeHole_L2] at hok
      rw [fX10_freeHole_L2] at hf
      refine lv_iload_n hx hb dX10_freeHole_2 rfl (lv_at hl 3 rfl) ?_
      refine lv_iload_n hx hb dX10_freeHole_3 rfl (lv_at hl 2 rfl) ?_
      refine g_cIp (g_runS (As := [.int x2]) (rest := [.int x3]) X (c_X10_holes l G hG σ x2) ca_X10_holes km_X10_173 rfl rfl ⟨Nat.le_of_ble_eq_true rfl, Nat.le_of_ble_eq_true rfl⟩ hP hS rfl hl.1 rfl (Nat.le_of_ble_eq_true rfl) ⟨Nat.le_of_ble_eq_true rfl, Nat.le_of_ble_eq_true rfl⟩ dX10_freeHole_4) hS (fun H locs hP hS => ?_)
      refine lv_icmp_ge (tgt := 26) hx hb dX10_freeHole_7 (by decide) (fun hc => ?_) (fun hc => ?_)
      · have hf := ite_t hc hf
        refine lv_iload_n hx hb dX10_freeHole_26 rfl (lv_at hl 3 rfl) ?_
        exact g_iret X hr hlk hP hS (congrArg (Prod.mk σ) hf) dX10_freeHole_27
      · have hf := ite_f hc hf
        have hok := hok.2 hc
        refine lv_aload_n hx hb dX10_freeHole_10 rfl (lv_at hl 0 rfl) ?_
        refine lv_iload_n hx hb dX10_freeHole_11 rfl (lv_at hl 1 rfl) ?_
        refine lv_iload_n hx hb dX10_freeHole_12 rfl (lv_at hl 2 rfl) ?_
        refine lv_iload_n hx hb dX10_freeHole_13 rfl (lv_at hl 3 rfl) ?_
        have hs1 := hok.1
        have hok := hok.2
        refine g_cIp (g_runV (i := 196) (As := [.int x1, .int x2, .int x3]) (rest := []) X (c_X10_itemIn l G hG σ x1 x2 x3 hs1) ca_X10_itemIn km_X10_176 rfl rfl ⟨Nat.le_of_ble_eq_true rfl, Nat.le_of_ble_eq_true rfl⟩ hP hS (ty_lt ab_196) (cell_10 ab_196) rfl rfl rfl hl.1 rfl (Nat.le_of_ble_eq_true rfl) ⟨Nat.le_of_ble_eq_true rfl, Nat.le_of_ble_eq_true rfl⟩ dX10_freeHole_14) hS (fun H locs hP hS => ?_)
        refine lv_if_lt (tgt := 26) hx hb dX10_freeHole_17 (by decide) (fun hc => ?_) (fun hc => ?_)
        · have hf := ite_t hc hf
          refine lv_iload_n hx hb dX10_freeHole_26 rfl (lv_at hl 3 rfl) ?_
          exact g_iret X hr hlk hP hS (congrArg (Prod.mk σ) hf) dX10_freeHole_27
        · have hf := ite_f hc hf
          have hok := hok.2 hc
          refine lv_iinc (v := (x3 + (1 : Int32))) (lv' := [(3, .int (x3 + (1 : Int32))), (0, .ref (G.2.1 196)), (1, .int x1), (2, .int x2)]) hx hb dX10_freeHole_20 hl (k := 3) rfl rfl (by decide) rfl (fun ls hl => ?_)
          refine lv_goto (tgt := 2) hx hb dX10_freeHole_23 (by decide) ?_
          exact ih2 x1 x2 (x3 + (1 : Int32)) hok hf _ _ hP hS ls (lv_sub hl [1, 2, 3, 0] rfl)
  exact K2 2000 x1 x2 (0 : Int32) hok hf _ _ hP hS ls (lv_sub hl [1, 2, 3, 0] rfl)
def f_X10_notShelve (σ : St) (x1 : Int32) (x2 : Int32) : St × Int32 := (if (f_X10_isItem σ x1) = true then (if (f_X10_isBetween x2 (0 : Int32) (1 : Int32)) = true then (if (f_X10_of σ x1 (4 : Int32)) = (1 : Int32) then (if (f_X10_freeHole σ (f_X10_of σ x1 (2 : Int32)) x2) = (f_X10_holes x2) then (bnd (f_X10_isNot σ (8 : Int32) x2) (fun q6 => (q6.1, q6.2))) else (if (f_X10_of σ x1 (0 : Int32)) = x2 then (σ, (0 : Int32)) else (bnd (f_X10_isNot σ (9 : Int32) x2) (fun q5 => (q5.1, q5.2))))) else (bnd (f_X10_isNot σ (7 : Int32) (f_X10_of σ x1 (4 : Int32))) (fun q8 => (q8.1, q8.2)))) else (σ, (1 : Int32))) else (σ, (1 : Int32)))
def ok_X10_notShelve (σ : St) (x1 : Int32) (x2 : Int32) : Prop := (((f_X10_isItem σ x1) = true → (((f_X10_isBetween x2 (0 : Int32) (1 : Int32)) = true → (ok_X10_of σ x1 (4 : Int32) ∧ (((f_X10_of σ x1 (4 : Int32)) = (1 : Int32) → (ok_X10_of σ x1 (2 : Int32) ∧ (ok_X10_freeHole σ (f_X10_of σ x1 (2 : Int32)) x2 ∧ (((f_X10_freeHole σ (f_X10_of σ x1 (2 : Int32)) x2) = (f_X10_holes x2) → True) ∧ (¬ (f_X10_freeHole σ (f_X10_of σ x1 (2 : Int32)) x2) = (f_X10_holes x2) → ok_X10_of σ x1 (0 : Int32)))))) ∧ (¬ (f_X10_of σ x1 (4 : Int32)) = (1 : Int32) → ok_X10_of σ x1 (4 : Int32))))) ∧ ((f_X10_isBetween x2 (0 : Int32) (1 : Int32)) = false → True))) ∧ ((f_X10_isItem σ x1) = false → True))
abbrev rm_X10_notShelve : Room := { frames := 3, cells := 0, slots := 0, locals := 69 }
set_option maxHeartbeats 4000000 in
set_option maxRecDepth 100000 in
theorem c_X10_notShelve (l : Launch) (G : GE) (hG : Gok G) (σ : St) (x1 : Int32) (x2 : Int32) (hok : ok_X10_notShelve σ x1 x2) : MtI l G yX10_notShelve cX10_notShelve 3 rm_X10_notShelve [.ref (G.2.1 196), .int x1, .int x2] σ (f_X10_notShelve σ x1 x2) := by
  generalize hf : f_X10_notShelve σ x1 x2 = fv
  rw [f_X10_notShelve] at hf
  rw [ok_X10_notShelve] at hok
  refine g_start hG (plainFor_of_name (by decide)) (Nat.le_of_ble_eq_true rfl) ?_
  intro p e s m args below meth c X hr hlk ls hl H locs hP hS
  have X : Cx G p s m args c cX10_notShelve 3 RX10 := X
  obtain ⟨hx, hb, hml, hown, hts, hK, hbs, hXW, -⟩ := id X
  have hl : lv_has ls 3 [(0, .ref (G.2.1 196)), (1, .int x1), (2, .int x2)] := hl
  refine lv_aload_n hx hb dX10_notShelve_0 rfl (lv_at hl 0 rfl) ?_
  refine lv_iload_n hx hb dX10_notShelve_1 rfl (lv_at hl 1 rfl) ?_
  refine g_cZp (g_runV (i := 196) (As := [.int x1]) (rest := []) X (c_X10_isItem l G hG σ x1) ca_X10_isItem km_X10_136 rfl rfl ⟨Nat.le_of_ble_eq_true rfl, Nat.le_of_ble_eq_true rfl⟩ hP hS (ty_lt ab_196) (cell_10 ab_196) rfl rfl rfl hl.1 rfl (Nat.le_of_ble_eq_true rfl) ⟨Nat.le_of_ble_eq_true rfl, Nat.le_of_ble_eq_true rfl⟩ dX10_notShelve_2) hS (fun H locs hP hS => ?_)
  refine g_ifeqZ (tgt := 17) X dX10_notShelve_5 (by decide) (fun hc => ?_) (fun hc => ?_)
  · have hf := ite_z hc hf
    refine lv_iconst (v := 1) hx hb dX10_notShelve_17 (by decide) ?_
    exact g_iret X hr hlk hP hS hf dX10_notShelve_18
  · have hf := ite_t hc hf
    have hok := hok.1 hc
    refine lv_iload_n hx hb dX10_notShelve_8 rfl (lv_at hl 2 rfl) ?_
    refine lv_iconst (v := 0) hx hb dX10_notShelve_9 (by decide) ?_
    refine lv_iconst (v := 1) hx hb dX10_notShelve_10 (by decide) ?_
    refine g_cZp (g_runS (As := [.int x2, .int (0 : Int32), .int (1 : Int32)]) (rest := []) X (c_X10_isBetween l G hG σ x2 (0 : Int32) (1 : Int32)) ca_X10_isBetween km_X10_81 rfl rfl ⟨Nat.le_of_ble_eq_true rfl, Nat.le_of_ble_eq_true rfl⟩ hP hS rfl hl.1 rfl (Nat.le_of_ble_eq_true rfl) ⟨Nat.le_of_ble_eq_true rfl, Nat.le_of_ble_eq_true rfl⟩ dX10_notShelve_11) hS (fun H locs hP hS => ?_)
    refine g_ifneZ (tgt := 19) X dX10_notShelve_14 (by decide) (fun hc => ?_) (fun hc => ?_)
    · have hf := ite_t hc hf
      have hok := hok.1 hc
      refine lv_aload_n hx hb dX10_notShelve_19 rfl (lv_at hl 0 rfl) ?_
      refine lv_iload_n hx hb dX10_notShelve_20 rfl (lv_at hl 1 rfl) ?_
      refine lv_iconst (v := 4) hx hb dX10_notShelve_21 (by decide) ?_
      have hs1 := hok.1
      have hok := hok.2
      refine g_cIp (g_runV (i := 196) (As := [.int x1, .int (4 : Int32)]) (rest := []) X (c_X10_of l G hG σ x1 (4 : Int32) hs1) ca_X10_of km_X10_85 rfl rfl ⟨Nat.le_of_ble_eq_true rfl, Nat.le_of_ble_eq_true rfl⟩ hP hS (ty_lt ab_196) (cell_10 ab_196) rfl rfl rfl hl.1 rfl (Nat.le_of_ble_eq_true rfl) ⟨Nat.le_of_ble_eq_true rfl, Nat.le_of_ble_eq_true rfl⟩ dX10_notShelve_22) hS (fun H locs hP hS => ?_)
      refine lv_iconst (v := 1) hx hb dX10_notShelve_25 (by decide) ?_
      refine lv_icmp_eq (tgt := 42) hx hb dX10_notShelve_26 (by decide) (fun hc => ?_) (fun hc => ?_)
      · have hf := ite_t hc hf
        have hok := hok.1 hc
        refine lv_aload_n hx hb dX10_notShelve_42 rfl (lv_at hl 0 rfl) ?_
        refine lv_aload_n hx hb dX10_notShelve_43 rfl (lv_at hl 0 rfl) ?_
        refine lv_iload_n hx hb dX10_notShelve_44 rfl (lv_at hl 1 rfl) ?_
        refine lv_iconst (v := 2) hx hb dX10_notShelve_45 (by decide) ?_
        have hs2 := hok.1
        have hok := hok.2
        refine g_cIp (g_runV (i := 196) (As := [.int x1, .int (2 : Int32)]) (rest := [.ref (G.2.1 196)]) X (c_X10_of l G hG σ x1 (2 : Int32) hs2) ca_X10_of km_X10_85 rfl rfl ⟨Nat.le_of_ble_eq_true rfl, Nat.le_of_ble_eq_true rfl⟩ hP hS (ty_lt ab_196) (cell_10 ab_196) rfl rfl rfl hl.1 rfl (Nat.le_of_ble_eq_true rfl) ⟨Nat.le_of_ble_eq_true rfl, Nat.le_of_ble_eq_true rfl⟩ dX10_notShelve_46) hS (fun H locs hP hS => ?_)
        refine lv_iload_n hx hb dX10_notShelve_49 rfl (lv_at hl 2 rfl) ?_
        have hs3 := hok.1
        have hok := hok.2
        refine g_cIp (g_runV (i := 196) (As := [.int (f_X10_of σ x1 (2 : Int32)), .int x2]) (rest := []) X (c_X10_freeHole l G hG σ (f_X10_of σ x1 (2 : Int32)) x2 hs3) ca_X10_freeHole km_X10_180 rfl rfl ⟨Nat.le_of_ble_eq_true rfl, Nat.le_of_ble_eq_true rfl⟩ hP hS (ty_lt ab_196) (cell_10 ab_196) rfl rfl rfl hl.1 rfl (Nat.le_of_ble_eq_true rfl) ⟨Nat.le_of_ble_eq_true rfl, Nat.le_of_ble_eq_true rfl⟩ dX10_notShelve_50) hS (fun H locs hP hS => ?_)
        refine lv_iload_n hx hb dX10_notShelve_53 rfl (lv_at hl 2 rfl) ?_
        refine g_cIp (g_runS (As := [.int x2]) (rest := [.int (f_X10_freeHole σ (f_X10_of σ x1 (2 : Int32)) x2)]) X (c_X10_holes l G hG σ x2) ca_X10_holes km_X10_173 rfl rfl ⟨Nat.le_of_ble_eq_true rfl, Nat.le_of_ble_eq_true rfl⟩ hP hS rfl hl.1 rfl (Nat.le_of_ble_eq_true rfl) ⟨Nat.le_of_ble_eq_true rfl, Nat.le_of_ble_eq_true rfl⟩ dX10_notShelve_54) hS (fun H locs hP hS => ?_)
        refine lv_icmp_ne (tgt := 68) hx hb dX10_notShelve_57 (by decide) (fun hc => ?_) (fun hc => ?_)
        · have hf := ite_f hc hf
          have hok := hok.2 hc
          refine lv_aload_n hx hb dX10_notShelve_68 rfl (lv_at hl 0 rfl) ?_
          refine lv_iload_n hx hb dX10_notShelve_69 rfl (lv_at hl 1 rfl) ?_
          refine lv_iconst (v := 0) hx hb dX10_notShelve_70 (by decide) ?_
          have hs4 := hok
          refine g_cIp (g_runV (i := 196) (As := [.int x1, .int (0 : Int32)]) (rest := []) X (c_X10_of l G hG σ x1 (0 : Int32) hs4) ca_X10_of km_X10_85 rfl rfl ⟨Nat.le_of_ble_eq_true rfl, Nat.le_of_ble_eq_true rfl⟩ hP hS (ty_lt ab_196) (cell_10 ab_196) rfl rfl rfl hl.1 rfl (Nat.le_of_ble_eq_true rfl) ⟨Nat.le_of_ble_eq_true rfl, Nat.le_of_ble_eq_true rfl⟩ dX10_notShelve_71) hS (fun H locs hP hS => ?_)
          refine lv_iload_n hx hb dX10_notShelve_74 rfl (lv_at hl 2 rfl) ?_
          refine lv_icmp_ne (tgt := 82) hx hb dX10_notShelve_75 (by decide) (fun hc => ?_) (fun hc => ?_)
          · have hf := ite_f hc hf
            refine lv_aload_n hx hb dX10_notShelve_82 rfl (lv_at hl 0 rfl) ?_
            refine lv_bipush (v := 9) hx hb dX10_notShelve_83 (by decide) ?_
            refine lv_iload_n hx hb dX10_notShelve_85 rfl (lv_at hl 2 rfl) ?_
            refine g_cI (g_runV (i := 196) (As := [.int (9 : Int32), .int x2]) (rest := []) X (c_X10_isNot l G hG σ (9 : Int32) x2) ca_X10_isNot km_X10_89 rfl rfl ⟨Nat.le_of_ble_eq_true rfl, Nat.le_of_ble_eq_true rfl⟩ hP hS (ty_lt ab_196) (cell_10 ab_196) rfl rfl rfl hl.1 rfl (Nat.le_of_ble_eq_true rfl) ⟨Nat.le_of_ble_eq_true rfl, Nat.le_of_ble_eq_true rfl⟩ dX10_notShelve_86) hS (fun q5 hq5 H locs hP hS => ?_)
            have hf := bnd_go hq5 hf
            exact g_iret X hr hlk hP hS hf dX10_notShelve_89
          · have hf := ite_t hc hf
            refine lv_iconst (v := 0) hx hb dX10_notShelve_78 (by decide) ?_
            refine lv_goto (tgt := 89) hx hb dX10_notShelve_79 (by decide) ?_
            exact g_iret X hr hlk hP hS hf dX10_notShelve_89
        · have hf := ite_t hc hf
          refine lv_aload_n hx hb dX10_notShelve_60 rfl (lv_at hl 0 rfl) ?_
          refine lv_bipush (v := 8) hx hb dX10_notShelve_61 (by decide) ?_
          refine lv_iload_n hx hb dX10_notShelve_63 rfl (lv_at hl 2 rfl) ?_
          refine g_cI (g_runV (i := 196) (As := [.int (8 : Int32), .int x2]) (rest := []) X (c_X10_isNot l G hG σ (8 : Int32) x2) ca_X10_isNot km_X10_89 rfl rfl ⟨Nat.le_of_ble_eq_true rfl, Nat.le_of_ble_eq_true rfl⟩ hP hS (ty_lt ab_196) (cell_10 ab_196) rfl rfl rfl hl.1 rfl (Nat.le_of_ble_eq_true rfl) ⟨Nat.le_of_ble_eq_true rfl, Nat.le_of_ble_eq_true rfl⟩ dX10_notShelve_64) hS (fun q6 hq6 H locs hP hS => ?_)
          have hf := bnd_go hq6 hf
          exact g_iret X hr hlk hP hS hf dX10_notShelve_67
      · have hf := ite_f hc hf
        have hok := hok.2 hc
        refine lv_aload_n hx hb dX10_notShelve_29 rfl (lv_at hl 0 rfl) ?_
        refine lv_bipush (v := 7) hx hb dX10_notShelve_30 (by decide) ?_
        refine lv_aload_n hx hb dX10_notShelve_32 rfl (lv_at hl 0 rfl) ?_
        refine lv_iload_n hx hb dX10_notShelve_33 rfl (lv_at hl 1 rfl) ?_
        refine lv_iconst (v := 4) hx hb dX10_notShelve_34 (by decide) ?_
        have hs7 := hok
        refine g_cIp (g_runV (i := 196) (As := [.int x1, .int (4 : Int32)]) (rest := [.int (7 : Int32), .ref (G.2.1 196)]) X (c_X10_of l G hG σ x1 (4 : Int32) hs7) ca_X10_of km_X10_85 rfl rfl ⟨Nat.le_of_ble_eq_true rfl, Nat.le_of_ble_eq_true rfl⟩ hP hS (ty_lt ab_196) (cell_10 ab_196) rfl rfl rfl hl.1 rfl (Nat.le_of_ble_eq_true rfl) ⟨Nat.le_of_ble_eq_true rfl, Nat.le_of_ble_eq_true rfl⟩ dX10_notShelve_35) hS (fun H locs hP hS => ?_)
        refine g_cI (g_runV (i := 196) (As := [.int (7 : Int32), .int (f_X10_of σ x1 (4 : Int32))]) (rest := []) X (c_X10_isNot l G hG σ (7 : Int32) (f_X10_of σ x1 (4 : Int32))) ca_X10_isNot km_X10_89 rfl rfl ⟨Nat.le_of_ble_eq_true rfl, Nat.le_of_ble_eq_true rfl⟩ hP hS (ty_lt ab_196) (cell_10 ab_196) rfl rfl rfl hl.1 rfl (Nat.le_of_ble_eq_true rfl) ⟨Nat.le_of_ble_eq_true rfl, Nat.le_of_ble_eq_true rfl⟩ dX10_notShelve_38) hS (fun q8 hq8 H locs hP hS => ?_)
        have hf := bnd_go hq8 hf
        exact g_iret X hr hlk hP hS hf dX10_notShelve_41
    · have hf := ite_z hc hf
      refine lv_iconst (v := 1) hx hb dX10_notShelve_17 (by decide) ?_
      exact g_iret X hr hlk hP hS hf dX10_notShelve_18
def f_X10_shelves (σ : St) (x1 : Int32) (x2 : Int32) : St × Int32 := (bnd (f_X10_sets σ x1 (4 : Int32) (2 : Int32)) (fun q4 => (bnd (f_X10_sets q4 x1 (5 : Int32) ((f_X10_freeHole σ (f_X10_of σ x1 (2 : Int32)) x2) + (1 : Int32))) (fun q6 => (q6, (f_X10_freeHole σ (f_X10_of σ x1 (2 : Int32)) x2))))))
def ok_X10_shelves (σ : St) (x1 : Int32) (x2 : Int32) : Prop := (ok_X10_of σ x1 (2 : Int32) ∧ (ok_X10_freeHole σ (f_X10_of σ x1 (2 : Int32)) x2 ∧ (ok_X10_sets σ x1 (4 : Int32) (2 : Int32) ∧ (bndP (f_X10_sets σ x1 (4 : Int32) (2 : Int32)) (fun q4 => ok_X10_sets q4 x1 (5 : Int32) ((f_X10_freeHole σ (f_X10_of σ x1 (2 : Int32)) x2) + (1 : Int32)))))))
abbrev rm_X10_shelves : Room := { frames := 3, cells := 0, slots := 0, locals := 69 }
set_option maxHeartbeats 4000000 in
set_option maxRecDepth 100000 in
theorem c_X10_shelves (l : Launch) (G : GE) (hG : Gok G) (σ : St) (x1 : Int32) (x2 : Int32) (hok : ok_X10_shelves σ x1 x2) : MtI l G yX10_shelves cX10_shelves 4 rm_X10_shelves [.ref (G.2.1 196), .int x1, .int x2] σ (f_X10_shelves σ x1 x2) := by
  generalize hf : f_X10_shelves σ x1 x2 = fv
  rw [f_X10_shelves] at hf
  rw [ok_X10_shelves] at hok
  refine g_start hG (plainFor_of_name (by decide)) (Nat.le_of_ble_eq_true rfl) ?_
  intro p e s m args below meth c X hr hlk ls hl H locs hP hS
  have X : Cx G p s m args c cX10_shelves 4 RX10 := X
  obtain ⟨hx, hb, hml, hown, hts, hK, hbs, hXW, -⟩ := id X
  have hl : lv_has ls 4 [(0, .ref (G.2.1 196)), (1, .int x1), (2, .int x2)] := hl
  refine lv_aload_n hx hb dX10_shelves_0 rfl (lv_at hl 0 rfl) ?_
  refine lv_aload_n hx hb dX10_shelves_1 rfl (lv_at hl 0 rfl) ?_
  refine lv_iload_n hx hb dX10_shelves_2 rfl (lv_at hl 1 rfl) ?_
  refine lv_iconst (v := 2) hx hb dX10_shelves_3 (by decide) ?_
  have hs1 := hok.1
  have hok := hok.2
  refine g_cIp (g_runV (i := 196) (As := [.int x1, .int (2 : Int32)]) (rest := [.ref (G.2.1 196)]) X (c_X10_of l G hG σ x1 (2 : Int32) hs1) ca_X10_of km_X10_85 rfl rfl ⟨Nat.le_of_ble_eq_true rfl, Nat.le_of_ble_eq_true rfl⟩ hP hS (ty_lt ab_196) (cell_10 ab_196) rfl rfl rfl hl.1 rfl (Nat.le_of_ble_eq_true rfl) ⟨Nat.le_of_ble_eq_true rfl, Nat.le_of_ble_eq_true rfl⟩ dX10_shelves_4) hS (fun H locs hP hS => ?_)
  refine lv_iload_n hx hb dX10_shelves_7 rfl (lv_at hl 2 rfl) ?_
  have hs2 := hok.1
  have hok := hok.2
  refine g_cIp (g_runV (i := 196) (As := [.int (f_X10_of σ x1 (2 : Int32)), .int x2]) (rest := []) X (c_X10_freeHole l G hG σ (f_X10_of σ x1 (2 : Int32)) x2 hs2) ca_X10_freeHole km_X10_180 rfl rfl ⟨Nat.le_of_ble_eq_true rfl, Nat.le_of_ble_eq_true rfl⟩ hP hS (ty_lt ab_196) (cell_10 ab_196) rfl rfl rfl hl.1 rfl (Nat.le_of_ble_eq_true rfl) ⟨Nat.le_of_ble_eq_true rfl, Nat.le_of_ble_eq_true rfl⟩ dX10_shelves_8) hS (fun H locs hP hS => ?_)
  refine lv_istore_n (lv' := [(3, .int (f_X10_freeHole σ (f_X10_of σ x1 (2 : Int32)) x2)), (0, .ref (G.2.1 196)), (1, .int x1), (2, .int x2)]) hx hb dX10_shelves_11 rfl hl (by decide) rfl (fun ls hl => ?_)
  refine lv_aload_n hx hb dX10_shelves_12 rfl (lv_at hl 1 rfl) ?_
  refine lv_iload_n hx hb dX10_shelves_13 rfl (lv_at hl 2 rfl) ?_
  refine lv_iconst (v := 4) hx hb dX10_shelves_14 (by decide) ?_
  refine lv_iconst (v := 2) hx hb dX10_shelves_15 (by decide) ?_
  have hs3 := hok.1
  have hok := hok.2
  refine g_cV (g_runV (i := 196) (As := [.int x1, .int (4 : Int32), .int (2 : Int32)]) (rest := []) X (c_X10_sets l G hG σ x1 (4 : Int32) (2 : Int32) hs3) ca_X10_sets km_X10_104 rfl rfl ⟨Nat.le_of_ble_eq_true rfl, Nat.le_of_ble_eq_true rfl⟩ hP hS (ty_lt ab_196) (cell_10 ab_196) rfl rfl rfl hl.1 rfl (Nat.le_of_ble_eq_true rfl) ⟨Nat.le_of_ble_eq_true rfl, Nat.le_of_ble_eq_true rfl⟩ dX10_shelves_16) hS (fun q4 hq4 H locs hP hS => ?_)
  have hf := bnd_go hq4 hf
  have hok := bnd_goP hq4 hok
  refine lv_aload_n hx hb dX10_shelves_19 rfl (lv_at hl 1 rfl) ?_
  refine lv_iload_n hx hb dX10_shelves_20 rfl (lv_at hl 2 rfl) ?_
  refine lv_iconst (v := 5) hx hb dX10_shelves_21 (by decide) ?_
  refine lv_iload_n hx hb dX10_shelves_22 rfl (lv_at hl 0 rfl) ?_
  refine lv_iconst (v := 1) hx hb dX10_shelves_23 (by decide) ?_
  refine lv_iadd hx hb dX10_shelves_24 ?_
  have hs5 := hok
  refine g_cV (g_runV (i := 196) (As := [.int x1, .int (5 : Int32), .int ((f_X10_freeHole σ (f_X10_of σ x1 (2 : Int32)) x2) + (1 : Int32))]) (rest := []) X (c_X10_sets l G hG q4 x1 (5 : Int32) ((f_X10_freeHole σ (f_X10_of σ x1 (2 : Int32)) x2) + (1 : Int32)) hs5) ca_X10_sets km_X10_104 rfl rfl ⟨Nat.le_of_ble_eq_true rfl, Nat.le_of_ble_eq_true rfl⟩ hP hS (ty_lt ab_196) (cell_10 ab_196) rfl rfl rfl hl.1 rfl (Nat.le_of_ble_eq_true rfl) ⟨Nat.le_of_ble_eq_true rfl, Nat.le_of_ble_eq_true rfl⟩ dX10_shelves_25) hS (fun q6 hq6 H locs hP hS => ?_)
  have hf := bnd_go hq6 hf
  refine lv_iload_n hx hb dX10_shelves_28 rfl (lv_at hl 0 rfl) ?_
  exact g_iret X hr hlk hP hS hf dX10_shelves_29
def f_X10_shelve (σ : St) (x1 : Int32) (x2 : Int32) : St × Int32 := (bnd (setI σ 196 0 (0 : Int32)) (fun q1 => (bnd (f_X10_notShelve q1 x1 x2) (fun q3 => (if q3.2 = 0 then (bnd (f_X10_remembers q3.1) (fun q5 => (bnd (f_X10_shelves q5 x1 x2) (fun q7 => (q7.1, q7.2))))) else (bnd (f_X10_refuses q3.1 q3.2 (2 : Int32)) (fun q8 => (q8.1, q8.2))))))))
def ok_X10_shelve (σ : St) (x1 : Int32) (x2 : Int32) : Prop := (bndP (setI σ 196 0 (0 : Int32)) (fun q1 => (ok_X10_notShelve q1 x1 x2 ∧ (bndP (f_X10_notShelve q1 x1 x2) (fun q3 => ((q3.2 = 0 → (ok_X10_remembers q3.1 ∧ (bndP (f_X10_remembers q3.1) (fun q5 => ok_X10_shelves q5 x1 x2)))) ∧ (¬ q3.2 = 0 → True)))))))
abbrev rm_X10_shelve : Room := { frames := 4, cells := 0, slots := 0, locals := 92 }
set_option maxHeartbeats 4000000 in
set_option maxRecDepth 100000 in
theorem c_X10_shelve (l : Launch) (G : GE) (hG : Gok G) (σ : St) (x1 : Int32) (x2 : Int32) (hok : ok_X10_shelve σ x1 x2) : MtI l G yX10_shelve cX10_shelve 4 rm_X10_shelve [.ref (G.2.1 196), .int x1, .int x2] σ (f_X10_shelve σ x1 x2) := by
  generalize hf : f_X10_shelve σ x1 x2 = fv
  rw [f_X10_shelve] at hf
  rw [ok_X10_shelve] at hok
  refine g_start hG (plainFor_of_name (by decide)) (Nat.le_of_ble_eq_true rfl) ?_
  intro p e s m args below meth c X hr hlk ls hl H locs hP hS
  have X : Cx G p s m args c cX10_shelve 4 RX10 := X
  obtain ⟨hx, hb, hml, hown, hts, hK, hbs, hXW, -⟩ := id X
  have hl : lv_has ls 4 [(0, .ref (G.2.1 196)), (1, .int x1), (2, .int x2)] := hl
  refine lv_aload_n hx hb dX10_shelve_0 rfl (lv_at hl 0 rfl) ?_
  refine lv_iconst (v := 0) hx hb dX10_shelve_1 (by decide) ?_
  refine gp_10_0 X hP hS ab_196 kf_X10_50 dX10_shelve_2 (fun H locs hP hS => ?_)
  refine g_name hP (fun q1 hq1 hP => ?_)
  have hf := bnd_go hq1 hf
  have hok := bnd_goP hq1 hok
  refine lv_aload_n hx hb dX10_shelve_5 rfl (lv_at hl 0 rfl) ?_
  refine lv_iload_n hx hb dX10_shelve_6 rfl (lv_at hl 1 rfl) ?_
  refine lv_iload_n hx hb dX10_shelve_7 rfl (lv_at hl 2 rfl) ?_
  have hs2 := hok.1
  have hok := hok.2
  refine g_cI (g_runV (i := 196) (As := [.int x1, .int x2]) (rest := []) X (c_X10_notShelve l G hG q1 x1 x2 hs2) ca_X10_notShelve km_X10_183 rfl rfl ⟨Nat.le_of_ble_eq_true rfl, Nat.le_of_ble_eq_true rfl⟩ hP hS (ty_lt ab_196) (cell_10 ab_196) rfl rfl rfl hl.1 rfl (Nat.le_of_ble_eq_true rfl) ⟨Nat.le_of_ble_eq_true rfl, Nat.le_of_ble_eq_true rfl⟩ dX10_shelve_8) hS (fun q3 hq3 H locs hP hS => ?_)
  have hf := bnd_go hq3 hf
  have hok := bnd_goP hq3 hok
  refine lv_istore_n (lv' := [(3, .int q3.2), (0, .ref (G.2.1 196)), (1, .int x1), (2, .int x2)]) hx hb dX10_shelve_11 rfl hl (by decide) rfl (fun ls hl => ?_)
  refine lv_iload_n hx hb dX10_shelve_12 rfl (lv_at hl 0 rfl) ?_
  refine lv_if_eq (tgt := 23) hx hb dX10_shelve_13 (by decide) (fun hc => ?_) (fun hc => ?_)
  · have hf := ite_t hc hf
    have hok := hok.1 hc
    refine lv_aload_n hx hb dX10_shelve_23 rfl (lv_at hl 1 rfl) ?_
    have hs4 := hok.1
    have hok := hok.2
    refine g_cV (g_runV (i := 196) (As := []) (rest := []) X (c_X10_remembers l G hG q3.1 hs4) ca_X10_remembers km_X10_95 rfl rfl ⟨Nat.le_of_ble_eq_true rfl, Nat.le_of_ble_eq_true rfl⟩ hP hS (ty_lt ab_196) (cell_10 ab_196) rfl rfl rfl hl.1 rfl (Nat.le_of_ble_eq_true rfl) ⟨Nat.le_of_ble_eq_true rfl, Nat.le_of_ble_eq_true rfl⟩ dX10_shelve_24) hS (fun q5 hq5 H locs hP hS => ?_)
    have hf := bnd_go hq5 hf
    have hok := bnd_goP hq5 hok
    refine lv_aload_n hx hb dX10_shelve_27 rfl (lv_at hl 1 rfl) ?_
    refine lv_iload_n hx hb dX10_shelve_28 rfl (lv_at hl 2 rfl) ?_
    refine lv_iload_n hx hb dX10_shelve_29 rfl (lv_at hl 3 rfl) ?_
    have hs6 := hok
    refine g_cI (g_runV (i := 196) (As := [.int x1, .int x2]) (rest := []) X (c_X10_shelves l G hG q5 x1 x2 hs6) ca_X10_shelves km_X10_186 rfl rfl ⟨Nat.le_of_ble_eq_true rfl, Nat.le_of_ble_eq_true rfl⟩ hP hS (ty_lt ab_196) (cell_10 ab_196) rfl rfl rfl hl.1 rfl (Nat.le_of_ble_eq_true rfl) ⟨Nat.le_of_ble_eq_true rfl, Nat.le_of_ble_eq_true rfl⟩ dX10_shelve_30) hS (fun q7 hq7 H locs hP hS => ?_)
    have hf := bnd_go hq7 hf
    exact g_iret X hr hlk hP hS hf dX10_shelve_33
  · have hf := ite_f hc hf
    refine lv_aload_n hx hb dX10_shelve_16 rfl (lv_at hl 1 rfl) ?_
    refine lv_iload_n hx hb dX10_shelve_17 rfl (lv_at hl 0 rfl) ?_
    refine lv_iconst (v := 2) hx hb dX10_shelve_18 (by decide) ?_
    refine g_cI (g_runV (i := 196) (As := [.int q3.2, .int (2 : Int32)]) (rest := []) X (c_X10_refuses l G hG q3.1 q3.2 (2 : Int32)) ca_X10_refuses km_X10_92 rfl rfl ⟨Nat.le_of_ble_eq_true rfl, Nat.le_of_ble_eq_true rfl⟩ hP hS (ty_lt ab_196) (cell_10 ab_196) rfl rfl rfl hl.1 rfl (Nat.le_of_ble_eq_true rfl) ⟨Nat.le_of_ble_eq_true rfl, Nat.le_of_ble_eq_true rfl⟩ dX10_shelve_19) hS (fun q8 hq8 H locs hP hS => ?_)
    have hf := bnd_go hq8 hf
    exact g_iret X hr hlk hP hS hf dX10_shelve_22
def fX10_onShelf_L4 (σ : St) : Nat → Int32 → Int32 → Int32 → Int32
  | 0, _, _, _ => 0
  | n4 + 1, x1, x2, x3 => (if (σ.1 197 (2 : Int32).toNatClampNeg) ≤ x3 then x2 else (if (f_X10_of σ x3 (4 : Int32)) = (2 : Int32) then (if (f_X10_of σ x3 (2 : Int32)) = x1 then (fX10_onShelf_L4 σ n4 x1 (x2 + (1 : Int32)) (x3 + (1 : Int32))) else (fX10_onShelf_L4 σ n4 x1 (x2 + (0 : Int32)) (x3 + (1 : Int32)))) else (fX10_onShelf_L4 σ n4 x1 (x2 + (0 : Int32)) (x3 + (1 : Int32)))))
def okX10_onShelf_L4 (σ : St) : Nat → Int32 → Int32 → Int32 → Prop
  | 0, _, _, _ => False
  | n4 + 1, x1, x2, x3 => (((σ.1 197 (2 : Int32).toNatClampNeg) ≤ x3 → True) ∧ (¬ (σ.1 197 (2 : Int32).toNatClampNeg) ≤ x3 → (ok_X10_of σ x3 (4 : Int32) ∧ (((f_X10_of σ x3 (4 : Int32)) = (2 : Int32) → (ok_X10_of σ x3 (2 : Int32) ∧ (((f_X10_of σ x3 (2 : Int32)) = x1 → (okX10_onShelf_L4 σ n4 x1 (x2 + (1 : Int32)) (x3 + (1 : Int32)))) ∧ (¬ (f_X10_of σ x3 (2 : Int32)) = x1 → (okX10_onShelf_L4 σ n4 x1 (x2 + (0 : Int32)) (x3 + (1 : Int32))))))) ∧ (¬ (f_X10_of σ x3 (4 : Int32)) = (2 : Int32) → (okX10_onShelf_L4 σ n4 x1 (x2 + (0 : Int32)) (x3 + (1 : Int32))))))))
def f_X10_onShelf (σ : St) (x1 : Int32) : Int32 := (fX10_onShelf_L4 σ 2000 x1 (0 : Int32) (0 : Int32))
def ok_X10_onShelf (σ : St) (x1 : Int32) : Prop := (okX10_onShelf_L4 σ 2000 x1 (0 : Int32) (0 : Int32))
abbrev rm_X10_onShelf : Room := { frames := 1, cells := 0, slots := 0, locals := 22 }
set_option maxHeartbeats 4000000 in
set_option maxRecDepth 100000 in
theorem c_X10_onShelf (l : Launch) (G : GE) (hG : Gok G) (σ : St) (x1 : Int32) (hok : ok_X10_onShelf σ x1) : MtI l G yX10_onShelf cX10_onShelf 4 rm_X10_onShelf [.ref (G.2.1 196), .int x1] σ (σ, f_X10_onShelf σ x1) := by
  generalize hf : f_X10_onShelf σ x1 = fv
  rw [f_X10_onShelf] at hf
  rw [ok_X10_onShelf] at hok
  refine g_start hG (plainFor_of_name (by decide)) (Nat.le_of_ble_eq_true rfl) ?_
  intro p e s m args below meth c X hr hlk ls hl H locs hP hS
  have X : Cx G p s m args c cX10_onShelf 4 RX10 := X
  obtain ⟨hx, hb, hml, hown, hts, hK, hbs, hXW, -⟩ := id X
  have hl : lv_has ls 4 [(0, .ref (G.2.1 196)), (1, .int x1)] := hl
  refine lv_iconst (v := 0) hx hb dX10_onShelf_0 (by decide) ?_
  refine lv_istore_n (lv' := [(2, .int (0 : Int32)), (0, .ref (G.2.1 196)), (1, .int x1)]) hx hb dX10_onShelf_1 rfl hl (by decide) rfl (fun ls hl => ?_)
  refine lv_iconst (v := 0) hx hb dX10_onShelf_2 (by decide) ?_
  refine lv_istore_n (lv' := [(3, .int (0 : Int32)), (2, .int (0 : Int32)), (0, .ref (G.2.1 196)), (1, .int x1)]) hx hb dX10_onShelf_3 rfl hl (by decide) rfl (fun ls hl => ?_)
  have K4 : ∀ (n4 : Nat) (x1 : Int32) (x2 : Int32) (x3 : Int32), okX10_onShelf_L4 σ n4 x1 x2 x3 → fX10_onShelf_L4 σ n4 x1 x2 x3 = fv → ∀ (H : Heap) (locs : List Loc), va_P G.1 vcl (wl G σ) H → va_S (GA G) s.heap H locs → ∀ (ls : Array Slot), lv_has ls 4 [(0, .ref (G.2.1 196)), (1, .int x1), (2, .int x2), (3, .int x3)] → W p l e rm_X10_onShelf s m args below meth c H locs 0 0 (MQ below (va_Qi (fun r u => (u, r) = (σ, fv)) (PB G) (GA G)) args s 0 0 (GA G)) (F0 m 4 ls []) := by
    intro n4
    induction n4 with
    | zero =>
      intro x1 x2 x3 hok
      exact hok.elim
    | succ n4 ih4 =>
      intro x1 x2 x3 hok hf H locs hP hS ls hl
      rw [okX10_onShelf_L4] at hok
      rw [fX10_onShelf_L4] at hf
      refine lv_iload_n hx hb dX10_onShelf_4 rfl (lv_at hl 3 rfl) ?_
      refine lv_aload_n hx hb dX10_onShelf_5 rfl (lv_at hl 0 rfl) ?_
      refine gg_10_5 X hP ab_196 kf_X10_7 dX10_onShelf_6 ?_
      refine lv_iconst (v := 2) hx hb dX10_onShelf_9 (by decide) ?_
      refine g_iald X hP ab_197 (by rw [al_197]; unfold vp_in; decide) dX10_onShelf_10 ?_
      refine lv_icmp_ge (tgt := 48) hx hb dX10_onShelf_11 (by decide) (fun hc => ?_) (fun hc => ?_)
      · have hf := ite_t hc hf
        refine lv_iload_n hx hb dX10_onShelf_48 rfl (lv_at hl 2 rfl) ?_
        exact g_iret X hr hlk hP hS (congrArg (Prod.mk σ) hf) dX10_onShelf_49
      · have hf := ite_f hc hf
        have hok := hok.2 hc
        refine lv_iload_n hx hb dX10_onShelf_14 rfl (lv_at hl 2 rfl) ?_
        refine lv_aload_n hx hb dX10_onShelf_15 rfl (lv_at hl 0 rfl) ?_
        refine lv_iload_n hx hb dX10_onShelf_16 rfl (lv_at hl 3 rfl) ?_
        refine lv_iconst (v := 4) hx hb dX10_onShelf_17 (by decide) ?_
        have hs1 := hok.1
        have hok := hok.2
        refine g_cIp (g_runV (i := 196) (As := [.int x3, .int (4 : Int32)]) (rest := [.int x2]) X (c_X10_of l G hG σ x3 (4 : Int32) hs1) ca_X10_of km_X10_85 rfl rfl ⟨Nat.le_of_ble_eq_true rfl, Nat.le_of_ble_eq_true rfl⟩ hP hS (ty_lt ab_196) (cell_10 ab_196) rfl rfl rfl hl.1 rfl (Nat.le_of_ble_eq_true rfl) ⟨Nat.le_of_ble_eq_true rfl, Nat.le_of_ble_eq_true rfl⟩ dX10_onShelf_18) hS (fun H locs hP hS => ?_)
        refine lv_iconst (v := 2) hx hb dX10_onShelf_21 (by decide) ?_
        refine lv_icmp_ne (tgt := 39) hx hb dX10_onShelf_22 (by decide) (fun hc => ?_) (fun hc => ?_)
        · have hf := ite_f hc hf
          have hok := hok.2 hc
          refine lv_iconst (v := 0) hx hb dX10_onShelf_39 (by decide) ?_
          refine lv_iadd hx hb dX10_onShelf_40 ?_
          refine lv_istore_n (lv' := [(2, .int (x2 + (0 : Int32))), (0, .ref (G.2.1 196)), (1, .int x1), (3, .int x3)]) hx hb dX10_onShelf_41 rfl hl (by decide) rfl (fun ls hl => ?_)
          refine lv_iinc (v := (x3 + (1 : Int32))) (lv' := [(3, .int (x3 + (1 : Int32))), (2, .int (x2 + (0 : Int32))), (0, .ref (G.2.1 196)), (1, .int x1)]) hx hb dX10_onShelf_42 hl (k := 3) rfl rfl (by decide) rfl (fun ls hl => ?_)
          refine lv_goto (tgt := 4) hx hb dX10_onShelf_45 (by decide) ?_
          exact ih4 x1 (x2 + (0 : Int32)) (x3 + (1 : Int32)) hok hf _ _ hP hS ls (lv_sub hl [2, 3, 1, 0] rfl)
        · have hf := ite_t hc hf
          have hok := hok.1 hc
          refine lv_aload_n hx hb dX10_onShelf_25 rfl (lv_at hl 0 rfl) ?_
          refine lv_iload_n hx hb dX10_onShelf_26 rfl (lv_at hl 3 rfl) ?_
          refine lv_iconst (v := 2) hx hb dX10_onShelf_27 (by decide) ?_
          have hs2 := hok.1
          have hok := hok.2
          refine g_cIp (g_runV (i := 196) (As := [.int x3, .int (2 : Int32)]) (rest := [.int x2]) X (c_X10_of l G hG σ x3 (2 : Int32) hs2) ca_X10_of km_X10_85 rfl rfl ⟨Nat.le_of_ble_eq_true rfl, Nat.le_of_ble_eq_true rfl⟩ hP hS (ty_lt ab_196) (cell_10 ab_196) rfl rfl rfl hl.1 rfl (Nat.le_of_ble_eq_true rfl) ⟨Nat.le_of_ble_eq_true rfl, Nat.le_of_ble_eq_true rfl⟩ dX10_onShelf_28) hS (fun H locs hP hS => ?_)
          refine lv_iload_n hx hb dX10_onShelf_31 rfl (lv_at hl 1 rfl) ?_
          refine lv_icmp_ne (tgt := 39) hx hb dX10_onShelf_32 (by decide) (fun hc => ?_) (fun hc => ?_)
          · have hf := ite_f hc hf
            have hok := hok.2 hc
            refine lv_iconst (v := 0) hx hb dX10_onShelf_39 (by decide) ?_
            refine lv_iadd hx hb dX10_onShelf_40 ?_
            refine lv_istore_n (lv' := [(2, .int (x2 + (0 : Int32))), (0, .ref (G.2.1 196)), (1, .int x1), (3, .int x3)]) hx hb dX10_onShelf_41 rfl hl (by decide) rfl (fun ls hl => ?_)
            refine lv_iinc (v := (x3 + (1 : Int32))) (lv' := [(3, .int (x3 + (1 : Int32))), (2, .int (x2 + (0 : Int32))), (0, .ref (G.2.1 196)), (1, .int x1)]) hx hb dX10_onShelf_42 hl (k := 3) rfl rfl (by decide) rfl (fun ls hl => ?_)
            refine lv_goto (tgt := 4) hx hb dX10_onShelf_45 (by decide) ?_
            exact ih4 x1 (x2 + (0 : Int32)) (x3 + (1 : Int32)) hok hf _ _ hP hS ls (lv_sub hl [2, 3, 1, 0] rfl)
          · have hf := ite_t hc hf
            have hok := hok.1 hc
            refine lv_iconst (v := 1) hx hb dX10_onShelf_35 (by decide) ?_
            refine lv_goto (tgt := 40) hx hb dX10_onShelf_36 (by decide) ?_
            refine lv_iadd hx hb dX10_onShelf_40 ?_
            refine lv_istore_n (lv' := [(2, .int (x2 + (1 : Int32))), (0, .ref (G.2.1 196)), (1, .int x1), (3, .int x3)]) hx hb dX10_onShelf_41 rfl hl (by decide) rfl (fun ls hl => ?_)
            refine lv_iinc (v := (x3 + (1 : Int32))) (lv' := [(3, .int (x3 + (1 : Int32))), (2, .int (x2 + (1 : Int32))), (0, .ref (G.2.1 196)), (1, .int x1)]) hx hb dX10_onShelf_42 hl (k := 3) rfl rfl (by decide) rfl (fun ls hl => ?_)
            refine lv_goto (tgt := 4) hx hb dX10_onShelf_45 (by decide) ?_
            exact ih4 x1 (x2 + (1 : Int32)) (x3 + (1 : Int32)) hok hf _ _ hP hS ls (lv_sub hl [2, 3, 1, 0] rfl)
  exact K4 2000 x1 (0 : Int32) (0 : Int32) hok hf _ _ hP hS ls (lv_sub hl [2, 3, 1, 0] rfl)
def f_X10_notTake (σ : St) (x1 : Int32) : St × Int32 := (if (f_X10_isChild x1) = true then (if (f_X10_onShelf σ x1) = 0 then (bnd (f_X10_isNot σ (10 : Int32) x1) (fun q2 => (q2.1, q2.2))) else (σ, (0 : Int32))) else (σ, (1 : Int32)))
def ok_X10_notTake (σ : St) (x1 : Int32) : Prop := (((f_X10_isChild x1) = true → ok_X10_onShelf σ x1) ∧ ((f_X10_isChild x1) = false → True))
abbrev rm_X10_notTake : Room := { frames := 2, cells := 0, slots := 0, locals := 45 }
set_option maxHeartbeats 4000000 in
set_option maxRecDepth 100000 in
theorem c_X10_notTake (l : Launch) (G : GE) (hG : Gok G) (σ : St) (x1 : Int32) (hok : ok_X10_notTake σ x1) : MtI l G yX10_notTake cX10_notTake 2 rm_X10_notTake [.ref (G.2.1 196), .int x1] σ (f_X10_notTake σ x1) := by
  generalize hf : f_X10_notTake σ x1 = fv
  rw [f_X10_notTake] at hf
  rw [ok_X10_notTake] at hok
  refine g_start hG (plainFor_of_name (by decide)) (Nat.le_of_ble_eq_true rfl) ?_
  intro p e s m args below meth c X hr hlk ls hl H locs hP hS
  have X : Cx G p s m args c cX10_notTake 2 RX10 := X
  obtain ⟨hx, hb, hml, hown, hts, hK, hbs, hXW, -⟩ := id X
  have hl : lv_has ls 2 [(0, .ref (G.2.1 196)), (1, .int x1)] := hl
  refine lv_iload_n hx hb dX10_notTake_0 rfl (lv_at hl 1 rfl) ?_
  refine g_cZp (g_runS (As := [.int x1]) (rest := []) X (c_X10_isChild l G hG σ x1) ca_X10_isChild km_X10_108 rfl rfl ⟨Nat.le_of_ble_eq_true rfl, Nat.le_of_ble_eq_true rfl⟩ hP hS rfl hl.1 rfl (Nat.le_of_ble_eq_true rfl) ⟨Nat.le_of_ble_eq_true rfl, Nat.le_of_ble_eq_true rfl⟩ dX10_notTake_1) hS (fun H locs hP hS => ?_)
  refine g_ifneZ (tgt := 9) X dX10_notTake_4 (by decide) (fun hc => ?_) (fun hc => ?_)
  · have hf := ite_t hc hf
    have hok := hok.1 hc
    refine lv_aload_n hx hb dX10_notTake_9 rfl (lv_at hl 0 rfl) ?_
    refine lv_iload_n hx hb dX10_notTake_10 rfl (lv_at hl 1 rfl) ?_
    have hs1 := hok
    refine g_cIp (g_runV (i := 196) (As := [.int x1]) (rest := []) X (c_X10_onShelf l G hG σ x1 hs1) ca_X10_onShelf km_X10_189 rfl rfl ⟨Nat.le_of_ble_eq_true rfl, Nat.le_of_ble_eq_true rfl⟩ hP hS (ty_lt ab_196) (cell_10 ab_196) rfl rfl rfl hl.1 rfl (Nat.le_of_ble_eq_true rfl) ⟨Nat.le_of_ble_eq_true rfl, Nat.le_of_ble_eq_true rfl⟩ dX10_notTake_11) hS (fun H locs hP hS => ?_)
    refine lv_if_ne (tgt := 27) hx hb dX10_notTake_14 (by decide) (fun hc => ?_) (fun hc => ?_)
    · have hf := ite_f hc hf
      refine lv_iconst (v := 0) hx hb dX10_notTake_27 (by decide) ?_
      exact g_iret X hr hlk hP hS hf dX10_notTake_28
    · have hf := ite_t hc hf
      refine lv_aload_n hx hb dX10_notTake_17 rfl (lv_at hl 0 rfl) ?_
      refine lv_bipush (v := 10) hx hb dX10_notTake_18 (by decide) ?_
      refine lv_iload_n hx hb dX10_notTake_20 rfl (lv_at hl 1 rfl) ?_
      refine g_cI (g_runV (i := 196) (As := [.int (10 : Int32), .int x1]) (rest := []) X (c_X10_isNot l G hG σ (10 : Int32) x1) ca_X10_isNot km_X10_89 rfl rfl ⟨Nat.le_of_ble_eq_true rfl, Nat.le_of_ble_eq_true rfl⟩ hP hS (ty_lt ab_196) (cell_10 ab_196) rfl rfl rfl hl.1 rfl (Nat.le_of_ble_eq_true rfl) ⟨Nat.le_of_ble_eq_true rfl, Nat.le_of_ble_eq_true rfl⟩ dX10_notTake_21) hS (fun q2 hq2 H locs hP hS => ?_)
      have hf := bnd_go hq2 hf
      refine lv_goto (tgt := 28) hx hb dX10_notTake_24 (by decide) ?_
      exact g_iret X hr hlk hP hS hf dX10_notTake_28
  · have hf := ite_z hc hf
    refine lv_iconst (v := 1) hx hb dX10_notTake_7 (by decide) ?_
    exact g_iret X hr hlk hP hS hf dX10_notTake_8
def fX10_takes_L8 : Nat → St → Int32 → Int32 → Int32 → St × Int32
  | 0, σ, _, _, _ => (σ, 0)
  | n8 + 1, σ, x1, x2, x3 => (if (σ.1 197 (2 : Int32).toNatClampNeg) ≤ x3 then (σ, x2) else (if (f_X10_of σ x3 (4 : Int32)) = (2 : Int32) then (if (f_X10_of σ x3 (2 : Int32)) = x1 then (bnd (f_X10_sets σ x3 (4 : Int32) (3 : Int32)) (fun q5 => (bnd (f_X10_sets q5 x3 (5 : Int32) (0 : Int32)) (fun q7 => (fX10_takes_L8 n8 q7 x1 x2 (x3 + (1 : Int32))))))) else (fX10_takes_L8 n8 σ x1 x2 (x3 + (1 : Int32)))) else (fX10_takes_L8 n8 σ x1 x2 (x3 + (1 : Int32)))))
def okX10_takes_L8 : Nat → St → Int32 → Int32 → Int32 → Prop
  | 0, _, _, _, _ => False
  | n8 + 1, σ, x1, x2, x3 => (((σ.1 197 (2 : Int32).toNatClampNeg) ≤ x3 → True) ∧ (¬ (σ.1 197 (2 : Int32).toNatClampNeg) ≤ x3 → (ok_X10_of σ x3 (4 : Int32) ∧ (((f_X10_of σ x3 (4 : Int32)) = (2 : Int32) → (ok_X10_of σ x3 (2 : Int32) ∧ (((f_X10_of σ x3 (2 : Int32)) = x1 → (ok_X10_sets σ x3 (4 : Int32) (3 : Int32) ∧ (bndP (f_X10_sets σ x3 (4 : Int32) (3 : Int32)) (fun q5 => (ok_X10_sets q5 x3 (5 : Int32) (0 : Int32) ∧ (bndP (f_X10_sets q5 x3 (5 : Int32) (0 : Int32)) (fun q7 => (okX10_takes_L8 n8 q7 x1 x2 (x3 + (1 : Int32)))))))))) ∧ (¬ (f_X10_of σ x3 (2 : Int32)) = x1 → (okX10_takes_L8 n8 σ x1 x2 (x3 + (1 : Int32))))))) ∧ (¬ (f_X10_of σ x3 (4 : Int32)) = (2 : Int32) → (okX10_takes_L8 n8 σ x1 x2 (x3 + (1 : Int32))))))))
def f_X10_takes (σ : St) (x1 : Int32) : St × Int32 := (fX10_takes_L8 2000 σ x1 (f_X10_onShelf σ x1) (0 : Int32))
def ok_X10_takes (σ : St) (x1 : Int32) : Prop := (ok_X10_onShelf σ x1 ∧ (okX10_takes_L8 2000 σ x1 (f_X10_onShelf σ x1) (0 : Int32)))
abbrev rm_X10_takes : Room := { frames := 2, cells := 0, slots := 0, locals := 45 }
set_option maxHeartbeats 4000000 in
set_option maxRecDepth 100000 in
theorem c_X10_takes (l : Launch) (G : GE) (hG : Gok G) (σ : St) (x1 : Int32) (hok : ok_X10_takes σ x1) : MtI l G yX10_takes cX10_takes 4 rm_X10_takes [.ref (G.2.1 196), .int x1] σ (f_X10_takes σ x1) := by
  generalize hf : f_X10_takes σ x1 = fv
  rw [f_X10_takes] at hf
  rw [ok_X10_takes] at hok
  refine g_start hG (plainFor_of_name (by decide)) (Nat.le_of_ble_eq_true rfl) ?_
  intro p e s m args below meth c X hr hlk ls hl H locs hP hS
  have X : Cx G p s m args c cX10_takes 4 RX10 := X
  obtain ⟨hx, hb, hml, hown, hts, hK, hbs, hXW, -⟩ := id X
  have hl : lv_has ls 4 [(0, .ref (G.2.1 196)), (1, .int x1)] := hl
  refine lv_aload_n hx hb dX10_takes_0 rfl (lv_at hl 0 rfl) ?_
  refine lv_iload_n hx hb dX10_takes_1 rfl (lv_at hl 1 rfl) ?_
  have hs1 := hok.1
  have hok := hok.2
  refine g_cIp (g_runV (i := 196) (As := [.int x1]) (rest := []) X (c_X10_onShelf l G hG σ x1 hs1) ca_X10_onShelf km_X10_189 rfl rfl ⟨Nat.le_of_ble_eq_true rfl, Nat.le_of_ble_eq_true rfl⟩ hP hS (ty_lt ab_196) (cell_10 ab_196) rfl rfl rfl hl.1 rfl (Nat.le_of_ble_eq_true rfl) ⟨Nat.le_of_ble_eq_true rfl, Nat.le_of_ble_eq_true rfl⟩ dX10_takes_2) hS (fun H locs hP hS => ?_)
  refine lv_istore_n (lv' := [(2, .int (f_X10_onShelf σ x1)), (0, .ref (G.2.1 196)), (1, .int x1)]) hx hb dX10_takes_5 rfl hl (by decide) rfl (fun ls hl => ?_)
  refine lv_iconst (v := 0) hx hb dX10_takes_6 (by decide) ?_
  refine lv_istore_n (lv' := [(3, .int (0 : Int32)), (2, .int (f_X10_onShelf σ x1)), (0, .ref (G.2.1 196)), (1, .int x1)]) hx hb dX10_takes_7 rfl hl (by decide) rfl (fun ls hl => ?_)
  have K8 : ∀ (n8 : Nat) (σ : St) (x1 : Int32) (x2 : Int32) (x3 : Int32), okX10_takes_L8 n8 σ x1 x2 x3 → fX10_takes_L8 n8 σ x1 x2 x3 = fv → ∀ (H : Heap) (locs : List Loc), va_P G.1 vcl (wl G σ) H → va_S (GA G) s.heap H locs → ∀ (ls : Array Slot), lv_has ls 4 [(0, .ref (G.2.1 196)), (1, .int x1), (2, .int x2), (3, .int x3)] → W p l e rm_X10_takes s m args below meth c H locs 0 0 (MQ below (va_Qi (fun r u => (u, r) = fv) (PB G) (GA G)) args s 0 0 (GA G)) (F0 m 8 ls []) := by
    intro n8
    induction n8 with
    | zero =>
      intro σ x1 x2 x3 hok
      exact hok.elim
    | succ n8 ih8 =>
      intro σ x1 x2 x3 hok hf H locs hP hS ls hl
      rw [okX10_takes_L8] at hok
      rw [fX10_takes_L8] at hf
      refine lv_iload_n hx hb dX10_takes_8 rfl (lv_at hl 3 rfl) ?_
      refine lv_aload_n hx hb dX10_takes_9 rfl (lv_at hl 0 rfl) ?_
      refine gg_10_5 X hP ab_196 kf_X10_7 dX10_takes_10 ?_
      refine lv_iconst (v := 2) hx hb dX10_takes_13 (by decide) ?_
      refine g_iald X hP ab_197 (by rw [al_197]; unfold vp_in; decide) dX10_takes_14 ?_
      refine lv_icmp_ge (tgt := 61) hx hb dX10_takes_15 (by decide) (fun hc => ?_) (fun hc => ?_)
      · have hf := ite_t hc hf
        refine lv_iload_n hx hb dX10_takes_61 rfl (lv_at hl 2 rfl) ?_
        exact g_iret X hr hlk hP hS hf dX10_takes_62
      · have hf := ite_f hc hf
        have hok := hok.2 hc
        refine lv_aload_n hx hb dX10_takes_18 rfl (lv_at hl 0 rfl) ?_
        refine lv_iload_n hx hb dX10_takes_19 rfl (lv_at hl 3 rfl) ?_
        refine lv_iconst (v := 4) hx hb dX10_takes_20 (by decide) ?_
        have hs2 := hok.1
        have hok := hok.2
        refine g_cIp (g_runV (i := 196) (As := [.int x3, .int (4 : Int32)]) (rest := []) X (c_X10_of l G hG σ x3 (4 : Int32) hs2) ca_X10_of km_X10_85 rfl rfl ⟨Nat.le_of_ble_eq_true rfl, Nat.le_of_ble_eq_true rfl⟩ hP hS (ty_lt ab_196) (cell_10 ab_196) rfl rfl rfl hl.1 rfl (Nat.le_of_ble_eq_true rfl) ⟨Nat.le_of_ble_eq_true rfl, Nat.le_of_ble_eq_true rfl⟩ dX10_takes_21) hS (fun H locs hP hS => ?_)
        refine lv_iconst (v := 2) hx hb dX10_takes_24 (by decide) ?_
        refine lv_icmp_ne (tgt := 55) hx hb dX10_takes_25 (by decide) (fun hc => ?_) (fun hc => ?_)
        · have hf := ite_f hc hf
          have hok := hok.2 hc
          refine lv_iinc (v := (x3 + (1 : Int32))) (lv' := [(3, .int (x3 + (1 : Int32))), (0, .ref (G.2.1 196)), (1, .int x1), (2, .int x2)]) hx hb dX10_takes_55 hl (k := 3) rfl rfl (by decide) rfl (fun ls hl => ?_)
          refine lv_goto (tgt := 8) hx hb dX10_takes_58 (by decide) ?_
          exact ih8 σ x1 x2 (x3 + (1 : Int32)) hok hf _ _ hP hS ls (lv_sub hl [1, 2, 3, 0] rfl)
        · have hf := ite_t hc hf
          have hok := hok.1 hc
          refine lv_aload_n hx hb dX10_takes_28 rfl (lv_at hl 0 rfl) ?_
          refine lv_iload_n hx hb dX10_takes_29 rfl (lv_at hl 3 rfl) ?_
          refine lv_iconst (v := 2) hx hb dX10_takes_30 (by decide) ?_
          have hs3 := hok.1
          have hok := hok.2
          refine g_cIp (g_runV (i := 196) (As := [.int x3, .int (2 : Int32)]) (rest := []) X (c_X10_of l G hG σ x3 (2 : Int32) hs3) ca_X10_of km_X10_85 rfl rfl ⟨Nat.le_of_ble_eq_true rfl, Nat.le_of_ble_eq_true rfl⟩ hP hS (ty_lt ab_196) (cell_10 ab_196) rfl rfl rfl hl.1 rfl (Nat.le_of_ble_eq_true rfl) ⟨Nat.le_of_ble_eq_true rfl, Nat.le_of_ble_eq_true rfl⟩ dX10_takes_31) hS (fun H locs hP hS => ?_)
          refine lv_iload_n hx hb dX10_takes_34 rfl (lv_at hl 1 rfl) ?_
          refine lv_icmp_eq (tgt := 41) hx hb dX10_takes_35 (by decide) (fun hc => ?_) (fun hc => ?_)
          · have hf := ite_t hc hf
            have hok := hok.1 hc
            refine lv_aload_n hx hb dX10_takes_41 rfl (lv_at hl 0 rfl) ?_
            refine lv_iload_n hx hb dX10_takes_42 rfl (lv_at hl 3 rfl) ?_
            refine lv_iconst (v := 4) hx hb dX10_takes_43 (by decide) ?_
            refine lv_iconst (v := 3) hx hb dX10_takes_44 (by decide) ?_
            have hs4 := hok.1
            have hok := hok.2
            refine g_cV (g_runV (i := 196) (As := [.int x3, .int (4 : Int32), .int (3 : Int32)]) (rest := []) X (c_X10_sets l G hG σ x3 (4 : Int32) (3 : Int32) hs4) ca_X10_sets km_X10_104 rfl rfl ⟨Nat.le_of_ble_eq_true rfl, Nat.le_of_ble_eq_true rfl⟩ hP hS (ty_lt ab_196) (cell_10 ab_196) rfl rfl rfl hl.1 rfl (Nat.le_of_ble_eq_true rfl) ⟨Nat.le_of_ble_eq_true rfl, Nat.le_of_ble_eq_true rfl⟩ dX10_takes_45) hS (fun q5 hq5 H locs hP hS => ?_)
            have hf := bnd_go hq5 hf
            have hok := bnd_goP hq5 hok
            refine lv_aload_n hx hb dX10_takes_48 rfl (lv_at hl 0 rfl) ?_
            refine lv_iload_n hx hb dX10_takes_49 rfl (lv_at hl 3 rfl) ?_
            refine lv_iconst (v := 5) hx hb dX10_takes_50 (by decide) ?_
            refine lv_iconst (v := 0) hx hb dX10_takes_51 (by decide) ?_
            have hs6 := hok.1
            have hok := hok.2
            refine g_cV (g_runV (i := 196) (As := [.int x3, .int (5 : Int32), .int (0 : Int32)]) (rest := []) X (c_X10_sets l G hG q5 x3 (5 : Int32) (0 : Int32) hs6) ca_X10_sets km_X10_104 rfl rfl ⟨Nat.le_of_ble_eq_true rfl, Nat.le_of_ble_eq_true rfl⟩ hP hS (ty_lt ab_196) (cell_10 ab_196) rfl rfl rfl hl.1 rfl (Nat.le_of_ble_eq_true rfl) ⟨Nat.le_of_ble_eq_true rfl, Nat.le_of_ble_eq_true rfl⟩ dX10_takes_52) hS (fun q7 hq7 H locs hP hS => ?_)
            have hf := bnd_go hq7 hf
            have hok := bnd_goP hq7 hok
            refine lv_iinc (v := (x3 + (1 : Int32))) (lv' := [(3, .int (x3 + (1 : Int32))), (0, .ref (G.2.1 196)), (1, .int x1), (2, .int x2)]) hx hb dX10_takes_55 hl (k := 3) rfl rfl (by decide) rfl (fun ls hl => ?_)
            refine lv_goto (tgt := 8) hx hb dX10_takes_58 (by decide) ?_
            exact ih8 q7 x1 x2 (x3 + (1 : Int32)) hok hf _ _ hP hS ls (lv_sub hl [1, 2, 3, 0] rfl)
          · have hf := ite_f hc hf
            have hok := hok.2 hc
            refine lv_goto (tgt := 55) hx hb dX10_takes_38 (by decide) ?_
            refine lv_iinc (v := (x3 + (1 : Int32))) (lv' := [(3, .int (x3 + (1 : Int32))), (0, .ref (G.2.1 196)), (1, .int x1), (2, .int x2)]) hx hb dX10_takes_55 hl (k := 3) rfl rfl (by decide) rfl (fun ls hl => ?_)
            refine lv_goto (tgt := 8) hx hb dX10_takes_58 (by decide) ?_
            exact ih8 σ x1 x2 (x3 + (1 : Int32)) hok hf _ _ hP hS ls (lv_sub hl [1, 2, 3, 0] rfl)
  exact K8 2000 σ x1 (f_X10_onShelf σ x1) (0 : Int32) hok hf _ _ hP hS ls (lv_sub hl [2, 3, 1, 0] rfl)
def f_X10_take (σ : St) (x1 : Int32) : St × Int32 := (bnd (setI σ 196 0 (0 : Int32)) (fun q1 => (bnd (f_X10_notTake q1 x1) (fun q3 => (if q3.2 = 0 then (bnd (f_X10_remembers q3.1) (fun q5 => (bnd (f_X10_takes q5 x1) (fun q7 => (q7.1, q7.2))))) else (bnd (f_X10_refuses q3.1 q3.2 (2 : Int32)) (fun q8 => (q8.1, q8.2))))))))
def ok_X10_take (σ : St) (x1 : Int32) : Prop := (bndP (setI σ 196 0 (0 : Int32)) (fun q1 => (ok_X10_notTake q1 x1 ∧ (bndP (f_X10_notTake q1 x1) (fun q3 => ((q3.2 = 0 → (ok_X10_remembers q3.1 ∧ (bndP (f_X10_remembers q3.1) (fun q5 => ok_X10_takes q5 x1)))) ∧ (¬ q3.2 = 0 → True)))))))
abbrev rm_X10_take : Room := { frames := 3, cells := 0, slots := 0, locals := 68 }
set_option maxHeartbeats 4000000 in
set_option maxRecDepth 100000 in
theorem c_X10_take (l : Launch) (G : GE) (hG : Gok G) (σ : St) (x1 : Int32) (hok : ok_X10_take σ x1) : MtI l G yX10_take cX10_take 3 rm_X10_take [.ref (G.2.1 196), .int x1] σ (f_X10_take σ x1) := by
  generalize hf : f_X10_take σ x1 = fv
  rw [f_X10_take] at hf
  rw [ok_X10_take] at hok
  refine g_start hG (plainFor_of_name (by decide)) (Nat.le_of_ble_eq_true rfl) ?_
  intro p e s m args below meth c X hr hlk ls hl H locs hP hS
  have X : Cx G p s m args c cX10_take 3 RX10 := X
  obtain ⟨hx, hb, hml, hown, hts, hK, hbs, hXW, -⟩ := id X
  have hl : lv_has ls 3 [(0, .ref (G.2.1 196)), (1, .int x1)] := hl
  refine lv_aload_n hx hb dX10_take_0 rfl (lv_at hl 0 rfl) ?_
  refine lv_iconst (v := 0) hx hb dX10_take_1 (by decide) ?_
  refine gp_10_0 X hP hS ab_196 kf_X10_50 dX10_take_2 (fun H locs hP hS => ?_)
  refine g_name hP (fun q1 hq1 hP => ?_)
  have hf := bnd_go hq1 hf
  have hok := bnd_goP hq1 hok
  refine lv_aload_n hx hb dX10_take_5 rfl (lv_at hl 0 rfl) ?_
  refine lv_iload_n hx hb dX10_take_6 rfl (lv_at hl 1 rfl) ?_
  have hs2 := hok.1
  have hok := hok.2
  refine g_cI (g_runV (i := 196) (As := [.int x1]) (rest := []) X (c_X10_notTake l G hG q1 x1 hs2) ca_X10_notTake km_X10_192 rfl rfl ⟨Nat.le_of_ble_eq_true rfl, Nat.le_of_ble_eq_true rfl⟩ hP hS (ty_lt ab_196) (cell_10 ab_196) rfl rfl rfl hl.1 rfl (Nat.le_of_ble_eq_true rfl) ⟨Nat.le_of_ble_eq_true rfl, Nat.le_of_ble_eq_true rfl⟩ dX10_take_7) hS (fun q3 hq3 H locs hP hS => ?_)
  have hf := bnd_go hq3 hf
  have hok := bnd_goP hq3 hok
  refine lv_istore_n (lv' := [(2, .int q3.2), (0, .ref (G.2.1 196)), (1, .int x1)]) hx hb dX10_take_10 rfl hl (by decide) rfl (fun ls hl => ?_)
  refine lv_iload_n hx hb dX10_take_11 rfl (lv_at hl 0 rfl) ?_
  refine lv_if_eq (tgt := 22) hx hb dX10_take_12 (by decide) (fun hc => ?_) (fun hc => ?_)
  · have hf := ite_t hc hf
    have hok := hok.1 hc
    refine lv_aload_n hx hb dX10_take_22 rfl (lv_at hl 1 rfl) ?_
    have hs4 := hok.1
    have hok := hok.2
    refine g_cV (g_runV (i := 196) (As := []) (rest := []) X (c_X10_remembers l G hG q3.1 hs4) ca_X10_remembers km_X10_95 rfl rfl ⟨Nat.le_of_ble_eq_true rfl, Nat.le_of_ble_eq_true rfl⟩ hP hS (ty_lt ab_196) (cell_10 ab_196) rfl rfl rfl hl.1 rfl (Nat.le_of_ble_eq_true rfl) ⟨Nat.le_of_ble_eq_true rfl, Nat.le_of_ble_eq_true rfl⟩ dX10_take_23) hS (fun q5 hq5 H locs hP hS => ?_)
    have hf := bnd_go hq5 hf
    have hok := bnd_goP hq5 hok
    refine lv_aload_n hx hb dX10_take_26 rfl (lv_at hl 1 rfl) ?_
    refine lv_iload_n hx hb dX10_take_27 rfl (lv_at hl 2 rfl) ?_
    have hs6 := hok
    refine g_cI (g_runV (i := 196) (As := [.int x1]) (rest := []) X (c_X10_takes l G hG q5 x1 hs6) ca_X10_takes km_X10_195 rfl rfl ⟨Nat.le_of_ble_eq_true rfl, Nat.le_of_ble_eq_true rfl⟩ hP hS (ty_lt ab_196) (cell_10 ab_196) rfl rfl rfl hl.1 rfl (Nat.le_of_ble_eq_true rfl) ⟨Nat.le_of_ble_eq_true rfl, Nat.le_of_ble_eq_true rfl⟩ dX10_take_28) hS (fun q7 hq7 H locs hP hS => ?_)
    have hf := bnd_go hq7 hf
    exact g_iret X hr hlk hP hS hf dX10_take_31
  · have hf := ite_f hc hf
    refine lv_aload_n hx hb dX10_take_15 rfl (lv_at hl 1 rfl) ?_
    refine lv_iload_n hx hb dX10_take_16 rfl (lv_at hl 0 rfl) ?_
    refine lv_iconst (v := 2) hx hb dX10_take_17 (by decide) ?_
    refine g_cI (g_runV (i := 196) (As := [.int q3.2, .int (2 : Int32)]) (rest := []) X (c_X10_refuses l G hG q3.1 q3.2 (2 : Int32)) ca_X10_refuses km_X10_92 rfl rfl ⟨Nat.le_of_ble_eq_true rfl, Nat.le_of_ble_eq_true rfl⟩ hP hS (ty_lt ab_196) (cell_10 ab_196) rfl rfl rfl hl.1 rfl (Nat.le_of_ble_eq_true rfl) ⟨Nat.le_of_ble_eq_true rfl, Nat.le_of_ble_eq_true rfl⟩ dX10_take_18) hS (fun q8 hq8 H locs hP hS => ?_)
    have hf := bnd_go hq8 hf
    exact g_iret X hr hlk hP hS hf dX10_take_21
def f_X10_inHole (σ : St) (x1 : Int32) (x2 : Int32) (x3 : Int32) : St × Int32 := (bnd (setI σ 196 0 (0 : Int32)) (fun q1 => (if (f_X10_isChild x1) = true then (if (f_X10_isBetween x2 (0 : Int32) (1 : Int32)) = true then (if (f_X10_isBetween x3 (0 : Int32) ((f_X10_holes x2) - (1 : Int32))) = true then (if 0 ≤ (f_X10_itemIn q1 x1 x2 x3) then (q1, (f_X10_itemIn q1 x1 x2 x3)) else (bnd (f_X10_fails q1 (2 : Int32)) (fun q6 => (q6.1, q6.2)))) else (bnd (f_X10_fails q1 (1 : Int32)) (fun q7 => (q7.1, q7.2)))) else (bnd (f_X10_fails q1 (1 : Int32)) (fun q3 => (q3.1, q3.2)))) else (bnd (f_X10_fails q1 (1 : Int32)) (fun q2 => (q2.1, q2.2))))))
def ok_X10_inHole (σ : St) (x1 : Int32) (x2 : Int32) (x3 : Int32) : Prop := (bndP (setI σ 196 0 (0 : Int32)) (fun q1 => (((f_X10_isChild x1) = true → (((f_X10_isBetween x2 (0 : Int32) (1 : Int32)) = true → (((f_X10_isBetween x3 (0 : Int32) ((f_X10_holes x2) - (1 : Int32))) = true → (ok_X10_itemIn q1 x1 x2 x3 ∧ ((0 ≤ (f_X10_itemIn q1 x1 x2 x3) → ok_X10_itemIn q1 x1 x2 x3) ∧ (¬ 0 ≤ (f_X10_itemIn q1 x1 x2 x3) → True)))) ∧ ((f_X10_isBetween x3 (0 : Int32) ((f_X10_holes x2) - (1 : Int32))) = false → True))) ∧ ((f_X10_isBetween x2 (0 : Int32) (1 : Int32)) = false → True))) ∧ ((f_X10_isChild x1) = false → True))))
abbrev rm_X10_inHole : Room := { frames := 2, cells := 0, slots := 0, locals := 46 }
set_option maxHeartbeats 4000000 in
set_option maxRecDepth 100000 in
theorem c_X10_inHole (l : Launch) (G : GE) (hG : Gok G) (σ : St) (x1 : Int32) (x2 : Int32) (x3 : Int32) (hok : ok_X10_inHole σ x1 x2 x3) : MtI l G yX10_inHole cX10_inHole 4 rm_X10_inHole [.ref (G.2.1 196), .int x1, .int x2, .int x3] σ (f_X10_inHole σ x1 x2 x3) := by
  generalize hf : f_X10_inHole σ x1 x2 x3 = fv
  rw [f_X10_inHole] at hf
  rw [ok_X10_inHole] at hok
  refine g_start hG (plainFor_of_name (by decide)) (Nat.le_of_ble_eq_true rfl) ?_
  intro p e s m args below meth c X hr hlk ls hl H locs hP hS
  have X : Cx G p s m args c cX10_inHole 4 RX10 := X
  obtain ⟨hx, hb, hml, hown, hts, hK, hbs, hXW, -⟩ := id X
  have hl : lv_has ls 4 [(0, .ref (G.2.1 196)), (1, .int x1), (2, .int x2), (3, .int x3)] := hl
  refine lv_aload_n hx hb dX10_inHole_0 rfl (lv_at hl 0 rfl) ?_
  refine lv_iconst (v := 0) hx hb dX10_inHole_1 (by decide) ?_
  refine gp_10_0 X hP hS ab_196 kf_X10_50 dX10_inHole_2 (fun H locs hP hS => ?_)
  refine g_name hP (fun q1 hq1 hP => ?_)
  have hf := bnd_go hq1 hf
  have hok := bnd_goP hq1 hok
  refine lv_iload_n hx hb dX10_inHole_5 rfl (lv_at hl 1 rfl) ?_
  refine g_cZp (g_runS (As := [.int x1]) (rest := []) X (c_X10_isChild l G hG q1 x1) ca_X10_isChild km_X10_108 rfl rfl ⟨Nat.le_of_ble_eq_true rfl, Nat.le_of_ble_eq_true rfl⟩ hP hS rfl hl.1 rfl (Nat.le_of_ble_eq_true rfl) ⟨Nat.le_of_ble_eq_true rfl, Nat.le_of_ble_eq_true rfl⟩ dX10_inHole_6) hS (fun H locs hP hS => ?_)
  refine g_ifeqZ (tgt := 35) X dX10_inHole_9 (by decide) (fun hc => ?_) (fun hc => ?_)
  · have hf := ite_z hc hf
    refine lv_aload_n hx hb dX10_inHole_35 rfl (lv_at hl 0 rfl) ?_
    refine lv_iconst (v := 1) hx hb dX10_inHole_36 (by decide) ?_
    refine g_cI (g_runV (i := 196) (As := [.int (1 : Int32)]) (rest := []) X (c_X10_fails l G hG q1 (1 : Int32)) ca_X10_fails km_X10_59 rfl rfl ⟨Nat.le_of_ble_eq_true rfl, Nat.le_of_ble_eq_true rfl⟩ hP hS (ty_lt ab_196) (cell_10 ab_196) rfl rfl rfl hl.1 rfl (Nat.le_of_ble_eq_true rfl) ⟨Nat.le_of_ble_eq_true rfl, Nat.le_of_ble_eq_true rfl⟩ dX10_inHole_37) hS (fun q2 hq2 H locs hP hS => ?_)
    have hf := bnd_go hq2 hf
    exact g_iret X hr hlk hP hS hf dX10_inHole_40
  · have hf := ite_t hc hf
    have hok := hok.1 hc
    refine lv_iload_n hx hb dX10_inHole_12 rfl (lv_at hl 2 rfl) ?_
    refine lv_iconst (v := 0) hx hb dX10_inHole_13 (by decide) ?_
    refine lv_iconst (v := 1) hx hb dX10_inHole_14 (by decide) ?_
    refine g_cZp (g_runS (As := [.int x2, .int (0 : Int32), .int (1 : Int32)]) (rest := []) X (c_X10_isBetween l G hG q1 x2 (0 : Int32) (1 : Int32)) ca_X10_isBetween km_X10_81 rfl rfl ⟨Nat.le_of_ble_eq_true rfl, Nat.le_of_ble_eq_true rfl⟩ hP hS rfl hl.1 rfl (Nat.le_of_ble_eq_true rfl) ⟨Nat.le_of_ble_eq_true rfl, Nat.le_of_ble_eq_true rfl⟩ dX10_inHole_15) hS (fun H locs hP hS => ?_)
    refine g_ifeqZ (tgt := 35) X dX10_inHole_18 (by decide) (fun hc => ?_) (fun hc => ?_)
    · have hf := ite_z hc hf
      refine lv_aload_n hx hb dX10_inHole_35 rfl (lv_at hl 0 rfl) ?_
      refine lv_iconst (v := 1) hx hb dX10_inHole_36 (by decide) ?_
      refine g_cI (g_runV (i := 196) (As := [.int (1 : Int32)]) (rest := []) X (c_X10_fails l G hG q1 (1 : Int32)) ca_X10_fails km_X10_59 rfl rfl ⟨Nat.le_of_ble_eq_true rfl, Nat.le_of_ble_eq_true rfl⟩ hP hS (ty_lt ab_196) (cell_10 ab_196) rfl rfl rfl hl.1 rfl (Nat.le_of_ble_eq_true rfl) ⟨Nat.le_of_ble_eq_true rfl, Nat.le_of_ble_eq_true rfl⟩ dX10_inHole_37) hS (fun q3 hq3 H locs hP hS => ?_)
      have hf := bnd_go hq3 hf
      exact g_iret X hr hlk hP hS hf dX10_inHole_40
    · have hf := ite_t hc hf
      have hok := hok.1 hc
      refine lv_iload_n hx hb dX10_inHole_21 rfl (lv_at hl 3 rfl) ?_
      refine lv_iconst (v := 0) hx hb dX10_inHole_22 (by decide) ?_
      refine lv_iload_n hx hb dX10_inHole_23 rfl (lv_at hl 2 rfl) ?_
      refine g_cIp (g_runS (As := [.int x2]) (rest := [.int (0 : Int32), .int x3]) X (c_X10_holes l G hG q1 x2) ca_X10_holes km_X10_173 rfl rfl ⟨Nat.le_of_ble_eq_true rfl, Nat.le_of_ble_eq_true rfl⟩ hP hS rfl hl.1 rfl (Nat.le_of_ble_eq_true rfl) ⟨Nat.le_of_ble_eq_true rfl, Nat.le_of_ble_eq_true rfl⟩ dX10_inHole_24) hS (fun H locs hP hS => ?_)
      refine lv_iconst (v := 1) hx hb dX10_inHole_27 (by decide) ?_
      refine lv_isub hx hb dX10_inHole_28 ?_
      refine g_cZp (g_runS (As := [.int x3, .int (0 : Int32), .int ((f_X10_holes x2) - (1 : Int32))]) (rest := []) X (c_X10_isBetween l G hG q1 x3 (0 : Int32) ((f_X10_holes x2) - (1 : Int32))) ca_X10_isBetween km_X10_81 rfl rfl ⟨Nat.le_of_ble_eq_true rfl, Nat.le_of_ble_eq_true rfl⟩ hP hS rfl hl.1 rfl (Nat.le_of_ble_eq_true rfl) ⟨Nat.le_of_ble_eq_true rfl, Nat.le_of_ble_eq_true rfl⟩ dX10_inHole_29) hS (fun H locs hP hS => ?_)
      refine g_ifneZ (tgt := 41) X dX10_inHole_32 (by decide) (fun hc => ?_) (fun hc => ?_)
      · have hf := ite_t hc hf
        have hok := hok.1 hc
        refine lv_aload_n hx hb dX10_inHole_41 rfl (lv_at hl 0 rfl) ?_
        refine lv_iload_n hx hb dX10_inHole_42 rfl (lv_at hl 1 rfl) ?_
        refine lv_iload_n hx hb dX10_inHole_43 rfl (lv_at hl 2 rfl) ?_
        refine lv_iload_n hx hb dX10_inHole_44 rfl (lv_at hl 3 rfl) ?_
        have hs4 := hok.1
        have hok := hok.2
        refine g_cIp (g_runV (i := 196) (As := [.int x1, .int x2, .int x3]) (rest := []) X (c_X10_itemIn l G hG q1 x1 x2 x3 hs4) ca_X10_itemIn km_X10_176 rfl rfl ⟨Nat.le_of_ble_eq_true rfl, Nat.le_of_ble_eq_true rfl⟩ hP hS (ty_lt ab_196) (cell_10 ab_196) rfl rfl rfl hl.1 rfl (Nat.le_of_ble_eq_true rfl) ⟨Nat.le_of_ble_eq_true rfl, Nat.le_of_ble_eq_true rfl⟩ dX10_inHole_45) hS (fun H locs hP hS => ?_)
        refine lv_if_ge (tgt := 59) hx hb dX10_inHole_48 (by decide) (fun hc => ?_) (fun hc => ?_)
        · have hf := ite_t hc hf
          have hok := hok.1 hc
          refine lv_aload_n hx hb dX10_inHole_59 rfl (lv_at hl 0 rfl) ?_
          refine lv_iload_n hx hb dX10_inHole_60 rfl (lv_at hl 1 rfl) ?_
          refine lv_iload_n hx hb dX10_inHole_61 rfl (lv_at hl 2 rfl) ?_
          refine lv_iload_n hx hb dX10_inHole_62 rfl (lv_at hl 3 rfl) ?_
          have hs5 := hok
          refine g_cIp (g_runV (i := 196) (As := [.int x1, .int x2, .int x3]) (rest := []) X (c_X10_itemIn l G hG q1 x1 x2 x3 hs5) ca_X10_itemIn km_X10_176 rfl rfl ⟨Nat.le_of_ble_eq_true rfl, Nat.le_of_ble_eq_true rfl⟩ hP hS (ty_lt ab_196) (cell_10 ab_196) rfl rfl rfl hl.1 rfl (Nat.le_of_ble_eq_true rfl) ⟨Nat.le_of_ble_eq_true rfl, Nat.le_of_ble_eq_true rfl⟩ dX10_inHole_63) hS (fun H locs hP hS => ?_)
          exact g_iret X hr hlk hP hS hf dX10_inHole_66
        · have hf := ite_f hc hf
          refine lv_aload_n hx hb dX10_inHole_51 rfl (lv_at hl 0 rfl) ?_
          refine lv_iconst (v := 2) hx hb dX10_inHole_52 (by decide) ?_
          refine g_cI (g_runV (i := 196) (As := [.int (2 : Int32)]) (rest := []) X (c_X10_fails l G hG q1 (2 : Int32)) ca_X10_fails km_X10_59 rfl rfl ⟨Nat.le_of_ble_eq_true rfl, Nat.le_of_ble_eq_true rfl⟩ hP hS (ty_lt ab_196) (cell_10 ab_196) rfl rfl rfl hl.1 rfl (Nat.le_of_ble_eq_true rfl) ⟨Nat.le_of_ble_eq_true rfl, Nat.le_of_ble_eq_true rfl⟩ dX10_inHole_53) hS (fun q6 hq6 H locs hP hS => ?_)
          have hf := bnd_go hq6 hf
          refine lv_goto (tgt := 66) hx hb dX10_inHole_56 (by decide) ?_
          exact g_iret X hr hlk hP hS hf dX10_inHole_66
      · have hf := ite_z hc hf
        refine lv_aload_n hx hb dX10_inHole_35 rfl (lv_at hl 0 rfl) ?_
        refine lv_iconst (v := 1) hx hb dX10_inHole_36 (by decide) ?_
        refine g_cI (g_runV (i := 196) (As := [.int (1 : Int32)]) (rest := []) X (c_X10_fails l G hG q1 (1 : Int32)) ca_X10_fails km_X10_59 rfl rfl ⟨Nat.le_of_ble_eq_true rfl, Nat.le_of_ble_eq_true rfl⟩ hP hS (ty_lt ab_196) (cell_10 ab_196) rfl rfl rfl hl.1 rfl (Nat.le_of_ble_eq_true rfl) ⟨Nat.le_of_ble_eq_true rfl, Nat.le_of_ble_eq_true rfl⟩ dX10_inHole_37) hS (fun q7 hq7 H locs hP hS => ?_)
        have hf := bnd_go hq7 hf
        exact g_iret X hr hlk hP hS hf dX10_inHole_40
def fX10_read_L22 (σ : St) : Nat → Int32 → Int32 → Int32 → St × Int32
  | 0, _, _, _ => (σ, 0)
  | n22 + 1, x1, x2, x3 => (if (σ.1 197 (2 : Int32).toNatClampNeg) ≤ x3 then (σ, x2) else (if (f_X10_isLetter σ x3) = true then (if (f_X10_of σ x3 (4 : Int32)) = (3 : Int32) then (if (f_X10_of σ x3 (2 : Int32)) = x1 then (fX10_read_L22 σ n22 x1 (x2 + (1 : Int32)) (x3 + (1 : Int32))) else (fX10_read_L22 σ n22 x1 (x2 + (0 : Int32)) (x3 + (1 : Int32)))) else (fX10_read_L22 σ n22 x1 (x2 + (0 : Int32)) (x3 + (1 : Int32)))) else (fX10_read_L22 σ n22 x1 (x2 + (0 : Int32)) (x3 + (1 : Int32)))))
def okX10_read_L22 (σ : St) : Nat → Int32 → Int32 → Int32 → Prop
  | 0, _, _, _ => False
  | n22 + 1, x1, x2, x3 => (((σ.1 197 (2 : Int32).toNatClampNeg) ≤ x3 → True) ∧ (¬ (σ.1 197 (2 : Int32).toNatClampNeg) ≤ x3 → (ok_X10_isLetter σ x3 ∧ (((f_X10_isLetter σ x3) = true → (ok_X10_of σ x3 (4 : Int32) ∧ (((f_X10_of σ x3 (4 : Int32)) = (3 : Int32) → (ok_X10_of σ x3 (2 : Int32) ∧ (((f_X10_of σ x3 (2 : Int32)) = x1 → (okX10_read_L22 σ n22 x1 (x2 + (1 : Int32)) (x3 + (1 : Int32)))) ∧ (¬ (f_X10_of σ x3 (2 : Int32)) = x1 → (okX10_read_L22 σ n22 x1 (x2 + (0 : Int32)) (x3 + (1 : Int32))))))) ∧ (¬ (f_X10_of σ x3 (4 : Int32)) = (3 : Int32) → (okX10_read_L22 σ n22 x1 (x2 + (0 : Int32)) (x3 + (1 : Int32))))))) ∧ ((f_X10_isLetter σ x3) = false → (okX10_read_L22 σ n22 x1 (x2 + (0 : Int32)) (x3 + (1 : Int32))))))))
def f_X10_read (σ : St) (x1 : Int32) : St × Int32 := (bnd (setI σ 196 0 (0 : Int32)) (fun q1 => (if (f_X10_isChild x1) = true then (fX10_read_L22 q1 2000 x1 (0 : Int32) (0 : Int32)) else (bnd (f_X10_fails q1 (1 : Int32)) (fun q5 => (q5.1, q5.2))))))
def ok_X10_read (σ : St) (x1 : Int32) : Prop := (bndP (setI σ 196 0 (0 : Int32)) (fun q1 => (((f_X10_isChild x1) = true → (okX10_read_L22 q1 2000 x1 (0 : Int32) (0 : Int32))) ∧ ((f_X10_isChild x1) = false → True))))
abbrev rm_X10_read : Room := { frames := 2, cells := 0, slots := 0, locals := 43 }
set_option maxHeartbeats 4000000 in
set_option maxRecDepth 100000 in
theorem c_X10_read (l : Launch) (G : GE) (hG : Gok G) (σ : St) (x1 : Int32) (hok : ok_X10_read σ x1) : MtI l G yX10_read cX10_read 4 rm_X10_read [.ref (G.2.1 196), .int x1] σ (f_X10_read σ x1) := by
  generalize hf : f_X10_read σ x1 = fv
  rw [f_X10_read] at hf
  rw [ok_X10_read] at hok
  refine g_start hG (plainFor_of_name (by decide)) (Nat.le_of_ble_eq_true rfl) ?_
  intro p e s m args below meth c X hr hlk ls hl H locs hP hS
  have X : Cx G p s m args c cX10_read 4 RX10 := X
  obtain ⟨hx, hb, hml, hown, hts, hK, hbs, hXW, -⟩ := id X
  have hl : lv_has ls 4 [(0, .ref (G.2.1 196)), (1, .int x1)] := hl
  refine lv_aload_n hx hb dX10_read_0 rfl (lv_at hl 0 rfl) ?_
  refine lv_iconst (v := 0) hx hb dX10_read_1 (by decide) ?_
  refine gp_10_0 X hP hS ab_196 kf_X10_50 dX10_read_2 (fun H locs hP hS => ?_)
  refine g_name hP (fun q1 hq1 hP => ?_)
  have hf := bnd_go hq1 hf
  have hok := bnd_goP hq1 hok
  refine lv_iload_n hx hb dX10_read_5 rfl (lv_at hl 1 rfl) ?_
  refine g_cZp (g_runS (As := [.int x1]) (rest := []) X (c_X10_isChild l G hG q1 x1) ca_X10_isChild km_X10_108 rfl rfl ⟨Nat.le_of_ble_eq_true rfl, Nat.le_of_ble_eq_true rfl⟩ hP hS rfl hl.1 rfl (Nat.le_of_ble_eq_true rfl) ⟨Nat.le_of_ble_eq_true rfl, Nat.le_of_ble_eq_true rfl⟩ dX10_read_6) hS (fun H locs hP hS => ?_)
  refine g_ifneZ (tgt := 18) X dX10_read_9 (by decide) (fun hc => ?_) (fun hc => ?_)
  · have hf := ite_t hc hf
    have hok := hok.1 hc
    refine lv_iconst (v := 0) hx hb dX10_read_18 (by decide) ?_
    refine lv_istore_n (lv' := [(2, .int (0 : Int32)), (0, .ref (G.2.1 196)), (1, .int x1)]) hx hb dX10_read_19 rfl hl (by decide) rfl (fun ls hl => ?_)
    refine lv_iconst (v := 0) hx hb dX10_read_20 (by decide) ?_
    refine lv_istore_n (lv' := [(3, .int (0 : Int32)), (2, .int (0 : Int32)), (0, .ref (G.2.1 196)), (1, .int x1)]) hx hb dX10_read_21 rfl hl (by decide) rfl (fun ls hl => ?_)
    have K22 : ∀ (n22 : Nat) (σ : St) (x1 : Int32) (x2 : Int32) (x3 : Int32), okX10_read_L22 σ n22 x1 x2 x3 → fX10_read_L22 σ n22 x1 x2 x3 = fv → ∀ (H : Heap) (locs : List Loc), va_P G.1 vcl (wl G σ) H → va_S (GA G) s.heap H locs → ∀ (ls : Array Slot), lv_has ls 4 [(0, .ref (G.2.1 196)), (1, .int x1), (2, .int x2), (3, .int x3)] → W p l e rm_X10_read s m args below meth c H locs 0 0 (MQ below (va_Qi (fun r u => (u, r) = fv) (PB G) (GA G)) args s 0 0 (GA G)) (F0 m 22 ls []) := by
      intro n22
      induction n22 with
      | zero =>
        intro σ x1 x2 x3 hok
        exact hok.elim
      | succ n22 ih22 =>
        intro σ x1 x2 x3 hok hf H locs hP hS ls hl
        rw [okX10_read_L22] at hok
        rw [fX10_read_L22] at hf
        refine lv_iload_n hx hb dX10_read_22 rfl (lv_at hl 3 rfl) ?_
        refine lv_aload_n hx hb dX10_read_23 rfl (lv_at hl 0 rfl) ?_
        refine gg_10_5 X hP ab_196 kf_X10_7 dX10_read_24 ?_
        refine lv_iconst (v := 2) hx hb dX10_read_27 (by decide) ?_
        refine g_iald X hP ab_197 (by rw [al_197]; unfold vp_in; decide) dX10_read_28 ?_
        refine lv_icmp_ge (tgt := 74) hx hb dX10_read_29 (by decide) (fun hc => ?_) (fun hc => ?_)
        · have hf := ite_t hc hf
          refine lv_iload_n hx hb dX10_read_74 rfl (lv_at hl 2 rfl) ?_
          exact g_iret X hr hlk hP hS hf dX10_read_75
        · have hf := ite_f hc hf
          have hok := hok.2 hc
          refine lv_iload_n hx hb dX10_read_32 rfl (lv_at hl 2 rfl) ?_
          refine lv_aload_n hx hb dX10_read_33 rfl (lv_at hl 0 rfl) ?_
          refine lv_iload_n hx hb dX10_read_34 rfl (lv_at hl 3 rfl) ?_
          have hs2 := hok.1
          have hok := hok.2
          refine g_cZp (g_runV (i := 196) (As := [.int x3]) (rest := [.int x2]) X (c_X10_isLetter l G hG σ x3 hs2) ca_X10_isLetter km_X10_139 rfl rfl ⟨Nat.le_of_ble_eq_true rfl, Nat.le_of_ble_eq_true rfl⟩ hP hS (ty_lt ab_196) (cell_10 ab_196) rfl rfl rfl hl.1 rfl (Nat.le_of_ble_eq_true rfl) ⟨Nat.le_of_ble_eq_true rfl, Nat.le_of_ble_eq_true rfl⟩ dX10_read_35) hS (fun H locs hP hS => ?_)
          refine g_ifeqZ (tgt := 65) X dX10_read_38 (by decide) (fun hc => ?_) (fun hc => ?_)
          · have hf := ite_z hc hf
            have hok := hok.2 hc
            refine lv_iconst (v := 0) hx hb dX10_read_65 (by decide) ?_
            refine lv_iadd hx hb dX10_read_66 ?_
            refine lv_istore_n (lv' := [(2, .int (x2 + (0 : Int32))), (0, .ref (G.2.1 196)), (1, .int x1), (3, .int x3)]) hx hb dX10_read_67 rfl hl (by decide) rfl (fun ls hl => ?_)
            refine lv_iinc (v := (x3 + (1 : Int32))) (lv' := [(3, .int (x3 + (1 : Int32))), (2, .int (x2 + (0 : Int32))), (0, .ref (G.2.1 196)), (1, .int x1)]) hx hb dX10_read_68 hl (k := 3) rfl rfl (by decide) rfl (fun ls hl => ?_)
            refine lv_goto (tgt := 22) hx hb dX10_read_71 (by decide) ?_
            exact ih22 σ x1 (x2 + (0 : Int32)) (x3 + (1 : Int32)) hok hf _ _ hP hS ls (lv_sub hl [2, 3, 1, 0] rfl)
          · have hf := ite_t hc hf
            have hok := hok.1 hc
            refine lv_aload_n hx hb dX10_read_41 rfl (lv_at hl 0 rfl) ?_
            refine lv_iload_n hx hb dX10_read_42 rfl (lv_at hl 3 rfl) ?_
            refine lv_iconst (v := 4) hx hb dX10_read_43 (by decide) ?_
            have hs3 := hok.1
            have hok := hok.2
            refine g_cIp (g_runV (i := 196) (As := [.int x3, .int (4 : Int32)]) (rest := [.int x2]) X (c_X10_of l G hG σ x3 (4 : Int32) hs3) ca_X10_of km_X10_85 rfl rfl ⟨Nat.le_of_ble_eq_true rfl, Nat.le_of_ble_eq_true rfl⟩ hP hS (ty_lt ab_196) (cell_10 ab_196) rfl rfl rfl hl.1 rfl (Nat.le_of_ble_eq_true rfl) ⟨Nat.le_of_ble_eq_true rfl, Nat.le_of_ble_eq_true rfl⟩ dX10_read_44) hS (fun H locs hP hS => ?_)
            refine lv_iconst (v := 3) hx hb dX10_read_47 (by decide) ?_
            refine lv_icmp_ne (tgt := 65) hx hb dX10_read_48 (by decide) (fun hc => ?_) (fun hc => ?_)
            · have hf := ite_f hc hf
              have hok := hok.2 hc
              refine lv_iconst (v := 0) hx hb dX10_read_65 (by decide) ?_
              refine lv_iadd hx hb dX10_read_66 ?_
              refine lv_istore_n (lv' := [(2, .int (x2 + (0 : Int32))), (0, .ref (G.2.1 196)), (1, .int x1), (3, .int x3)]) hx hb dX10_read_67 rfl hl (by decide) rfl (fun ls hl => ?_)
              refine lv_iinc (v := (x3 + (1 : Int32))) (lv' := [(3, .int (x3 + (1 : Int32))), (2, .int (x2 + (0 : Int32))), (0, .ref (G.2.1 196)), (1, .int x1)]) hx hb dX10_read_68 hl (k := 3) rfl rfl (by decide) rfl (fun ls hl => ?_)
              refine lv_goto (tgt := 22) hx hb dX10_read_71 (by decide) ?_
              exact ih22 σ x1 (x2 + (0 : Int32)) (x3 + (1 : Int32)) hok hf _ _ hP hS ls (lv_sub hl [2, 3, 1, 0] rfl)
            · have hf := ite_t hc hf
              have hok := hok.1 hc
              refine lv_aload_n hx hb dX10_read_51 rfl (lv_at hl 0 rfl) ?_
              refine lv_iload_n hx hb dX10_read_52 rfl (lv_at hl 3 rfl) ?_
              refine lv_iconst (v := 2) hx hb dX10_read_53 (by decide) ?_
              have hs4 := hok.1
              have hok := hok.2
              refine g_cIp (g_runV (i := 196) (As := [.int x3, .int (2 : Int32)]) (rest := [.int x2]) X (c_X10_of l G hG σ x3 (2 : Int32) hs4) ca_X10_of km_X10_85 rfl rfl ⟨Nat.le_of_ble_eq_true rfl, Nat.le_of_ble_eq_true rfl⟩ hP hS (ty_lt ab_196) (cell_10 ab_196) rfl rfl rfl hl.1 rfl (Nat.le_of_ble_eq_true rfl) ⟨Nat.le_of_ble_eq_true rfl, Nat.le_of_ble_eq_true rfl⟩ dX10_read_54) hS (fun H locs hP hS => ?_)
              refine lv_iload_n hx hb dX10_read_57 rfl (lv_at hl 1 rfl) ?_
              refine lv_icmp_ne (tgt := 65) hx hb dX10_read_58 (by decide) (fun hc => ?_) (fun hc => ?_)
              · have hf := ite_f hc hf
                have hok := hok.2 hc
                refine lv_iconst (v := 0) hx hb dX10_read_65 (by decide) ?_
                refine lv_iadd hx hb dX10_read_66 ?_
                refine lv_istore_n (lv' := [(2, .int (x2 + (0 : Int32))), (0, .ref (G.2.1 196)), (1, .int x1), (3, .int x3)]) hx hb dX10_read_67 rfl hl (by decide) rfl (fun ls hl => ?_)
                refine lv_iinc (v := (x3 + (1 : Int32))) (lv' := [(3, .int (x3 + (1 : Int32))), (2, .int (x2 + (0 : Int32))), (0, .ref (G.2.1 196)), (1, .int x1)]) hx hb dX10_read_68 hl (k := 3) rfl rfl (by decide) rfl (fun ls hl => ?_)
                refine lv_goto (tgt := 22) hx hb dX10_read_71 (by decide) ?_
                exact ih22 σ x1 (x2 + (0 : Int32)) (x3 + (1 : Int32)) hok hf _ _ hP hS ls (lv_sub hl [2, 3, 1, 0] rfl)
              · have hf := ite_t hc hf
                have hok := hok.1 hc
                refine lv_iconst (v := 1) hx hb dX10_read_61 (by decide) ?_
                refine lv_goto (tgt := 66) hx hb dX10_read_62 (by decide) ?_
                refine lv_iadd hx hb dX10_read_66 ?_
                refine lv_istore_n (lv' := [(2, .int (x2 + (1 : Int32))), (0, .ref (G.2.1 196)), (1, .int x1), (3, .int x3)]) hx hb dX10_read_67 rfl hl (by decide) rfl (fun ls hl => ?_)
                refine lv_iinc (v := (x3 + (1 : Int32))) (lv' := [(3, .int (x3 + (1 : Int32))), (2, .int (x2 + (1 : Int32))), (0, .ref (G.2.1 196)), (1, .int x1)]) hx hb dX10_read_68 hl (k := 3) rfl rfl (by decide) rfl (fun ls hl => ?_)
                refine lv_goto (tgt := 22) hx hb dX10_read_71 (by decide) ?_
                exact ih22 σ x1 (x2 + (1 : Int32)) (x3 + (1 : Int32)) hok hf _ _ hP hS ls (lv_sub hl [2, 3, 1, 0] rfl)
    exact K22 2000 q1 x1 (0 : Int32) (0 : Int32) hok hf _ _ hP hS ls (lv_sub hl [2, 3, 1, 0] rfl)
  · have hf := ite_z hc hf
    refine lv_aload_n hx hb dX10_read_12 rfl (lv_at hl 0 rfl) ?_
    refine lv_iconst (v := 1) hx hb dX10_read_13 (by decide) ?_
    refine g_cI (g_runV (i := 196) (As := [.int (1 : Int32)]) (rest := []) X (c_X10_fails l G hG q1 (1 : Int32)) ca_X10_fails km_X10_59 rfl rfl ⟨Nat.le_of_ble_eq_true rfl, Nat.le_of_ble_eq_true rfl⟩ hP hS (ty_lt ab_196) (cell_10 ab_196) rfl rfl rfl hl.1 rfl (Nat.le_of_ble_eq_true rfl) ⟨Nat.le_of_ble_eq_true rfl, Nat.le_of_ble_eq_true rfl⟩ dX10_read_14) hS (fun q5 hq5 H locs hP hS => ?_)
    have hf := bnd_go hq5 hf
    exact g_iret X hr hlk hP hS hf dX10_read_17
def f_X10_snacks (σ : St) (x1 : Int32) : St × Int32 := (bnd (setI σ 196 0 (0 : Int32)) (fun q1 => (if (f_X10_isBetween x1 (1 : Int32) (20 : Int32)) = true then (bnd (f_X10_remembers q1) (fun q3 => (if ((q3.1 197 (4 : Int32).toNatClampNeg) + x1) ≤ (50 : Int32) then (bnd (setI q3 197 (4 : Int32).toNatClampNeg ((q3.1 197 (4 : Int32).toNatClampNeg) + x1)) (fun q4 => (q4, (q4.1 197 (4 : Int32).toNatClampNeg)))) else (bnd (setI q3 197 (4 : Int32).toNatClampNeg (50 : Int32)) (fun q5 => (q5, (q5.1 197 (4 : Int32).toNatClampNeg))))))) else (bnd (f_X10_fails q1 (1 : Int32)) (fun q6 => (q6.1, q6.2))))))
def ok_X10_snacks (σ : St) (x1 : Int32) : Prop := (bndP (setI σ 196 0 (0 : Int32)) (fun q1 => (((f_X10_isBetween x1 (1 : Int32) (20 : Int32)) = true → ok_X10_remembers q1) ∧ ((f_X10_isBetween x1 (1 : Int32) (20 : Int32)) = false → True))))
abbrev rm_X10_snacks : Room := { frames := 2, cells := 0, slots := 0, locals := 42 }
set_option maxHeartbeats 4000000 in
set_option maxRecDepth 100000 in
theorem c_X10_snacks (l : Launch) (G : GE) (hG : Gok G) (σ : St) (x1 : Int32) (hok : ok_X10_snacks σ x1) : MtI l G yX10_snacks cX10_snacks 2 rm_X10_snacks [.ref (G.2.1 196), .int x1] σ (f_X10_snacks σ x1) := by
  generalize hf : f_X10_snacks σ x1 = fv
  rw [f_X10_snacks] at hf
  rw [ok_X10_snacks] at hok
  refine g_start hG (plainFor_of_name (by decide)) (Nat.le_of_ble_eq_true rfl) ?_
  intro p e s m args below meth c X hr hlk ls hl H locs hP hS
  have X : Cx G p s m args c cX10_snacks 2 RX10 := X
  obtain ⟨hx, hb, hml, hown, hts, hK, hbs, hXW, -⟩ := id X
  have hl : lv_has ls 2 [(0, .ref (G.2.1 196)), (1, .int x1)] := hl
  refine lv_aload_n hx hb dX10_snacks_0 rfl (lv_at hl 0 rfl) ?_
  refine lv_iconst (v := 0) hx hb dX10_snacks_1 (by decide) ?_
  refine gp_10_0 X hP hS ab_196 kf_X10_50 dX10_snacks_2 (fun H locs hP hS => ?_)
  refine g_name hP (fun q1 hq1 hP => ?_)
  have hf := bnd_go hq1 hf
  have hok := bnd_goP hq1 hok
  refine lv_iload_n hx hb dX10_snacks_5 rfl (lv_at hl 1 rfl) ?_
  refine lv_iconst (v := 1) hx hb dX10_snacks_6 (by decide) ?_
  refine lv_bipush (v := 20) hx hb dX10_snacks_7 (by decide) ?_
  refine g_cZp (g_runS (As := [.int x1, .int (1 : Int32), .int (20 : Int32)]) (rest := []) X (c_X10_isBetween l G hG q1 x1 (1 : Int32) (20 : Int32)) ca_X10_isBetween km_X10_81 rfl rfl ⟨Nat.le_of_ble_eq_true rfl, Nat.le_of_ble_eq_true rfl⟩ hP hS rfl hl.1 rfl (Nat.le_of_ble_eq_true rfl) ⟨Nat.le_of_ble_eq_true rfl, Nat.le_of_ble_eq_true rfl⟩ dX10_snacks_9) hS (fun H locs hP hS => ?_)
  refine g_ifneZ (tgt := 21) X dX10_snacks_12 (by decide) (fun hc => ?_) (fun hc => ?_)
  · have hf := ite_t hc hf
    have hok := hok.1 hc
    refine lv_aload_n hx hb dX10_snacks_21 rfl (lv_at hl 0 rfl) ?_
    have hs2 := hok
    refine g_cV (g_runV (i := 196) (As := []) (rest := []) X (c_X10_remembers l G hG q1 hs2) ca_X10_remembers km_X10_95 rfl rfl ⟨Nat.le_of_ble_eq_true rfl, Nat.le_of_ble_eq_true rfl⟩ hP hS (ty_lt ab_196) (cell_10 ab_196) rfl rfl rfl hl.1 rfl (Nat.le_of_ble_eq_true rfl) ⟨Nat.le_of_ble_eq_true rfl, Nat.le_of_ble_eq_true rfl⟩ dX10_snacks_22) hS (fun q3 hq3 H locs hP hS => ?_)
    have hf := bnd_go hq3 hf
    refine lv_aload_n hx hb dX10_snacks_25 rfl (lv_at hl 0 rfl) ?_
    refine gg_10_5 X hP ab_196 kf_X10_7 dX10_snacks_26 ?_
    refine lv_iconst (v := 4) hx hb dX10_snacks_29 (by decide) ?_
    refine lv_aload_n hx hb dX10_snacks_30 rfl (lv_at hl 0 rfl) ?_
    refine gg_10_5 X hP ab_196 kf_X10_7 dX10_snacks_31 ?_
    refine lv_iconst (v := 4) hx hb dX10_snacks_34 (by decide) ?_
    refine g_iald X hP ab_197 (by rw [al_197]; unfold vp_in; decide) dX10_snacks_35 ?_
    refine lv_iload_n hx hb dX10_snacks_36 rfl (lv_at hl 1 rfl) ?_
    refine lv_iadd hx hb dX10_snacks_37 ?_
    refine lv_bipush (v := 50) hx hb dX10_snacks_38 (by decide) ?_
    refine lv_icmp_le (tgt := 48) hx hb dX10_snacks_40 (by decide) (fun hc => ?_) (fun hc => ?_)
    · have hf := ite_t hc hf
      refine lv_aload_n hx hb dX10_snacks_48 rfl (lv_at hl 0 rfl) ?_
      refine gg_10_5 X hP ab_196 kf_X10_7 dX10_snacks_49 ?_
      refine lv_iconst (v := 4) hx hb dX10_snacks_52 (by decide) ?_
      refine g_iald X hP ab_197 (by rw [al_197]; unfold vp_in; decide) dX10_snacks_53 ?_
      refine lv_iload_n hx hb dX10_snacks_54 rfl (lv_at hl 1 rfl) ?_
      refine lv_iadd hx hb dX10_snacks_55 ?_
      refine g_iast X hP hS ab_197 (by rw [al_197]; unfold vp_in; decide) dX10_snacks_56 (fun H locs hP hS => ?_)
      refine g_name hP (fun q4 hq4 hP => ?_)
      have hf := bnd_go hq4 hf
      refine lv_aload_n hx hb dX10_snacks_57 rfl (lv_at hl 0 rfl) ?_
      refine gg_10_5 X hP ab_196 kf_X10_7 dX10_snacks_58 ?_
      refine lv_iconst (v := 4) hx hb dX10_snacks_61 (by decide) ?_
      refine g_iald X hP ab_197 (by rw [al_197]; unfold vp_in; decide) dX10_snacks_62 ?_
      exact g_iret X hr hlk hP hS hf dX10_snacks_63
    · have hf := ite_f hc hf
      refine lv_bipush (v := 50) hx hb dX10_snacks_43 (by decide) ?_
      refine lv_goto (tgt := 56) hx hb dX10_snacks_45 (by decide) ?_
      refine g_iast X hP hS ab_197 (by rw [al_197]; unfold vp_in; decide) dX10_snacks_56 (fun H locs hP hS => ?_)
      refine g_name hP (fun q5 hq5 hP => ?_)
      have hf := bnd_go hq5 hf
      refine lv_aload_n hx hb dX10_snacks_57 rfl (lv_at hl 0 rfl) ?_
      refine gg_10_5 X hP ab_196 kf_X10_7 dX10_snacks_58 ?_
      refine lv_iconst (v := 4) hx hb dX10_snacks_61 (by decide) ?_
      refine g_iald X hP ab_197 (by rw [al_197]; unfold vp_in; decide) dX10_snacks_62 ?_
      exact g_iret X hr hlk hP hS hf dX10_snacks_63
  · have hf := ite_z hc hf
    refine lv_aload_n hx hb dX10_snacks_15 rfl (lv_at hl 0 rfl) ?_
    refine lv_iconst (v := 1) hx hb dX10_snacks_16 (by decide) ?_
    refine g_cI (g_runV (i := 196) (As := [.int (1 : Int32)]) (rest := []) X (c_X10_fails l G hG q1 (1 : Int32)) ca_X10_fails km_X10_59 rfl rfl ⟨Nat.le_of_ble_eq_true rfl, Nat.le_of_ble_eq_true rfl⟩ hP hS (ty_lt ab_196) (cell_10 ab_196) rfl rfl rfl hl.1 rfl (Nat.le_of_ble_eq_true rfl) ⟨Nat.le_of_ble_eq_true rfl, Nat.le_of_ble_eq_true rfl⟩ dX10_snacks_17) hS (fun q6 hq6 H locs hP hS => ?_)
    have hf := bnd_go hq6 hf
    exact g_iret X hr hlk hP hS hf dX10_snacks_20
def f_X10_notFeed (σ : St) (x1 : Int32) : St × Int32 := (if (f_X10_isBetween x1 (1 : Int32) (9 : Int32)) = true then (if x1 ≤ (σ.1 197 (4 : Int32).toNatClampNeg) then (σ, (0 : Int32)) else (bnd (f_X10_isNot σ (11 : Int32) (σ.1 197 (4 : Int32).toNatClampNeg)) (fun q1 => (q1.1, q1.2)))) else (σ, (1 : Int32)))
abbrev rm_X10_notFeed : Room := { frames := 1, cells := 0, slots := 0, locals := 22 }
set_option maxHeartbeats 4000000 in
set_option maxRecDepth 100000 in
theorem c_X10_notFeed (l : Launch) (G : GE) (hG : Gok G) (σ : St) (x1 : Int32) : MtI l G yX10_notFeed cX10_notFeed 2 rm_X10_notFeed [.ref (G.2.1 196), .int x1] σ (f_X10_notFeed σ x1) := by
  generalize hf : f_X10_notFeed σ x1 = fv
  rw [f_X10_notFeed] at hf
  refine g_start hG (plainFor_of_name (by decide)) (Nat.le_of_ble_eq_true rfl) ?_
  intro p e s m args below meth c X hr hlk ls hl H locs hP hS
  have X : Cx G p s m args c cX10_notFeed 2 RX10 := X
  obtain ⟨hx, hb, hml, hown, hts, hK, hbs, hXW, -⟩ := id X
  have hl : lv_has ls 2 [(0, .ref (G.2.1 196)), (1, .int x1)] := hl
  refine lv_iload_n hx hb dX10_notFeed_0 rfl (lv_at hl 1 rfl) ?_
  refine lv_iconst (v := 1) hx hb dX10_notFeed_1 (by decide) ?_
  refine lv_bipush (v := 9) hx hb dX10_notFeed_2 (by decide) ?_
  refine g_cZp (g_runS (As := [.int x1, .int (1 : Int32), .int (9 : Int32)]) (rest := []) X (c_X10_isBetween l G hG σ x1 (1 : Int32) (9 : Int32)) ca_X10_isBetween km_X10_81 rfl rfl ⟨Nat.le_of_ble_eq_true rfl, Nat.le_of_ble_eq_true rfl⟩ hP hS rfl hl.1 rfl (Nat.le_of_ble_eq_true rfl) ⟨Nat.le_of_ble_eq_true rfl, Nat.le_of_ble_eq_true rfl⟩ dX10_notFeed_4) hS (fun H locs hP hS => ?_)
  refine g_ifneZ (tgt := 12) X dX10_notFeed_7 (by decide) (fun hc => ?_) (fun hc => ?_)
  · have hf := ite_t hc hf
    refine lv_aload_n hx hb dX10_notFeed_12 rfl (lv_at hl 0 rfl) ?_
    refine gg_10_5 X hP ab_196 kf_X10_7 dX10_notFeed_13 ?_
    refine lv_iconst (v := 4) hx hb dX10_notFeed_16 (by decide) ?_
    refine g_iald X hP ab_197 (by rw [al_197]; unfold vp_in; decide) dX10_notFeed_17 ?_
    refine lv_iload_n hx hb dX10_notFeed_18 rfl (lv_at hl 1 rfl) ?_
    refine lv_icmp_ge (tgt := 37) hx hb dX10_notFeed_19 (by decide) (fun hc => ?_) (fun hc => ?_)
    · have hf := ite_t hc hf
      refine lv_iconst (v := 0) hx hb dX10_notFeed_37 (by decide) ?_
      exact g_iret X hr hlk hP hS hf dX10_notFeed_38
    · have hf := ite_f hc hf
      refine lv_aload_n hx hb dX10_notFeed_22 rfl (lv_at hl 0 rfl) ?_
      refine lv_bipush (v := 11) hx hb dX10_notFeed_23 (by decide) ?_
      refine lv_aload_n hx hb dX10_notFeed_25 rfl (lv_at hl 0 rfl) ?_
      refine gg_10_5 X hP ab_196 kf_X10_7 dX10_notFeed_26 ?_
      refine lv_iconst (v := 4) hx hb dX10_notFeed_29 (by decide) ?_
      refine g_iald X hP ab_197 (by rw [al_197]; unfold vp_in; decide) dX10_notFeed_30 ?_
      refine g_cI (g_runV (i := 196) (As := [.int (11 : Int32), .int (σ.1 197 (4 : Int32).toNatClampNeg)]) (rest := []) X (c_X10_isNot l G hG σ (11 : Int32) (σ.1 197 (4 : Int32).toNatClampNeg)) ca_X10_isNot km_X10_89 rfl rfl ⟨Nat.le_of_ble_eq_true rfl, Nat.le_of_ble_eq_true rfl⟩ hP hS (ty_lt ab_196) (cell_10 ab_196) rfl rfl rfl hl.1 rfl (Nat.le_of_ble_eq_true rfl) ⟨Nat.le_of_ble_eq_true rfl, Nat.le_of_ble_eq_true rfl⟩ dX10_notFeed_31) hS (fun q1 hq1 H locs hP hS => ?_)
      have hf := bnd_go hq1 hf
      refine lv_goto (tgt := 38) hx hb dX10_notFeed_34 (by decide) ?_
      exact g_iret X hr hlk hP hS hf dX10_notFeed_38
  · have hf := ite_z hc hf
    refine lv_iconst (v := 1) hx hb dX10_notFeed_10 (by decide) ?_
    exact g_iret X hr hlk hP hS hf dX10_notFeed_11
def fX10_feeds_L22 : Nat → St → Int32 → Int32 → St × Int32
  | 0, σ, _, _ => (σ, 0)
  | n22 + 1, σ, x1, x2 => (if x1 ≤ x2 then (σ, (f_Jxf58ca_floatToIntBits_5c35a (σ.2.1 201 (15 : Int32).toNatClampNeg))) else (if (Op.cmpValue (FP.fcmp (σ.2.1 201 (15 : Int32).toNatClampNeg) FP.fconst2) CmpOp.l) ≤ 0 then (bnd (setF σ 201 (15 : Int32).toNatClampNeg FP.fconst0) (fun q3 => (fX10_feeds_L22 n22 q3 x1 (x2 + (1 : Int32))))) else (bnd (setF σ 201 (15 : Int32).toNatClampNeg (FP.fsub (σ.2.1 201 (15 : Int32).toNatClampNeg) FP.fconst2)) (fun q5 => (fX10_feeds_L22 n22 q5 x1 (x2 + (1 : Int32)))))))
def okX10_feeds_L22 : Nat → St → Int32 → Int32 → Prop
  | 0, _, _, _ => False
  | n22 + 1, σ, x1, x2 => ((x1 ≤ x2 → True) ∧ (¬ x1 ≤ x2 → (((Op.cmpValue (FP.fcmp (σ.2.1 201 (15 : Int32).toNatClampNeg) FP.fconst2) CmpOp.l) ≤ 0 → (bndP (setF σ 201 (15 : Int32).toNatClampNeg FP.fconst0) (fun q3 => (okX10_feeds_L22 n22 q3 x1 (x2 + (1 : Int32)))))) ∧ (¬ (Op.cmpValue (FP.fcmp (σ.2.1 201 (15 : Int32).toNatClampNeg) FP.fconst2) CmpOp.l) ≤ 0 → (vf_n32 (FP.fsub (σ.2.1 201 (15 : Int32).toNatClampNeg) FP.fconst2) ∧ (bndP (setF σ 201 (15 : Int32).toNatClampNeg (FP.fsub (σ.2.1 201 (15 : Int32).toNatClampNeg) FP.fconst2)) (fun q5 => (okX10_feeds_L22 n22 q5 x1 (x2 + (1 : Int32))))))))))
def f_X10_feeds (σ : St) (x1 : Int32) : St × Int32 := (bnd (setI σ 197 (4 : Int32).toNatClampNeg ((σ.1 197 (4 : Int32).toNatClampNeg) - x1)) (fun q1 => (bnd (setI q1 197 (5 : Int32).toNatClampNeg ((q1.1 197 (5 : Int32).toNatClampNeg) + x1)) (fun q2 => (fX10_feeds_L22 2000 q2 x1 (0 : Int32))))))
def ok_X10_feeds (σ : St) (x1 : Int32) : Prop := (bndP (setI σ 197 (4 : Int32).toNatClampNeg ((σ.1 197 (4 : Int32).toNatClampNeg) - x1)) (fun q1 => (bndP (setI q1 197 (5 : Int32).toNatClampNeg ((q1.1 197 (5 : Int32).toNatClampNeg) + x1)) (fun q2 => (okX10_feeds_L22 2000 q2 x1 (0 : Int32))))))
abbrev rm_X10_feeds : Room := { frames := 2, cells := 0, slots := 0, locals := 80 }
set_option maxHeartbeats 4000000 in
set_option maxRecDepth 100000 in
theorem c_X10_feeds (l : Launch) (G : GE) (hG : Gok G) (σ : St) (x1 : Int32) (hok : ok_X10_feeds σ x1) : MtI l G yX10_feeds cX10_feeds 3 rm_X10_feeds [.ref (G.2.1 196), .int x1] σ (f_X10_feeds σ x1) := by
  generalize hf : f_X10_feeds σ x1 = fv
  rw [f_X10_feeds] at hf
  rw [ok_X10_feeds] at hok
  refine g_start hG (plainFor_of_name (by decide)) (Nat.le_of_ble_eq_true rfl) ?_
  intro p e s m args below meth c X hr hlk ls hl H locs hP hS
  have X : Cx G p s m args c cX10_feeds 3 RX10 := X
  obtain ⟨hx, hb, hml, hown, hts, hK, hbs, hXW, -⟩ := id X
  have hl : lv_has ls 3 [(0, .ref (G.2.1 196)), (1, .int x1)] := hl
  refine lv_aload_n hx hb dX10_feeds_0 rfl (lv_at hl 0 rfl) ?_
  refine gg_10_5 X hP ab_196 kf_X10_7 dX10_feeds_1 ?_
  refine lv_iconst (v := 4) hx hb dX10_feeds_4 (by decide) ?_
  refine lv_dup2_11 hx hb dX10_feeds_5 rfl rfl ?_
  refine g_iald X hP ab_197 (by rw [al_197]; unfold vp_in; decide) dX10_feeds_6 ?_
  refine lv_iload_n hx hb dX10_feeds_7 rfl (lv_at hl 1 rfl) ?_
  refine lv_isub hx hb dX10_feeds_8 ?_
  refine g_iast X hP hS ab_197 (by rw [al_197]; unfold vp_in; decide) dX10_feeds_9 (fun H locs hP hS => ?_)
  refine g_name hP (fun q1 hq1 hP => ?_)
  have hf := bnd_go hq1 hf
  have hok := bnd_goP hq1 hok
  refine lv_aload_n hx hb dX10_feeds_10 rfl (lv_at hl 0 rfl) ?_
  refine gg_10_5 X hP ab_196 kf_X10_7 dX10_feeds_11 ?_
  refine lv_iconst (v := 5) hx hb dX10_feeds_14 (by decide) ?_
  refine lv_dup2_11 hx hb dX10_feeds_15 rfl rfl ?_
  refine g_iald X hP ab_197 (by rw [al_197]; unfold vp_in; decide) dX10_feeds_16 ?_
  refine lv_iload_n hx hb dX10_feeds_17 rfl (lv_at hl 1 rfl) ?_
  refine lv_iadd hx hb dX10_feeds_18 ?_
  refine g_iast X hP hS ab_197 (by rw [al_197]; unfold vp_in; decide) dX10_feeds_19 (fun H locs hP hS => ?_)
  refine g_name hP (fun q2 hq2 hP => ?_)
  have hf := bnd_go hq2 hf
  have hok := bnd_goP hq2 hok
  refine lv_iconst (v := 0) hx hb dX10_feeds_20 (by decide) ?_
  refine lv_istore_n (lv' := [(2, .int (0 : Int32)), (0, .ref (G.2.1 196)), (1, .int x1)]) hx hb dX10_feeds_21 rfl hl (by decide) rfl (fun ls hl => ?_)
  have K22 : ∀ (n22 : Nat) (σ : St) (x1 : Int32) (x2 : Int32), okX10_feeds_L22 n22 σ x1 x2 → fX10_feeds_L22 n22 σ x1 x2 = fv → ∀ (H : Heap) (locs : List Loc), va_P G.1 vcl (wl G σ) H → va_S (GA G) s.heap H locs → ∀ (ls : Array Slot), lv_has ls 3 [(0, .ref (G.2.1 196)), (1, .int x1), (2, .int x2)] → W p l e rm_X10_feeds s m args below meth c H locs 0 0 (MQ below (va_Qi (fun r u => (u, r) = fv) (PB G) (GA G)) args s 0 0 (GA G)) (F0 m 22 ls []) := by
    intro n22
    induction n22 with
    | zero =>
      intro σ x1 x2 hok
      exact hok.elim
    | succ n22 ih22 =>
      intro σ x1 x2 hok hf H locs hP hS ls hl
      rw [okX10_feeds_L22] at hok
      rw [fX10_feeds_L22] at hf
      refine lv_iload_n hx hb dX10_feeds_22 rfl (lv_at hl 2 rfl) ?_
      refine lv_iload_n hx hb dX10_feeds_23 rfl (lv_at hl 1 rfl) ?_
      refine lv_icmp_ge (tgt := 65) hx hb dX10_feeds_24 (by decide) (fun hc => ?_) (fun hc => ?_)
      · have hf := ite_t hc hf
        refine lv_aload_n hx hb dX10_feeds_65 rfl (lv_at hl 0 rfl) ?_
        refine gg_10_9 X hP ab_196 kf_X10_22 dX10_feeds_66 ?_
        refine lv_bipush (v := 15) hx hb dX10_feeds_69 (by decide) ?_
        refine g_fald X hP ab_201 (by rw [al_201]; unfold vp_in; decide) dX10_feeds_71 ?_
        refine g_cIp (g_runS (As := [.float (σ.2.1 201 (15 : Int32).toNatClampNeg)]) (rest := []) X (c_Jxf58ca_floatToIntBits_5c35a l G hG σ (σ.2.1 201 (15 : Int32).toNatClampNeg)) ca_Jxf58ca_floatToIntBits_5c35a km_X10_142 rfl rfl ⟨Nat.le_of_ble_eq_true rfl, Nat.le_of_ble_eq_true rfl⟩ hP hS rfl hl.1 rfl (Nat.le_of_ble_eq_true rfl) ⟨Nat.le_of_ble_eq_true rfl, Nat.le_of_ble_eq_true rfl⟩ dX10_feeds_72) hS (fun H locs hP hS => ?_)
        exact g_iret X hr hlk hP hS hf dX10_feeds_75
      · have hf := ite_f hc hf
        have hok := hok.2 hc
        refine lv_aload_n hx hb dX10_feeds_27 rfl (lv_at hl 0 rfl) ?_
        refine gg_10_9 X hP ab_196 kf_X10_22 dX10_feeds_28 ?_
        refine lv_bipush (v := 15) hx hb dX10_feeds_31 (by decide) ?_
        refine lv_aload_n hx hb dX10_feeds_33 rfl (lv_at hl 0 rfl) ?_
        refine gg_10_9 X hP ab_196 kf_X10_22 dX10_feeds_34 ?_
        refine lv_bipush (v := 15) hx hb dX10_feeds_37 (by decide) ?_
        refine g_fald X hP ab_201 (by rw [al_201]; unfold vp_in; decide) dX10_feeds_39 ?_
        refine lv_fconst2 hx hb dX10_feeds_40 ?_
        refine lv_fcmp hx hb dX10_feeds_41 ?_
        refine lv_if_le (tgt := 57) hx hb dX10_feeds_42 (by decide) (fun hc => ?_) (fun hc => ?_)
        · have hf := ite_t hc hf
          have hok := hok.1 hc
          refine lv_fconst0 hx hb dX10_feeds_57 ?_
          refine g_fast X hP hS ab_201 (by rw [al_201]; unfold vp_in; decide) dX10_feeds_58 (fun H locs hP hS => ?_)
          refine g_name hP (fun q3 hq3 hP => ?_)
          have hf := bnd_go hq3 hf
          have hok := bnd_goP hq3 hok
          refine lv_iinc (v := (x2 + (1 : Int32))) (lv' := [(2, .int (x2 + (1 : Int32))), (0, .ref (G.2.1 196)), (1, .int x1)]) hx hb dX10_feeds_59 hl (k := 2) rfl rfl (by decide) rfl (fun ls hl => ?_)
          refine lv_goto (tgt := 22) hx hb dX10_feeds_62 (by decide) ?_
          exact ih22 q3 x1 (x2 + (1 : Int32)) hok hf _ _ hP hS ls (lv_sub hl [1, 2, 0] rfl)
        · have hf := ite_f hc hf
          have hok := hok.2 hc
          refine lv_aload_n hx hb dX10_feeds_45 rfl (lv_at hl 0 rfl) ?_
          refine gg_10_9 X hP ab_196 kf_X10_22 dX10_feeds_46 ?_
          refine lv_bipush (v := 15) hx hb dX10_feeds_49 (by decide) ?_
          refine g_fald X hP ab_201 (by rw [al_201]; unfold vp_in; decide) dX10_feeds_51 ?_
          refine lv_fconst2 hx hb dX10_feeds_52 ?_
          have hs4 := hok.1
          have hok := hok.2
          refine lv_fsub hx hb dX10_feeds_53 hs4 ?_
          refine lv_goto (tgt := 58) hx hb dX10_feeds_54 (by decide) ?_
          refine g_fast X hP hS ab_201 (by rw [al_201]; unfold vp_in; decide) dX10_feeds_58 (fun H locs hP hS => ?_)
          refine g_name hP (fun q5 hq5 hP => ?_)
          have hf := bnd_go hq5 hf
          have hok := bnd_goP hq5 hok
          refine lv_iinc (v := (x2 + (1 : Int32))) (lv' := [(2, .int (x2 + (1 : Int32))), (0, .ref (G.2.1 196)), (1, .int x1)]) hx hb dX10_feeds_59 hl (k := 2) rfl rfl (by decide) rfl (fun ls hl => ?_)
          refine lv_goto (tgt := 22) hx hb dX10_feeds_62 (by decide) ?_
          exact ih22 q5 x1 (x2 + (1 : Int32)) hok hf _ _ hP hS ls (lv_sub hl [1, 2, 0] rfl)
  exact K22 2000 q2 x1 (0 : Int32) hok hf _ _ hP hS ls (lv_sub hl [1, 2, 0] rfl)
def f_X10_feed (σ : St) (x1 : Int32) : St × Int32 := (bnd (setI σ 196 0 (0 : Int32)) (fun q1 => (bnd (f_X10_notFeed q1 x1) (fun q2 => (if q2.2 = 0 then (bnd (f_X10_remembers q2.1) (fun q4 => (bnd (f_X10_feeds q4 x1) (fun q6 => (q6.1, q6.2))))) else (bnd (f_X10_refuses q2.1 q2.2 (2 : Int32)) (fun q7 => (q7.1, q7.2))))))))
def ok_X10_feed (σ : St) (x1 : Int32) : Prop := (bndP (setI σ 196 0 (0 : Int32)) (fun q1 => (bndP (f_X10_notFeed q1 x1) (fun q2 => ((q2.2 = 0 → (ok_X10_remembers q2.1 ∧ (bndP (f_X10_remembers q2.1) (fun q4 => ok_X10_feeds q4 x1)))) ∧ (¬ q2.2 = 0 → True))))))
abbrev rm_X10_feed : Room := { frames := 3, cells := 0, slots := 0, locals := 102 }
set_option maxHeartbeats 4000000 in
set_option maxRecDepth 100000 in
theorem c_X10_feed (l : Launch) (G : GE) (hG : Gok G) (σ : St) (x1 : Int32) (hok : ok_X10_feed σ x1) : MtI l G yX10_feed cX10_feed 3 rm_X10_feed [.ref (G.2.1 196), .int x1] σ (f_X10_feed σ x1) := by
  generalize hf : f_X10_feed σ x1 = fv
  rw [f_X10_feed] at hf
  rw [ok_X10_feed] at hok
  refine g_start hG (plainFor_of_name (by decide)) (Nat.le_of_ble_eq_true rfl) ?_
  intro p e s m args below meth c X hr hlk ls hl H locs hP hS
  have X : Cx G p s m args c cX10_feed 3 RX10 := X
  obtain ⟨hx, hb, hml, hown, hts, hK, hbs, hXW, -⟩ := id X
  have hl : lv_has ls 3 [(0, .ref (G.2.1 196)), (1, .int x1)] := hl
  refine lv_aload_n hx hb dX10_feed_0 rfl (lv_at hl 0 rfl) ?_
  refine lv_iconst (v := 0) hx hb dX10_feed_1 (by decide) ?_
  refine gp_10_0 X hP hS ab_196 kf_X10_50 dX10_feed_2 (fun H locs hP hS => ?_)
  refine g_name hP (fun q1 hq1 hP => ?_)
  have hf := bnd_go hq1 hf
  have hok := bnd_goP hq1 hok
  refine lv_aload_n hx hb dX10_feed_5 rfl (lv_at hl 0 rfl) ?_
  refine lv_iload_n hx hb dX10_feed_6 rfl (lv_at hl 1 rfl) ?_
  refine g_cI (g_runV (i := 196) (As := [.int x1]) (rest := []) X (c_X10_notFeed l G hG q1 x1) ca_X10_notFeed km_X10_198 rfl rfl ⟨Nat.le_of_ble_eq_true rfl, Nat.le_of_ble_eq_true rfl⟩ hP hS (ty_lt ab_196) (cell_10 ab_196) rfl rfl rfl hl.1 rfl (Nat.le_of_ble_eq_true rfl) ⟨Nat.le_of_ble_eq_true rfl, Nat.le_of_ble_eq_true rfl⟩ dX10_feed_7) hS (fun q2 hq2 H locs hP hS => ?_)
  have hf := bnd_go hq2 hf
  have hok := bnd_goP hq2 hok
  refine lv_istore_n (lv' := [(2, .int q2.2), (0, .ref (G.2.1 196)), (1, .int x1)]) hx hb dX10_feed_10 rfl hl (by decide) rfl (fun ls hl => ?_)
  refine lv_iload_n hx hb dX10_feed_11 rfl (lv_at hl 0 rfl) ?_
  refine lv_if_eq (tgt := 22) hx hb dX10_feed_12 (by decide) (fun hc => ?_) (fun hc => ?_)
  · have hf := ite_t hc hf
    have hok := hok.1 hc
    refine lv_aload_n hx hb dX10_feed_22 rfl (lv_at hl 1 rfl) ?_
    have hs3 := hok.1
    have hok := hok.2
    refine g_cV (g_runV (i := 196) (As := []) (rest := []) X (c_X10_remembers l G hG q2.1 hs3) ca_X10_remembers km_X10_95 rfl rfl ⟨Nat.le_of_ble_eq_true rfl, Nat.le_of_ble_eq_true rfl⟩ hP hS (ty_lt ab_196) (cell_10 ab_196) rfl rfl rfl hl.1 rfl (Nat.le_of_ble_eq_true rfl) ⟨Nat.le_of_ble_eq_true rfl, Nat.le_of_ble_eq_true rfl⟩ dX10_feed_23) hS (fun q4 hq4 H locs hP hS => ?_)
    have hf := bnd_go hq4 hf
    have hok := bnd_goP hq4 hok
    refine lv_aload_n hx hb dX10_feed_26 rfl (lv_at hl 1 rfl) ?_
    refine lv_iload_n hx hb dX10_feed_27 rfl (lv_at hl 2 rfl) ?_
    have hs5 := hok
    refine g_cI (g_runV (i := 196) (As := [.int x1]) (rest := []) X (c_X10_feeds l G hG q4 x1 hs5) ca_X10_feeds km_X10_201 rfl rfl ⟨Nat.le_of_ble_eq_true rfl, Nat.le_of_ble_eq_true rfl⟩ hP hS (ty_lt ab_196) (cell_10 ab_196) rfl rfl rfl hl.1 rfl (Nat.le_of_ble_eq_true rfl) ⟨Nat.le_of_ble_eq_true rfl, Nat.le_of_ble_eq_true rfl⟩ dX10_feed_28) hS (fun q6 hq6 H locs hP hS => ?_)
    have hf := bnd_go hq6 hf
    exact g_iret X hr hlk hP hS hf dX10_feed_31
  · have hf := ite_f hc hf
    refine lv_aload_n hx hb dX10_feed_15 rfl (lv_at hl 1 rfl) ?_
    refine lv_iload_n hx hb dX10_feed_16 rfl (lv_at hl 0 rfl) ?_
    refine lv_iconst (v := 2) hx hb dX10_feed_17 (by decide) ?_
    refine g_cI (g_runV (i := 196) (As := [.int q2.2, .int (2 : Int32)]) (rest := []) X (c_X10_refuses l G hG q2.1 q2.2 (2 : Int32)) ca_X10_refuses km_X10_92 rfl rfl ⟨Nat.le_of_ble_eq_true rfl, Nat.le_of_ble_eq_true rfl⟩ hP hS (ty_lt ab_196) (cell_10 ab_196) rfl rfl rfl hl.1 rfl (Nat.le_of_ble_eq_true rfl) ⟨Nat.le_of_ble_eq_true rfl, Nat.le_of_ble_eq_true rfl⟩ dX10_feed_18) hS (fun q7 hq7 H locs hP hS => ?_)
    have hf := bnd_go hq7 hf
    exact g_iret X hr hlk hP hS hf dX10_feed_21
def f_X10_hunger (σ : St) : St × UInt32 := (bnd (setI σ 196 0 (0 : Int32)) (fun q1 => (q1, (q1.2.1 201 (15 : Int32).toNatClampNeg))))
abbrev rm_X10_hunger : Room := { frames := 0, cells := 0, slots := 0, locals := 0 }
set_option maxHeartbeats 4000000 in
set_option maxRecDepth 100000 in
theorem c_X10_hunger (l : Launch) (G : GE) (hG : Gok G) (σ : St) : MtF l G yX10_hunger cX10_hunger 1 rm_X10_hunger [.ref (G.2.1 196)] σ (f_X10_hunger σ) := by
  generalize hf : f_X10_hunger σ = fv
  rw [f_X10_hunger] at hf
  refine g_start hG (plainFor_of_name (by decide)) (Nat.le_of_ble_eq_true rfl) ?_
  intro p e s m args below meth c X hr hlk ls hl H locs hP hS
  have X : Cx G p s m args c cX10_hunger 1 RX10 := X
  obtain ⟨hx, hb, hml, hown, hts, hK, hbs, hXW, -⟩ := id X
  have hl : lv_has ls 1 [(0, .ref (G.2.1 196))] := hl
  refine lv_aload_n hx hb dX10_hunger_0 rfl (lv_at hl 0 rfl) ?_
  refine lv_iconst (v := 0) hx hb dX10_hunger_1 (by decide) ?_
  refine gp_10_0 X hP hS ab_196 kf_X10_50 dX10_hunger_2 (fun H locs hP hS => ?_)
  refine g_name hP (fun q1 hq1 hP => ?_)
  have hf := bnd_go hq1 hf
  refine lv_aload_n hx hb dX10_hunger_5 rfl (lv_at hl 0 rfl) ?_
  refine gg_10_9 X hP ab_196 kf_X10_22 dX10_hunger_6 ?_
  refine lv_bipush (v := 15) hx hb dX10_hunger_9 (by decide) ?_
  refine g_fald X hP ab_201 (by rw [al_201]; unfold vp_in; decide) dX10_hunger_11 ?_
  exact g_fret X hr hlk hP hS hf dX10_hunger_12
def fX10_preyNow_L4 (σ : St) : Nat → Int32 → Int32 → Int32
  | 0, _, _ => 0
  | n4 + 1, x1, x2 => (if (σ.1 197 (2 : Int32).toNatClampNeg) ≤ x2 then x1 else (if (f_X10_isLetter σ x2) = true then (if (f_X10_of σ x2 (4 : Int32)) = (2 : Int32) then (if x1 < 0 then (fX10_preyNow_L4 σ n4 x2 (x2 + (1 : Int32))) else (if 0 ≤ (Op.cmpValue (FP.fcmp (σ.2.1 201 ((16 : Int32) + x2).toNatClampNeg) (σ.2.1 201 ((16 : Int32) + x1).toNatClampNeg)) CmpOp.g) then (fX10_preyNow_L4 σ n4 x1 (x2 + (1 : Int32))) else (fX10_preyNow_L4 σ n4 x2 (x2 + (1 : Int32))))) else (fX10_preyNow_L4 σ n4 x1 (x2 + (1 : Int32)))) else (fX10_preyNow_L4 σ n4 x1 (x2 + (1 : Int32)))))
def okX10_preyNow_L4 (σ : St) : Nat → Int32 → Int32 → Prop
  | 0, _, _ => False
  | n4 + 1, x1, x2 => (((σ.1 197 (2 : Int32).toNatClampNeg) ≤ x2 → True) ∧ (¬ (σ.1 197 (2 : Int32).toNatClampNeg) ≤ x2 → (ok_X10_isLetter σ x2 ∧ (((f_X10_isLetter σ x2) = true → (ok_X10_of σ x2 (4 : Int32) ∧ (((f_X10_of σ x2 (4 : Int32)) = (2 : Int32) → ((x1 < 0 → (okX10_preyNow_L4 σ n4 x2 (x2 + (1 : Int32)))) ∧ (¬ x1 < 0 → (vp_in ((16 : Int32) + x2) 36 ∧ (vp_in ((16 : Int32) + x1) 36 ∧ ((0 ≤ (Op.cmpValue (FP.fcmp (σ.2.1 201 ((16 : Int32) + x2).toNatClampNeg) (σ.2.1 201 ((16 : Int32) + x1).toNatClampNeg)) CmpOp.g) → (okX10_preyNow_L4 σ n4 x1 (x2 + (1 : Int32)))) ∧ (¬ 0 ≤ (Op.cmpValue (FP.fcmp (σ.2.1 201 ((16 : Int32) + x2).toNatClampNeg) (σ.2.1 201 ((16 : Int32) + x1).toNatClampNeg)) CmpOp.g) → (okX10_preyNow_L4 σ n4 x2 (x2 + (1 : Int32)))))))))) ∧ (¬ (f_X10_of σ x2 (4 : Int32)) = (2 : Int32) → (okX10_preyNow_L4 σ n4 x1 (x2 + (1 : Int32))))))) ∧ ((f_X10_isLetter σ x2) = false → (okX10_preyNow_L4 σ n4 x1 (x2 + (1 : Int32))))))))
def f_X10_preyNow (σ : St) : Int32 := (fX10_preyNow_L4 σ 2000 (-1 : Int32) (0 : Int32))
def ok_X10_preyNow (σ : St) : Prop := (okX10_preyNow_L4 σ 2000 (-1 : Int32) (0 : Int32))
abbrev rm_X10_preyNow : Room := { frames := 2, cells := 0, slots := 0, locals := 43 }
set_option maxHeartbeats 4000000 in
set_option maxRecDepth 100000 in
theorem c_X10_preyNow (l : Launch) (G : GE) (hG : Gok G) (σ : St) (hok : ok_X10_preyNow σ) : MtI l G yX10_preyNow cX10_preyNow 3 rm_X10_preyNow [.ref (G.2.1 196)] σ (σ, f_X10_preyNow σ) := by
  generalize hf : f_X10_preyNow σ = fv
  rw [f_X10_preyNow] at hf
  rw [ok_X10_preyNow] at hok
  refine g_start hG (plainFor_of_name (by decide)) (Nat.le_of_ble_eq_true rfl) ?_
  intro p e s m args below meth c X hr hlk ls hl H locs hP hS
  have X : Cx G p s m args c cX10_preyNow 3 RX10 := X
  obtain ⟨hx, hb, hml, hown, hts, hK, hbs, hXW, -⟩ := id X
  have hl : lv_has ls 3 [(0, .ref (G.2.1 196))] := hl
  refine lv_iconst (v := -1) hx hb dX10_preyNow_0 (by decide) ?_
  refine lv_istore_n (lv' := [(1, .int (-1 : Int32)), (0, .ref (G.2.1 196))]) hx hb dX10_preyNow_1 rfl hl (by decide) rfl (fun ls hl => ?_)
  refine lv_iconst (v := 0) hx hb dX10_preyNow_2 (by decide) ?_
  refine lv_istore_n (lv' := [(2, .int (0 : Int32)), (1, .int (-1 : Int32)), (0, .ref (G.2.1 196))]) hx hb dX10_preyNow_3 rfl hl (by decide) rfl (fun ls hl => ?_)
  have K4 : ∀ (n4 : Nat) (x1 : Int32) (x2 : Int32), okX10_preyNow_L4 σ n4 x1 x2 → fX10_preyNow_L4 σ n4 x1 x2 = fv → ∀ (H : Heap) (locs : List Loc), va_P G.1 vcl (wl G σ) H → va_S (GA G) s.heap H locs → ∀ (ls : Array Slot), lv_has ls 3 [(0, .ref (G.2.1 196)), (1, .int x1), (2, .int x2)] → W p l e rm_X10_preyNow s m args below meth c H locs 0 0 (MQ below (va_Qi (fun r u => (u, r) = (σ, fv)) (PB G) (GA G)) args s 0 0 (GA G)) (F0 m 4 ls []) := by
    intro n4
    induction n4 with
    | zero =>
      intro x1 x2 hok
      exact hok.elim
    | succ n4 ih4 =>
      intro x1 x2 hok hf H locs hP hS ls hl
      rw [okX10_preyNow_L4] at hok
      rw [fX10_preyNow_L4] at hf
      refine lv_iload_n hx hb dX10_preyNow_4 rfl (lv_at hl 2 rfl) ?_
      refine lv_aload_n hx hb dX10_preyNow_5 rfl (lv_at hl 0 rfl) ?_
      refine gg_10_5 X hP ab_196 kf_X10_7 dX10_preyNow_6 ?_
      refine lv_iconst (v := 2) hx hb dX10_preyNow_9 (by decide) ?_
      refine g_iald X hP ab_197 (by rw [al_197]; unfold vp_in; decide) dX10_preyNow_10 ?_
      refine lv_icmp_ge (tgt := 69) hx hb dX10_preyNow_11 (by decide) (fun hc => ?_) (fun hc => ?_)
      · have hf := ite_t hc hf
        refine lv_iload_n hx hb dX10_preyNow_69 rfl (lv_at hl 1 rfl) ?_
        exact g_iret X hr hlk hP hS (congrArg (Prod.mk σ) hf) dX10_preyNow_70
      · have hf := ite_f hc hf
        have hok := hok.2 hc
        refine lv_aload_n hx hb dX10_preyNow_14 rfl (lv_at hl 0 rfl) ?_
        refine lv_iload_n hx hb dX10_preyNow_15 rfl (lv_at hl 2 rfl) ?_
        have hs1 := hok.1
        have hok := hok.2
        refine g_cZp (g_runV (i := 196) (As := [.int x2]) (rest := []) X (c_X10_isLetter l G hG σ x2 hs1) ca_X10_isLetter km_X10_139 rfl rfl ⟨Nat.le_of_ble_eq_true rfl, Nat.le_of_ble_eq_true rfl⟩ hP hS (ty_lt ab_196) (cell_10 ab_196) rfl rfl rfl hl.1 rfl (Nat.le_of_ble_eq_true rfl) ⟨Nat.le_of_ble_eq_true rfl, Nat.le_of_ble_eq_true rfl⟩ dX10_preyNow_16) hS (fun H locs hP hS => ?_)
        refine g_ifeqZ (tgt := 63) X dX10_preyNow_19 (by decide) (fun hc => ?_) (fun hc => ?_)
        · have hf := ite_z hc hf
          have hok := hok.2 hc
          refine lv_iinc (v := (x2 + (1 : Int32))) (lv' := [(2, .int (x2 + (1 : Int32))), (0, .ref (G.2.1 196)), (1, .int x1)]) hx hb dX10_preyNow_63 hl (k := 2) rfl rfl (by decide) rfl (fun ls hl => ?_)
          refine lv_goto (tgt := 4) hx hb dX10_preyNow_66 (by decide) ?_
          exact ih4 x1 (x2 + (1 : Int32)) hok hf _ _ hP hS ls (lv_sub hl [1, 2, 0] rfl)
        · have hf := ite_t hc hf
          have hok := hok.1 hc
          refine lv_aload_n hx hb dX10_preyNow_22 rfl (lv_at hl 0 rfl) ?_
          refine lv_iload_n hx hb dX10_preyNow_23 rfl (lv_at hl 2 rfl) ?_
          refine lv_iconst (v := 4) hx hb dX10_preyNow_24 (by decide) ?_
          have hs2 := hok.1
          have hok := hok.2
          refine g_cIp (g_runV (i := 196) (As := [.int x2, .int (4 : Int32)]) (rest := []) X (c_X10_of l G hG σ x2 (4 : Int32) hs2) ca_X10_of km_X10_85 rfl rfl ⟨Nat.le_of_ble_eq_true rfl, Nat.le_of_ble_eq_true rfl⟩ hP hS (ty_lt ab_196) (cell_10 ab_196) rfl rfl rfl hl.1 rfl (Nat.le_of_ble_eq_true rfl) ⟨Nat.le_of_ble_eq_true rfl, Nat.le_of_ble_eq_true rfl⟩ dX10_preyNow_25) hS (fun H locs hP hS => ?_)
          refine lv_iconst (v := 2) hx hb dX10_preyNow_28 (by decide) ?_
          refine lv_icmp_eq (tgt := 35) hx hb dX10_preyNow_29 (by decide) (fun hc => ?_) (fun hc => ?_)
          · have hf := ite_t hc hf
            have hok := hok.1 hc
            refine lv_iload_n hx hb dX10_preyNow_35 rfl (lv_at hl 1 rfl) ?_
            refine lv_if_lt (tgt := 61) hx hb dX10_preyNow_36 (by decide) (fun hc => ?_) (fun hc => ?_)
            · have hf := ite_t hc hf
              have hok := hok.1 hc
              refine lv_iload_n hx hb dX10_preyNow_61 rfl (lv_at hl 2 rfl) ?_
              refine lv_istore_n (lv' := [(1, .int x2), (0, .ref (G.2.1 196)), (2, .int x2)]) hx hb dX10_preyNow_62 rfl hl (by decide) rfl (fun ls hl => ?_)
              refine lv_iinc (v := (x2 + (1 : Int32))) (lv' := [(2, .int (x2 + (1 : Int32))), (1, .int x2), (0, .ref (G.2.1 196))]) hx hb dX10_preyNow_63 hl (k := 2) rfl rfl (by decide) rfl (fun ls hl => ?_)
              refine lv_goto (tgt := 4) hx hb dX10_preyNow_66 (by decide) ?_
              exact ih4 x2 (x2 + (1 : Int32)) hok hf _ _ hP hS ls (lv_sub hl [2, 1, 0] rfl)
            · have hf := ite_f hc hf
              have hok := hok.2 hc
              refine lv_aload_n hx hb dX10_preyNow_39 rfl (lv_at hl 0 rfl) ?_
              refine gg_10_9 X hP ab_196 kf_X10_22 dX10_preyNow_40 ?_
              refine lv_bipush (v := 16) hx hb dX10_preyNow_43 (by decide) ?_
              refine lv_iload_n hx hb dX10_preyNow_45 rfl (lv_at hl 2 rfl) ?_
              refine lv_iadd hx hb dX10_preyNow_46 ?_
              have hs3 := hok.1
              have hok := hok.2
              refine g_fald X hP ab_201 (by rw [al_201]; exact hs3) dX10_preyNow_47 ?_
              refine lv_aload_n hx hb dX10_preyNow_48 rfl (lv_at hl 0 rfl) ?_
              refine gg_10_9 X hP ab_196 kf_X10_22 dX10_preyNow_49 ?_
              refine lv_bipush (v := 16) hx hb dX10_preyNow_52 (by decide) ?_
              refine lv_iload_n hx hb dX10_preyNow_54 rfl (lv_at hl 1 rfl) ?_
              refine lv_iadd hx hb dX10_preyNow_55 ?_
              have hs4 := hok.1
              have hok := hok.2
              refine g_fald X hP ab_201 (by rw [al_201]; exact hs4) dX10_preyNow_56 ?_
              refine lv_fcmp hx hb dX10_preyNow_57 ?_
              refine lv_if_ge (tgt := 63) hx hb dX10_preyNow_58 (by decide) (fun hc => ?_) (fun hc => ?_)
              · have hf := ite_t hc hf
                have hok := hok.1 hc
                refine lv_iinc (v := (x2 + (1 : Int32))) (lv' := [(2, .int (x2 + (1 : Int32))), (0, .ref (G.2.1 196)), (1, .int x1)]) hx hb dX10_preyNow_63 hl (k := 2) rfl rfl (by decide) rfl (fun ls hl => ?_)
                refine lv_goto (tgt := 4) hx hb dX10_preyNow_66 (by decide) ?_
                exact ih4 x1 (x2 + (1 : Int32)) hok hf _ _ hP hS ls (lv_sub hl [1, 2, 0] rfl)
              · have hf := ite_f hc hf
                have hok := hok.2 hc
                refine lv_iload_n hx hb dX10_preyNow_61 rfl (lv_at hl 2 rfl) ?_
                refine lv_istore_n (lv' := [(1, .int x2), (0, .ref (G.2.1 196)), (2, .int x2)]) hx hb dX10_preyNow_62 rfl hl (by decide) rfl (fun ls hl => ?_)
                refine lv_iinc (v := (x2 + (1 : Int32))) (lv' := [(2, .int (x2 + (1 : Int32))), (1, .int x2), (0, .ref (G.2.1 196))]) hx hb dX10_preyNow_63 hl (k := 2) rfl rfl (by decide) rfl (fun ls hl => ?_)
                refine lv_goto (tgt := 4) hx hb dX10_preyNow_66 (by decide) ?_
                exact ih4 x2 (x2 + (1 : Int32)) hok hf _ _ hP hS ls (lv_sub hl [2, 1, 0] rfl)
          · have hf := ite_f hc hf
            have hok := hok.2 hc
            refine lv_goto (tgt := 63) hx hb dX10_preyNow_32 (by decide) ?_
            refine lv_iinc (v := (x2 + (1 : Int32))) (lv' := [(2, .int (x2 + (1 : Int32))), (0, .ref (G.2.1 196)), (1, .int x1)]) hx hb dX10_preyNow_63 hl (k := 2) rfl rfl (by decide) rfl (fun ls hl => ?_)
            refine lv_goto (tgt := 4) hx hb dX10_preyNow_66 (by decide) ?_
            exact ih4 x1 (x2 + (1 : Int32)) hok hf _ _ hP hS ls (lv_sub hl [1, 2, 0] rfl)
  exact K4 2000 (-1 : Int32) (0 : Int32) hok hf _ _ hP hS ls (lv_sub hl [2, 1, 0] rfl)
def f_X10_prey (σ : St) : St × Int32 := (bnd (setI σ 196 0 (0 : Int32)) (fun q1 => (if 0 ≤ (f_X10_preyNow q1) then (q1, (f_X10_preyNow q1)) else (bnd (f_X10_fails q1 (1 : Int32)) (fun q4 => (q4.1, q4.2))))))
def ok_X10_prey (σ : St) : Prop := (bndP (setI σ 196 0 (0 : Int32)) (fun q1 => (ok_X10_preyNow q1 ∧ ((0 ≤ (f_X10_preyNow q1) → ok_X10_preyNow q1) ∧ (¬ 0 ≤ (f_X10_preyNow q1) → True)))))
abbrev rm_X10_prey : Room := { frames := 3, cells := 0, slots := 0, locals := 65 }
set_option maxHeartbeats 4000000 in
set_option maxRecDepth 100000 in
theorem c_X10_prey (l : Launch) (G : GE) (hG : Gok G) (σ : St) (hok : ok_X10_prey σ) : MtI l G yX10_prey cX10_prey 1 rm_X10_prey [.ref (G.2.1 196)] σ (f_X10_prey σ) := by
  generalize hf : f_X10_prey σ = fv
  rw [f_X10_prey] at hf
  rw [ok_X10_prey] at hok
  refine g_start hG (plainFor_of_name (by decide)) (Nat.le_of_ble_eq_true rfl) ?_
  intro p e s m args below meth c X hr hlk ls hl H locs hP hS
  have X : Cx G p s m args c cX10_prey 1 RX10 := X
  obtain ⟨hx, hb, hml, hown, hts, hK, hbs, hXW, -⟩ := id X
  have hl : lv_has ls 1 [(0, .ref (G.2.1 196))] := hl
  refine lv_aload_n hx hb dX10_prey_0 rfl (lv_at hl 0 rfl) ?_
  refine lv_iconst (v := 0) hx hb dX10_prey_1 (by decide) ?_
  refine gp_10_0 X hP hS ab_196 kf_X10_50 dX10_prey_2 (fun H locs hP hS => ?_)
  refine g_name hP (fun q1 hq1 hP => ?_)
  have hf := bnd_go hq1 hf
  have hok := bnd_goP hq1 hok
  refine lv_aload_n hx hb dX10_prey_5 rfl (lv_at hl 0 rfl) ?_
  have hs2 := hok.1
  have hok := hok.2
  refine g_cIp (g_runV (i := 196) (As := []) (rest := []) X (c_X10_preyNow l G hG q1 hs2) ca_X10_preyNow km_X10_204 rfl rfl ⟨Nat.le_of_ble_eq_true rfl, Nat.le_of_ble_eq_true rfl⟩ hP hS (ty_lt ab_196) (cell_10 ab_196) rfl rfl rfl hl.1 rfl (Nat.le_of_ble_eq_true rfl) ⟨Nat.le_of_ble_eq_true rfl, Nat.le_of_ble_eq_true rfl⟩ dX10_prey_6) hS (fun H locs hP hS => ?_)
  refine lv_if_ge (tgt := 20) hx hb dX10_prey_9 (by decide) (fun hc => ?_) (fun hc => ?_)
  · have hf := ite_t hc hf
    have hok := hok.1 hc
    refine lv_aload_n hx hb dX10_prey_20 rfl (lv_at hl 0 rfl) ?_
    have hs3 := hok
    refine g_cIp (g_runV (i := 196) (As := []) (rest := []) X (c_X10_preyNow l G hG q1 hs3) ca_X10_preyNow km_X10_204 rfl rfl ⟨Nat.le_of_ble_eq_true rfl, Nat.le_of_ble_eq_true rfl⟩ hP hS (ty_lt ab_196) (cell_10 ab_196) rfl rfl rfl hl.1 rfl (Nat.le_of_ble_eq_true rfl) ⟨Nat.le_of_ble_eq_true rfl, Nat.le_of_ble_eq_true rfl⟩ dX10_prey_21) hS (fun H locs hP hS => ?_)
    exact g_iret X hr hlk hP hS hf dX10_prey_24
  · have hf := ite_f hc hf
    refine lv_aload_n hx hb dX10_prey_12 rfl (lv_at hl 0 rfl) ?_
    refine lv_iconst (v := 1) hx hb dX10_prey_13 (by decide) ?_
    refine g_cI (g_runV (i := 196) (As := [.int (1 : Int32)]) (rest := []) X (c_X10_fails l G hG q1 (1 : Int32)) ca_X10_fails km_X10_59 rfl rfl ⟨Nat.le_of_ble_eq_true rfl, Nat.le_of_ble_eq_true rfl⟩ hP hS (ty_lt ab_196) (cell_10 ab_196) rfl rfl rfl hl.1 rfl (Nat.le_of_ble_eq_true rfl) ⟨Nat.le_of_ble_eq_true rfl, Nat.le_of_ble_eq_true rfl⟩ dX10_prey_14) hS (fun q4 hq4 H locs hP hS => ?_)
    have hf := bnd_go hq4 hf
    refine lv_goto (tgt := 24) hx hb dX10_prey_17 (by decide) ?_
    exact g_iret X hr hlk hP hS hf dX10_prey_24
def f_X10_hourEats (σ : St) : St × Bool := (bnd (setF σ 201 (15 : Int32).toNatClampNeg (FP.fadd (σ.2.1 201 (15 : Int32).toNatClampNeg) (1069547520 : UInt32))) (fun q2 => (bnd (setI q2 197 (0 : Int32).toNatClampNeg ((q2.1 197 (0 : Int32).toNatClampNeg) + (1 : Int32))) (fun q3 => (if (Op.cmpValue (FP.fcmp (q3.2.1 201 (15 : Int32).toNatClampNeg) (1090519040 : UInt32)) CmpOp.l) ≤ 0 then (q3, false) else (if 0 ≤ (f_X10_preyNow q3) then (bnd (f_X10_sets q3 (f_X10_preyNow q3) (4 : Int32) (4 : Int32)) (fun q6 => (bnd (f_X10_sets q6 (f_X10_preyNow q3) (5 : Int32) (0 : Int32)) (fun q8 => (bnd (setF q8 201 (15 : Int32).toNatClampNeg (FP.fsub (q8.2.1 201 (15 : Int32).toNatClampNeg) (1084227584 : UInt32))) (fun q10 => (q10, true))))))) else (q3, false)))))))
def ok_X10_hourEats (σ : St) : Prop := (vf_n32 (FP.fadd (σ.2.1 201 (15 : Int32).toNatClampNeg) (1069547520 : UInt32)) ∧ (bndP (setF σ 201 (15 : Int32).toNatClampNeg (FP.fadd (σ.2.1 201 (15 : Int32).toNatClampNeg) (1069547520 : UInt32))) (fun q2 => (bndP (setI q2 197 (0 : Int32).toNatClampNeg ((q2.1 197 (0 : Int32).toNatClampNeg) + (1 : Int32))) (fun q3 => (((Op.cmpValue (FP.fcmp (q3.2.1 201 (15 : Int32).toNatClampNeg) (1090519040 : UInt32)) CmpOp.l) ≤ 0 → True) ∧ (¬ (Op.cmpValue (FP.fcmp (q3.2.1 201 (15 : Int32).toNatClampNeg) (1090519040 : UInt32)) CmpOp.l) ≤ 0 → (ok_X10_preyNow q3 ∧ ((0 ≤ (f_X10_preyNow q3) → (ok_X10_sets q3 (f_X10_preyNow q3) (4 : Int32) (4 : Int32) ∧ (bndP (f_X10_sets q3 (f_X10_preyNow q3) (4 : Int32) (4 : Int32)) (fun q6 => (ok_X10_sets q6 (f_X10_preyNow q3) (5 : Int32) (0 : Int32) ∧ (bndP (f_X10_sets q6 (f_X10_preyNow q3) (5 : Int32) (0 : Int32)) (fun q8 => vf_n32 (FP.fsub (q8.2.1 201 (15 : Int32).toNatClampNeg) (1084227584 : UInt32))))))))) ∧ (¬ 0 ≤ (f_X10_preyNow q3) → True))))))))))
abbrev rm_X10_hourEats : Room := { frames := 3, cells := 0, slots := 0, locals := 65 }
set_option maxHeartbeats 4000000 in
set_option maxRecDepth 100000 in
theorem c_X10_hourEats (l : Launch) (G : GE) (hG : Gok G) (σ : St) (hok : ok_X10_hourEats σ) : MtZ l G yX10_hourEats cX10_hourEats 2 rm_X10_hourEats [.ref (G.2.1 196)] σ (f_X10_hourEats σ) := by
  generalize hf : f_X10_hourEats σ = fv
  rw [f_X10_hourEats] at hf
  rw [ok_X10_hourEats] at hok
  refine g_start hG (plainFor_of_name (by decide)) (Nat.le_of_ble_eq_true rfl) ?_
  intro p e s m args below meth c X hr hlk ls hl H locs hP hS
  have X : Cx G p s m args c cX10_hourEats 2 RX10 := X
  obtain ⟨hx, hb, hml, hown, hts, hK, hbs, hXW, -⟩ := id X
  have hl : lv_has ls 2 [(0, .ref (G.2.1 196))] := hl
  refine lv_aload_n hx hb dX10_hourEats_0 rfl (lv_at hl 0 rfl) ?_
  refine gg_10_9 X hP ab_196 kf_X10_22 dX10_hourEats_1 ?_
  refine lv_bipush (v := 15) hx hb dX10_hourEats_4 (by decide) ?_
  refine lv_aload_n hx hb dX10_hourEats_6 rfl (lv_at hl 0 rfl) ?_
  refine gg_10_9 X hP ab_196 kf_X10_22 dX10_hourEats_7 ?_
  refine lv_bipush (v := 15) hx hb dX10_hourEats_10 (by decide) ?_
  refine g_fald X hP ab_201 (by rw [al_201]; unfold vp_in; decide) dX10_hourEats_12 ?_
  refine lv_ldcf hx hb hown (hts _ kc_X10_208) dX10_hourEats_13 ?_
  have hs1 := hok.1
  have hok := hok.2
  refine lv_fadd hx hb dX10_hourEats_15 hs1 ?_
  refine g_fast X hP hS ab_201 (by rw [al_201]; unfold vp_in; decide) dX10_hourEats_16 (fun H locs hP hS => ?_)
  refine g_name hP (fun q2 hq2 hP => ?_)
  have hf := bnd_go hq2 hf
  have hok := bnd_goP hq2 hok
  refine lv_aload_n hx hb dX10_hourEats_17 rfl (lv_at hl 0 rfl) ?_
  refine gg_10_5 X hP ab_196 kf_X10_7 dX10_hourEats_18 ?_
  refine lv_iconst (v := 0) hx hb dX10_hourEats_21 (by decide) ?_
  refine lv_dup2_11 hx hb dX10_hourEats_22 rfl rfl ?_
  refine g_iald X hP ab_197 (by rw [al_197]; unfold vp_in; decide) dX10_hourEats_23 ?_
  refine lv_iconst (v := 1) hx hb dX10_hourEats_24 (by decide) ?_
  refine lv_iadd hx hb dX10_hourEats_25 ?_
  refine g_iast X hP hS ab_197 (by rw [al_197]; unfold vp_in; decide) dX10_hourEats_26 (fun H locs hP hS => ?_)
  refine g_name hP (fun q3 hq3 hP => ?_)
  have hf := bnd_go hq3 hf
  have hok := bnd_goP hq3 hok
  refine lv_aload_n hx hb dX10_hourEats_27 rfl (lv_at hl 0 rfl) ?_
  refine gg_10_9 X hP ab_196 kf_X10_22 dX10_hourEats_28 ?_
  refine lv_bipush (v := 15) hx hb dX10_hourEats_31 (by decide) ?_
  refine g_fald X hP ab_201 (by rw [al_201]; unfold vp_in; decide) dX10_hourEats_33 ?_
  refine lv_ldcf hx hb hown (hts _ kc_X10_209) dX10_hourEats_34 ?_
  refine lv_fcmp hx hb dX10_hourEats_36 ?_
  refine lv_if_le (tgt := 47) hx hb dX10_hourEats_37 (by decide) (fun hc => ?_) (fun hc => ?_)
  · have hf := ite_t hc hf
    refine lv_iconst (v := -1) hx hb dX10_hourEats_47 (by decide) ?_
    refine lv_istore_n (lv' := [(1, .int (-1 : Int32)), (0, .ref (G.2.1 196))]) hx hb dX10_hourEats_48 rfl hl (by decide) rfl (fun ls hl => ?_)
    refine lv_iload_n hx hb dX10_hourEats_49 rfl (lv_at hl 0 rfl) ?_
    refine lv_if_ge (tgt := 55) hx hb dX10_hourEats_50 (by decide) (fun hc => absurd hc (by decide)) (fun hc => ?_)
    refine lv_iconst (v := 0) hx hb dX10_hourEats_53 (by decide) ?_
    exact g_zret (b := false) X hr hlk rfl hP hS hf dX10_hourEats_54
  · have hf := ite_f hc hf
    have hok := hok.2 hc
    refine lv_aload_n hx hb dX10_hourEats_40 rfl (lv_at hl 0 rfl) ?_
    have hs4 := hok.1
    have hok := hok.2
    refine g_cIp (g_runV (i := 196) (As := []) (rest := []) X (c_X10_preyNow l G hG q3 hs4) ca_X10_preyNow km_X10_204 rfl rfl ⟨Nat.le_of_ble_eq_true rfl, Nat.le_of_ble_eq_true rfl⟩ hP hS (ty_lt ab_196) (cell_10 ab_196) rfl rfl rfl hl.1 rfl (Nat.le_of_ble_eq_true rfl) ⟨Nat.le_of_ble_eq_true rfl, Nat.le_of_ble_eq_true rfl⟩ dX10_hourEats_41) hS (fun H locs hP hS => ?_)
    refine lv_goto (tgt := 48) hx hb dX10_hourEats_44 (by decide) ?_
    refine lv_istore_n (lv' := [(1, .int (f_X10_preyNow q3)), (0, .ref (G.2.1 196))]) hx hb dX10_hourEats_48 rfl hl (by decide) rfl (fun ls hl => ?_)
    refine lv_iload_n hx hb dX10_hourEats_49 rfl (lv_at hl 0 rfl) ?_
    refine lv_if_ge (tgt := 55) hx hb dX10_hourEats_50 (by decide) (fun hc => ?_) (fun hc => ?_)
    · have hf := ite_t hc hf
      have hok := hok.1 hc
      refine lv_aload_n hx hb dX10_hourEats_55 rfl (lv_at hl 1 rfl) ?_
      refine lv_iload_n hx hb dX10_hourEats_56 rfl (lv_at hl 0 rfl) ?_
      refine lv_iconst (v := 4) hx hb dX10_hourEats_57 (by decide) ?_
      refine lv_iconst (v := 4) hx hb dX10_hourEats_58 (by decide) ?_
      have hs5 := hok.1
      have hok := hok.2
      refine g_cV (g_runV (i := 196) (As := [.int (f_X10_preyNow q3), .int (4 : Int32), .int (4 : Int32)]) (rest := []) X (c_X10_sets l G hG q3 (f_X10_preyNow q3) (4 : Int32) (4 : Int32) hs5) ca_X10_sets km_X10_104 rfl rfl ⟨Nat.le_of_ble_eq_true rfl, Nat.le_of_ble_eq_true rfl⟩ hP hS (ty_lt ab_196) (cell_10 ab_196) rfl rfl rfl hl.1 rfl (Nat.le_of_ble_eq_true rfl) ⟨Nat.le_of_ble_eq_true rfl, Nat.le_of_ble_eq_true rfl⟩ dX10_hourEats_59) hS (fun q6 hq6 H locs hP hS => ?_)
      have hf := bnd_go hq6 hf
      have hok := bnd_goP hq6 hok
      refine lv_aload_n hx hb dX10_hourEats_62 rfl (lv_at hl 1 rfl) ?_
      refine lv_iload_n hx hb dX10_hourEats_63 rfl (lv_at hl 0 rfl) ?_
      refine lv_iconst (v := 5) hx hb dX10_hourEats_64 (by decide) ?_
      refine lv_iconst (v := 0) hx hb dX10_hourEats_65 (by decide) ?_
      have hs7 := hok.1
      have hok := hok.2
      refine g_cV (g_runV (i := 196) (As := [.int (f_X10_preyNow q3), .int (5 : Int32), .int (0 : Int32)]) (rest := []) X (c_X10_sets l G hG q6 (f_X10_preyNow q3) (5 : Int32) (0 : Int32) hs7) ca_X10_sets km_X10_104 rfl rfl ⟨Nat.le_of_ble_eq_true rfl, Nat.le_of_ble_eq_true rfl⟩ hP hS (ty_lt ab_196) (cell_10 ab_196) rfl rfl rfl hl.1 rfl (Nat.le_of_ble_eq_true rfl) ⟨Nat.le_of_ble_eq_true rfl, Nat.le_of_ble_eq_true rfl⟩ dX10_hourEats_66) hS (fun q8 hq8 H locs hP hS => ?_)
      have hf := bnd_go hq8 hf
      have hok := bnd_goP hq8 hok
      refine lv_aload_n hx hb dX10_hourEats_69 rfl (lv_at hl 1 rfl) ?_
      refine gg_10_9 X hP ab_196 kf_X10_22 dX10_hourEats_70 ?_
      refine lv_bipush (v := 15) hx hb dX10_hourEats_73 (by decide) ?_
      refine lv_aload_n hx hb dX10_hourEats_75 rfl (lv_at hl 1 rfl) ?_
      refine gg_10_9 X hP ab_196 kf_X10_22 dX10_hourEats_76 ?_
      refine lv_bipush (v := 15) hx hb dX10_hourEats_79 (by decide) ?_
      refine g_fald X hP ab_201 (by rw [al_201]; unfold vp_in; decide) dX10_hourEats_81 ?_
      refine lv_ldcf hx hb hown (hts _ kc_X10_210) dX10_hourEats_82 ?_
      have hs9 := hok
      refine lv_fsub hx hb dX10_hourEats_84 hs9 ?_
      refine g_fast X hP hS ab_201 (by rw [al_201]; unfold vp_in; decide) dX10_hourEats_85 (fun H locs hP hS => ?_)
      refine g_name hP (fun q10 hq10 hP => ?_)
      have hf := bnd_go hq10 hf
      refine lv_iconst (v := 1) hx hb dX10_hourEats_86 (by decide) ?_
      exact g_zret (b := true) X hr hlk rfl hP hS hf dX10_hourEats_87
    · have hf := ite_f hc hf
      refine lv_iconst (v := 0) hx hb dX10_hourEats_53 (by decide) ?_
      exact g_zret (b := false) X hr hlk rfl hP hS hf dX10_hourEats_54
def fX10_eatsIn_L24 : Nat → St → Int32 → St × Int32
  | 0, σ, _ => (σ, 0)
  | n24 + 1, σ, x1 => (bnd (f_X10_hourEats σ) (fun q6 => (if q6.2 = true then (bnd (f_X10_forgets q6.1) (fun q8 => (q8, x1))) else (fX10_eatsIn_L24 n24 q6.1 (x1 + (1 : Int32))))))
def okX10_eatsIn_L24 : Nat → St → Int32 → Prop
  | 0, _, _ => False
  | n24 + 1, σ, x1 => (ok_X10_hourEats σ ∧ (bndP (f_X10_hourEats σ) (fun q6 => ((q6.2 = true → ok_X10_forgets q6.1) ∧ (q6.2 = false → (okX10_eatsIn_L24 n24 q6.1 (x1 + (1 : Int32))))))))
def f_X10_eatsIn (σ : St) : St × Int32 := (bnd (setI σ 196 0 (0 : Int32)) (fun q1 => (if 0 ≤ (f_X10_preyNow q1) then (bnd (f_X10_thinks q1) (fun q4 => (fX10_eatsIn_L24 2000 q4 (1 : Int32)))) else (bnd (f_X10_fails q1 (1 : Int32)) (fun q9 => (q9.1, q9.2))))))
def ok_X10_eatsIn (σ : St) : Prop := (bndP (setI σ 196 0 (0 : Int32)) (fun q1 => (ok_X10_preyNow q1 ∧ ((0 ≤ (f_X10_preyNow q1) → (ok_X10_thinks q1 ∧ (bndP (f_X10_thinks q1) (fun q4 => (okX10_eatsIn_L24 2000 q4 (1 : Int32)))))) ∧ (¬ 0 ≤ (f_X10_preyNow q1) → True)))))
abbrev rm_X10_eatsIn : Room := { frames := 4, cells := 0, slots := 0, locals := 86 }
set_option maxHeartbeats 4000000 in
set_option maxRecDepth 100000 in
theorem c_X10_eatsIn (l : Launch) (G : GE) (hG : Gok G) (σ : St) (hok : ok_X10_eatsIn σ) : MtI l G yX10_eatsIn cX10_eatsIn 2 rm_X10_eatsIn [.ref (G.2.1 196)] σ (f_X10_eatsIn σ) := by
  generalize hf : f_X10_eatsIn σ = fv
  rw [f_X10_eatsIn] at hf
  rw [ok_X10_eatsIn] at hok
  refine g_start hG (plainFor_of_name (by decide)) (Nat.le_of_ble_eq_true rfl) ?_
  intro p e s m args below meth c X hr hlk ls hl H locs hP hS
  have X : Cx G p s m args c cX10_eatsIn 2 RX10 := X
  obtain ⟨hx, hb, hml, hown, hts, hK, hbs, hXW, -⟩ := id X
  have hl : lv_has ls 2 [(0, .ref (G.2.1 196))] := hl
  refine lv_aload_n hx hb dX10_eatsIn_0 rfl (lv_at hl 0 rfl) ?_
  refine lv_iconst (v := 0) hx hb dX10_eatsIn_1 (by decide) ?_
  refine gp_10_0 X hP hS ab_196 kf_X10_50 dX10_eatsIn_2 (fun H locs hP hS => ?_)
  refine g_name hP (fun q1 hq1 hP => ?_)
  have hf := bnd_go hq1 hf
  have hok := bnd_goP hq1 hok
  refine lv_aload_n hx hb dX10_eatsIn_5 rfl (lv_at hl 0 rfl) ?_
  have hs2 := hok.1
  have hok := hok.2
  refine g_cIp (g_runV (i := 196) (As := []) (rest := []) X (c_X10_preyNow l G hG q1 hs2) ca_X10_preyNow km_X10_204 rfl rfl ⟨Nat.le_of_ble_eq_true rfl, Nat.le_of_ble_eq_true rfl⟩ hP hS (ty_lt ab_196) (cell_10 ab_196) rfl rfl rfl hl.1 rfl (Nat.le_of_ble_eq_true rfl) ⟨Nat.le_of_ble_eq_true rfl, Nat.le_of_ble_eq_true rfl⟩ dX10_eatsIn_6) hS (fun H locs hP hS => ?_)
  refine lv_if_ge (tgt := 18) hx hb dX10_eatsIn_9 (by decide) (fun hc => ?_) (fun hc => ?_)
  · have hf := ite_t hc hf
    have hok := hok.1 hc
    refine lv_aload_n hx hb dX10_eatsIn_18 rfl (lv_at hl 0 rfl) ?_
    have hs3 := hok.1
    have hok := hok.2
    refine g_cV (g_runV (i := 196) (As := []) (rest := []) X (c_X10_thinks l G hG q1 hs3) ca_X10_thinks km_X10_75 rfl rfl ⟨Nat.le_of_ble_eq_true rfl, Nat.le_of_ble_eq_true rfl⟩ hP hS (ty_lt ab_196) (cell_10 ab_196) rfl rfl rfl hl.1 rfl (Nat.le_of_ble_eq_true rfl) ⟨Nat.le_of_ble_eq_true rfl, Nat.le_of_ble_eq_true rfl⟩ dX10_eatsIn_19) hS (fun q4 hq4 H locs hP hS => ?_)
    have hf := bnd_go hq4 hf
    have hok := bnd_goP hq4 hok
    refine lv_iconst (v := 1) hx hb dX10_eatsIn_22 (by decide) ?_
    refine lv_istore_n (lv' := [(1, .int (1 : Int32)), (0, .ref (G.2.1 196))]) hx hb dX10_eatsIn_23 rfl hl (by decide) rfl (fun ls hl => ?_)
    have K24 : ∀ (n24 : Nat) (σ : St) (x1 : Int32), okX10_eatsIn_L24 n24 σ x1 → fX10_eatsIn_L24 n24 σ x1 = fv → ∀ (H : Heap) (locs : List Loc), va_P G.1 vcl (wl G σ) H → va_S (GA G) s.heap H locs → ∀ (ls : Array Slot), lv_has ls 2 [(0, .ref (G.2.1 196)), (1, .int x1)] → W p l e rm_X10_eatsIn s m args below meth c H locs 0 0 (MQ below (va_Qi (fun r u => (u, r) = fv) (PB G) (GA G)) args s 0 0 (GA G)) (F0 m 24 ls []) := by
      intro n24
      induction n24 with
      | zero =>
        intro σ x1 hok
        exact hok.elim
      | succ n24 ih24 =>
        intro σ x1 hok hf H locs hP hS ls hl
        rw [okX10_eatsIn_L24] at hok
        rw [fX10_eatsIn_L24] at hf
        refine lv_aload_n hx hb dX10_eatsIn_24 rfl (lv_at hl 0 rfl) ?_
        have hs5 := hok.1
        have hok := hok.2
        refine g_cZ (g_runV (i := 196) (As := []) (rest := []) X (c_X10_hourEats l G hG σ hs5) ca_X10_hourEats km_X10_211 rfl rfl ⟨Nat.le_of_ble_eq_true rfl, Nat.le_of_ble_eq_true rfl⟩ hP hS (ty_lt ab_196) (cell_10 ab_196) rfl rfl rfl hl.1 rfl (Nat.le_of_ble_eq_true rfl) ⟨Nat.le_of_ble_eq_true rfl, Nat.le_of_ble_eq_true rfl⟩ dX10_eatsIn_25) hS (fun q6 hq6 H locs hP hS => ?_)
        have hf := bnd_go hq6 hf
        have hok := bnd_goP hq6 hok
        refine g_ifneZ (tgt := 37) X dX10_eatsIn_28 (by decide) (fun hc => ?_) (fun hc => ?_)
        · have hf := ite_t hc hf
          have hok := hok.1 hc
          refine lv_aload_n hx hb dX10_eatsIn_37 rfl (lv_at hl 0 rfl) ?_
          have hs7 := hok
          refine g_cV (g_runV (i := 196) (As := []) (rest := []) X (c_X10_forgets l G hG q6.1 hs7) ca_X10_forgets km_X10_215 rfl rfl ⟨Nat.le_of_ble_eq_true rfl, Nat.le_of_ble_eq_true rfl⟩ hP hS (ty_lt ab_196) (cell_10 ab_196) rfl rfl rfl hl.1 rfl (Nat.le_of_ble_eq_true rfl) ⟨Nat.le_of_ble_eq_true rfl, Nat.le_of_ble_eq_true rfl⟩ dX10_eatsIn_38) hS (fun q8 hq8 H locs hP hS => ?_)
          have hf := bnd_go hq8 hf
          refine lv_iload_n hx hb dX10_eatsIn_41 rfl (lv_at hl 1 rfl) ?_
          exact g_iret X hr hlk hP hS hf dX10_eatsIn_42
        · have hf := ite_z hc hf
          have hok := hok.2 hc
          refine lv_iinc (v := (x1 + (1 : Int32))) (lv' := [(1, .int (x1 + (1 : Int32))), (0, .ref (G.2.1 196))]) hx hb dX10_eatsIn_31 hl (k := 1) rfl rfl (by decide) rfl (fun ls hl => ?_)
          refine lv_goto (tgt := 24) hx hb dX10_eatsIn_34 (by decide) ?_
          exact ih24 q6.1 (x1 + (1 : Int32)) hok hf _ _ hP hS ls (lv_sub hl [1, 0] rfl)
    exact K24 2000 q4 (1 : Int32) hok hf _ _ hP hS ls (lv_sub hl [1, 0] rfl)
  · have hf := ite_f hc hf
    refine lv_aload_n hx hb dX10_eatsIn_12 rfl (lv_at hl 0 rfl) ?_
    refine lv_iconst (v := 1) hx hb dX10_eatsIn_13 (by decide) ?_
    refine g_cI (g_runV (i := 196) (As := [.int (1 : Int32)]) (rest := []) X (c_X10_fails l G hG q1 (1 : Int32)) ca_X10_fails km_X10_59 rfl rfl ⟨Nat.le_of_ble_eq_true rfl, Nat.le_of_ble_eq_true rfl⟩ hP hS (ty_lt ab_196) (cell_10 ab_196) rfl rfl rfl hl.1 rfl (Nat.le_of_ble_eq_true rfl) ⟨Nat.le_of_ble_eq_true rfl, Nat.le_of_ble_eq_true rfl⟩ dX10_eatsIn_14) hS (fun q9 hq9 H locs hP hS => ?_)
    have hf := bnd_go hq9 hf
    exact g_iret X hr hlk hP hS hf dX10_eatsIn_17
def f_X10_notPass (x1 : Int32) : Int32 := (if (f_X10_isBetween x1 (1 : Int32) (60 : Int32)) = true then (0 : Int32) else (1 : Int32))
abbrev rm_X10_notPass : Room := { frames := 1, cells := 0, slots := 0, locals := 22 }
set_option maxHeartbeats 4000000 in
set_option maxRecDepth 100000 in
theorem c_X10_notPass (l : Launch) (G : GE) (hG : Gok G) (σ : St) (x1 : Int32) : MtI l G yX10_notPass cX10_notPass 2 rm_X10_notPass [.ref (G.2.1 196), .int x1] σ (σ, f_X10_notPass x1) := by
  generalize hf : f_X10_notPass x1 = fv
  rw [f_X10_notPass] at hf
  refine g_start hG (plainFor_of_name (by decide)) (Nat.le_of_ble_eq_true rfl) ?_
  intro p e s m args below meth c X hr hlk ls hl H locs hP hS
  have X : Cx G p s m args c cX10_notPass 2 RX10 := X
  obtain ⟨hx, hb, hml, hown, hts, hK, hbs, hXW, -⟩ := id X
  have hl : lv_has ls 2 [(0, .ref (G.2.1 196)), (1, .int x1)] := hl
  refine lv_iload_n hx hb dX10_notPass_0 rfl (lv_at hl 1 rfl) ?_
  refine lv_iconst (v := 1) hx hb dX10_notPass_1 (by decide) ?_
  refine lv_bipush (v := 60) hx hb dX10_notPass_2 (by decide) ?_
  refine g_cZp (g_runS (As := [.int x1, .int (1 : Int32), .int (60 : Int32)]) (rest := []) X (c_X10_isBetween l G hG σ x1 (1 : Int32) (60 : Int32)) ca_X10_isBetween km_X10_81 rfl rfl ⟨Nat.le_of_ble_eq_true rfl, Nat.le_of_ble_eq_true rfl⟩ hP hS rfl hl.1 rfl (Nat.le_of_ble_eq_true rfl) ⟨Nat.le_of_ble_eq_true rfl, Nat.le_of_ble_eq_true rfl⟩ dX10_notPass_4) hS (fun H locs hP hS => ?_)
  refine g_ifeqZ (tgt := 14) X dX10_notPass_7 (by decide) (fun hc => ?_) (fun hc => ?_)
  · have hf := ite_z hc hf
    refine lv_iconst (v := 1) hx hb dX10_notPass_14 (by decide) ?_
    exact g_iret X hr hlk hP hS (congrArg (Prod.mk σ) hf) dX10_notPass_15
  · have hf := ite_t hc hf
    refine lv_iconst (v := 0) hx hb dX10_notPass_10 (by decide) ?_
    refine lv_goto (tgt := 15) hx hb dX10_notPass_11 (by decide) ?_
    exact g_iret X hr hlk hP hS (congrArg (Prod.mk σ) hf) dX10_notPass_15
def fX10_passes_L4 : Nat → St → Int32 → Int32 → Int32 → St × Int32
  | 0, σ, _, _, _ => (σ, 0)
  | n4 + 1, σ, x1, x2, x3 => (if x1 ≤ x3 then (σ, x2) else (bnd (f_X10_hourEats σ) (fun q2 => (if q2.2 = true then (fX10_passes_L4 n4 q2.1 x1 (x2 + (1 : Int32)) (x3 + (1 : Int32))) else (fX10_passes_L4 n4 q2.1 x1 (x2 + (0 : Int32)) (x3 + (1 : Int32)))))))
def okX10_passes_L4 : Nat → St → Int32 → Int32 → Int32 → Prop
  | 0, _, _, _, _ => False
  | n4 + 1, σ, x1, x2, x3 => ((x1 ≤ x3 → True) ∧ (¬ x1 ≤ x3 → (ok_X10_hourEats σ ∧ (bndP (f_X10_hourEats σ) (fun q2 => ((q2.2 = true → (okX10_passes_L4 n4 q2.1 x1 (x2 + (1 : Int32)) (x3 + (1 : Int32)))) ∧ (q2.2 = false → (okX10_passes_L4 n4 q2.1 x1 (x2 + (0 : Int32)) (x3 + (1 : Int32))))))))))
def f_X10_passes (σ : St) (x1 : Int32) : St × Int32 := (fX10_passes_L4 2000 σ x1 (0 : Int32) (0 : Int32))
def ok_X10_passes (σ : St) (x1 : Int32) : Prop := (okX10_passes_L4 2000 σ x1 (0 : Int32) (0 : Int32))
abbrev rm_X10_passes : Room := { frames := 4, cells := 0, slots := 0, locals := 86 }
set_option maxHeartbeats 4000000 in
set_option maxRecDepth 100000 in
theorem c_X10_passes (l : Launch) (G : GE) (hG : Gok G) (σ : St) (x1 : Int32) (hok : ok_X10_passes σ x1) : MtI l G yX10_passes cX10_passes 4 rm_X10_passes [.ref (G.2.1 196), .int x1] σ (f_X10_passes σ x1) := by
  generalize hf : f_X10_passes σ x1 = fv
  rw [f_X10_passes] at hf
  rw [ok_X10_passes] at hok
  refine g_start hG (plainFor_of_name (by decide)) (Nat.le_of_ble_eq_true rfl) ?_
  intro p e s m args below meth c X hr hlk ls hl H locs hP hS
  have X : Cx G p s m args c cX10_passes 4 RX10 := X
  obtain ⟨hx, hb, hml, hown, hts, hK, hbs, hXW, -⟩ := id X
  have hl : lv_has ls 4 [(0, .ref (G.2.1 196)), (1, .int x1)] := hl
  refine lv_iconst (v := 0) hx hb dX10_passes_0 (by decide) ?_
  refine lv_istore_n (lv' := [(2, .int (0 : Int32)), (0, .ref (G.2.1 196)), (1, .int x1)]) hx hb dX10_passes_1 rfl hl (by decide) rfl (fun ls hl => ?_)
  refine lv_iconst (v := 0) hx hb dX10_passes_2 (by decide) ?_
  refine lv_istore_n (lv' := [(3, .int (0 : Int32)), (2, .int (0 : Int32)), (0, .ref (G.2.1 196)), (1, .int x1)]) hx hb dX10_passes_3 rfl hl (by decide) rfl (fun ls hl => ?_)
  have K4 : ∀ (n4 : Nat) (σ : St) (x1 : Int32) (x2 : Int32) (x3 : Int32), okX10_passes_L4 n4 σ x1 x2 x3 → fX10_passes_L4 n4 σ x1 x2 x3 = fv → ∀ (H : Heap) (locs : List Loc), va_P G.1 vcl (wl G σ) H → va_S (GA G) s.heap H locs → ∀ (ls : Array Slot), lv_has ls 4 [(0, .ref (G.2.1 196)), (1, .int x1), (2, .int x2), (3, .int x3)] → W p l e rm_X10_passes s m args below meth c H locs 0 0 (MQ below (va_Qi (fun r u => (u, r) = fv) (PB G) (GA G)) args s 0 0 (GA G)) (F0 m 4 ls []) := by
    intro n4
    induction n4 with
    | zero =>
      intro σ x1 x2 x3 hok
      exact hok.elim
    | succ n4 ih4 =>
      intro σ x1 x2 x3 hok hf H locs hP hS ls hl
      rw [okX10_passes_L4] at hok
      rw [fX10_passes_L4] at hf
      refine lv_iload_n hx hb dX10_passes_4 rfl (lv_at hl 3 rfl) ?_
      refine lv_iload_n hx hb dX10_passes_5 rfl (lv_at hl 1 rfl) ?_
      refine lv_icmp_ge (tgt := 30) hx hb dX10_passes_6 (by decide) (fun hc => ?_) (fun hc => ?_)
      · have hf := ite_t hc hf
        refine lv_iload_n hx hb dX10_passes_30 rfl (lv_at hl 2 rfl) ?_
        exact g_iret X hr hlk hP hS hf dX10_passes_31
      · have hf := ite_f hc hf
        have hok := hok.2 hc
        refine lv_iload_n hx hb dX10_passes_9 rfl (lv_at hl 2 rfl) ?_
        refine lv_aload_n hx hb dX10_passes_10 rfl (lv_at hl 0 rfl) ?_
        have hs1 := hok.1
        have hok := hok.2
        refine g_cZ (g_runV (i := 196) (As := []) (rest := [.int x2]) X (c_X10_hourEats l G hG σ hs1) ca_X10_hourEats km_X10_211 rfl rfl ⟨Nat.le_of_ble_eq_true rfl, Nat.le_of_ble_eq_true rfl⟩ hP hS (ty_lt ab_196) (cell_10 ab_196) rfl rfl rfl hl.1 rfl (Nat.le_of_ble_eq_true rfl) ⟨Nat.le_of_ble_eq_true rfl, Nat.le_of_ble_eq_true rfl⟩ dX10_passes_11) hS (fun q2 hq2 H locs hP hS => ?_)
        have hf := bnd_go hq2 hf
        have hok := bnd_goP hq2 hok
        refine g_ifeqZ (tgt := 21) X dX10_passes_14 (by decide) (fun hc => ?_) (fun hc => ?_)
        · have hf := ite_z hc hf
          have hok := hok.2 hc
          refine lv_iconst (v := 0) hx hb dX10_passes_21 (by decide) ?_
          refine lv_iadd hx hb dX10_passes_22 ?_
          refine lv_istore_n (lv' := [(2, .int (x2 + (0 : Int32))), (0, .ref (G.2.1 196)), (1, .int x1), (3, .int x3)]) hx hb dX10_passes_23 rfl hl (by decide) rfl (fun ls hl => ?_)
          refine lv_iinc (v := (x3 + (1 : Int32))) (lv' := [(3, .int (x3 + (1 : Int32))), (2, .int (x2 + (0 : Int32))), (0, .ref (G.2.1 196)), (1, .int x1)]) hx hb dX10_passes_24 hl (k := 3) rfl rfl (by decide) rfl (fun ls hl => ?_)
          refine lv_goto (tgt := 4) hx hb dX10_passes_27 (by decide) ?_
          exact ih4 q2.1 x1 (x2 + (0 : Int32)) (x3 + (1 : Int32)) hok hf _ _ hP hS ls (lv_sub hl [2, 3, 1, 0] rfl)
        · have hf := ite_t hc hf
          have hok := hok.1 hc
          refine lv_iconst (v := 1) hx hb dX10_passes_17 (by decide) ?_
          refine lv_goto (tgt := 22) hx hb dX10_passes_18 (by decide) ?_
          refine lv_iadd hx hb dX10_passes_22 ?_
          refine lv_istore_n (lv' := [(2, .int (x2 + (1 : Int32))), (0, .ref (G.2.1 196)), (1, .int x1), (3, .int x3)]) hx hb dX10_passes_23 rfl hl (by decide) rfl (fun ls hl => ?_)
          refine lv_iinc (v := (x3 + (1 : Int32))) (lv' := [(3, .int (x3 + (1 : Int32))), (2, .int (x2 + (1 : Int32))), (0, .ref (G.2.1 196)), (1, .int x1)]) hx hb dX10_passes_24 hl (k := 3) rfl rfl (by decide) rfl (fun ls hl => ?_)
          refine lv_goto (tgt := 4) hx hb dX10_passes_27 (by decide) ?_
          exact ih4 q2.1 x1 (x2 + (1 : Int32)) (x3 + (1 : Int32)) hok hf _ _ hP hS ls (lv_sub hl [2, 3, 1, 0] rfl)
  exact K4 2000 σ x1 (0 : Int32) (0 : Int32) hok hf _ _ hP hS ls (lv_sub hl [2, 3, 1, 0] rfl)
def f_X10_pass (σ : St) (x1 : Int32) : St × Int32 := (bnd (setI σ 196 0 (0 : Int32)) (fun q1 => (if (f_X10_notPass x1) = 0 then (bnd (f_X10_remembers q1) (fun q3 => (bnd (f_X10_passes q3 x1) (fun q5 => (q5.1, q5.2))))) else (bnd (f_X10_fails q1 (1 : Int32)) (fun q6 => (q6.1, q6.2))))))
def ok_X10_pass (σ : St) (x1 : Int32) : Prop := (bndP (setI σ 196 0 (0 : Int32)) (fun q1 => (((f_X10_notPass x1) = 0 → (ok_X10_remembers q1 ∧ (bndP (f_X10_remembers q1) (fun q3 => ok_X10_passes q3 x1)))) ∧ (¬ (f_X10_notPass x1) = 0 → True))))
abbrev rm_X10_pass : Room := { frames := 5, cells := 0, slots := 0, locals := 109 }
set_option maxHeartbeats 4000000 in
set_option maxRecDepth 100000 in
theorem c_X10_pass (l : Launch) (G : GE) (hG : Gok G) (σ : St) (x1 : Int32) (hok : ok_X10_pass σ x1) : MtI l G yX10_pass cX10_pass 2 rm_X10_pass [.ref (G.2.1 196), .int x1] σ (f_X10_pass σ x1) := by
  generalize hf : f_X10_pass σ x1 = fv
  rw [f_X10_pass] at hf
  rw [ok_X10_pass] at hok
  refine g_start hG (plainFor_of_name (by decide)) (Nat.le_of_ble_eq_true rfl) ?_
  intro p e s m args below meth c X hr hlk ls hl H locs hP hS
  have X : Cx G p s m args c cX10_pass 2 RX10 := X
  obtain ⟨hx, hb, hml, hown, hts, hK, hbs, hXW, -⟩ := id X
  have hl : lv_has ls 2 [(0, .ref (G.2.1 196)), (1, .int x1)] := hl
  refine lv_aload_n hx hb dX10_pass_0 rfl (lv_at hl 0 rfl) ?_
  refine lv_iconst (v := 0) hx hb dX10_pass_1 (by decide) ?_
  refine gp_10_0 X hP hS ab_196 kf_X10_50 dX10_pass_2 (fun H locs hP hS => ?_)
  refine g_name hP (fun q1 hq1 hP => ?_)
  have hf := bnd_go hq1 hf
  have hok := bnd_goP hq1 hok
  refine lv_aload_n hx hb dX10_pass_5 rfl (lv_at hl 0 rfl) ?_
  refine lv_iload_n hx hb dX10_pass_6 rfl (lv_at hl 1 rfl) ?_
  refine g_cIp (g_runV (i := 196) (As := [.int x1]) (rest := []) X (c_X10_notPass l G hG q1 x1) ca_X10_notPass km_X10_218 rfl rfl ⟨Nat.le_of_ble_eq_true rfl, Nat.le_of_ble_eq_true rfl⟩ hP hS (ty_lt ab_196) (cell_10 ab_196) rfl rfl rfl hl.1 rfl (Nat.le_of_ble_eq_true rfl) ⟨Nat.le_of_ble_eq_true rfl, Nat.le_of_ble_eq_true rfl⟩ dX10_pass_7) hS (fun H locs hP hS => ?_)
  refine lv_if_eq (tgt := 19) hx hb dX10_pass_10 (by decide) (fun hc => ?_) (fun hc => ?_)
  · have hf := ite_t hc hf
    have hok := hok.1 hc
    refine lv_aload_n hx hb dX10_pass_19 rfl (lv_at hl 0 rfl) ?_
    have hs2 := hok.1
    have hok := hok.2
    refine g_cV (g_runV (i := 196) (As := []) (rest := []) X (c_X10_remembers l G hG q1 hs2) ca_X10_remembers km_X10_95 rfl rfl ⟨Nat.le_of_ble_eq_true rfl, Nat.le_of_ble_eq_true rfl⟩ hP hS (ty_lt ab_196) (cell_10 ab_196) rfl rfl rfl hl.1 rfl (Nat.le_of_ble_eq_true rfl) ⟨Nat.le_of_ble_eq_true rfl, Nat.le_of_ble_eq_true rfl⟩ dX10_pass_20) hS (fun q3 hq3 H locs hP hS => ?_)
    have hf := bnd_go hq3 hf
    have hok := bnd_goP hq3 hok
    refine lv_aload_n hx hb dX10_pass_23 rfl (lv_at hl 0 rfl) ?_
    refine lv_iload_n hx hb dX10_pass_24 rfl (lv_at hl 1 rfl) ?_
    have hs4 := hok
    refine g_cI (g_runV (i := 196) (As := [.int x1]) (rest := []) X (c_X10_passes l G hG q3 x1 hs4) ca_X10_passes km_X10_221 rfl rfl ⟨Nat.le_of_ble_eq_true rfl, Nat.le_of_ble_eq_true rfl⟩ hP hS (ty_lt ab_196) (cell_10 ab_196) rfl rfl rfl hl.1 rfl (Nat.le_of_ble_eq_true rfl) ⟨Nat.le_of_ble_eq_true rfl, Nat.le_of_ble_eq_true rfl⟩ dX10_pass_25) hS (fun q5 hq5 H locs hP hS => ?_)
    have hf := bnd_go hq5 hf
    exact g_iret X hr hlk hP hS hf dX10_pass_28
  · have hf := ite_f hc hf
    refine lv_aload_n hx hb dX10_pass_13 rfl (lv_at hl 0 rfl) ?_
    refine lv_iconst (v := 1) hx hb dX10_pass_14 (by decide) ?_
    refine g_cI (g_runV (i := 196) (As := [.int (1 : Int32)]) (rest := []) X (c_X10_fails l G hG q1 (1 : Int32)) ca_X10_fails km_X10_59 rfl rfl ⟨Nat.le_of_ble_eq_true rfl, Nat.le_of_ble_eq_true rfl⟩ hP hS (ty_lt ab_196) (cell_10 ab_196) rfl rfl rfl hl.1 rfl (Nat.le_of_ble_eq_true rfl) ⟨Nat.le_of_ble_eq_true rfl, Nat.le_of_ble_eq_true rfl⟩ dX10_pass_15) hS (fun q6 hq6 H locs hP hS => ?_)
    have hf := bnd_go hq6 hf
    exact g_iret X hr hlk hP hS hf dX10_pass_18
def f_X10_signOf (x0 : Int32) : Int32 := (if x0 = (0 : Int32) then (109 : Int32) else (if x0 = (1 : Int32) then (115 : Int32) else (if x0 = (2 : Int32) then (104 : Int32) else (if x0 = (3 : Int32) then (116 : Int32) else (101 : Int32)))))
abbrev rm_X10_signOf : Room := { frames := 0, cells := 0, slots := 0, locals := 0 }
set_option maxHeartbeats 4000000 in
set_option maxRecDepth 100000 in
theorem c_X10_signOf (l : Launch) (G : GE) (hG : Gok G) (σ : St) (x0 : Int32) : MtC l G yX10_signOf cX10_signOf 1 rm_X10_signOf [.int x0] σ (σ, f_X10_signOf x0) := by
  generalize hf : f_X10_signOf x0 = fv
  rw [f_X10_signOf] at hf
  refine g_start hG (plainFor_of_name (by decide)) (Nat.le_of_ble_eq_true rfl) ?_
  intro p e s m args below meth c X hr hlk ls hl H locs hP hS
  have X : Cx G p s m args c cX10_signOf 1 RX10 := X
  obtain ⟨hx, hb, hml, hown, hts, hK, hbs, hXW, -⟩ := id X
  have hl : lv_has ls 1 [(0, .int x0)] := hl
  refine lv_iload_n hx hb dX10_signOf_0 rfl (lv_at hl 0 rfl) ?_
  by_cases hd0 : x0 = (0 : Int32)
  · have hf := ite_t hd0 hf
    refine lv_tableIn (off := 31) (tgt := 32) hx hb dX10_signOf_1 (by rw [hd0]; decide) (by rw [hd0]; decide) (by rw [hd0]; rfl) (by decide) ?_
    refine lv_bipush (v := 109) hx hb dX10_signOf_32 (by decide) ?_
    exact g_cret X hr hlk (by first | rfl | exact pk_nc _ | assumption) hP hS (congrArg (Prod.mk σ) hf) dX10_signOf_34
  · have hf := ite_f hd0 hf
    by_cases hd1 : x0 = (1 : Int32)
    · have hf := ite_t hd1 hf
      refine lv_tableIn (off := 34) (tgt := 35) hx hb dX10_signOf_1 (by rw [hd1]; decide) (by rw [hd1]; decide) (by rw [hd1]; rfl) (by decide) ?_
      refine lv_bipush (v := 115) hx hb dX10_signOf_35 (by decide) ?_
      exact g_cret X hr hlk (by first | rfl | exact pk_nc _ | assumption) hP hS (congrArg (Prod.mk σ) hf) dX10_signOf_37
    · have hf := ite_f hd1 hf
      by_cases hd2 : x0 = (2 : Int32)
      · have hf := ite_t hd2 hf
        refine lv_tableIn (off := 37) (tgt := 38) hx hb dX10_signOf_1 (by rw [hd2]; decide) (by rw [hd2]; decide) (by rw [hd2]; rfl) (by decide) ?_
        refine lv_bipush (v := 104) hx hb dX10_signOf_38 (by decide) ?_
        exact g_cret X hr hlk (by first | rfl | exact pk_nc _ | assumption) hP hS (congrArg (Prod.mk σ) hf) dX10_signOf_40
      · have hf := ite_f hd2 hf
        by_cases hd3 : x0 = (3 : Int32)
        · have hf := ite_t hd3 hf
          refine lv_tableIn (off := 40) (tgt := 41) hx hb dX10_signOf_1 (by rw [hd3]; decide) (by rw [hd3]; decide) (by rw [hd3]; rfl) (by decide) ?_
          refine lv_bipush (v := 116) hx hb dX10_signOf_41 (by decide) ?_
          exact g_cret X hr hlk (by first | rfl | exact pk_nc _ | assumption) hP hS (congrArg (Prod.mk σ) hf) dX10_signOf_43
        · have hf := ite_f hd3 hf
          refine lv_tableOut (tgt := 44) hx hb dX10_signOf_1 (by have z0 : x0.toInt ≠ 0 := sw_ne hd0; have z1 : x0.toInt ≠ 1 := sw_ne hd1; have z2 : x0.toInt ≠ 2 := sw_ne hd2; have z3 : x0.toInt ≠ 3 := sw_ne hd3; show x0.toInt < 0 ∨ 3 < x0.toInt; omega) (by decide) ?_
          refine lv_bipush (v := 101) hx hb dX10_signOf_44 (by decide) ?_
          exact g_cret X hr hlk (by first | rfl | exact pk_nc _ | assumption) hP hS (congrArg (Prod.mk σ) hf) dX10_signOf_46
theorem nar_signOf (x : Int32) : narrow .char (.int (f_X10_signOf x)) = .int (f_X10_signOf x) := by
  unfold f_X10_signOf
  repeat' split
  all_goals rfl
def f_X10_sign (σ : St) (x1 : Int32) : St × Int32 := (bnd (setI σ 196 0 (0 : Int32)) (fun q1 => (if (f_X10_isItem q1 x1) = true then (if (f_X10_isLetter q1 x1) = true then (q1, (f_X10_signOf (f_X10_of q1 x1 (4 : Int32)))) else (q1, ((((f_X10_signOf (f_X10_of q1 x1 (4 : Int32))) - (32 : Int32))).toUInt32 % 65536).toInt32)) else (bnd (f_X10_fails q1 (1 : Int32)) (fun q5 => (q5.1, ((q5.2).toUInt32 % 65536).toInt32))))))
def ok_X10_sign (σ : St) (x1 : Int32) : Prop := (bndP (setI σ 196 0 (0 : Int32)) (fun q1 => (((f_X10_isItem q1 x1) = true → (ok_X10_isLetter q1 x1 ∧ (((f_X10_isLetter q1 x1) = true → ok_X10_of q1 x1 (4 : Int32)) ∧ ((f_X10_isLetter q1 x1) = false → ok_X10_of q1 x1 (4 : Int32))))) ∧ ((f_X10_isItem q1 x1) = false → True))))
abbrev rm_X10_sign : Room := { frames := 2, cells := 0, slots := 0, locals := 43 }
set_option maxHeartbeats 4000000 in
set_option maxRecDepth 100000 in
theorem c_X10_sign (l : Launch) (G : GE) (hG : Gok G) (σ : St) (x1 : Int32) (hok : ok_X10_sign σ x1) : MtC l G yX10_sign cX10_sign 2 rm_X10_sign [.ref (G.2.1 196), .int x1] σ (f_X10_sign σ x1) := by
  generalize hf : f_X10_sign σ x1 = fv
  rw [f_X10_sign] at hf
  rw [ok_X10_sign] at hok
  refine g_start hG (plainFor_of_name (by decide)) (Nat.le_of_ble_eq_true rfl) ?_
  intro p e s m args below meth c X hr hlk ls hl H locs hP hS
  have X : Cx G p s m args c cX10_sign 2 RX10 := X
  obtain ⟨hx, hb, hml, hown, hts, hK, hbs, hXW, -⟩ := id X
  have hl : lv_has ls 2 [(0, .ref (G.2.1 196)), (1, .int x1)] := hl
  refine lv_aload_n hx hb dX10_sign_0 rfl (lv_at hl 0 rfl) ?_
  refine lv_iconst (v := 0) hx hb dX10_sign_1 (by decide) ?_
  refine gp_10_0 X hP hS ab_196 kf_X10_50 dX10_sign_2 (fun H locs hP hS => ?_)
  refine g_name hP (fun q1 hq1 hP => ?_)
  have hf := bnd_go hq1 hf
  have hok := bnd_goP hq1 hok
  refine lv_aload_n hx hb dX10_sign_5 rfl (lv_at hl 0 rfl) ?_
  refine lv_iload_n hx hb dX10_sign_6 rfl (lv_at hl 1 rfl) ?_
  refine g_cZp (g_runV (i := 196) (As := [.int x1]) (rest := []) X (c_X10_isItem l G hG q1 x1) ca_X10_isItem km_X10_136 rfl rfl ⟨Nat.le_of_ble_eq_true rfl, Nat.le_of_ble_eq_true rfl⟩ hP hS (ty_lt ab_196) (cell_10 ab_196) rfl rfl rfl hl.1 rfl (Nat.le_of_ble_eq_true rfl) ⟨Nat.le_of_ble_eq_true rfl, Nat.le_of_ble_eq_true rfl⟩ dX10_sign_7) hS (fun H locs hP hS => ?_)
  refine g_ifneZ (tgt := 20) X dX10_sign_10 (by decide) (fun hc => ?_) (fun hc => ?_)
  · have hf := ite_t hc hf
    have hok := hok.1 hc
    refine lv_aload_n hx hb dX10_sign_20 rfl (lv_at hl 0 rfl) ?_
    refine lv_iload_n hx hb dX10_sign_21 rfl (lv_at hl 1 rfl) ?_
    have hs2 := hok.1
    have hok := hok.2
    refine g_cZp (g_runV (i := 196) (As := [.int x1]) (rest := []) X (c_X10_isLetter l G hG q1 x1 hs2) ca_X10_isLetter km_X10_139 rfl rfl ⟨Nat.le_of_ble_eq_true rfl, Nat.le_of_ble_eq_true rfl⟩ hP hS (ty_lt ab_196) (cell_10 ab_196) rfl rfl rfl hl.1 rfl (Nat.le_of_ble_eq_true rfl) ⟨Nat.le_of_ble_eq_true rfl, Nat.le_of_ble_eq_true rfl⟩ dX10_sign_22) hS (fun H locs hP hS => ?_)
    refine g_ifeqZ (tgt := 40) X dX10_sign_25 (by decide) (fun hc => ?_) (fun hc => ?_)
    · have hf := ite_z hc hf
      have hok := hok.2 hc
      refine lv_aload_n hx hb dX10_sign_40 rfl (lv_at hl 0 rfl) ?_
      refine lv_iload_n hx hb dX10_sign_41 rfl (lv_at hl 1 rfl) ?_
      refine lv_iconst (v := 4) hx hb dX10_sign_42 (by decide) ?_
      have hs3 := hok
      refine g_cIp (g_runV (i := 196) (As := [.int x1, .int (4 : Int32)]) (rest := []) X (c_X10_of l G hG q1 x1 (4 : Int32) hs3) ca_X10_of km_X10_85 rfl rfl ⟨Nat.le_of_ble_eq_true rfl, Nat.le_of_ble_eq_true rfl⟩ hP hS (ty_lt ab_196) (cell_10 ab_196) rfl rfl rfl hl.1 rfl (Nat.le_of_ble_eq_true rfl) ⟨Nat.le_of_ble_eq_true rfl, Nat.le_of_ble_eq_true rfl⟩ dX10_sign_43) hS (fun H locs hP hS => ?_)
      refine g_cIp (g_runS (As := [.int (f_X10_of q1 x1 (4 : Int32))]) (rest := []) X (c_X10_signOf l G hG q1 (f_X10_of q1 x1 (4 : Int32))) ca_X10_signOf km_X10_224 rfl rfl ⟨Nat.le_of_ble_eq_true rfl, Nat.le_of_ble_eq_true rfl⟩ hP hS rfl hl.1 rfl (Nat.le_of_ble_eq_true rfl) ⟨Nat.le_of_ble_eq_true rfl, Nat.le_of_ble_eq_true rfl⟩ dX10_sign_46) hS (fun H locs hP hS => ?_)
      refine lv_bipush (v := 32) hx hb dX10_sign_49 (by decide) ?_
      refine lv_isub hx hb dX10_sign_51 ?_
      refine lv_i2c (v := ((((f_X10_signOf (f_X10_of q1 x1 (4 : Int32))) - (32 : Int32))).toUInt32 % 65536).toInt32) hx hb dX10_sign_52 rfl ?_
      exact g_cret X hr hlk (by first | rfl | exact pk_nc _ | exact nar_signOf _ | assumption) hP hS hf dX10_sign_53
    · have hf := ite_t hc hf
      have hok := hok.1 hc
      refine lv_aload_n hx hb dX10_sign_28 rfl (lv_at hl 0 rfl) ?_
      refine lv_iload_n hx hb dX10_sign_29 rfl (lv_at hl 1 rfl) ?_
      refine lv_iconst (v := 4) hx hb dX10_sign_30 (by decide) ?_
      have hs4 := hok
      refine g_cIp (g_runV (i := 196) (As := [.int x1, .int (4 : Int32)]) (rest := []) X (c_X10_of l G hG q1 x1 (4 : Int32) hs4) ca_X10_of km_X10_85 rfl rfl ⟨Nat.le_of_ble_eq_true rfl, Nat.le_of_ble_eq_true rfl⟩ hP hS (ty_lt ab_196) (cell_10 ab_196) rfl rfl rfl hl.1 rfl (Nat.le_of_ble_eq_true rfl) ⟨Nat.le_of_ble_eq_true rfl, Nat.le_of_ble_eq_true rfl⟩ dX10_sign_31) hS (fun H locs hP hS => ?_)
      refine g_cIp (g_runS (As := [.int (f_X10_of q1 x1 (4 : Int32))]) (rest := []) X (c_X10_signOf l G hG q1 (f_X10_of q1 x1 (4 : Int32))) ca_X10_signOf km_X10_224 rfl rfl ⟨Nat.le_of_ble_eq_true rfl, Nat.le_of_ble_eq_true rfl⟩ hP hS rfl hl.1 rfl (Nat.le_of_ble_eq_true rfl) ⟨Nat.le_of_ble_eq_true rfl, Nat.le_of_ble_eq_true rfl⟩ dX10_sign_34) hS (fun H locs hP hS => ?_)
      refine lv_goto (tgt := 53) hx hb dX10_sign_37 (by decide) ?_
      exact g_cret X hr hlk (by first | rfl | exact pk_nc _ | exact nar_signOf _ | assumption) hP hS hf dX10_sign_53
  · have hf := ite_z hc hf
    refine lv_aload_n hx hb dX10_sign_13 rfl (lv_at hl 0 rfl) ?_
    refine lv_iconst (v := 1) hx hb dX10_sign_14 (by decide) ?_
    refine g_cI (g_runV (i := 196) (As := [.int (1 : Int32)]) (rest := []) X (c_X10_fails l G hG q1 (1 : Int32)) ca_X10_fails km_X10_59 rfl rfl ⟨Nat.le_of_ble_eq_true rfl, Nat.le_of_ble_eq_true rfl⟩ hP hS (ty_lt ab_196) (cell_10 ab_196) rfl rfl rfl hl.1 rfl (Nat.le_of_ble_eq_true rfl) ⟨Nat.le_of_ble_eq_true rfl, Nat.le_of_ble_eq_true rfl⟩ dX10_sign_15) hS (fun q5 hq5 H locs hP hS => ?_)
    have hf := bnd_go hq5 hf
    refine lv_i2c (v := ((q5.2).toUInt32 % 65536).toInt32) hx hb dX10_sign_18 rfl ?_
    exact g_cret X hr hlk (by first | rfl | exact pk_nc _ | exact nar_signOf _ | assumption) hP hS hf dX10_sign_19
