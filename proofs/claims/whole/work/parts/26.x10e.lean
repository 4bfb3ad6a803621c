def fX10_letters_L4 (σ : St) : Nat → Int32 → Int32 → Int32
  | 0, _, _ => 0
  | n4 + 1, x1, x2 => (if (σ.1 197 (2 : Int32).toNatClampNeg) ≤ x2 then x1 else (if (f_X10_isLetter σ x2) = true then (fX10_letters_L4 σ n4 (x1 + (1 : Int32)) (x2 + (1 : Int32))) else (fX10_letters_L4 σ n4 (x1 + (0 : Int32)) (x2 + (1 : Int32)))))
def okX10_letters_L4 (σ : St) : Nat → Int32 → Int32 → Prop
  | 0, _, _ => False
  | n4 + 1, x1, x2 => (((σ.1 197 (2 : Int32).toNatClampNeg) ≤ x2 → True) ∧ (¬ (σ.1 197 (2 : Int32).toNatClampNeg) ≤ x2 → (ok_X10_isLetter σ x2 ∧ (((f_X10_isLetter σ x2) = true → (okX10_letters_L4 σ n4 (x1 + (1 : Int32)) (x2 + (1 : Int32)))) ∧ ((f_X10_isLetter σ x2) = false → (okX10_letters_L4 σ n4 (x1 + (0 : Int32)) (x2 + (1 : Int32))))))))
def f_X10_letters (σ : St) : Int32 := (fX10_letters_L4 σ 2000 (0 : Int32) (0 : Int32))
def ok_X10_letters (σ : St) : Prop := (okX10_letters_L4 σ 2000 (0 : Int32) (0 : Int32))
abbrev rm_X10_letters : Room := { frames := 2, cells := 0, slots := 0, locals := 43 }
set_option maxHeartbeats 4000000 in
set_option maxRecDepth 100000 in
theorem c_X10_letters (l : Launch) (G : GE) (hG : Gok G) (σ : St) (hok : ok_X10_letters σ) : MtI l G yX10_letters cX10_letters 3 rm_X10_letters [.ref (G.2.1 196)] σ (σ, f_X10_letters σ) := by
  generalize hf : f_X10_letters σ = fv
  rw [f_X10_letters] at hf
  rw [ok_X10_letters] at hok
  refine g_start hG (plainFor_of_name (by decide)) (Nat.le_of_ble_eq_true rfl) ?_
  intro p e s m args below meth c X hr hlk ls hl H locs hP hS
  have X : Cx G p s m args c cX10_letters 3 RX10 := X
  obtain ⟨hx, hb, hml, hown, hts, hK, hbs, hXW, -⟩ := id X
  have hl : lv_has ls 3 [(0, .ref (G.2.1 196))] := hl
  refine lv_iconst (v := 0) hx hb dX10_letters_0 (by decide) ?_
  refine lv_istore_n (lv' := [(1, .int (0 : Int32)), (0, .ref (G.2.1 196))]) hx hb dX10_letters_1 rfl hl (by decide) rfl (fun ls hl => ?_)
  refine lv_iconst (v := 0) hx hb dX10_letters_2 (by decide) ?_
  refine lv_istore_n (lv' := [(2, .int (0 : Int32)), (1, .int (0 : Int32)), (0, .ref (G.2.1 196))]) hx hb dX10_letters_3 rfl hl (by decide) rfl (fun ls hl => ?_)
  have K4 : ∀ (n4 : Nat) (x1 : Int32) (x2 : Int32), okX10_letters_L4 σ n4 x1 x2 → fX10_letters_L4 σ n4 x1 x2 = fv → ∀ (H : Heap) (locs : List Loc), va_P G.1 vcl (wl G σ) H → va_S (GA G) s.heap H locs → ∀ (ls : Array Slot), lv_has ls 3 [(0, .ref (G.2.1 196)), (1, .int x1), (2, .int x2)] → W p l e rm_X10_letters s m args below meth c H locs 0 0 (MQ below (va_Qi (fun r u => (u, r) = (σ, fv)) (PB G) (GA G)) args s 0 0 (GA G)) (F0 m 4 ls []) := by
    intro n4
    induction n4 with
    | zero =>
      intro x1 x2 hok
      exact hok.elim
    | succ n4 ih4 =>
      intro x1 x2 hok hf H locs hP hS ls hl
      rw [okX10_letters_L4] at hok
      rw [fX10_letters_L4] at hf
      refine lv_iload_n hx hb dX10_letters_4 rfl (lv_at hl 2 rfl) ?_
      refine lv_aload_n hx hb dX10_letters_5 rfl (lv_at hl 0 rfl) ?_
      refine gg_10_5 X hP ab_196 kf_X10_7 dX10_letters_6 ?_
      refine lv_iconst (v := 2) hx hb dX10_letters_9 (by decide) ?_
      refine g_iald X hP ab_197 (by rw [al_197]; unfold vp_in; decide) dX10_letters_10 ?_
      refine lv_icmp_ge (tgt := 36) hx hb dX10_letters_11 (by decide) (fun hc => ?_) (fun hc => ?_)
      · have hf := ite_t hc hf
        refine lv_iload_n hx hb dX10_letters_36 rfl (lv_at hl 1 rfl) ?_
        exact g_iret X hr hlk hP hS (congrArg (Prod.mk σ) hf) dX10_letters_37
      · have hf := ite_f hc hf
        have hok := hok.2 hc
        refine lv_iload_n hx hb dX10_letters_14 rfl (lv_at hl 1 rfl) ?_
        refine lv_aload_n hx hb dX10_letters_15 rfl (lv_at hl 0 rfl) ?_
        refine lv_iload_n hx hb dX10_letters_16 rfl (lv_at hl 2 rfl) ?_
        have hs1 := hok.1
        have hok := hok.2
        refine g_cZp (g_runV (i := 196) (As := [.int x2]) (rest := [.int x1]) X (c_X10_isLetter l G hG σ x2 hs1) ca_X10_isLetter km_X10_139 rfl rfl ⟨Nat.le_of_ble_eq_true rfl, Nat.le_of_ble_eq_true rfl⟩ hP hS (ty_lt ab_196) (cell_10 ab_196) rfl rfl rfl hl.1 rfl (Nat.le_of_ble_eq_true rfl) ⟨Nat.le_of_ble_eq_true rfl, Nat.le_of_ble_eq_true rfl⟩ dX10_letters_17) hS (fun H locs hP hS => ?_)
        refine g_ifeqZ (tgt := 27) X dX10_letters_20 (by decide) (fun hc => ?_) (fun hc => ?_)
        · have hf := ite_z hc hf
          have hok := hok.2 hc
          refine lv_iconst (v := 0) hx hb dX10_letters_27 (by decide) ?_
          refine lv_iadd hx hb dX10_letters_28 ?_
          refine lv_istore_n (lv' := [(1, .int (x1 + (0 : Int32))), (0, .ref (G.2.1 196)), (2, .int x2)]) hx hb dX10_letters_29 rfl hl (by decide) rfl (fun ls hl => ?_)
          refine lv_iinc (v := (x2 + (1 : Int32))) (lv' := [(2, .int (x2 + (1 : Int32))), (1, .int (x1 + (0 : Int32))), (0, .ref (G.2.1 196))]) hx hb dX10_letters_30 hl (k := 2) rfl rfl (by decide) rfl (fun ls hl => ?_)
          refine lv_goto (tgt := 4) hx hb dX10_letters_33 (by decide) ?_
          exact ih4 (x1 + (0 : Int32)) (x2 + (1 : Int32)) hok hf _ _ hP hS ls (lv_sub hl [2, 1, 0] rfl)
        · have hf := ite_t hc hf
          have hok := hok.1 hc
          refine lv_iconst (v := 1) hx hb dX10_letters_23 (by decide) ?_
          refine lv_goto (tgt := 28) hx hb dX10_letters_24 (by decide) ?_
          refine lv_iadd hx hb dX10_letters_28 ?_
          refine lv_istore_n (lv' := [(1, .int (x1 + (1 : Int32))), (0, .ref (G.2.1 196)), (2, .int x2)]) hx hb dX10_letters_29 rfl hl (by decide) rfl (fun ls hl => ?_)
          refine lv_iinc (v := (x2 + (1 : Int32))) (lv' := [(2, .int (x2 + (1 : Int32))), (1, .int (x1 + (1 : Int32))), (0, .ref (G.2.1 196))]) hx hb dX10_letters_30 hl (k := 2) rfl rfl (by decide) rfl (fun ls hl => ?_)
          refine lv_goto (tgt := 4) hx hb dX10_letters_33 (by decide) ?_
          exact ih4 (x1 + (1 : Int32)) (x2 + (1 : Int32)) hok hf _ _ hP hS ls (lv_sub hl [2, 1, 0] rfl)
  exact K4 2000 (0 : Int32) (0 : Int32) hok hf _ _ hP hS ls (lv_sub hl [2, 1, 0] rfl)
def fX10_itemsIn_L4 (σ : St) : Nat → Int32 → Int32 → Int32 → Int32
  | 0, _, _, _ => 0
  | n4 + 1, x1, x2, x3 => (if (σ.1 197 (2 : Int32).toNatClampNeg) ≤ x3 then x2 else (if (f_X10_of σ x3 (4 : Int32)) = x1 then (fX10_itemsIn_L4 σ n4 x1 (x2 + (1 : Int32)) (x3 + (1 : Int32))) else (fX10_itemsIn_L4 σ n4 x1 (x2 + (0 : Int32)) (x3 + (1 : Int32)))))
def okX10_itemsIn_L4 (σ : St) : Nat → Int32 → Int32 → Int32 → Prop
  | 0, _, _, _ => False
  | n4 + 1, x1, x2, x3 => (((σ.1 197 (2 : Int32).toNatClampNeg) ≤ x3 → True) ∧ (¬ (σ.1 197 (2 : Int32).toNatClampNeg) ≤ x3 → (ok_X10_of σ x3 (4 : Int32) ∧ (((f_X10_of σ x3 (4 : Int32)) = x1 → (okX10_itemsIn_L4 σ n4 x1 (x2 + (1 : Int32)) (x3 + (1 : Int32)))) ∧ (¬ (f_X10_of σ x3 (4 : Int32)) = x1 → (okX10_itemsIn_L4 σ n4 x1 (x2 + (0 : Int32)) (x3 + (1 : Int32))))))))
def f_X10_itemsIn (σ : St) (x1 : Int32) : Int32 := (fX10_itemsIn_L4 σ 2000 x1 (0 : Int32) (0 : Int32))
def ok_X10_itemsIn (σ : St) (x1 : Int32) : Prop := (okX10_itemsIn_L4 σ 2000 x1 (0 : Int32) (0 : Int32))
abbrev rm_X10_itemsIn : Room := { frames := 1, cells := 0, slots := 0, locals := 22 }
set_option maxHeartbeats 4000000 in
set_option maxRecDepth 100000 in
theorem c_X10_itemsIn (l : Launch) (G : GE) (hG : Gok G) (σ : St) (x1 : Int32) (hok : ok_X10_itemsIn σ x1) : MtI l G yX10_itemsIn cX10_itemsIn 4 rm_X10_itemsIn [.ref (G.2.1 196), .int x1] σ (σ, f_X10_itemsIn σ x1) := by
  generalize hf : f_X10_itemsIn σ x1 = fv
  rw [f_X10_itemsIn] at hf
  rw [ok_X10_itemsIn] at hok
  refine g_start hG (plainFor_of_name (by decide)) (Nat.le_of_ble_eq_true rfl) ?_
  intro p e s m args below meth c X hr hlk ls hl H locs hP hS
  have X : Cx G p s m args c cX10_itemsIn 4 RX10 := X
  obtain ⟨hx, hb, hml, hown, hts, hK, hbs, hXW, -⟩ := id X
  have hl : lv_has ls 4 [(0, .ref (G.2.1 196)), (1, .int x1)] := hl
  refine lv_iconst (v := 0) hx hb dX10_itemsIn_0 (by decide) ?_
  refine lv_istore_n (lv' := [(2, .int (0 : Int32)), (0, .ref (G.2.1 196)), (1, .int x1)]) hx hb dX10_itemsIn_1 rfl hl (by decide) rfl (fun ls hl => ?_)
  refine lv_iconst (v := 0) hx hb dX10_itemsIn_2 (by decide) ?_
  refine lv_istore_n (lv' := [(3, .int (0 : Int32)), (2, .int (0 : Int32)), (0, .ref (G.2.1 196)), (1, .int x1)]) hx hb dX10_itemsIn_3 rfl hl (by decide) rfl (fun ls hl => ?_)
  have K4 : ∀ (n4 : Nat) (x1 : Int32) (x2 : Int32) (x3 : Int32), okX10_itemsIn_L4 σ n4 x1 x2 x3 → fX10_itemsIn_L4 σ n4 x1 x2 x3 = fv → ∀ (H : Heap) (locs : List Loc), va_P G.1 vcl (wl G σ) H → va_S (GA G) s.heap H locs → ∀ (ls : Array Slot), lv_has ls 4 [(0, .ref (G.2.1 196)), (1, .int x1), (2, .int x2), (3, .int x3)] → W p l e rm_X10_itemsIn s m args below meth c H locs 0 0 (MQ below (va_Qi (fun r u => (u, r) = (σ, fv)) (PB G) (GA G)) args s 0 0 (GA G)) (F0 m 4 ls []) := by
    intro n4
    induction n4 with
    | zero =>
      intro x1 x2 x3 hok
      exact hok.elim
    | succ n4 ih4 =>
      intro x1 x2 x3 hok hf H locs hP hS ls hl
      rw [okX10_itemsIn_L4] at hok
      rw [fX10_itemsIn_L4] at hf
      refine lv_iload_n hx hb dX10_itemsIn_4 rfl (lv_at hl 3 rfl) ?_
      refine lv_aload_n hx hb dX10_itemsIn_5 rfl (lv_at hl 0 rfl) ?_
      refine gg_10_5 X hP ab_196 kf_X10_7 dX10_itemsIn_6 ?_
      refine lv_iconst (v := 2) hx hb dX10_itemsIn_9 (by decide) ?_
      refine g_iald X hP ab_197 (by rw [al_197]; unfold vp_in; decide) dX10_itemsIn_10 ?_
      refine lv_icmp_ge (tgt := 38) hx hb dX10_itemsIn_11 (by decide) (fun hc => ?_) (fun hc => ?_)
      · have hf := ite_t hc hf
        refine lv_iload_n hx hb dX10_itemsIn_38 rfl (lv_at hl 2 rfl) ?_
        exact g_iret X hr hlk hP hS (congrArg (Prod.mk σ) hf) dX10_itemsIn_39
      · have hf := ite_f hc hf
        have hok := hok.2 hc
        refine lv_iload_n hx hb dX10_itemsIn_14 rfl (lv_at hl 2 rfl) ?_
        refine lv_aload_n hx hb dX10_itemsIn_15 rfl (lv_at hl 0 rfl) ?_
        refine lv_iload_n hx hb dX10_itemsIn_16 rfl (lv_at hl 3 rfl) ?_
        refine lv_iconst (v := 4) hx hb dX10_itemsIn_17 (by decide) ?_
        have hs1 := hok.1
        have hok := hok.2
        refine g_cIp (g_runV (i := 196) (As := [.int x3, .int (4 : Int32)]) (rest := [.int x2]) X (c_X10_of l G hG σ x3 (4 : Int32) hs1) ca_X10_of km_X10_85 rfl rfl ⟨Nat.le_of_ble_eq_true rfl, Nat.le_of_ble_eq_true rfl⟩ hP hS (ty_lt ab_196) (cell_10 ab_196) rfl rfl rfl hl.1 rfl (Nat.le_of_ble_eq_true rfl) ⟨Nat.le_of_ble_eq_true rfl, Nat.le_of_ble_eq_true rfl⟩ dX10_itemsIn_18) hS (fun H locs hP hS => ?_)
        refine lv_iload_n hx hb dX10_itemsIn_21 rfl (lv_at hl 1 rfl) ?_
        refine lv_icmp_ne (tgt := 29) hx hb dX10_itemsIn_22 (by decide) (fun hc => ?_) (fun hc => ?_)
        · have hf := ite_f hc hf
          have hok := hok.2 hc
          refine lv_iconst (v := 0) hx hb dX10_itemsIn_29 (by decide) ?_
          refine lv_iadd hx hb dX10_itemsIn_30 ?_
          refine lv_istore_n (lv' := [(2, .int (x2 + (0 : Int32))), (0, .ref (G.2.1 196)), (1, .int x1), (3, .int x3)]) hx hb dX10_itemsIn_31 rfl hl (by decide) rfl (fun ls hl => ?_)
          refine lv_iinc (v := (x3 + (1 : Int32))) (lv' := [(3, .int (x3 + (1 : Int32))), (2, .int (x2 + (0 : Int32))), (0, .ref (G.2.1 196)), (1, .int x1)]) hx hb dX10_itemsIn_32 hl (k := 3) rfl rfl (by decide) rfl (fun ls hl => ?_)
          refine lv_goto (tgt := 4) hx hb dX10_itemsIn_35 (by decide) ?_
          exact ih4 x1 (x2 + (0 : Int32)) (x3 + (1 : Int32)) hok hf _ _ hP hS ls (lv_sub hl [2, 3, 1, 0] rfl)
        · have hf := ite_t hc hf
          have hok := hok.1 hc
          refine lv_iconst (v := 1) hx hb dX10_itemsIn_25 (by decide) ?_
          refine lv_goto (tgt := 30) hx hb dX10_itemsIn_26 (by decide) ?_
          refine lv_iadd hx hb dX10_itemsIn_30 ?_
          refine lv_istore_n (lv' := [(2, .int (x2 + (1 : Int32))), (0, .ref (G.2.1 196)), (1, .int x1), (3, .int x3)]) hx hb dX10_itemsIn_31 rfl hl (by decide) rfl (fun ls hl => ?_)
          refine lv_iinc (v := (x3 + (1 : Int32))) (lv' := [(3, .int (x3 + (1 : Int32))), (2, .int (x2 + (1 : Int32))), (0, .ref (G.2.1 196)), (1, .int x1)]) hx hb dX10_itemsIn_32 hl (k := 3) rfl rfl (by decide) rfl (fun ls hl => ?_)
          refine lv_goto (tgt := 4) hx hb dX10_itemsIn_35 (by decide) ?_
          exact ih4 x1 (x2 + (1 : Int32)) (x3 + (1 : Int32)) hok hf _ _ hP hS ls (lv_sub hl [2, 3, 1, 0] rfl)
  exact K4 2000 x1 (0 : Int32) (0 : Int32) hok hf _ _ hP hS ls (lv_sub hl [2, 3, 1, 0] rfl)
def fX10_allWords_L4 (σ : St) : Nat → Int32 → Int32 → Int32
  | 0, _, _ => 0
  | n4 + 1, x1, x2 => (if (σ.1 197 (2 : Int32).toNatClampNeg) ≤ x2 then x1 else (if (f_X10_isLetter σ x2) = true then (fX10_allWords_L4 σ n4 (x1 + (f_X10_of σ x2 (3 : Int32))) (x2 + (1 : Int32))) else (fX10_allWords_L4 σ n4 (x1 + (0 : Int32)) (x2 + (1 : Int32)))))
def okX10_allWords_L4 (σ : St) : Nat → Int32 → Int32 → Prop
  | 0, _, _ => False
  | n4 + 1, x1, x2 => (((σ.1 197 (2 : Int32).toNatClampNeg) ≤ x2 → True) ∧ (¬ (σ.1 197 (2 : Int32).toNatClampNeg) ≤ x2 → (ok_X10_isLetter σ x2 ∧ (((f_X10_isLetter σ x2) = true → (ok_X10_of σ x2 (3 : Int32) ∧ (okX10_allWords_L4 σ n4 (x1 + (f_X10_of σ x2 (3 : Int32))) (x2 + (1 : Int32))))) ∧ ((f_X10_isLetter σ x2) = false → (okX10_allWords_L4 σ n4 (x1 + (0 : Int32)) (x2 + (1 : Int32))))))))
def f_X10_allWords (σ : St) : Int32 := (fX10_allWords_L4 σ 2000 (0 : Int32) (0 : Int32))
def ok_X10_allWords (σ : St) : Prop := (okX10_allWords_L4 σ 2000 (0 : Int32) (0 : Int32))
abbrev rm_X10_allWords : Room := { frames := 2, cells := 0, slots := 0, locals := 43 }
set_option maxHeartbeats 4000000 in
set_option maxRecDepth 100000 in
theorem c_X10_allWords (l : Launch) (G : GE) (hG : Gok G) (σ : St) (hok : ok_X10_allWords σ) : MtI l G yX10_allWords cX10_allWords 3 rm_X10_allWords [.ref (G.2.1 196)] σ (σ, f_X10_allWords σ) := by
  generalize hf : f_X10_allWords σ = fv
  rw [f_X10_allWords] at hf
  rw [ok_X10_allWords] at hok
  refine g_start hG (plainFor_of_name (by decide)) (Nat.le_of_ble_eq_true rfl) ?_
  intro p e s m args below meth c X hr hlk ls hl H locs hP hS
  have X : Cx G p s m args c cX10_allWords 3 RX10 := X
  obtain ⟨hx, hb, hml, hown, hts, hK, hbs, hXW, -⟩ := id X
  have hl : lv_has ls 3 [(0, .ref (G.2.1 196))] := hl
  refine lv_iconst (v := 0) hx hb dX10_allWords_0 (by decide) ?_
  refine lv_istore_n (lv' := [(1, .int (0 : Int32)), (0, .ref (G.2.1 196))]) hx hb dX10_allWords_1 rfl hl (by decide) rfl (fun ls hl => ?_)
  refine lv_iconst (v := 0) hx hb dX10_allWords_2 (by decide) ?_
  refine lv_istore_n (lv' := [(2, .int (0 : Int32)), (1, .int (0 : Int32)), (0, .ref (G.2.1 196))]) hx hb dX10_allWords_3 rfl hl (by decide) rfl (fun ls hl => ?_)
  have K4 : ∀ (n4 : Nat) (x1 : Int32) (x2 : Int32), okX10_allWords_L4 σ n4 x1 x2 → fX10_allWords_L4 σ n4 x1 x2 = fv → ∀ (H : Heap) (locs : List Loc), va_P G.1 vcl (wl G σ) H → va_S (GA G) s.heap H locs → ∀ (ls : Array Slot), lv_has ls 3 [(0, .ref (G.2.1 196)), (1, .int x1), (2, .int x2)] → W p l e rm_X10_allWords s m args below meth c H locs 0 0 (MQ below (va_Qi (fun r u => (u, r) = (σ, fv)) (PB G) (GA G)) args s 0 0 (GA G)) (F0 m 4 ls []) := by
    intro n4
    induction n4 with
    | zero =>
      intro x1 x2 hok
      exact hok.elim
    | succ n4 ih4 =>
      intro x1 x2 hok hf H locs hP hS ls hl
      rw [okX10_allWords_L4] at hok
      rw [fX10_allWords_L4] at hf
      refine lv_iload_n hx hb dX10_allWords_4 rfl (lv_at hl 2 rfl) ?_
      refine lv_aload_n hx hb dX10_allWords_5 rfl (lv_at hl 0 rfl) ?_
      refine gg_10_5 X hP ab_196 kf_X10_7 dX10_allWords_6 ?_
      refine lv_iconst (v := 2) hx hb dX10_allWords_9 (by decide) ?_
      refine g_iald X hP ab_197 (by rw [al_197]; unfold vp_in; decide) dX10_allWords_10 ?_
      refine lv_icmp_ge (tgt := 41) hx hb dX10_allWords_11 (by decide) (fun hc => ?_) (fun hc => ?_)
      · have hf := ite_t hc hf
        refine lv_iload_n hx hb dX10_allWords_41 rfl (lv_at hl 1 rfl) ?_
        exact g_iret X hr hlk hP hS (congrArg (Prod.mk σ) hf) dX10_allWords_42
      · have hf := ite_f hc hf
        have hok := hok.2 hc
        refine lv_iload_n hx hb dX10_allWords_14 rfl (lv_at hl 1 rfl) ?_
        refine lv_aload_n hx hb dX10_allWords_15 rfl (lv_at hl 0 rfl) ?_
        refine lv_iload_n hx hb dX10_allWords_16 rfl (lv_at hl 2 rfl) ?_
        have hs1 := hok.1
        have hok := hok.2
        refine g_cZp (g_runV (i := 196) (As := [.int x2]) (rest := [.int x1]) X (c_X10_isLetter l G hG σ x2 hs1) ca_X10_isLetter km_X10_139 rfl rfl ⟨Nat.le_of_ble_eq_true rfl, Nat.le_of_ble_eq_true rfl⟩ hP hS (ty_lt ab_196) (cell_10 ab_196) rfl rfl rfl hl.1 rfl (Nat.le_of_ble_eq_true rfl) ⟨Nat.le_of_ble_eq_true rfl, Nat.le_of_ble_eq_true rfl⟩ dX10_allWords_17) hS (fun H locs hP hS => ?_)
        refine g_ifeqZ (tgt := 32) X dX10_allWords_20 (by decide) (fun hc => ?_) (fun hc => ?_)
        · have hf := ite_z hc hf
          have hok := hok.2 hc
          refine lv_iconst (v := 0) hx hb dX10_allWords_32 (by decide) ?_
          refine lv_iadd hx hb dX10_allWords_33 ?_
          refine lv_istore_n (lv' := [(1, .int (x1 + (0 : Int32))), (0, .ref (G.2.1 196)), (2, .int x2)]) hx hb dX10_allWords_34 rfl hl (by decide) rfl (fun ls hl => ?_)
          refine lv_iinc (v := (x2 + (1 : Int32))) (lv' := [(2, .int (x2 + (1 : Int32))), (1, .int (x1 + (0 : Int32))), (0, .ref (G.2.1 196))]) hx hb dX10_allWords_35 hl (k := 2) rfl rfl (by decide) rfl (fun ls hl => ?_)
          refine lv_goto (tgt := 4) hx hb dX10_allWords_38 (by decide) ?_
          exact ih4 (x1 + (0 : Int32)) (x2 + (1 : Int32)) hok hf _ _ hP hS ls (lv_sub hl [2, 1, 0] rfl)
        · have hf := ite_t hc hf
          have hok := hok.1 hc
          refine lv_aload_n hx hb dX10_allWords_23 rfl (lv_at hl 0 rfl) ?_
          refine lv_iload_n hx hb dX10_allWords_24 rfl (lv_at hl 2 rfl) ?_
          refine lv_iconst (v := 3) hx hb dX10_allWords_25 (by decide) ?_
          have hs2 := hok.1
          have hok := hok.2
          refine g_cIp (g_runV (i := 196) (As := [.int x2, .int (3 : Int32)]) (rest := [.int x1]) X (c_X10_of l G hG σ x2 (3 : Int32) hs2) ca_X10_of km_X10_85 rfl rfl ⟨Nat.le_of_ble_eq_true rfl, Nat.le_of_ble_eq_true rfl⟩ hP hS (ty_lt ab_196) (cell_10 ab_196) rfl rfl rfl hl.1 rfl (Nat.le_of_ble_eq_true rfl) ⟨Nat.le_of_ble_eq_true rfl, Nat.le_of_ble_eq_true rfl⟩ dX10_allWords_26) hS (fun H locs hP hS => ?_)
          refine lv_goto (tgt := 33) hx hb dX10_allWords_29 (by decide) ?_
          refine lv_iadd hx hb dX10_allWords_33 ?_
          refine lv_istore_n (lv' := [(1, .int (x1 + (f_X10_of σ x2 (3 : Int32)))), (0, .ref (G.2.1 196)), (2, .int x2)]) hx hb dX10_allWords_34 rfl hl (by decide) rfl (fun ls hl => ?_)
          refine lv_iinc (v := (x2 + (1 : Int32))) (lv' := [(2, .int (x2 + (1 : Int32))), (1, .int (x1 + (f_X10_of σ x2 (3 : Int32)))), (0, .ref (G.2.1 196))]) hx hb dX10_allWords_35 hl (k := 2) rfl rfl (by decide) rfl (fun ls hl => ?_)
          refine lv_goto (tgt := 4) hx hb dX10_allWords_38 (by decide) ?_
          exact ih4 (x1 + (f_X10_of σ x2 (3 : Int32))) (x2 + (1 : Int32)) hok hf _ _ hP hS ls (lv_sub hl [2, 1, 0] rfl)
  exact K4 2000 (0 : Int32) (0 : Int32) hok hf _ _ hP hS ls (lv_sub hl [2, 1, 0] rfl)
def f_X10_account (σ : St) (x1 : Int32) : St × Int32 := (bnd (setI σ 196 0 (0 : Int32)) (fun q1 => (if x1 = (0 : Int32) then (q1, (q1.1 197 x1.toNatClampNeg)) else (if x1 = (1 : Int32) then (q1, (q1.1 197 x1.toNatClampNeg)) else (if x1 = (2 : Int32) then (q1, (q1.1 197 x1.toNatClampNeg)) else (if x1 = (3 : Int32) then (q1, (f_X10_letters q1)) else (if x1 = (4 : Int32) then (q1, (q1.1 197 (3 : Int32).toNatClampNeg)) else (if x1 = (5 : Int32) then (q1, (f_X10_itemsIn q1 (x1 - (5 : Int32)))) else (if x1 = (6 : Int32) then (q1, (f_X10_itemsIn q1 (x1 - (5 : Int32)))) else (if x1 = (7 : Int32) then (q1, (f_X10_itemsIn q1 (x1 - (5 : Int32)))) else (if x1 = (8 : Int32) then (q1, (f_X10_itemsIn q1 (x1 - (5 : Int32)))) else (if x1 = (9 : Int32) then (q1, (f_X10_itemsIn q1 (x1 - (5 : Int32)))) else (if x1 = (10 : Int32) then (q1, (q1.1 197 (4 : Int32).toNatClampNeg)) else (if x1 = (11 : Int32) then (q1, (q1.1 197 (5 : Int32).toNatClampNeg)) else (if x1 = (12 : Int32) then (q1, (f_X10_allWords q1)) else (if x1 = (13 : Int32) then (q1, (q1.1 196 18)) else (if x1 = (14 : Int32) then (q1, (q1.1 196 13)) else (bnd (f_X10_fails q1 (1 : Int32)) (fun q12 => (q12.1, q12.2))))))))))))))))))))
def ok_X10_account (σ : St) (x1 : Int32) : Prop := (bndP (setI σ 196 0 (0 : Int32)) (fun q1 => ((x1 = (0 : Int32) → vp_in x1 146) ∧ (¬ x1 = (0 : Int32) → ((x1 = (1 : Int32) → vp_in x1 146) ∧ (¬ x1 = (1 : Int32) → ((x1 = (2 : Int32) → vp_in x1 146) ∧ (¬ x1 = (2 : Int32) → ((x1 = (3 : Int32) → ok_X10_letters q1) ∧ (¬ x1 = (3 : Int32) → ((x1 = (4 : Int32) → True) ∧ (¬ x1 = (4 : Int32) → ((x1 = (5 : Int32) → ok_X10_itemsIn q1 (x1 - (5 : Int32))) ∧ (¬ x1 = (5 : Int32) → ((x1 = (6 : Int32) → ok_X10_itemsIn q1 (x1 - (5 : Int32))) ∧ (¬ x1 = (6 : Int32) → ((x1 = (7 : Int32) → ok_X10_itemsIn q1 (x1 - (5 : Int32))) ∧ (¬ x1 = (7 : Int32) → ((x1 = (8 : Int32) → ok_X10_itemsIn q1 (x1 - (5 : Int32))) ∧ (¬ x1 = (8 : Int32) → ((x1 = (9 : Int32) → ok_X10_itemsIn q1 (x1 - (5 : Int32))) ∧ (¬ x1 = (9 : Int32) → ((x1 = (10 : Int32) → True) ∧ (¬ x1 = (10 : Int32) → ((x1 = (11 : Int32) → True) ∧ (¬ x1 = (11 : Int32) → ((x1 = (12 : Int32) → ok_X10_allWords q1) ∧ (¬ x1 = (12 : Int32) → True))))))))))))))))))))))))))))
abbrev rm_X10_account : Room := { frames := 3, cells := 0, slots := 0, locals := 65 }
set_option maxHeartbeats 4000000 in
set_option maxRecDepth 100000 in
theorem c_X10_account (l : Launch) (G : GE) (hG : Gok G) (σ : St) (x1 : Int32) (hok : ok_X10_account σ x1) : MtI l G yX10_account cX10_account 2 rm_X10_account [.ref (G.2.1 196), .int x1] σ (f_X10_account σ x1) := by
  generalize hf : f_X10_account σ x1 = fv
  rw [f_X10_account] at hf
  rw [ok_X10_account] at hok
  refine g_start hG (plainFor_of_name (by decide)) (Nat.le_of_ble_eq_true rfl) ?_
  intro p e s m args below meth c X hr hlk ls hl H locs hP hS
  have X : Cx G p s m args c cX10_account 2 RX10 := X
  obtain ⟨hx, hb, hml, hown, hts, hK, hbs, hXW, -⟩ := id X
  have hl : lv_has ls 2 [(0, .ref (G.2.1 196)), (1, .int x1)] := hl
  refine lv_aload_n hx hb dX10_account_0 rfl (lv_at hl 0 rfl) ?_
  refine lv_iconst (v := 0) hx hb dX10_account_1 (by decide) ?_
  refine gp_10_0 X hP hS ab_196 kf_X10_50 dX10_account_2 (fun H locs hP hS => ?_)
  refine g_name hP (fun q1 hq1 hP => ?_)
  have hf := bnd_go hq1 hf
  have hok := bnd_goP hq1 hok
  refine lv_iload_n hx hb dX10_account_5 rfl (lv_at hl 1 rfl) ?_
  by_cases hd0 : x1 = (0 : Int32)
  · have hf := ite_t hd0 hf
    have hok := hok.1 hd0
    refine lv_tableIn (off := 74) (tgt := 80) hx hb dX10_account_6 (by rw [hd0]; decide) (by rw [hd0]; decide) (by rw [hd0]; rfl) (by decide) ?_
    refine lv_aload_n hx hb dX10_account_80 rfl (lv_at hl 0 rfl) ?_
    refine gg_10_5 X hP ab_196 kf_X10_7 dX10_account_81 ?_
    refine lv_iload_n hx hb dX10_account_84 rfl (lv_at hl 1 rfl) ?_
    have hs2 := hok
    refine g_iald X hP ab_197 (by rw [al_197]; exact hs2) dX10_account_85 ?_
    exact g_iret X hr hlk hP hS hf dX10_account_86
  · have hf := ite_f hd0 hf
    have hok := hok.2 hd0
    by_cases hd1 : x1 = (1 : Int32)
    · have hf := ite_t hd1 hf
      have hok := hok.1 hd1
      refine lv_tableIn (off := 74) (tgt := 80) hx hb dX10_account_6 (by rw [hd1]; decide) (by rw [hd1]; decide) (by rw [hd1]; rfl) (by decide) ?_
      refine lv_aload_n hx hb dX10_account_80 rfl (lv_at hl 0 rfl) ?_
      refine gg_10_5 X hP ab_196 kf_X10_7 dX10_account_81 ?_
      refine lv_iload_n hx hb dX10_account_84 rfl (lv_at hl 1 rfl) ?_
      have hs3 := hok
      refine g_iald X hP ab_197 (by rw [al_197]; exact hs3) dX10_account_85 ?_
      exact g_iret X hr hlk hP hS hf dX10_account_86
    · have hf := ite_f hd1 hf
      have hok := hok.2 hd1
      by_cases hd2 : x1 = (2 : Int32)
      · have hf := ite_t hd2 hf
        have hok := hok.1 hd2
        refine lv_tableIn (off := 74) (tgt := 80) hx hb dX10_account_6 (by rw [hd2]; decide) (by rw [hd2]; decide) (by rw [hd2]; rfl) (by decide) ?_
        refine lv_aload_n hx hb dX10_account_80 rfl (lv_at hl 0 rfl) ?_
        refine gg_10_5 X hP ab_196 kf_X10_7 dX10_account_81 ?_
        refine lv_iload_n hx hb dX10_account_84 rfl (lv_at hl 1 rfl) ?_
        have hs4 := hok
        refine g_iald X hP ab_197 (by rw [al_197]; exact hs4) dX10_account_85 ?_
        exact g_iret X hr hlk hP hS hf dX10_account_86
      · have hf := ite_f hd2 hf
        have hok := hok.2 hd2
        by_cases hd3 : x1 = (3 : Int32)
        · have hf := ite_t hd3 hf
          have hok := hok.1 hd3
          refine lv_tableIn (off := 81) (tgt := 87) hx hb dX10_account_6 (by rw [hd3]; decide) (by rw [hd3]; decide) (by rw [hd3]; rfl) (by decide) ?_
          refine lv_aload_n hx hb dX10_account_87 rfl (lv_at hl 0 rfl) ?_
          have hs5 := hok
          refine g_cIp (g_runV (i := 196) (As := []) (rest := []) X (c_X10_letters l G hG q1 hs5) ca_X10_letters km_X10_274 rfl rfl ⟨Nat.le_of_ble_eq_true rfl, Nat.le_of_ble_eq_true rfl⟩ hP hS (ty_lt ab_196) (cell_10 ab_196) rfl rfl rfl hl.1 rfl (Nat.le_of_ble_eq_true rfl) ⟨Nat.le_of_ble_eq_true rfl, Nat.le_of_ble_eq_true rfl⟩ dX10_account_88) hS (fun H locs hP hS => ?_)
          exact g_iret X hr hlk hP hS hf dX10_account_91
        · have hf := ite_f hd3 hf
          have hok := hok.2 hd3
          by_cases hd4 : x1 = (4 : Int32)
          · have hf := ite_t hd4 hf
            refine lv_tableIn (off := 86) (tgt := 92) hx hb dX10_account_6 (by rw [hd4]; decide) (by rw [hd4]; decide) (by rw [hd4]; rfl) (by decide) ?_
            refine lv_aload_n hx hb dX10_account_92 rfl (lv_at hl 0 rfl) ?_
            refine gg_10_5 X hP ab_196 kf_X10_7 dX10_account_93 ?_
            refine lv_iconst (v := 3) hx hb dX10_account_96 (by decide) ?_
            refine g_iald X hP ab_197 (by rw [al_197]; unfold vp_in; decide) dX10_account_97 ?_
            exact g_iret X hr hlk hP hS hf dX10_account_98
          · have hf := ite_f hd4 hf
            have hok := hok.2 hd4
            by_cases hd5 : x1 = (5 : Int32)
            · have hf := ite_t hd5 hf
              have hok := hok.1 hd5
              refine lv_tableIn (off := 93) (tgt := 99) hx hb dX10_account_6 (by rw [hd5]; decide) (by rw [hd5]; decide) (by rw [hd5]; rfl) (by decide) ?_
              refine lv_aload_n hx hb dX10_account_99 rfl (lv_at hl 0 rfl) ?_
              refine lv_iload_n hx hb dX10_account_100 rfl (lv_at hl 1 rfl) ?_
              refine lv_iconst (v := 5) hx hb dX10_account_101 (by decide) ?_
              refine lv_isub hx hb dX10_account_102 ?_
              have hs6 := hok
              refine g_cIp (g_runV (i := 196) (As := [.int (x1 - (5 : Int32))]) (rest := []) X (c_X10_itemsIn l G hG q1 (x1 - (5 : Int32)) hs6) ca_X10_itemsIn km_X10_277 rfl rfl ⟨Nat.le_of_ble_eq_true rfl, Nat.le_of_ble_eq_true rfl⟩ hP hS (ty_lt ab_196) (cell_10 ab_196) rfl rfl rfl hl.1 rfl (Nat.le_of_ble_eq_true rfl) ⟨Nat.le_of_ble_eq_true rfl, Nat.le_of_ble_eq_true rfl⟩ dX10_account_103) hS (fun H locs hP hS => ?_)
              exact g_iret X hr hlk hP hS hf dX10_account_106
            · have hf := ite_f hd5 hf
              have hok := hok.2 hd5
              by_cases hd6 : x1 = (6 : Int32)
              · have hf := ite_t hd6 hf
                have hok := hok.1 hd6
                refine lv_tableIn (off := 93) (tgt := 99) hx hb dX10_account_6 (by rw [hd6]; decide) (by rw [hd6]; decide) (by rw [hd6]; rfl) (by decide) ?_
                refine lv_aload_n hx hb dX10_account_99 rfl (lv_at hl 0 rfl) ?_
                refine lv_iload_n hx hb dX10_account_100 rfl (lv_at hl 1 rfl) ?_
                refine lv_iconst (v := 5) hx hb dX10_account_101 (by decide) ?_
                refine lv_isub hx hb dX10_account_102 ?_
                have hs7 := hok
                refine g_cIp (g_runV (i := 196) (As := [.int (x1 - (5 : Int32))]) (rest := []) X (c_X10_itemsIn l G hG q1 (x1 - (5 : Int32)) hs7) ca_X10_itemsIn km_X10_277 rfl rfl ⟨Nat.le_of_ble_eq_true rfl, Nat.le_of_ble_eq_true rfl⟩ hP hS (ty_lt ab_196) (cell_10 ab_196) rfl rfl rfl hl.1 rfl (Nat.le_of_ble_eq_true rfl) ⟨Nat.le_of_ble_eq_true rfl, Nat.le_of_ble_eq_true rfl⟩ dX10_account_103) hS (fun H locs hP hS => ?_)
                exact g_iret X hr hlk hP hS hf dX10_account_106
              · have hf := ite_f hd6 hf
                have hok := hok.2 hd6
                by_cases hd7 : x1 = (7 : Int32)
                · have hf := ite_t hd7 hf
                  have hok := hok.1 hd7
                  refine lv_tableIn (off := 93) (tgt := 99) hx hb dX10_account_6 (by rw [hd7]; decide) (by rw [hd7]; decide) (by rw [hd7]; rfl) (by decide) ?_
                  refine lv_aload_n hx hb dX10_account_99 rfl (lv_at hl 0 rfl) ?_
                  refine lv_iload_n hx hb dX10_account_100 rfl (lv_at hl 1 rfl) ?_
                  refine lv_iconst (v := 5) hx hb dX10_account_101 (by decide) ?_
                  refine lv_isub hx hb dX10_account_102 ?_
                  have hs8 := hok
                  refine g_cIp (g_runV (i := 196) (As := [.int (x1 - (5 : Int32))]) (rest := []) X (c_X10_itemsIn l G hG q1 (x1 - (5 : Int32)) hs8) ca_X10_itemsIn km_X10_277 rfl rfl ⟨Nat.le_of_ble_eq_true rfl, Nat.le_of_ble_eq_true rfl⟩ hP hS (ty_lt ab_196) (cell_10 ab_196) rfl rfl rfl hl.1 rfl (Nat.le_of_ble_eq_true rfl) ⟨Nat.le_of_ble_eq_true rfl, Nat.le_of_ble_eq_true rfl⟩ dX10_account_103) hS (fun H locs hP hS => ?_)
                  exact g_iret X hr hlk hP hS hf dX10_account_106
                · have hf := ite_f hd7 hf
                  have hok := hok.2 hd7
                  by_cases hd8 : x1 = (8 : Int32)
                  · have hf := ite_t hd8 hf
                    have hok := hok.1 hd8
                    refine lv_tableIn (off := 93) (tgt := 99) hx hb dX10_account_6 (by rw [hd8]; decide) (by rw [hd8]; decide) (by rw [hd8]; rfl) (by decide) ?_
                    refine lv_aload_n hx hb dX10_account_99 rfl (lv_at hl 0 rfl) ?_
                    refine lv_iload_n hx hb dX10_account_100 rfl (lv_at hl 1 rfl) ?_
                    refine lv_iconst (v := 5) hx hb dX10_account_101 (by decide) ?_
                    refine lv_isub hx hb dX10_account_102 ?_
                    have hs9 := hok
                    refine g_cIp (g_runV (i := 196) (As := [.int (x1 - (5 : Int32))]) (rest := []) X (c_X10_itemsIn l G hG q1 (x1 - (5 : Int32)) hs9) ca_X10_itemsIn km_X10_277 rfl rfl ⟨Nat.le_of_ble_eq_true rfl, Nat.le_of_ble_eq_true rfl⟩ hP hS (ty_lt ab_196) (cell_10 ab_196) rfl rfl rfl hl.1 rfl (Nat.le_of_ble_eq_true rfl) ⟨Nat.le_of_ble_eq_true rfl, Nat.le_of_ble_eq_true rfl⟩ dX10_account_103) hS (fun H locs hP hS => ?_)
                    exact g_iret X hr hlk hP hS hf dX10_account_106
                  · have hf := ite_f hd8 hf
                    have hok := hok.2 hd8
                    by_cases hd9 : x1 = (9 : Int32)
                    · have hf := ite_t hd9 hf
                      have hok := hok.1 hd9
                      refine lv_tableIn (off := 93) (tgt := 99) hx hb dX10_account_6 (by rw [hd9]; decide) (by rw [hd9]; decide) (by rw [hd9]; rfl) (by decide) ?_
                      refine lv_aload_n hx hb dX10_account_99 rfl (lv_at hl 0 rfl) ?_
                      refine lv_iload_n hx hb dX10_account_100 rfl (lv_at hl 1 rfl) ?_
                      refine lv_iconst (v := 5) hx hb dX10_account_101 (by decide) ?_
                      refine lv_isub hx hb dX10_account_102 ?_
                      have hs10 := hok
                      refine g_cIp (g_runV (i := 196) (As := [.int (x1 - (5 : Int32))]) (rest := []) X (c_X10_itemsIn l G hG q1 (x1 - (5 : Int32)) hs10) ca_X10_itemsIn km_X10_277 rfl rfl ⟨Nat.le_of_ble_eq_true rfl, Nat.le_of_ble_eq_true rfl⟩ hP hS (ty_lt ab_196) (cell_10 ab_196) rfl rfl rfl hl.1 rfl (Nat.le_of_ble_eq_true rfl) ⟨Nat.le_of_ble_eq_true rfl, Nat.le_of_ble_eq_true rfl⟩ dX10_account_103) hS (fun H locs hP hS => ?_)
                      exact g_iret X hr hlk hP hS hf dX10_account_106
                    · have hf := ite_f hd9 hf
                      have hok := hok.2 hd9
                      by_cases hd10 : x1 = (10 : Int32)
                      · have hf := ite_t hd10 hf
                        refine lv_tableIn (off := 101) (tgt := 107) hx hb dX10_account_6 (by rw [hd10]; decide) (by rw [hd10]; decide) (by rw [hd10]; rfl) (by decide) ?_
                        refine lv_aload_n hx hb dX10_account_107 rfl (lv_at hl 0 rfl) ?_
                        refine gg_10_5 X hP ab_196 kf_X10_7 dX10_account_108 ?_
                        refine lv_iconst (v := 4) hx hb dX10_account_111 (by decide) ?_
                        refine g_iald X hP ab_197 (by rw [al_197]; unfold vp_in; decide) dX10_account_112 ?_
                        exact g_iret X hr hlk hP hS hf dX10_account_113
                      · have hf := ite_f hd10 hf
                        have hok := hok.2 hd10
                        by_cases hd11 : x1 = (11 : Int32)
                        · have hf := ite_t hd11 hf
                          refine lv_tableIn (off := 108) (tgt := 114) hx hb dX10_account_6 (by rw [hd11]; decide) (by rw [hd11]; decide) (by rw [hd11]; rfl) (by decide) ?_
                          refine lv_aload_n hx hb dX10_account_114 rfl (lv_at hl 0 rfl) ?_
                          refine gg_10_5 X hP ab_196 kf_X10_7 dX10_account_115 ?_
                          refine lv_iconst (v := 5) hx hb dX10_account_118 (by decide) ?_
                          refine g_iald X hP ab_197 (by rw [al_197]; unfold vp_in; decide) dX10_account_119 ?_
                          exact g_iret X hr hlk hP hS hf dX10_account_120
                        · have hf := ite_f hd11 hf
                          have hok := hok.2 hd11
                          by_cases hd12 : x1 = (12 : Int32)
                          · have hf := ite_t hd12 hf
                            have hok := hok.1 hd12
                            refine lv_tableIn (off := 115) (tgt := 121) hx hb dX10_account_6 (by rw [hd12]; decide) (by rw [hd12]; decide) (by rw [hd12]; rfl) (by decide) ?_
                            refine lv_aload_n hx hb dX10_account_121 rfl (lv_at hl 0 rfl) ?_
                            have hs11 := hok
                            refine g_cIp (g_runV (i := 196) (As := []) (rest := []) X (c_X10_allWords l G hG q1 hs11) ca_X10_allWords km_X10_280 rfl rfl ⟨Nat.le_of_ble_eq_true rfl, Nat.le_of_ble_eq_true rfl⟩ hP hS (ty_lt ab_196) (cell_10 ab_196) rfl rfl rfl hl.1 rfl (Nat.le_of_ble_eq_true rfl) ⟨Nat.le_of_ble_eq_true rfl, Nat.le_of_ble_eq_true rfl⟩ dX10_account_122) hS (fun H locs hP hS => ?_)
                            exact g_iret X hr hlk hP hS hf dX10_account_125
                          · have hf := ite_f hd12 hf
                            by_cases hd13 : x1 = (13 : Int32)
                            · have hf := ite_t hd13 hf
                              refine lv_tableIn (off := 120) (tgt := 126) hx hb dX10_account_6 (by rw [hd13]; decide) (by rw [hd13]; decide) (by rw [hd13]; rfl) (by decide) ?_
                              refine lv_aload_n hx hb dX10_account_126 rfl (lv_at hl 0 rfl) ?_
                              refine gg_10_18 X hP ab_196 kf_X10_228 dX10_account_127 ?_
                              exact g_iret X hr hlk hP hS hf dX10_account_130
                            · have hf := ite_f hd13 hf
                              by_cases hd14 : x1 = (14 : Int32)
                              · have hf := ite_t hd14 hf
                                refine lv_tableIn (off := 125) (tgt := 131) hx hb dX10_account_6 (by rw [hd14]; decide) (by rw [hd14]; decide) (by rw [hd14]; rfl) (by decide) ?_
                                refine lv_aload_n hx hb dX10_account_131 rfl (lv_at hl 0 rfl) ?_
                                refine gg_10_13 X hP ab_196 kf_X10_69 dX10_account_132 ?_
                                exact g_iret X hr hlk hP hS hf dX10_account_135
                              · have hf := ite_f hd14 hf
                                refine lv_tableOut (tgt := 136) hx hb dX10_account_6 (by have z0 : x1.toInt ≠ 0 := sw_ne hd0; have z1 : x1.toInt ≠ 1 := sw_ne hd1; have z2 : x1.toInt ≠ 2 := sw_ne hd2; have z3 : x1.toInt ≠ 3 := sw_ne hd3; have z4 : x1.toInt ≠ 4 := sw_ne hd4; have z5 : x1.toInt ≠ 5 := sw_ne hd5; have z6 : x1.toInt ≠ 6 := sw_ne hd6; have z7 : x1.toInt ≠ 7 := sw_ne hd7; have z8 : x1.toInt ≠ 8 := sw_ne hd8; have z9 : x1.toInt ≠ 9 := sw_ne hd9; have z10 : x1.toInt ≠ 10 := sw_ne hd10; have z11 : x1.toInt ≠ 11 := sw_ne hd11; have z12 : x1.toInt ≠ 12 := sw_ne hd12; have z13 : x1.toInt ≠ 13 := sw_ne hd13; have z14 : x1.toInt ≠ 14 := sw_ne hd14; show x1.toInt < 0 ∨ 14 < x1.toInt; omega) (by decide) ?_
                                refine lv_aload_n hx hb dX10_account_136 rfl (lv_at hl 0 rfl) ?_
                                refine lv_iconst (v := 1) hx hb dX10_account_137 (by decide) ?_
                                refine g_cI (g_runV (i := 196) (As := [.int (1 : Int32)]) (rest := []) X (c_X10_fails l G hG q1 (1 : Int32)) ca_X10_fails km_X10_59 rfl rfl ⟨Nat.le_of_ble_eq_true rfl, Nat.le_of_ble_eq_true rfl⟩ hP hS (ty_lt ab_196) (cell_10 ab_196) rfl rfl rfl hl.1 rfl (Nat.le_of_ble_eq_true rfl) ⟨Nat.le_of_ble_eq_true rfl, Nat.le_of_ble_eq_true rfl⟩ dX10_account_138) hS (fun q12 hq12 H locs hP hS => ?_)
                                have hf := bnd_go hq12 hf
                                exact g_iret X hr hlk hP hS hf dX10_account_141
def fX10_isWell_L9 (σ : St) : Nat → Bool → Int32 → St × Bool
  | 0, _, _ => (σ, false)
  | n9 + 1, x1, x2 => (if (σ.1 197 (2 : Int32).toNatClampNeg) ≤ x2 then (σ, x1) else (if (f_X10_of σ x2 (4 : Int32)) = (2 : Int32) then (if x1 = true then (if (f_X10_itemIn σ (f_X10_of σ x2 (2 : Int32)) (f_X10_of σ x2 (0 : Int32)) ((f_X10_of σ x2 (5 : Int32)) - (1 : Int32))) = x2 then (if (f_X10_of σ x2 (4 : Int32)) = (4 : Int32) then (if (f_X10_isLetter σ x2) = true then (fX10_isWell_L9 σ n9 true (x2 + (1 : Int32))) else (fX10_isWell_L9 σ n9 false (x2 + (1 : Int32)))) else (fX10_isWell_L9 σ n9 true (x2 + (1 : Int32)))) else (if (f_X10_of σ x2 (4 : Int32)) = (4 : Int32) then (fX10_isWell_L9 σ n9 false (x2 + (1 : Int32))) else (fX10_isWell_L9 σ n9 false (x2 + (1 : Int32))))) else (if (f_X10_of σ x2 (4 : Int32)) = (4 : Int32) then (fX10_isWell_L9 σ n9 false (x2 + (1 : Int32))) else (fX10_isWell_L9 σ n9 false (x2 + (1 : Int32))))) else (if (f_X10_of σ x2 (4 : Int32)) = (4 : Int32) then (if x1 = true then (if (f_X10_isLetter σ x2) = true then (fX10_isWell_L9 σ n9 true (x2 + (1 : Int32))) else (fX10_isWell_L9 σ n9 false (x2 + (1 : Int32)))) else (fX10_isWell_L9 σ n9 false (x2 + (1 : Int32)))) else (fX10_isWell_L9 σ n9 x1 (x2 + (1 : Int32))))))
def okX10_isWell_L9 (σ : St) : Nat → Bool → Int32 → Prop
  | 0, _, _ => False
  | n9 + 1, x1, x2 => (((σ.1 197 (2 : Int32).toNatClampNeg) ≤ x2 → True) ∧ (¬ (σ.1 197 (2 : Int32).toNatClampNeg) ≤ x2 → (ok_X10_of σ x2 (4 : Int32) ∧ (((f_X10_of σ x2 (4 : Int32)) = (2 : Int32) → ((x1 = true → (ok_X10_of σ x2 (2 : Int32) ∧ (ok_X10_of σ x2 (0 : Int32) ∧ (ok_X10_of σ x2 (5 : Int32) ∧ (ok_X10_itemIn σ (f_X10_of σ x2 (2 : Int32)) (f_X10_of σ x2 (0 : Int32)) ((f_X10_of σ x2 (5 : Int32)) - (1 : Int32)) ∧ (((f_X10_itemIn σ (f_X10_of σ x2 (2 : Int32)) (f_X10_of σ x2 (0 : Int32)) ((f_X10_of σ x2 (5 : Int32)) - (1 : Int32))) = x2 → (((f_X10_of σ x2 (4 : Int32)) = (4 : Int32) → (ok_X10_isLetter σ x2 ∧ (((f_X10_isLetter σ x2) = true → (okX10_isWell_L9 σ n9 true (x2 + (1 : Int32)))) ∧ ((f_X10_isLetter σ x2) = false → (okX10_isWell_L9 σ n9 false (x2 + (1 : Int32))))))) ∧ (¬ (f_X10_of σ x2 (4 : Int32)) = (4 : Int32) → (okX10_isWell_L9 σ n9 true (x2 + (1 : Int32)))))) ∧ (¬ (f_X10_itemIn σ (f_X10_of σ x2 (2 : Int32)) (f_X10_of σ x2 (0 : Int32)) ((f_X10_of σ x2 (5 : Int32)) - (1 : Int32))) = x2 → (((f_X10_of σ x2 (4 : Int32)) = (4 : Int32) → (okX10_isWell_L9 σ n9 false (x2 + (1 : Int32)))) ∧ (¬ (f_X10_of σ x2 (4 : Int32)) = (4 : Int32) → (okX10_isWell_L9 σ n9 false (x2 + (1 : Int32)))))))))))) ∧ (x1 = false → (((f_X10_of σ x2 (4 : Int32)) = (4 : Int32) → (okX10_isWell_L9 σ n9 false (x2 + (1 : Int32)))) ∧ (¬ (f_X10_of σ x2 (4 : Int32)) = (4 : Int32) → (okX10_isWell_L9 σ n9 false (x2 + (1 : Int32)))))))) ∧ (¬ (f_X10_of σ x2 (4 : Int32)) = (2 : Int32) → (((f_X10_of σ x2 (4 : Int32)) = (4 : Int32) → ((x1 = true → (ok_X10_isLetter σ x2 ∧ (((f_X10_isLetter σ x2) = true → (okX10_isWell_L9 σ n9 true (x2 + (1 : Int32)))) ∧ ((f_X10_isLetter σ x2) = false → (okX10_isWell_L9 σ n9 false (x2 + (1 : Int32))))))) ∧ (x1 = false → (okX10_isWell_L9 σ n9 false (x2 + (1 : Int32)))))) ∧ (¬ (f_X10_of σ x2 (4 : Int32)) = (4 : Int32) → (okX10_isWell_L9 σ n9 x1 (x2 + (1 : Int32))))))))))
def f_X10_isWell (σ : St) : St × Bool := (bnd (setI σ 196 0 (0 : Int32)) (fun q1 => (fX10_isWell_L9 q1 2000 true (0 : Int32))))
def ok_X10_isWell (σ : St) : Prop := (bndP (setI σ 196 0 (0 : Int32)) (fun q1 => (okX10_isWell_L9 q1 2000 true (0 : Int32))))
abbrev rm_X10_isWell : Room := { frames := 2, cells := 0, slots := 0, locals := 46 }
set_option maxHeartbeats 4000000 in
set_option maxRecDepth 100000 in
theorem c_X10_isWell (l : Launch) (G : GE) (hG : Gok G) (σ : St) (hok : ok_X10_isWell σ) : MtZ l G yX10_isWell cX10_isWell 4 rm_X10_isWell [.ref (G.2.1 196)] σ (f_X10_isWell σ) := by
  generalize hf : f_X10_isWell σ = fv
  rw [f_X10_isWell] at hf
  rw [ok_X10_isWell] at hok
  refine g_start hG (plainFor_of_name (by decide)) (Nat.le_of_ble_eq_true rfl) ?_
  intro p e s m args below meth c X hr hlk ls hl H locs hP hS
  have X : Cx G p s m args c cX10_isWell 4 RX10 := X
  obtain ⟨hx, hb, hml, hown, hts, hK, hbs, hXW, -⟩ := id X
  have hl : lv_has ls 4 [(0, .ref (G.2.1 196))] := hl
  refine lv_aload_n hx hb dX10_isWell_0 rfl (lv_at hl 0 rfl) ?_
  refine lv_iconst (v := 0) hx hb dX10_isWell_1 (by decide) ?_
  refine gp_10_0 X hP hS ab_196 kf_X10_50 dX10_isWell_2 (fun H locs hP hS => ?_)
  refine g_name hP (fun q1 hq1 hP => ?_)
  have hf := bnd_go hq1 hf
  have hok := bnd_goP hq1 hok
  refine lv_iconst (v := 1) hx hb dX10_isWell_5 (by decide) ?_
  refine lv_istore_n (lv' := [(1, .int (1 : Int32)), (0, .ref (G.2.1 196))]) hx hb dX10_isWell_6 rfl hl (by decide) rfl (fun ls hl => ?_)
  refine lv_iconst (v := 0) hx hb dX10_isWell_7 (by decide) ?_
  refine lv_istore_n (lv' := [(2, .int (0 : Int32)), (1, .int (1 : Int32)), (0, .ref (G.2.1 196))]) hx hb dX10_isWell_8 rfl hl (by decide) rfl (fun ls hl => ?_)
  have K9 : ∀ (n9 : Nat) (σ : St) (x1 : Bool) (x2 : Int32), okX10_isWell_L9 σ n9 x1 x2 → fX10_isWell_L9 σ n9 x1 x2 = fv → ∀ (H : Heap) (locs : List Loc), va_P G.1 vcl (wl G σ) H → va_S (GA G) s.heap H locs → ∀ (ls : Array Slot), lv_has ls 4 [(0, .ref (G.2.1 196)), (1, .int (bI x1)), (2, .int x2)] → W p l e rm_X10_isWell s m args below meth c H locs 0 0 (MQ below (va_Qi (fun r u => (u, r) = ((fv : St × Bool).1, bI (fv : St × Bool).2)) (PB G) (GA G)) args s 0 0 (GA G)) (F0 m 9 ls []) := by
    intro n9
    induction n9 with
    | zero =>
      intro σ x1 x2 hok
      exact hok.elim
    | succ n9 ih9 =>
      intro σ x1 x2 hok hf H locs hP hS ls hl
      rw [okX10_isWell_L9] at hok
      rw [fX10_isWell_L9] at hf
      refine lv_iload_n hx hb dX10_isWell_9 rfl (lv_at hl 2 rfl) ?_
      refine lv_aload_n hx hb dX10_isWell_10 rfl (lv_at hl 0 rfl) ?_
      refine gg_10_5 X hP ab_196 kf_X10_7 dX10_isWell_11 ?_
      refine lv_iconst (v := 2) hx hb dX10_isWell_14 (by decide) ?_
      refine g_iald X hP ab_197 (by rw [al_197]; unfold vp_in; decide) dX10_isWell_15 ?_
      refine lv_icmp_ge (tgt := 98) hx hb dX10_isWell_16 (by decide) (fun hc => ?_) (fun hc => ?_)
      · have hf := ite_t hc hf
        refine lv_iload_n hx hb dX10_isWell_98 rfl (lv_at hl 1 rfl) ?_
        exact g_zret (b := x1) X hr hlk rfl hP hS hf dX10_isWell_99
      · have hf := ite_f hc hf
        have hok := hok.2 hc
        refine lv_aload_n hx hb dX10_isWell_19 rfl (lv_at hl 0 rfl) ?_
        refine lv_iload_n hx hb dX10_isWell_20 rfl (lv_at hl 2 rfl) ?_
        refine lv_iconst (v := 4) hx hb dX10_isWell_21 (by decide) ?_
        have hs2 := hok.1
        have hok := hok.2
        refine g_cIp (g_runV (i := 196) (As := [.int x2, .int (4 : Int32)]) (rest := []) X (c_X10_of l G hG σ x2 (4 : Int32) hs2) ca_X10_of km_X10_85 rfl rfl ⟨Nat.le_of_ble_eq_true rfl, Nat.le_of_ble_eq_true rfl⟩ hP hS (ty_lt ab_196) (cell_10 ab_196) rfl rfl rfl hl.1 rfl (Nat.le_of_ble_eq_true rfl) ⟨Nat.le_of_ble_eq_true rfl, Nat.le_of_ble_eq_true rfl⟩ dX10_isWell_22) hS (fun H locs hP hS => ?_)
        refine lv_istore_n (lv' := [(3, .int (f_X10_of σ x2 (4 : Int32))), (0, .ref (G.2.1 196)), (1, .int (bI x1)), (2, .int x2)]) hx hb dX10_isWell_25 rfl hl (by decide) rfl (fun ls hl => ?_)
        refine lv_iload_n hx hb dX10_isWell_26 rfl (lv_at hl 0 rfl) ?_
        refine lv_iconst (v := 2) hx hb dX10_isWell_27 (by decide) ?_
        refine lv_icmp_ne (tgt := 69) hx hb dX10_isWell_28 (by decide) (fun hc => ?_) (fun hc => ?_)
        · have hf := ite_f hc hf
          have hok := hok.2 hc
          refine lv_iload_n hx hb dX10_isWell_69 rfl (lv_at hl 0 rfl) ?_
          refine lv_iconst (v := 4) hx hb dX10_isWell_70 (by decide) ?_
          refine lv_icmp_ne (tgt := 92) hx hb dX10_isWell_71 (by decide) (fun hc => ?_) (fun hc => ?_)
          · have hf := ite_f hc hf
            have hok := hok.2 hc
            refine lv_iinc (v := (x2 + (1 : Int32))) (lv' := [(2, .int (x2 + (1 : Int32))), (3, .int (f_X10_of σ x2 (4 : Int32))), (0, .ref (G.2.1 196)), (1, .int (bI x1))]) hx hb dX10_isWell_92 hl (k := 3) rfl rfl (by decide) rfl (fun ls hl => ?_)
            refine lv_goto (tgt := 9) hx hb dX10_isWell_95 (by decide) ?_
            exact ih9 σ x1 (x2 + (1 : Int32)) hok hf _ _ hP hS ls (lv_sub hl [2, 3, 0] rfl)
          · have hf := ite_t hc hf
            have hok := hok.1 hc
            refine lv_iload_n hx hb dX10_isWell_74 rfl (lv_at hl 2 rfl) ?_
            refine g_ifeqZ (tgt := 90) X dX10_isWell_75 (by decide) (fun hc => ?_) (fun hc => ?_)
            · have hf := ite_z hc hf
              have hok := hok.2 hc
              refine lv_iconst (v := 0) hx hb dX10_isWell_90 (by decide) ?_
              refine lv_istore_n (lv' := [(1, .int (0 : Int32)), (3, .int (f_X10_of σ x2 (4 : Int32))), (0, .ref (G.2.1 196)), (2, .int x2)]) hx hb dX10_isWell_91 rfl hl (by decide) rfl (fun ls hl => ?_)
              refine lv_iinc (v := (x2 + (1 : Int32))) (lv' := [(2, .int (x2 + (1 : Int32))), (1, .int (0 : Int32)), (3, .int (f_X10_of σ x2 (4 : Int32))), (0, .ref (G.2.1 196))]) hx hb dX10_isWell_92 hl (k := 3) rfl rfl (by decide) rfl (fun ls hl => ?_)
              refine lv_goto (tgt := 9) hx hb dX10_isWell_95 (by decide) ?_
              exact ih9 σ false (x2 + (1 : Int32)) hok hf _ _ hP hS ls (lv_sub hl [3, 1, 0] rfl)
            · have hf := ite_t hc hf
              have hok := hok.1 hc
              refine lv_aload_n hx hb dX10_isWell_78 rfl (lv_at hl 1 rfl) ?_
              refine lv_iload_n hx hb dX10_isWell_79 rfl (lv_at hl 3 rfl) ?_
              have hs3 := hok.1
              have hok := hok.2
              refine g_cZp (g_runV (i := 196) (As := [.int x2]) (rest := []) X (c_X10_isLetter l G hG σ x2 hs3) ca_X10_isLetter km_X10_139 rfl rfl ⟨Nat.le_of_ble_eq_true rfl, Nat.le_of_ble_eq_true rfl⟩ hP hS (ty_lt ab_196) (cell_10 ab_196) rfl rfl rfl hl.1 rfl (Nat.le_of_ble_eq_true rfl) ⟨Nat.le_of_ble_eq_true rfl, Nat.le_of_ble_eq_true rfl⟩ dX10_isWell_80) hS (fun H locs hP hS => ?_)
              refine g_ifeqZ (tgt := 90) X dX10_isWell_83 (by decide) (fun hc => ?_) (fun hc => ?_)
              · have hf := ite_z hc hf
                have hok := hok.2 hc
                refine lv_iconst (v := 0) hx hb dX10_isWell_90 (by decide) ?_
                refine lv_istore_n (lv' := [(1, .int (0 : Int32)), (3, .int (f_X10_of σ x2 (4 : Int32))), (0, .ref (G.2.1 196)), (2, .int x2)]) hx hb dX10_isWell_91 rfl hl (by decide) rfl (fun ls hl => ?_)
                refine lv_iinc (v := (x2 + (1 : Int32))) (lv' := [(2, .int (x2 + (1 : Int32))), (1, .int (0 : Int32)), (3, .int (f_X10_of σ x2 (4 : Int32))), (0, .ref (G.2.1 196))]) hx hb dX10_isWell_92 hl (k := 3) rfl rfl (by decide) rfl (fun ls hl => ?_)
                refine lv_goto (tgt := 9) hx hb dX10_isWell_95 (by decide) ?_
                exact ih9 σ false (x2 + (1 : Int32)) hok hf _ _ hP hS ls (lv_sub hl [3, 1, 0] rfl)
              · have hf := ite_t hc hf
                have hok := hok.1 hc
                refine lv_iconst (v := 1) hx hb dX10_isWell_86 (by decide) ?_
                refine lv_goto (tgt := 91) hx hb dX10_isWell_87 (by decide) ?_
                refine lv_istore_n (lv' := [(1, .int (1 : Int32)), (3, .int (f_X10_of σ x2 (4 : Int32))), (0, .ref (G.2.1 196)), (2, .int x2)]) hx hb dX10_isWell_91 rfl hl (by decide) rfl (fun ls hl => ?_)
                refine lv_iinc (v := (x2 + (1 : Int32))) (lv' := [(2, .int (x2 + (1 : Int32))), (1, .int (1 : Int32)), (3, .int (f_X10_of σ x2 (4 : Int32))), (0, .ref (G.2.1 196))]) hx hb dX10_isWell_92 hl (k := 3) rfl rfl (by decide) rfl (fun ls hl => ?_)
                refine lv_goto (tgt := 9) hx hb dX10_isWell_95 (by decide) ?_
                exact ih9 σ true (x2 + (1 : Int32)) hok hf _ _ hP hS ls (lv_sub hl [3, 1, 0] rfl)
        · have hf := ite_t hc hf
          have hok := hok.1 hc
          refine lv_iload_n hx hb dX10_isWell_31 rfl (lv_at hl 2 rfl) ?_
          refine g_ifeqZ (tgt := 67) X dX10_isWell_32 (by decide) (fun hc => ?_) (fun hc => ?_)
          · have hf := ite_z hc hf
            have hok := hok.2 hc
            refine lv_iconst (v := 0) hx hb dX10_isWell_67 (by decide) ?_
            refine lv_istore_n (lv' := [(1, .int (0 : Int32)), (3, .int (f_X10_of σ x2 (4 : Int32))), (0, .ref (G.2.1 196)), (2, .int x2)]) hx hb dX10_isWell_68 rfl hl (by decide) rfl (fun ls hl => ?_)
            refine lv_iload_n hx hb dX10_isWell_69 rfl (lv_at hl 1 rfl) ?_
            refine lv_iconst (v := 4) hx hb dX10_isWell_70 (by decide) ?_
            refine lv_icmp_ne (tgt := 92) hx hb dX10_isWell_71 (by decide) (fun hc => ?_) (fun hc => ?_)
            · have hf := ite_f hc hf
              have hok := hok.2 hc
              refine lv_iinc (v := (x2 + (1 : Int32))) (lv' := [(2, .int (x2 + (1 : Int32))), (1, .int (0 : Int32)), (3, .int (f_X10_of σ x2 (4 : Int32))), (0, .ref (G.2.1 196))]) hx hb dX10_isWell_92 hl (k := 3) rfl rfl (by decide) rfl (fun ls hl => ?_)
              refine lv_goto (tgt := 9) hx hb dX10_isWell_95 (by decide) ?_
              exact ih9 σ false (x2 + (1 : Int32)) hok hf _ _ hP hS ls (lv_sub hl [3, 1, 0] rfl)
            · have hf := ite_t hc hf
              have hok := hok.1 hc
              refine lv_iload_n hx hb dX10_isWell_74 rfl (lv_at hl 0 rfl) ?_
              refine lv_if_eq (tgt := 90) hx hb dX10_isWell_75 (by decide) (fun hc => ?_) (fun hc => absurd hc (by decide))
              refine lv_iconst (v := 0) hx hb dX10_isWell_90 (by decide) ?_
              refine lv_istore_n (lv' := [(1, .int (0 : Int32)), (3, .int (f_X10_of σ x2 (4 : Int32))), (0, .ref (G.2.1 196)), (2, .int x2)]) hx hb dX10_isWell_91 rfl hl (by decide) rfl (fun ls hl => ?_)
              refine lv_iinc (v := (x2 + (1 : Int32))) (lv' := [(2, .int (x2 + (1 : Int32))), (1, .int (0 : Int32)), (3, .int (f_X10_of σ x2 (4 : Int32))), (0, .ref (G.2.1 196))]) hx hb dX10_isWell_92 hl (k := 3) rfl rfl (by decide) rfl (fun ls hl => ?_)
              refine lv_goto (tgt := 9) hx hb dX10_isWell_95 (by decide) ?_
              exact ih9 σ false (x2 + (1 : Int32)) hok hf _ _ hP hS ls (lv_sub hl [3, 1, 0] rfl)
          · have hf := ite_t hc hf
            have hok := hok.1 hc
            refine lv_aload_n hx hb dX10_isWell_35 rfl (lv_at hl 1 rfl) ?_
            refine lv_aload_n hx hb dX10_isWell_36 rfl (lv_at hl 1 rfl) ?_
            refine lv_iload_n hx hb dX10_isWell_37 rfl (lv_at hl 3 rfl) ?_
            refine lv_iconst (v := 2) hx hb dX10_isWell_38 (by decide) ?_
            have hs4 := hok.1
            have hok := hok.2
            refine g_cIp (g_runV (i := 196) (As := [.int x2, .int (2 : Int32)]) (rest := [.ref (G.2.1 196)]) X (c_X10_of l G hG σ x2 (2 : Int32) hs4) ca_X10_of km_X10_85 rfl rfl ⟨Nat.le_of_ble_eq_true rfl, Nat.le_of_ble_eq_true rfl⟩ hP hS (ty_lt ab_196) (cell_10 ab_196) rfl rfl rfl hl.1 rfl (Nat.le_of_ble_eq_true rfl) ⟨Nat.le_of_ble_eq_true rfl, Nat.le_of_ble_eq_true rfl⟩ dX10_isWell_39) hS (fun H locs hP hS => ?_)
            refine lv_aload_n hx hb dX10_isWell_42 rfl (lv_at hl 1 rfl) ?_
            refine lv_iload_n hx hb dX10_isWell_43 rfl (lv_at hl 3 rfl) ?_
            refine lv_iconst (v := 0) hx hb dX10_isWell_44 (by decide) ?_
            have hs5 := hok.1
            have hok := hok.2
            refine g_cIp (g_runV (i := 196) (As := [.int x2, .int (0 : Int32)]) (rest := [.int (f_X10_of σ x2 (2 : Int32)), .ref (G.2.1 196)]) X (c_X10_of l G hG σ x2 (0 : Int32) hs5) ca_X10_of km_X10_85 rfl rfl ⟨Nat.le_of_ble_eq_true rfl, Nat.le_of_ble_eq_true rfl⟩ hP hS (ty_lt ab_196) (cell_10 ab_196) rfl rfl rfl hl.1 rfl (Nat.le_of_ble_eq_true rfl) ⟨Nat.le_of_ble_eq_true rfl, Nat.le_of_ble_eq_true rfl⟩ dX10_isWell_45) hS (fun H locs hP hS => ?_)
            refine lv_aload_n hx hb dX10_isWell_48 rfl (lv_at hl 1 rfl) ?_
            refine lv_iload_n hx hb dX10_isWell_49 rfl (lv_at hl 3 rfl) ?_
            refine lv_iconst (v := 5) hx hb dX10_isWell_50 (by decide) ?_
            have hs6 := hok.1
            have hok := hok.2
            refine g_cIp (g_runV (i := 196) (As := [.int x2, .int (5 : Int32)]) (rest := [.int (f_X10_of σ x2 (0 : Int32)), .int (f_X10_of σ x2 (2 : Int32)), .ref (G.2.1 196)]) X (c_X10_of l G hG σ x2 (5 : Int32) hs6) ca_X10_of km_X10_85 rfl rfl ⟨Nat.le_of_ble_eq_true rfl, Nat.le_of_ble_eq_true rfl⟩ hP hS (ty_lt ab_196) (cell_10 ab_196) rfl rfl rfl hl.1 rfl (Nat.le_of_ble_eq_true rfl) ⟨Nat.le_of_ble_eq_true rfl, Nat.le_of_ble_eq_true rfl⟩ dX10_isWell_51) hS (fun H locs hP hS => ?_)
            refine lv_iconst (v := 1) hx hb dX10_isWell_54 (by decide) ?_
            refine lv_isub hx hb dX10_isWell_55 ?_
            have hs7 := hok.1
            have hok := hok.2
            refine g_cIp (g_runV (i := 196) (As := [.int (f_X10_of σ x2 (2 : Int32)), .int (f_X10_of σ x2 (0 : Int32)), .int ((f_X10_of σ x2 (5 : Int32)) - (1 : Int32))]) (rest := []) X (c_X10_itemIn l G hG σ (f_X10_of σ x2 (2 : Int32)) (f_X10_of σ x2 (0 : Int32)) ((f_X10_of σ x2 (5 : Int32)) - (1 : Int32)) hs7) ca_X10_itemIn km_X10_176 rfl rfl ⟨Nat.le_of_ble_eq_true rfl, Nat.le_of_ble_eq_true rfl⟩ hP hS (ty_lt ab_196) (cell_10 ab_196) rfl rfl rfl hl.1 rfl (Nat.le_of_ble_eq_true rfl) ⟨Nat.le_of_ble_eq_true rfl, Nat.le_of_ble_eq_true rfl⟩ dX10_isWell_56) hS (fun H locs hP hS => ?_)
            refine lv_iload_n hx hb dX10_isWell_59 rfl (lv_at hl 3 rfl) ?_
            refine lv_icmp_ne (tgt := 67) hx hb dX10_isWell_60 (by decide) (fun hc => ?_) (fun hc => ?_)
            · have hf := ite_f hc hf
              have hok := hok.2 hc
              refine lv_iconst (v := 0) hx hb dX10_isWell_67 (by decide) ?_
              refine lv_istore_n (lv' := [(1, .int (0 : Int32)), (3, .int (f_X10_of σ x2 (4 : Int32))), (0, .ref (G.2.1 196)), (2, .int x2)]) hx hb dX10_isWell_68 rfl hl (by decide) rfl (fun ls hl => ?_)
              refine lv_iload_n hx hb dX10_isWell_69 rfl (lv_at hl 1 rfl) ?_
              refine lv_iconst (v := 4) hx hb dX10_isWell_70 (by decide) ?_
              refine lv_icmp_ne (tgt := 92) hx hb dX10_isWell_71 (by decide) (fun hc => ?_) (fun hc => ?_)
              · have hf := ite_f hc hf
                have hok := hok.2 hc
                refine lv_iinc (v := (x2 + (1 : Int32))) (lv' := [(2, .int (x2 + (1 : Int32))), (1, .int (0 : Int32)), (3, .int (f_X10_of σ x2 (4 : Int32))), (0, .ref (G.2.1 196))]) hx hb dX10_isWell_92 hl (k := 3) rfl rfl (by decide) rfl (fun ls hl => ?_)
                refine lv_goto (tgt := 9) hx hb dX10_isWell_95 (by decide) ?_
                exact ih9 σ false (x2 + (1 : Int32)) hok hf _ _ hP hS ls (lv_sub hl [3, 1, 0] rfl)
              · have hf := ite_t hc hf
                have hok := hok.1 hc
                refine lv_iload_n hx hb dX10_isWell_74 rfl (lv_at hl 0 rfl) ?_
                refine lv_if_eq (tgt := 90) hx hb dX10_isWell_75 (by decide) (fun hc => ?_) (fun hc => absurd hc (by decide))
                refine lv_iconst (v := 0) hx hb dX10_isWell_90 (by decide) ?_
                refine lv_istore_n (lv' := [(1, .int (0 : Int32)), (3, .int (f_X10_of σ x2 (4 : Int32))), (0, .ref (G.2.1 196)), (2, .int x2)]) hx hb dX10_isWell_91 rfl hl (by decide) rfl (fun ls hl => ?_)
                refine lv_iinc (v := (x2 + (1 : Int32))) (lv' := [(2, .int (x2 + (1 : Int32))), (1, .int (0 : Int32)), (3, .int (f_X10_of σ x2 (4 : Int32))), (0, .ref (G.2.1 196))]) hx hb dX10_isWell_92 hl (k := 3) rfl rfl (by decide) rfl (fun ls hl => ?_)
                refine lv_goto (tgt := 9) hx hb dX10_isWell_95 (by decide) ?_
                exact ih9 σ false (x2 + (1 : Int32)) hok hf _ _ hP hS ls (lv_sub hl [3, 1, 0] rfl)
            · have hf := ite_t hc hf
              have hok := hok.1 hc
              refine lv_iconst (v := 1) hx hb dX10_isWell_63 (by decide) ?_
              refine lv_goto (tgt := 68) hx hb dX10_isWell_64 (by decide) ?_
              refine lv_istore_n (lv' := [(1, .int (1 : Int32)), (3, .int (f_X10_of σ x2 (4 : Int32))), (0, .ref (G.2.1 196)), (2, .int x2)]) hx hb dX10_isWell_68 rfl hl (by decide) rfl (fun ls hl => ?_)
              refine lv_iload_n hx hb dX10_isWell_69 rfl (lv_at hl 1 rfl) ?_
              refine lv_iconst (v := 4) hx hb dX10_isWell_70 (by decide) ?_
              refine lv_icmp_ne (tgt := 92) hx hb dX10_isWell_71 (by decide) (fun hc => ?_) (fun hc => ?_)
              · have hf := ite_f hc hf
                have hok := hok.2 hc
                refine lv_iinc (v := (x2 + (1 : Int32))) (lv' := [(2, .int (x2 + (1 : Int32))), (1, .int (1 : Int32)), (3, .int (f_X10_of σ x2 (4 : Int32))), (0, .ref (G.2.1 196))]) hx hb dX10_isWell_92 hl (k := 3) rfl rfl (by decide) rfl (fun ls hl => ?_)
                refine lv_goto (tgt := 9) hx hb dX10_isWell_95 (by decide) ?_
                exact ih9 σ true (x2 + (1 : Int32)) hok hf _ _ hP hS ls (lv_sub hl [3, 1, 0] rfl)
              · have hf := ite_t hc hf
                have hok := hok.1 hc
                refine lv_iload_n hx hb dX10_isWell_74 rfl (lv_at hl 0 rfl) ?_
                refine lv_if_eq (tgt := 90) hx hb dX10_isWell_75 (by decide) (fun hc => absurd hc (by decide)) (fun hc => ?_)
                refine lv_aload_n hx hb dX10_isWell_78 rfl (lv_at hl 2 rfl) ?_
                refine lv_iload_n hx hb dX10_isWell_79 rfl (lv_at hl 3 rfl) ?_
                have hs8 := hok.1
                have hok := hok.2
                refine g_cZp (g_runV (i := 196) (As := [.int x2]) (rest := []) X (c_X10_isLetter l G hG σ x2 hs8) ca_X10_isLetter km_X10_139 rfl rfl ⟨Nat.le_of_ble_eq_true rfl, Nat.le_of_ble_eq_true rfl⟩ hP hS (ty_lt ab_196) (cell_10 ab_196) rfl rfl rfl hl.1 rfl (Nat.le_of_ble_eq_true rfl) ⟨Nat.le_of_ble_eq_true rfl, Nat.le_of_ble_eq_true rfl⟩ dX10_isWell_80) hS (fun H locs hP hS => ?_)
                refine g_ifeqZ (tgt := 90) X dX10_isWell_83 (by decide) (fun hc => ?_) (fun hc => ?_)
                · have hf := ite_z hc hf
                  have hok := hok.2 hc
                  refine lv_iconst (v := 0) hx hb dX10_isWell_90 (by decide) ?_
                  refine lv_istore_n (lv' := [(1, .int (0 : Int32)), (3, .int (f_X10_of σ x2 (4 : Int32))), (0, .ref (G.2.1 196)), (2, .int x2)]) hx hb dX10_isWell_91 rfl hl (by decide) rfl (fun ls hl => ?_)
                  refine lv_iinc (v := (x2 + (1 : Int32))) (lv' := [(2, .int (x2 + (1 : Int32))), (1, .int (0 : Int32)), (3, .int (f_X10_of σ x2 (4 : Int32))), (0, .ref (G.2.1 196))]) hx hb dX10_isWell_92 hl (k := 3) rfl rfl (by decide) rfl (fun ls hl => ?_)
                  refine lv_goto (tgt := 9) hx hb dX10_isWell_95 (by decide) ?_
                  exact ih9 σ false (x2 + (1 : Int32)) hok hf _ _ hP hS ls (lv_sub hl [3, 1, 0] rfl)
                · have hf := ite_t hc hf
                  have hok := hok.1 hc
                  refine lv_iconst (v := 1) hx hb dX10_isWell_86 (by decide) ?_
                  refine lv_goto (tgt := 91) hx hb dX10_isWell_87 (by decide) ?_
                  refine lv_istore_n (lv' := [(1, .int (1 : Int32)), (3, .int (f_X10_of σ x2 (4 : Int32))), (0, .ref (G.2.1 196)), (2, .int x2)]) hx hb dX10_isWell_91 rfl hl (by decide) rfl (fun ls hl => ?_)
                  refine lv_iinc (v := (x2 + (1 : Int32))) (lv' := [(2, .int (x2 + (1 : Int32))), (1, .int (1 : Int32)), (3, .int (f_X10_of σ x2 (4 : Int32))), (0, .ref (G.2.1 196))]) hx hb dX10_isWell_92 hl (k := 3) rfl rfl (by decide) rfl (fun ls hl => ?_)
                  refine lv_goto (tgt := 9) hx hb dX10_isWell_95 (by decide) ?_
                  exact ih9 σ true (x2 + (1 : Int32)) hok hf _ _ hP hS ls (lv_sub hl [3, 1, 0] rfl)
  exact K9 2000 q1 true (0 : Int32) hok hf _ _ hP hS ls (lv_sub hl [2, 1, 0] rfl)
def fX10_meanBits_L26 (σ : St) : Nat → Int32 → UInt64 → Int32 → St × Int64
  | 0, _, _, _ => (σ, 0)
  | n26 + 1, x1, x2, x4 => (if (σ.1 197 (2 : Int32).toNatClampNeg) ≤ x4 then (σ, (f_Jxe99ae_doubleToLongBits_ccdee (FP.ddiv x2 (FP.i2d x1)))) else (if (f_X10_isLetter σ x4) = true then (fX10_meanBits_L26 σ n26 x1 (FP.dadd x2 (FP.f2d (σ.2.1 201 ((16 : Int32) + x4).toNatClampNeg))) (x4 + (1 : Int32))) else (fX10_meanBits_L26 σ n26 x1 x2 (x4 + (1 : Int32)))))
def okX10_meanBits_L26 (σ : St) : Nat → Int32 → UInt64 → Int32 → Prop
  | 0, _, _, _ => False
  | n26 + 1, x1, x2, x4 => (((σ.1 197 (2 : Int32).toNatClampNeg) ≤ x4 → vf_n64 (FP.ddiv x2 (FP.i2d x1))) ∧ (¬ (σ.1 197 (2 : Int32).toNatClampNeg) ≤ x4 → (ok_X10_isLetter σ x4 ∧ (((f_X10_isLetter σ x4) = true → (vp_in ((16 : Int32) + x4) 36 ∧ (vf_n64 (FP.f2d (σ.2.1 201 ((16 : Int32) + x4).toNatClampNeg)) ∧ (vf_n64 (FP.dadd x2 (FP.f2d (σ.2.1 201 ((16 : Int32) + x4).toNatClampNeg))) ∧ (okX10_meanBits_L26 σ n26 x1 (FP.dadd x2 (FP.f2d (σ.2.1 201 ((16 : Int32) + x4).toNatClampNeg))) (x4 + (1 : Int32))))))) ∧ ((f_X10_isLetter σ x4) = false → (okX10_meanBits_L26 σ n26 x1 x2 (x4 + (1 : Int32))))))))
def f_X10_meanBits (σ : St) : St × Int64 := (bnd (setI σ 196 0 (0 : Int32)) (fun q1 => (if (f_X10_letters q1) = 0 then (bnd (f_X10_fails q1 (1 : Int32)) (fun q8 => (q8.1, (q8.2).toInt64))) else (fX10_meanBits_L26 q1 2000 (f_X10_letters q1) FP.dconst0 (0 : Int32)))))
def ok_X10_meanBits (σ : St) : Prop := (bndP (setI σ 196 0 (0 : Int32)) (fun q1 => (ok_X10_letters q1 ∧ (((f_X10_letters q1) = 0 → True) ∧ (¬ (f_X10_letters q1) = 0 → (okX10_meanBits_L26 q1 2000 (f_X10_letters q1) FP.dconst0 (0 : Int32)))))))
abbrev rm_X10_meanBits : Room := { frames := 3, cells := 0, slots := 0, locals := 81 }
set_option maxHeartbeats 4000000 in
set_option maxRecDepth 100000 in
theorem c_X10_meanBits (l : Launch) (G : GE) (hG : Gok G) (σ : St) (hok : ok_X10_meanBits σ) : MtJ l G yX10_meanBits cX10_meanBits 5 rm_X10_meanBits [.ref (G.2.1 196)] σ (f_X10_meanBits σ) := by
  generalize hf : f_X10_meanBits σ = fv
  rw [f_X10_meanBits] at hf
  rw [ok_X10_meanBits] at hok
  refine g_start hG (plainFor_of_name (by decide)) (Nat.le_of_ble_eq_true rfl) ?_
  intro p e s m args below meth c X hr hlk ls hl H locs hP hS
  have X : Cx G p s m args c cX10_meanBits 5 RX10 := X
  obtain ⟨hx, hb, hml, hown, hts, hK, hbs, hXW, -⟩ := id X
  have hl : lv_has ls 5 [(0, .ref (G.2.1 196))] := hl
  refine lv_aload_n hx hb dX10_meanBits_0 rfl (lv_at hl 0 rfl) ?_
  refine lv_iconst (v := 0) hx hb dX10_meanBits_1 (by decide) ?_
  refine gp_10_0 X hP hS ab_196 kf_X10_50 dX10_meanBits_2 (fun H locs hP hS => ?_)
  refine g_name hP (fun q1 hq1 hP => ?_)
  have hf := bnd_go hq1 hf
  have hok := bnd_goP hq1 hok
  refine lv_aload_n hx hb dX10_meanBits_5 rfl (lv_at hl 0 rfl) ?_
  have hs2 := hok.1
  have hok := hok.2
  refine g_cIp (g_runV (i := 196) (As := []) (rest := []) X (c_X10_letters l G hG q1 hs2) ca_X10_letters km_X10_274 rfl rfl ⟨Nat.le_of_ble_eq_true rfl, Nat.le_of_ble_eq_true rfl⟩ hP hS (ty_lt ab_196) (cell_10 ab_196) rfl rfl rfl hl.1 rfl (Nat.le_of_ble_eq_true rfl) ⟨Nat.le_of_ble_eq_true rfl, Nat.le_of_ble_eq_true rfl⟩ dX10_meanBits_6) hS (fun H locs hP hS => ?_)
  refine lv_istore_n (lv' := [(1, .int (f_X10_letters q1)), (0, .ref (G.2.1 196))]) hx hb dX10_meanBits_9 rfl hl (by decide) rfl (fun ls hl => ?_)
  refine lv_iload_n hx hb dX10_meanBits_10 rfl (lv_at hl 0 rfl) ?_
  refine lv_if_ne (tgt := 21) hx hb dX10_meanBits_11 (by decide) (fun hc => ?_) (fun hc => ?_)
  · have hf := ite_f hc hf
    have hok := hok.2 hc
    refine lv_dconst0 hx hb dX10_meanBits_21 ?_
    refine lv_dstore_n (lv' := [(2, .double FP.dconst0), (1, .int (f_X10_letters q1)), (0, .ref (G.2.1 196))]) hx hb dX10_meanBits_22 rfl hl (by decide) rfl (fun ls hl => ?_)
    refine lv_iconst (v := 0) hx hb dX10_meanBits_23 (by decide) ?_
    refine lv_istore (lv' := [(4, .int (0 : Int32)), (2, .double FP.dconst0), (1, .int (f_X10_letters q1)), (0, .ref (G.2.1 196))]) hx hb dX10_meanBits_24 hl (by decide) rfl (fun ls hl => ?_)
    have K26 : ∀ (n26 : Nat) (σ : St) (x1 : Int32) (x2 : UInt64) (x4 : Int32), okX10_meanBits_L26 σ n26 x1 x2 x4 → fX10_meanBits_L26 σ n26 x1 x2 x4 = fv → ∀ (H : Heap) (locs : List Loc), va_P G.1 vcl (wl G σ) H → va_S (GA G) s.heap H locs → ∀ (ls : Array Slot), lv_has ls 5 [(0, .ref (G.2.1 196)), (1, .int x1), (2, .double x2), (4, .int x4)] → W p l e rm_X10_meanBits s m args below meth c H locs 0 0 (MQ below (va_Ql (fun r u => (u, r) = fv) (PB G) (GA G)) args s 0 0 (GA G)) (F0 m 26 ls []) := by
      intro n26
      induction n26 with
      | zero =>
        intro σ x1 x2 x4 hok
        exact hok.elim
      | succ n26 ih26 =>
        intro σ x1 x2 x4 hok hf H locs hP hS ls hl
        rw [okX10_meanBits_L26] at hok
        rw [fX10_meanBits_L26] at hf
        refine lv_iload hx hb dX10_meanBits_26 (lv_at hl 3 rfl) ?_
        refine lv_aload_n hx hb dX10_meanBits_28 rfl (lv_at hl 0 rfl) ?_
        refine gg_10_5 X hP ab_196 kf_X10_7 dX10_meanBits_29 ?_
        refine lv_iconst (v := 2) hx hb dX10_meanBits_32 (by decide) ?_
        refine g_iald X hP ab_197 (by rw [al_197]; unfold vp_in; decide) dX10_meanBits_33 ?_
        refine lv_icmp_ge (tgt := 66) hx hb dX10_meanBits_34 (by decide) (fun hc => ?_) (fun hc => ?_)
        · have hf := ite_t hc hf
          have hok := hok.1 hc
          refine lv_dload_n hx hb dX10_meanBits_66 rfl (lv_at hl 2 rfl) ?_
          refine lv_iload_n hx hb dX10_meanBits_67 rfl (lv_at hl 1 rfl) ?_
          refine lv_i2d hx hb dX10_meanBits_68 ?_
          have hs3 := hok
          refine lv_ddiv hx hb dX10_meanBits_69 hs3 ?_
          refine g_cJp (g_runS (As := [.double (FP.ddiv x2 (FP.i2d x1))]) (rest := []) X (c_Jxe99ae_doubleToLongBits_ccdee l G hG σ (FP.ddiv x2 (FP.i2d x1))) ca_Jxe99ae_doubleToLongBits_ccdee km_X10_283 rfl rfl ⟨Nat.le_of_ble_eq_true rfl, Nat.le_of_ble_eq_true rfl⟩ hP hS rfl hl.1 rfl (Nat.le_of_ble_eq_true rfl) ⟨Nat.le_of_ble_eq_true rfl, Nat.le_of_ble_eq_true rfl⟩ dX10_meanBits_70) hS (fun H locs hP hS => ?_)
          exact g_lret X hr hlk hP hS hf dX10_meanBits_73
        · have hf := ite_f hc hf
          have hok := hok.2 hc
          refine lv_aload_n hx hb dX10_meanBits_37 rfl (lv_at hl 0 rfl) ?_
          refine lv_iload hx hb dX10_meanBits_38 (lv_at hl 3 rfl) ?_
          have hs4 := hok.1
          have hok := hok.2
          refine g_cZp (g_runV (i := 196) (As := [.int x4]) (rest := []) X (c_X10_isLetter l G hG σ x4 hs4) ca_X10_isLetter km_X10_139 rfl rfl ⟨Nat.le_of_ble_eq_true rfl, Nat.le_of_ble_eq_true rfl⟩ hP hS (ty_lt ab_196) (cell_10 ab_196) rfl rfl rfl hl.1 rfl (Nat.le_of_ble_eq_true rfl) ⟨Nat.le_of_ble_eq_true rfl, Nat.le_of_ble_eq_true rfl⟩ dX10_meanBits_40) hS (fun H locs hP hS => ?_)
          refine g_ifeqZ (tgt := 60) X dX10_meanBits_43 (by decide) (fun hc => ?_) (fun hc => ?_)
          · have hf := ite_z hc hf
            have hok := hok.2 hc
            refine lv_iinc (v := (x4 + (1 : Int32))) (lv' := [(4, .int (x4 + (1 : Int32))), (0, .ref (G.2.1 196)), (1, .int x1), (2, .double x2)]) hx hb dX10_meanBits_60 hl (k := 3) rfl rfl (by decide) rfl (fun ls hl => ?_)
            refine lv_goto (tgt := 26) hx hb dX10_meanBits_63 (by decide) ?_
            exact ih26 σ x1 x2 (x4 + (1 : Int32)) hok hf _ _ hP hS ls (lv_sub hl [1, 2, 3, 0] rfl)
          · have hf := ite_t hc hf
            have hok := hok.1 hc
            refine lv_dload_n hx hb dX10_meanBits_46 rfl (lv_at hl 2 rfl) ?_
            refine lv_aload_n hx hb dX10_meanBits_47 rfl (lv_at hl 0 rfl) ?_
            refine gg_10_9 X hP ab_196 kf_X10_22 dX10_meanBits_48 ?_
            refine lv_bipush (v := 16) hx hb dX10_meanBits_51 (by decide) ?_
            refine lv_iload hx hb dX10_meanBits_53 (lv_at hl 3 rfl) ?_
            refine lv_iadd hx hb dX10_meanBits_55 ?_
            have hs5 := hok.1
            have hok := hok.2
            refine g_fald X hP ab_201 (by rw [al_201]; exact hs5) dX10_meanBits_56 ?_
            have hs6 := hok.1
            have hok := hok.2
            refine lv_f2d hx hb dX10_meanBits_57 hs6 ?_
            have hs7 := hok.1
            have hok := hok.2
            refine lv_dadd hx hb dX10_meanBits_58 hs7 ?_
            refine lv_dstore_n (lv' := [(2, .double (FP.dadd x2 (FP.f2d (σ.2.1 201 ((16 : Int32) + x4).toNatClampNeg)))), (0, .ref (G.2.1 196)), (1, .int x1), (4, .int x4)]) hx hb dX10_meanBits_59 rfl hl (by decide) rfl (fun ls hl => ?_)
            refine lv_iinc (v := (x4 + (1 : Int32))) (lv' := [(4, .int (x4 + (1 : Int32))), (2, .double (FP.dadd x2 (FP.f2d (σ.2.1 201 ((16 : Int32) + x4).toNatClampNeg)))), (0, .ref (G.2.1 196)), (1, .int x1)]) hx hb dX10_meanBits_60 hl (k := 3) rfl rfl (by decide) rfl (fun ls hl => ?_)
            refine lv_goto (tgt := 26) hx hb dX10_meanBits_63 (by decide) ?_
            exact ih26 σ x1 (FP.dadd x2 (FP.f2d (σ.2.1 201 ((16 : Int32) + x4).toNatClampNeg))) (x4 + (1 : Int32)) hok hf _ _ hP hS ls (lv_sub hl [2, 3, 1, 0] rfl)
    exact K26 2000 q1 (f_X10_letters q1) FP.dconst0 (0 : Int32) hok hf _ _ hP hS ls (lv_sub hl [3, 2, 1, 0] rfl)
  · have hf := ite_t hc hf
    refine lv_aload_n hx hb dX10_meanBits_14 rfl (lv_at hl 1 rfl) ?_
    refine lv_iconst (v := 1) hx hb dX10_meanBits_15 (by decide) ?_
    refine g_cI (g_runV (i := 196) (As := [.int (1 : Int32)]) (rest := []) X (c_X10_fails l G hG q1 (1 : Int32)) ca_X10_fails km_X10_59 rfl rfl ⟨Nat.le_of_ble_eq_true rfl, Nat.le_of_ble_eq_true rfl⟩ hP hS (ty_lt ab_196) (cell_10 ab_196) rfl rfl rfl hl.1 rfl (Nat.le_of_ble_eq_true rfl) ⟨Nat.le_of_ble_eq_true rfl, Nat.le_of_ble_eq_true rfl⟩ dX10_meanBits_16) hS (fun q8 hq8 H locs hP hS => ?_)
    have hf := bnd_go hq8 hf
    refine lv_i2l (v := (q8.2).toInt64) hx hb dX10_meanBits_19 rfl ?_
    exact g_lret X hr hlk hP hS hf dX10_meanBits_20
def fX10_undo_L76 : Nat → St → Int32 → Int32 → St × Int32
  | 0, σ, _, _ => (σ, 0)
  | n76 + 1, σ, x1, x2 => (if (36 : Int32) ≤ x2 then (σ, (σ.1 196 13)) else (bnd (setF σ 201 x2.toNatClampNeg (σ.2.1 202 (((36 : Int32) * x1) + x2).toNatClampNeg)) (fun q5 => (fX10_undo_L76 n76 q5 x1 (x2 + (1 : Int32))))))
def okX10_undo_L76 : Nat → St → Int32 → Int32 → Prop
  | 0, _, _, _ => False
  | n76 + 1, σ, x1, x2 => (((36 : Int32) ≤ x2 → True) ∧ (¬ (36 : Int32) ≤ x2 → (vp_in (((36 : Int32) * x1) + x2) 288 ∧ (vp_in x2 36 ∧ (bndP (setF σ 201 x2.toNatClampNeg (σ.2.1 202 (((36 : Int32) * x1) + x2).toNatClampNeg)) (fun q5 => (okX10_undo_L76 n76 q5 x1 (x2 + (1 : Int32)))))))))
def fX10_undo_L43 : Nat → St → Int32 → Int32 → St × Int32
  | 0, σ, _, _ => (σ, 0)
  | n43 + 1, σ, x1, x2 => (if (146 : Int32) ≤ x2 then (fX10_undo_L76 2000 σ x1 (0 : Int32)) else (bnd (setI σ 197 x2.toNatClampNeg (σ.1 198 (((146 : Int32) * x1) + x2).toNatClampNeg)) (fun q8 => (fX10_undo_L43 n43 q8 x1 (x2 + (1 : Int32))))))
def okX10_undo_L43 : Nat → St → Int32 → Int32 → Prop
  | 0, _, _, _ => False
  | n43 + 1, σ, x1, x2 => (((146 : Int32) ≤ x2 → (okX10_undo_L76 2000 σ x1 (0 : Int32))) ∧ (¬ (146 : Int32) ≤ x2 → (vp_in (((146 : Int32) * x1) + x2) 1168 ∧ (vp_in x2 146 ∧ (bndP (setI σ 197 x2.toNatClampNeg (σ.1 198 (((146 : Int32) * x1) + x2).toNatClampNeg)) (fun q8 => (okX10_undo_L43 n43 q8 x1 (x2 + (1 : Int32)))))))))
def f_X10_undo (σ : St) : St × Int32 := (bnd (setI σ 196 0 (0 : Int32)) (fun q1 => (if (q1.1 196 13) = 0 then (bnd (f_X10_fails q1 (1 : Int32)) (fun q9 => (q9.1, q9.2))) else (bnd (setI q1 196 13 ((q1.1 196 13) - (1 : Int32))) (fun q2 => (fX10_undo_L43 2000 q2 (((q2.1 196 14) + (q2.1 196 13)) - ((q2.1 196 14) + (q2.1 196 13)) / (8 : Int32) * (8 : Int32)) (0 : Int32)))))))
def ok_X10_undo (σ : St) : Prop := (bndP (setI σ 196 0 (0 : Int32)) (fun q1 => (((q1.1 196 13) = 0 → True) ∧ (¬ (q1.1 196 13) = 0 → (bndP (setI q1 196 13 ((q1.1 196 13) - (1 : Int32))) (fun q2 => (okX10_undo_L43 2000 q2 (((q2.1 196 14) + (q2.1 196 13)) - ((q2.1 196 14) + (q2.1 196 13)) / (8 : Int32) * (8 : Int32)) (0 : Int32))))))))
abbrev rm_X10_undo : Room := { frames := 1, cells := 0, slots := 0, locals := 21 }
set_option maxHeartbeats 4000000 in
set_option maxRecDepth 100000 in
theorem c_X10_undo (l : Launch) (G : GE) (hG : Gok G) (σ : St) (hok : ok_X10_undo σ) : MtI l G yX10_undo cX10_undo 3 rm_X10_undo [.ref (G.2.1 196)] σ (f_X10_undo σ) := by
  generalize hf : f_X10_undo σ = fv
  rw [f_X10_undo] at hf
  rw [ok_X10_undo] at hok
  refine g_start hG (plainFor_of_name (by decide)) (Nat.le_of_ble_eq_true rfl) ?_
  intro p e s m args below meth c X hr hlk ls hl H locs hP hS
  have X : Cx G p s m args c cX10_undo 3 RX10 := X
  obtain ⟨hx, hb, hml, hown, hts, hK, hbs, hXW, -⟩ := id X
  have hl : lv_has ls 3 [(0, .ref (G.2.1 196))] := hl
  refine lv_aload_n hx hb dX10_undo_0 rfl (lv_at hl 0 rfl) ?_
  refine lv_iconst (v := 0) hx hb dX10_undo_1 (by decide) ?_
  refine gp_10_0 X hP hS ab_196 kf_X10_50 dX10_undo_2 (fun H locs hP hS => ?_)
  refine g_name hP (fun q1 hq1 hP => ?_)
  have hf := bnd_go hq1 hf
  have hok := bnd_goP hq1 hok
  refine lv_aload_n hx hb dX10_undo_5 rfl (lv_at hl 0 rfl) ?_
  refine gg_10_13 X hP ab_196 kf_X10_69 dX10_undo_6 ?_
  refine lv_if_ne (tgt := 18) hx hb dX10_undo_9 (by decide) (fun hc => ?_) (fun hc => ?_)
  · have hf := ite_f hc hf
    have hok := hok.2 hc
    refine lv_aload_n hx hb dX10_undo_18 rfl (lv_at hl 0 rfl) ?_
    refine lv_dup hx hb dX10_undo_19 rfl ?_
    refine gg_10_13 X hP ab_196 kf_X10_69 dX10_undo_20 ?_
    refine lv_iconst (v := 1) hx hb dX10_undo_23 (by decide) ?_
    refine lv_isub hx hb dX10_undo_24 ?_
    refine gp_10_13 X hP hS ab_196 kf_X10_69 dX10_undo_25 (fun H locs hP hS => ?_)
    refine g_name hP (fun q2 hq2 hP => ?_)
    have hf := bnd_go hq2 hf
    have hok := bnd_goP hq2 hok
    refine lv_aload_n hx hb dX10_undo_28 rfl (lv_at hl 0 rfl) ?_
    refine gg_10_14 X hP ab_196 kf_X10_72 dX10_undo_29 ?_
    refine lv_aload_n hx hb dX10_undo_32 rfl (lv_at hl 0 rfl) ?_
    refine gg_10_13 X hP ab_196 kf_X10_69 dX10_undo_33 ?_
    refine lv_iadd hx hb dX10_undo_36 ?_
    refine lv_bipush (v := 8) hx hb dX10_undo_37 (by decide) ?_
    refine lv_irem hx hb dX10_undo_39 (by decide) ?_
    refine lv_istore_n (lv' := [(1, .int (((q2.1 196 14) + (q2.1 196 13)) - ((q2.1 196 14) + (q2.1 196 13)) / (8 : Int32) * (8 : Int32))), (0, .ref (G.2.1 196))]) hx hb dX10_undo_40 rfl hl (by decide) rfl (fun ls hl => ?_)
    refine lv_iconst (v := 0) hx hb dX10_undo_41 (by decide) ?_
    refine lv_istore_n (lv' := [(2, .int (0 : Int32)), (1, .int (((q2.1 196 14) + (q2.1 196 13)) - ((q2.1 196 14) + (q2.1 196 13)) / (8 : Int32) * (8 : Int32))), (0, .ref (G.2.1 196))]) hx hb dX10_undo_42 rfl hl (by decide) rfl (fun ls hl => ?_)
    have K43 : ∀ (n43 : Nat) (σ : St) (x1 : Int32) (x2 : Int32), okX10_undo_L43 n43 σ x1 x2 → fX10_undo_L43 n43 σ x1 x2 = fv → ∀ (H : Heap) (locs : List Loc), va_P G.1 vcl (wl G σ) H → va_S (GA G) s.heap H locs → ∀ (ls : Array Slot), lv_has ls 3 [(0, .ref (G.2.1 196)), (1, .int x1), (2, .int x2)] → W p l e rm_X10_undo s m args below meth c H locs 0 0 (MQ below (va_Qi (fun r u => (u, r) = fv) (PB G) (GA G)) args s 0 0 (GA G)) (F0 m 43 ls []) := by
      intro n43
      induction n43 with
      | zero =>
        intro σ x1 x2 hok
        exact hok.elim
      | succ n43 ih43 =>
        intro σ x1 x2 hok hf H locs hP hS ls hl
        rw [okX10_undo_L43] at hok
        rw [fX10_undo_L43] at hf
        refine lv_iload_n hx hb dX10_undo_43 rfl (lv_at hl 2 rfl) ?_
        refine lv_sipush (v := 146) hx hb dX10_undo_44 (by decide) ?_
        refine lv_icmp_ge (tgt := 74) hx hb dX10_undo_47 (by decide) (fun hc => ?_) (fun hc => ?_)
        · have hf := ite_t hc hf
          have hok := hok.1 hc
          refine lv_iconst (v := 0) hx hb dX10_undo_74 (by decide) ?_
          refine lv_istore_n (lv' := [(2, .int (0 : Int32)), (0, .ref (G.2.1 196)), (1, .int x1)]) hx hb dX10_undo_75 rfl hl (by decide) rfl (fun ls hl => ?_)
          have K76 : ∀ (n76 : Nat) (σ : St) (x1 : Int32) (x2 : Int32), okX10_undo_L76 n76 σ x1 x2 → fX10_undo_L76 n76 σ x1 x2 = fv → ∀ (H : Heap) (locs : List Loc), va_P G.1 vcl (wl G σ) H → va_S (GA G) s.heap H locs → ∀ (ls : Array Slot), lv_has ls 3 [(0, .ref (G.2.1 196)), (1, .int x1), (2, .int x2)] → W p l e rm_X10_undo s m args below meth c H locs 0 0 (MQ below (va_Qi (fun r u => (u, r) = fv) (PB G) (GA G)) args s 0 0 (GA G)) (F0 m 76 ls []) := by
            intro n76
            induction n76 with
            | zero =>
              intro σ x1 x2 hok
              exact hok.elim
            | succ n76 ih76 =>
              intro σ x1 x2 hok hf H locs hP hS ls hl
              rw [okX10_undo_L76] at hok
              rw [fX10_undo_L76] at hf
              refine lv_iload_n hx hb dX10_undo_76 rfl (lv_at hl 2 rfl) ?_
              refine lv_bipush (v := 36) hx hb dX10_undo_77 (by decide) ?_
              refine lv_icmp_ge (tgt := 105) hx hb dX10_undo_79 (by decide) (fun hc => ?_) (fun hc => ?_)
              · have hf := ite_t hc hf
                refine lv_aload_n hx hb dX10_undo_105 rfl (lv_at hl 0 rfl) ?_
                refine gg_10_13 X hP ab_196 kf_X10_69 dX10_undo_106 ?_
                exact g_iret X hr hlk hP hS hf dX10_undo_109
              · have hf := ite_f hc hf
                have hok := hok.2 hc
                refine lv_aload_n hx hb dX10_undo_82 rfl (lv_at hl 0 rfl) ?_
                refine gg_10_9 X hP ab_196 kf_X10_22 dX10_undo_83 ?_
                refine lv_iload_n hx hb dX10_undo_86 rfl (lv_at hl 2 rfl) ?_
                refine lv_aload_n hx hb dX10_undo_87 rfl (lv_at hl 0 rfl) ?_
                refine gg_10_10 X hP ab_196 kf_X10_26 dX10_undo_88 ?_
                refine lv_bipush (v := 36) hx hb dX10_undo_91 (by decide) ?_
                refine lv_iload_n hx hb dX10_undo_93 rfl (lv_at hl 1 rfl) ?_
                refine lv_imul hx hb dX10_undo_94 ?_
                refine lv_iload_n hx hb dX10_undo_95 rfl (lv_at hl 2 rfl) ?_
                refine lv_iadd hx hb dX10_undo_96 ?_
                have hs3 := hok.1
                have hok := hok.2
                refine g_fald X hP ab_202 (by rw [al_202]; exact hs3) dX10_undo_97 ?_
                have hs4 := hok.1
                have hok := hok.2
                refine g_fast X hP hS ab_201 (by rw [al_201]; exact hs4) dX10_undo_98 (fun H locs hP hS => ?_)
                refine g_name hP (fun q5 hq5 hP => ?_)
                have hf := bnd_go hq5 hf
                have hok := bnd_goP hq5 hok
                refine lv_iinc (v := (x2 + (1 : Int32))) (lv' := [(2, .int (x2 + (1 : Int32))), (0, .ref (G.2.1 196)), (1, .int x1)]) hx hb dX10_undo_99 hl (k := 2) rfl rfl (by decide) rfl (fun ls hl => ?_)
                refine lv_goto (tgt := 76) hx hb dX10_undo_102 (by decide) ?_
                exact ih76 q5 x1 (x2 + (1 : Int32)) hok hf _ _ hP hS ls (lv_sub hl [1, 2, 0] rfl)
          exact K76 2000 σ x1 (0 : Int32) hok hf _ _ hP hS ls (lv_sub hl [1, 2, 0] rfl)
        · have hf := ite_f hc hf
          have hok := hok.2 hc
          refine lv_aload_n hx hb dX10_undo_50 rfl (lv_at hl 0 rfl) ?_
          refine gg_10_5 X hP ab_196 kf_X10_7 dX10_undo_51 ?_
          refine lv_iload_n hx hb dX10_undo_54 rfl (lv_at hl 2 rfl) ?_
          refine lv_aload_n hx hb dX10_undo_55 rfl (lv_at hl 0 rfl) ?_
          refine gg_10_6 X hP ab_196 kf_X10_13 dX10_undo_56 ?_
          refine lv_sipush (v := 146) hx hb dX10_undo_59 (by decide) ?_
          refine lv_iload_n hx hb dX10_undo_62 rfl (lv_at hl 1 rfl) ?_
          refine lv_imul hx hb dX10_undo_63 ?_
          refine lv_iload_n hx hb dX10_undo_64 rfl (lv_at hl 2 rfl) ?_
          refine lv_iadd hx hb dX10_undo_65 ?_
          have hs6 := hok.1
          have hok := hok.2
          refine g_iald X hP ab_198 (by rw [al_198]; exact hs6) dX10_undo_66 ?_
          have hs7 := hok.1
          have hok := hok.2
          refine g_iast X hP hS ab_197 (by rw [al_197]; exact hs7) dX10_undo_67 (fun H locs hP hS => ?_)
          refine g_name hP (fun q8 hq8 hP => ?_)
          have hf := bnd_go hq8 hf
          have hok := bnd_goP hq8 hok
          refine lv_iinc (v := (x2 + (1 : Int32))) (lv' := [(2, .int (x2 + (1 : Int32))), (0, .ref (G.2.1 196)), (1, .int x1)]) hx hb dX10_undo_68 hl (k := 2) rfl rfl (by decide) rfl (fun ls hl => ?_)
          refine lv_goto (tgt := 43) hx hb dX10_undo_71 (by decide) ?_
          exact ih43 q8 x1 (x2 + (1 : Int32)) hok hf _ _ hP hS ls (lv_sub hl [1, 2, 0] rfl)
    exact K43 2000 q2 (((q2.1 196 14) + (q2.1 196 13)) - ((q2.1 196 14) + (q2.1 196 13)) / (8 : Int32) * (8 : Int32)) (0 : Int32) hok hf _ _ hP hS ls (lv_sub hl [2, 1, 0] rfl)
  · have hf := ite_t hc hf
    refine lv_aload_n hx hb dX10_undo_12 rfl (lv_at hl 0 rfl) ?_
    refine lv_iconst (v := 1) hx hb dX10_undo_13 (by decide) ?_
    refine g_cI (g_runV (i := 196) (As := [.int (1 : Int32)]) (rest := []) X (c_X10_fails l G hG q1 (1 : Int32)) ca_X10_fails km_X10_59 rfl rfl ⟨Nat.le_of_ble_eq_true rfl, Nat.le_of_ble_eq_true rfl⟩ hP hS (ty_lt ab_196) (cell_10 ab_196) rfl rfl rfl hl.1 rfl (Nat.le_of_ble_eq_true rfl) ⟨Nat.le_of_ble_eq_true rfl, Nat.le_of_ble_eq_true rfl⟩ dX10_undo_14) hS (fun q9 hq9 H locs hP hS => ?_)
    have hf := bnd_go hq9 hf
    exact g_iret X hr hlk hP hS hf dX10_undo_17
def fX10_save_L34 : Nat → St → Int32 → St × Int32
  | 0, σ, _ => (σ, 0)
  | n34 + 1, σ, x1 => (if (36 : Int32) ≤ x1 then (bnd (setI σ 196 15 (1 : Int32)) (fun q2 => (q2, (q2.1 197 (2 : Int32).toNatClampNeg)))) else (bnd (setF σ 203 x1.toNatClampNeg (σ.2.1 201 x1.toNatClampNeg)) (fun q5 => (fX10_save_L34 n34 q5 (x1 + (1 : Int32))))))
def okX10_save_L34 : Nat → St → Int32 → Prop
  | 0, _, _ => False
  | n34 + 1, σ, x1 => (((36 : Int32) ≤ x1 → True) ∧ (¬ (36 : Int32) ≤ x1 → (vp_in x1 36 ∧ (vp_in x1 36 ∧ (bndP (setF σ 203 x1.toNatClampNeg (σ.2.1 201 x1.toNatClampNeg)) (fun q5 => (okX10_save_L34 n34 q5 (x1 + (1 : Int32)))))))))
def fX10_save_L7 : Nat → St → Int32 → St × Int32
  | 0, σ, _ => (σ, 0)
  | n7 + 1, σ, x1 => (if (146 : Int32) ≤ x1 then (fX10_save_L34 2000 σ (0 : Int32)) else (bnd (setI σ 199 x1.toNatClampNeg (σ.1 197 x1.toNatClampNeg)) (fun q8 => (fX10_save_L7 n7 q8 (x1 + (1 : Int32))))))
def okX10_save_L7 : Nat → St → Int32 → Prop
  | 0, _, _ => False
  | n7 + 1, σ, x1 => (((146 : Int32) ≤ x1 → (okX10_save_L34 2000 σ (0 : Int32))) ∧ (¬ (146 : Int32) ≤ x1 → (vp_in x1 146 ∧ (vp_in x1 146 ∧ (bndP (setI σ 199 x1.toNatClampNeg (σ.1 197 x1.toNatClampNeg)) (fun q8 => (okX10_save_L7 n7 q8 (x1 + (1 : Int32)))))))))
def f_X10_save (σ : St) : St × Int32 := (bnd (setI σ 196 0 (0 : Int32)) (fun q1 => (fX10_save_L7 2000 q1 (0 : Int32))))
def ok_X10_save (σ : St) : Prop := (bndP (setI σ 196 0 (0 : Int32)) (fun q1 => (okX10_save_L7 2000 q1 (0 : Int32))))
abbrev rm_X10_save : Room := { frames := 0, cells := 0, slots := 0, locals := 0 }
set_option maxHeartbeats 4000000 in
set_option maxRecDepth 100000 in
theorem c_X10_save (l : Launch) (G : GE) (hG : Gok G) (σ : St) (hok : ok_X10_save σ) : MtI l G yX10_save cX10_save 2 rm_X10_save [.ref (G.2.1 196)] σ (f_X10_save σ) := by
  generalize hf : f_X10_save σ = fv
  rw [f_X10_save] at hf
  rw [ok_X10_save] at hok
  refine g_start hG (plainFor_of_name (by decide)) (Nat.le_of_ble_eq_true rfl) ?_
  intro p e s m args below meth c X hr hlk ls hl H locs hP hS
  have X : Cx G p s m args c cX10_save 2 RX10 := X
  obtain ⟨hx, hb, hml, hown, hts, hK, hbs, hXW, -⟩ := id X
  have hl : lv_has ls 2 [(0, .ref (G.2.1 196))] := hl
  refine lv_aload_n hx hb dX10_save_0 rfl (lv_at hl 0 rfl) ?_
  refine lv_iconst (v := 0) hx hb dX10_save_1 (by decide) ?_
  refine gp_10_0 X hP hS ab_196 kf_X10_50 dX10_save_2 (fun H locs hP hS => ?_)
  refine g_name hP (fun q1 hq1 hP => ?_)
  have hf := bnd_go hq1 hf
  have hok := bnd_goP hq1 hok
  refine lv_iconst (v := 0) hx hb dX10_save_5 (by decide) ?_
  refine lv_istore_n (lv' := [(1, .int (0 : Int32)), (0, .ref (G.2.1 196))]) hx hb dX10_save_6 rfl hl (by decide) rfl (fun ls hl => ?_)
  have K7 : ∀ (n7 : Nat) (σ : St) (x1 : Int32), okX10_save_L7 n7 σ x1 → fX10_save_L7 n7 σ x1 = fv → ∀ (H : Heap) (locs : List Loc), va_P G.1 vcl (wl G σ) H → va_S (GA G) s.heap H locs → ∀ (ls : Array Slot), lv_has ls 2 [(0, .ref (G.2.1 196)), (1, .int x1)] → W p l e rm_X10_save s m args below meth c H locs 0 0 (MQ below (va_Qi (fun r u => (u, r) = fv) (PB G) (GA G)) args s 0 0 (GA G)) (F0 m 7 ls []) := by
    intro n7
    induction n7 with
    | zero =>
      intro σ x1 hok
      exact hok.elim
    | succ n7 ih7 =>
      intro σ x1 hok hf H locs hP hS ls hl
      rw [okX10_save_L7] at hok
      rw [fX10_save_L7] at hf
      refine lv_iload_n hx hb dX10_save_7 rfl (lv_at hl 1 rfl) ?_
      refine lv_sipush (v := 146) hx hb dX10_save_8 (by decide) ?_
      refine lv_icmp_ge (tgt := 32) hx hb dX10_save_11 (by decide) (fun hc => ?_) (fun hc => ?_)
      · have hf := ite_t hc hf
        have hok := hok.1 hc
        refine lv_iconst (v := 0) hx hb dX10_save_32 (by decide) ?_
        refine lv_istore_n (lv' := [(1, .int (0 : Int32)), (0, .ref (G.2.1 196))]) hx hb dX10_save_33 rfl hl (by decide) rfl (fun ls hl => ?_)
        have K34 : ∀ (n34 : Nat) (σ : St) (x1 : Int32), okX10_save_L34 n34 σ x1 → fX10_save_L34 n34 σ x1 = fv → ∀ (H : Heap) (locs : List Loc), va_P G.1 vcl (wl G σ) H → va_S (GA G) s.heap H locs → ∀ (ls : Array Slot), lv_has ls 2 [(0, .ref (G.2.1 196)), (1, .int x1)] → W p l e rm_X10_save s m args below meth c H locs 0 0 (MQ below (va_Qi (fun r u => (u, r) = fv) (PB G) (GA G)) args s 0 0 (GA G)) (F0 m 34 ls []) := by
          intro n34
          induction n34 with
          | zero =>
            intro σ x1 hok
            exact hok.elim
          | succ n34 ih34 =>
            intro σ x1 hok hf H locs hP hS ls hl
            rw [okX10_save_L34] at hok
            rw [fX10_save_L34] at hf
            refine lv_iload_n hx hb dX10_save_34 rfl (lv_at hl 1 rfl) ?_
            refine lv_bipush (v := 36) hx hb dX10_save_35 (by decide) ?_
            refine lv_icmp_ge (tgt := 58) hx hb dX10_save_37 (by decide) (fun hc => ?_) (fun hc => ?_)
            · have hf := ite_t hc hf
              refine lv_aload_n hx hb dX10_save_58 rfl (lv_at hl 0 rfl) ?_
              refine lv_iconst (v := 1) hx hb dX10_save_59 (by decide) ?_
              refine gp_10_15 X hP hS ab_196 kf_X10_289 rfl rfl dX10_save_60 (fun H locs hP hS => ?_)
              refine g_name hP (fun q2 hq2 hP => ?_)
              have hf := bnd_go hq2 hf
              refine lv_aload_n hx hb dX10_save_63 rfl (lv_at hl 0 rfl) ?_
              refine gg_10_5 X hP ab_196 kf_X10_7 dX10_save_64 ?_
              refine lv_iconst (v := 2) hx hb dX10_save_67 (by decide) ?_
              refine g_iald X hP ab_197 (by rw [al_197]; unfold vp_in; decide) dX10_save_68 ?_
              exact g_iret X hr hlk hP hS hf dX10_save_69
            · have hf := ite_f hc hf
              have hok := hok.2 hc
              refine lv_aload_n hx hb dX10_save_40 rfl (lv_at hl 0 rfl) ?_
              refine gg_10_11 X hP ab_196 kf_X10_29 dX10_save_41 ?_
              refine lv_iload_n hx hb dX10_save_44 rfl (lv_at hl 1 rfl) ?_
              refine lv_aload_n hx hb dX10_save_45 rfl (lv_at hl 0 rfl) ?_
              refine gg_10_9 X hP ab_196 kf_X10_22 dX10_save_46 ?_
              refine lv_iload_n hx hb dX10_save_49 rfl (lv_at hl 1 rfl) ?_
              have hs3 := hok.1
              have hok := hok.2
              refine g_fald X hP ab_201 (by rw [al_201]; exact hs3) dX10_save_50 ?_
              have hs4 := hok.1
              have hok := hok.2
              refine g_fast X hP hS ab_203 (by rw [al_203]; exact hs4) dX10_save_51 (fun H locs hP hS => ?_)
              refine g_name hP (fun q5 hq5 hP => ?_)
              have hf := bnd_go hq5 hf
              have hok := bnd_goP hq5 hok
              refine lv_iinc (v := (x1 + (1 : Int32))) (lv' := [(1, .int (x1 + (1 : Int32))), (0, .ref (G.2.1 196))]) hx hb dX10_save_52 hl (k := 1) rfl rfl (by decide) rfl (fun ls hl => ?_)
              refine lv_goto (tgt := 34) hx hb dX10_save_55 (by decide) ?_
              exact ih34 q5 (x1 + (1 : Int32)) hok hf _ _ hP hS ls (lv_sub hl [1, 0] rfl)
        exact K34 2000 σ (0 : Int32) hok hf _ _ hP hS ls (lv_sub hl [1, 0] rfl)
      · have hf := ite_f hc hf
        have hok := hok.2 hc
        refine lv_aload_n hx hb dX10_save_14 rfl (lv_at hl 0 rfl) ?_
        refine gg_10_7 X hP ab_196 kf_X10_16 dX10_save_15 ?_
        refine lv_iload_n hx hb dX10_save_18 rfl (lv_at hl 1 rfl) ?_
        refine lv_aload_n hx hb dX10_save_19 rfl (lv_at hl 0 rfl) ?_
        refine gg_10_5 X hP ab_196 kf_X10_7 dX10_save_20 ?_
        refine lv_iload_n hx hb dX10_save_23 rfl (lv_at hl 1 rfl) ?_
        have hs6 := hok.1
        have hok := hok.2
        refine g_iald X hP ab_197 (by rw [al_197]; exact hs6) dX10_save_24 ?_
        have hs7 := hok.1
        have hok := hok.2
        refine g_iast X hP hS ab_199 (by rw [al_199]; exact hs7) dX10_save_25 (fun H locs hP hS => ?_)
        refine g_name hP (fun q8 hq8 hP => ?_)
        have hf := bnd_go hq8 hf
        have hok := bnd_goP hq8 hok
        refine lv_iinc (v := (x1 + (1 : Int32))) (lv' := [(1, .int (x1 + (1 : Int32))), (0, .ref (G.2.1 196))]) hx hb dX10_save_26 hl (k := 1) rfl rfl (by decide) rfl (fun ls hl => ?_)
        refine lv_goto (tgt := 7) hx hb dX10_save_29 (by decide) ?_
        exact ih7 q8 (x1 + (1 : Int32)) hok hf _ _ hP hS ls (lv_sub hl [1, 0] rfl)
  exact K7 2000 q1 (0 : Int32) hok hf _ _ hP hS ls (lv_sub hl [1, 0] rfl)
def fX10_restore_L47 : Nat → St → Int32 → St × Int32
  | 0, σ, _ => (σ, 0)
  | n47 + 1, σ, x1 => (if (36 : Int32) ≤ x1 then (bnd (setI σ 196 13 (0 : Int32)) (fun q2 => (bnd (setI q2 196 14 (0 : Int32)) (fun q3 => (q3, (q3.1 197 (2 : Int32).toNatClampNeg)))))) else (bnd (setF σ 201 x1.toNatClampNeg (σ.2.1 203 x1.toNatClampNeg)) (fun q6 => (fX10_restore_L47 n47 q6 (x1 + (1 : Int32))))))
def okX10_restore_L47 : Nat → St → Int32 → Prop
  | 0, _, _ => False
  | n47 + 1, σ, x1 => (((36 : Int32) ≤ x1 → True) ∧ (¬ (36 : Int32) ≤ x1 → (vp_in x1 36 ∧ (vp_in x1 36 ∧ (bndP (setF σ 201 x1.toNatClampNeg (σ.2.1 203 x1.toNatClampNeg)) (fun q6 => (okX10_restore_L47 n47 q6 (x1 + (1 : Int32)))))))))
def fX10_restore_L20 : Nat → St → Int32 → St × Int32
  | 0, σ, _ => (σ, 0)
  | n20 + 1, σ, x1 => (if (146 : Int32) ≤ x1 then (fX10_restore_L47 2000 σ (0 : Int32)) else (bnd (setI σ 197 x1.toNatClampNeg (σ.1 199 x1.toNatClampNeg)) (fun q9 => (fX10_restore_L20 n20 q9 (x1 + (1 : Int32))))))
def okX10_restore_L20 : Nat → St → Int32 → Prop
  | 0, _, _ => False
  | n20 + 1, σ, x1 => (((146 : Int32) ≤ x1 → (okX10_restore_L47 2000 σ (0 : Int32))) ∧ (¬ (146 : Int32) ≤ x1 → (vp_in x1 146 ∧ (vp_in x1 146 ∧ (bndP (setI σ 197 x1.toNatClampNeg (σ.1 199 x1.toNatClampNeg)) (fun q9 => (okX10_restore_L20 n20 q9 (x1 + (1 : Int32)))))))))
def f_X10_restore (σ : St) : St × Int32 := (bnd (setI σ 196 0 (0 : Int32)) (fun q1 => (if (q1.1 196 15) = 0 then (bnd (f_X10_fails q1 (1 : Int32)) (fun q10 => (q10.1, q10.2))) else (fX10_restore_L20 2000 q1 (0 : Int32)))))
def ok_X10_restore (σ : St) : Prop := (bndP (setI σ 196 0 (0 : Int32)) (fun q1 => (((q1.1 196 15) = 0 → True) ∧ (¬ (q1.1 196 15) = 0 → (okX10_restore_L20 2000 q1 (0 : Int32))))))
abbrev rm_X10_restore : Room := { frames := 1, cells := 0, slots := 0, locals := 21 }
set_option maxHeartbeats 4000000 in
set_option maxRecDepth 100000 in
theorem c_X10_restore (l : Launch) (G : GE) (hG : Gok G) (σ : St) (hok : ok_X10_restore σ) : MtI l G yX10_restore cX10_restore 2 rm_X10_restore [.ref (G.2.1 196)] σ (f_X10_restore σ) := by
  generalize hf : f_X10_restore σ = fv
  rw [f_X10_restore] at hf
  rw [ok_X10_restore] at hok
  refine g_start hG (plainFor_of_name (by decide)) (Nat.le_of_ble_eq_true rfl) ?_
  intro p e s m args below meth c X hr hlk ls hl H locs hP hS
  have X : Cx G p s m args c cX10_restore 2 RX10 := X
  obtain ⟨hx, hb, hml, hown, hts, hK, hbs, hXW, -⟩ := id X
  have hl : lv_has ls 2 [(0, .ref (G.2.1 196))] := hl
  refine lv_aload_n hx hb dX10_restore_0 rfl (lv_at hl 0 rfl) ?_
  refine lv_iconst (v := 0) hx hb dX10_restore_1 (by decide) ?_
  refine gp_10_0 X hP hS ab_196 kf_X10_50 dX10_restore_2 (fun H locs hP hS => ?_)
  refine g_name hP (fun q1 hq1 hP => ?_)
  have hf := bnd_go hq1 hf
  have hok := bnd_goP hq1 hok
  refine lv_aload_n hx hb dX10_restore_5 rfl (lv_at hl 0 rfl) ?_
  refine gg_10_15 X hP ab_196 kf_X10_289 dX10_restore_6 ?_
  refine lv_if_ne (tgt := 18) hx hb dX10_restore_9 (by decide) (fun hc => ?_) (fun hc => ?_)
  · have hf := ite_f hc hf
    have hok := hok.2 hc
    refine lv_iconst (v := 0) hx hb dX10_restore_18 (by decide) ?_
    refine lv_istore_n (lv' := [(1, .int (0 : Int32)), (0, .ref (G.2.1 196))]) hx hb dX10_restore_19 rfl hl (by decide) rfl (fun ls hl => ?_)
    have K20 : ∀ (n20 : Nat) (σ : St) (x1 : Int32), okX10_restore_L20 n20 σ x1 → fX10_restore_L20 n20 σ x1 = fv → ∀ (H : Heap) (locs : List Loc), va_P G.1 vcl (wl G σ) H → va_S (GA G) s.heap H locs → ∀ (ls : Array Slot), lv_has ls 2 [(0, .ref (G.2.1 196)), (1, .int x1)] → W p l e rm_X10_restore s m args below meth c H locs 0 0 (MQ below (va_Qi (fun r u => (u, r) = fv) (PB G) (GA G)) args s 0 0 (GA G)) (F0 m 20 ls []) := by
      intro n20
      induction n20 with
      | zero =>
        intro σ x1 hok
        exact hok.elim
      | succ n20 ih20 =>
        intro σ x1 hok hf H locs hP hS ls hl
        rw [okX10_restore_L20] at hok
        rw [fX10_restore_L20] at hf
        refine lv_iload_n hx hb dX10_restore_20 rfl (lv_at hl 1 rfl) ?_
        refine lv_sipush (v := 146) hx hb dX10_restore_21 (by decide) ?_
        refine lv_icmp_ge (tgt := 45) hx hb dX10_restore_24 (by decide) (fun hc => ?_) (fun hc => ?_)
        · have hf := ite_t hc hf
          have hok := hok.1 hc
          refine lv_iconst (v := 0) hx hb dX10_restore_45 (by decide) ?_
          refine lv_istore_n (lv' := [(1, .int (0 : Int32)), (0, .ref (G.2.1 196))]) hx hb dX10_restore_46 rfl hl (by decide) rfl (fun ls hl => ?_)
          have K47 : ∀ (n47 : Nat) (σ : St) (x1 : Int32), okX10_restore_L47 n47 σ x1 → fX10_restore_L47 n47 σ x1 = fv → ∀ (H : Heap) (locs : List Loc), va_P G.1 vcl (wl G σ) H → va_S (GA G) s.heap H locs → ∀ (ls : Array Slot), lv_has ls 2 [(0, .ref (G.2.1 196)), (1, .int x1)] → W p l e rm_X10_restore s m args below meth c H locs 0 0 (MQ below (va_Qi (fun r u => (u, r) = fv) (PB G) (GA G)) args s 0 0 (GA G)) (F0 m 47 ls []) := by
            intro n47
            induction n47 with
            | zero =>
              intro σ x1 hok
              exact hok.elim
            | succ n47 ih47 =>
              intro σ x1 hok hf H locs hP hS ls hl
              rw [okX10_restore_L47] at hok
              rw [fX10_restore_L47] at hf
              refine lv_iload_n hx hb dX10_restore_47 rfl (lv_at hl 1 rfl) ?_
              refine lv_bipush (v := 36) hx hb dX10_restore_48 (by decide) ?_
              refine lv_icmp_ge (tgt := 71) hx hb dX10_restore_50 (by decide) (fun hc => ?_) (fun hc => ?_)
              · have hf := ite_t hc hf
                refine lv_aload_n hx hb dX10_restore_71 rfl (lv_at hl 0 rfl) ?_
                refine lv_iconst (v := 0) hx hb dX10_restore_72 (by decide) ?_
                refine gp_10_13 X hP hS ab_196 kf_X10_69 dX10_restore_73 (fun H locs hP hS => ?_)
                refine g_name hP (fun q2 hq2 hP => ?_)
                have hf := bnd_go hq2 hf
                refine lv_aload_n hx hb dX10_restore_76 rfl (lv_at hl 0 rfl) ?_
                refine lv_iconst (v := 0) hx hb dX10_restore_77 (by decide) ?_
                refine gp_10_14 X hP hS ab_196 kf_X10_72 dX10_restore_78 (fun H locs hP hS => ?_)
                refine g_name hP (fun q3 hq3 hP => ?_)
                have hf := bnd_go hq3 hf
                refine lv_aload_n hx hb dX10_restore_81 rfl (lv_at hl 0 rfl) ?_
                refine gg_10_5 X hP ab_196 kf_X10_7 dX10_restore_82 ?_
                refine lv_iconst (v := 2) hx hb dX10_restore_85 (by decide) ?_
                refine g_iald X hP ab_197 (by rw [al_197]; unfold vp_in; decide) dX10_restore_86 ?_
                exact g_iret X hr hlk hP hS hf dX10_restore_87
              · have hf := ite_f hc hf
                have hok := hok.2 hc
                refine lv_aload_n hx hb dX10_restore_53 rfl (lv_at hl 0 rfl) ?_
                refine gg_10_9 X hP ab_196 kf_X10_22 dX10_restore_54 ?_
                refine lv_iload_n hx hb dX10_restore_57 rfl (lv_at hl 1 rfl) ?_
                refine lv_aload_n hx hb dX10_restore_58 rfl (lv_at hl 0 rfl) ?_
                refine gg_10_11 X hP ab_196 kf_X10_29 dX10_restore_59 ?_
                refine lv_iload_n hx hb dX10_restore_62 rfl (lv_at hl 1 rfl) ?_
                have hs4 := hok.1
                have hok := hok.2
                refine g_fald X hP ab_203 (by rw [al_203]; exact hs4) dX10_restore_63 ?_
                have hs5 := hok.1
                have hok := hok.2
                refine g_fast X hP hS ab_201 (by rw [al_201]; exact hs5) dX10_restore_64 (fun H locs hP hS => ?_)
                refine g_name hP (fun q6 hq6 hP => ?_)
                have hf := bnd_go hq6 hf
                have hok := bnd_goP hq6 hok
                refine lv_iinc (v := (x1 + (1 : Int32))) (lv' := [(1, .int (x1 + (1 : Int32))), (0, .ref (G.2.1 196))]) hx hb dX10_restore_65 hl (k := 1) rfl rfl (by decide) rfl (fun ls hl => ?_)
                refine lv_goto (tgt := 47) hx hb dX10_restore_68 (by decide) ?_
                exact ih47 q6 (x1 + (1 : Int32)) hok hf _ _ hP hS ls (lv_sub hl [1, 0] rfl)
          exact K47 2000 σ (0 : Int32) hok hf _ _ hP hS ls (lv_sub hl [1, 0] rfl)
        · have hf := ite_f hc hf
          have hok := hok.2 hc
          refine lv_aload_n hx hb dX10_restore_27 rfl (lv_at hl 0 rfl) ?_
          refine gg_10_5 X hP ab_196 kf_X10_7 dX10_restore_28 ?_
          refine lv_iload_n hx hb dX10_restore_31 rfl (lv_at hl 1 rfl) ?_
          refine lv_aload_n hx hb dX10_restore_32 rfl (lv_at hl 0 rfl) ?_
          refine gg_10_7 X hP ab_196 kf_X10_16 dX10_restore_33 ?_
          refine lv_iload_n hx hb dX10_restore_36 rfl (lv_at hl 1 rfl) ?_
          have hs7 := hok.1
          have hok := hok.2
          refine g_iald X hP ab_199 (by rw [al_199]; exact hs7) dX10_restore_37 ?_
          have hs8 := hok.1
          have hok := hok.2
          refine g_iast X hP hS ab_197 (by rw [al_197]; exact hs8) dX10_restore_38 (fun H locs hP hS => ?_)
          refine g_name hP (fun q9 hq9 hP => ?_)
          have hf := bnd_go hq9 hf
          have hok := bnd_goP hq9 hok
          refine lv_iinc (v := (x1 + (1 : Int32))) (lv' := [(1, .int (x1 + (1 : Int32))), (0, .ref (G.2.1 196))]) hx hb dX10_restore_39 hl (k := 1) rfl rfl (by decide) rfl (fun ls hl => ?_)
          refine lv_goto (tgt := 20) hx hb dX10_restore_42 (by decide) ?_
          exact ih20 q9 (x1 + (1 : Int32)) hok hf _ _ hP hS ls (lv_sub hl [1, 0] rfl)
    exact K20 2000 q1 (0 : Int32) hok hf _ _ hP hS ls (lv_sub hl [1, 0] rfl)
  · have hf := ite_t hc hf
    refine lv_aload_n hx hb dX10_restore_12 rfl (lv_at hl 0 rfl) ?_
    refine lv_iconst (v := 1) hx hb dX10_restore_13 (by decide) ?_
    refine g_cI (g_runV (i := 196) (As := [.int (1 : Int32)]) (rest := []) X (c_X10_fails l G hG q1 (1 : Int32)) ca_X10_fails km_X10_59 rfl rfl ⟨Nat.le_of_ble_eq_true rfl, Nat.le_of_ble_eq_true rfl⟩ hP hS (ty_lt ab_196) (cell_10 ab_196) rfl rfl rfl hl.1 rfl (Nat.le_of_ble_eq_true rfl) ⟨Nat.le_of_ble_eq_true rfl, Nat.le_of_ble_eq_true rfl⟩ dX10_restore_14) hS (fun q10 hq10 H locs hP hS => ?_)
    have hf := bnd_go hq10 hf
    exact g_iret X hr hlk hP hS hf dX10_restore_17
