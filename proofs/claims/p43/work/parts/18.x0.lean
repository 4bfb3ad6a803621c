def fX0_ofFloat_L37 : Nat → UInt32 → UInt32 → Int32 → Int32
  | 0, _, _, _ => 0
  | n37 + 1, x0, x1, x2 => (if x2 ≤ (1 : Int32) then ((x2 <<< ((23 : Int32) &&& 31)) + (FP.f2i (FP.fmul (FP.fsub x1 FP.fconst1) (1258291200 : UInt32)))) else (if 0 ≤ (Op.cmpValue (FP.fcmp x1 FP.fconst1) CmpOp.g) then ((x2 <<< ((23 : Int32) &&& 31)) + (FP.f2i (FP.fmul (FP.fsub x1 FP.fconst1) (1258291200 : UInt32)))) else (fX0_ofFloat_L37 n37 x0 (FP.fmul x1 FP.fconst2) (x2 + (-1 : Int32)))))
def okX0_ofFloat_L37 : Nat → UInt32 → UInt32 → Int32 → Prop
  | 0, _, _, _ => False
  | n37 + 1, x0, x1, x2 => ((x2 ≤ (1 : Int32) → (vf_n32 (FP.fsub x1 FP.fconst1) ∧ vf_n32 (FP.fmul (FP.fsub x1 FP.fconst1) (1258291200 : UInt32)))) ∧ (¬ x2 ≤ (1 : Int32) → ((0 ≤ (Op.cmpValue (FP.fcmp x1 FP.fconst1) CmpOp.g) → (vf_n32 (FP.fsub x1 FP.fconst1) ∧ vf_n32 (FP.fmul (FP.fsub x1 FP.fconst1) (1258291200 : UInt32)))) ∧ (¬ 0 ≤ (Op.cmpValue (FP.fcmp x1 FP.fconst1) CmpOp.g) → (vf_n32 (FP.fmul x1 FP.fconst2) ∧ (okX0_ofFloat_L37 n37 x0 (FP.fmul x1 FP.fconst2) (x2 + (-1 : Int32))))))))
def fX0_ofFloat_L13 : Nat → UInt32 → UInt32 → Int32 → Int32
  | 0, _, _, _ => 0
  | n13 + 1, x0, x1, x2 => (if (254 : Int32) ≤ x2 then (fX0_ofFloat_L37 2000 x0 x1 x2) else (if (Op.cmpValue (FP.fcmp x1 FP.fconst2) CmpOp.l) < 0 then (fX0_ofFloat_L37 2000 x0 x1 x2) else (fX0_ofFloat_L13 n13 x0 (FP.fmul x1 (1056964608 : UInt32)) (x2 + (1 : Int32)))))
def okX0_ofFloat_L13 : Nat → UInt32 → UInt32 → Int32 → Prop
  | 0, _, _, _ => False
  | n13 + 1, x0, x1, x2 => (((254 : Int32) ≤ x2 → (okX0_ofFloat_L37 2000 x0 x1 x2)) ∧ (¬ (254 : Int32) ≤ x2 → (((Op.cmpValue (FP.fcmp x1 FP.fconst2) CmpOp.l) < 0 → (okX0_ofFloat_L37 2000 x0 x1 x2)) ∧ (¬ (Op.cmpValue (FP.fcmp x1 FP.fconst2) CmpOp.l) < 0 → (vf_n32 (FP.fmul x1 (1056964608 : UInt32)) ∧ (okX0_ofFloat_L13 n13 x0 (FP.fmul x1 (1056964608 : UInt32)) (x2 + (1 : Int32))))))))
def f_X0_ofFloat (x0 : UInt32) : Int32 := (if 0 < (Op.cmpValue (FP.fcmp x0 FP.fconst0) CmpOp.g) then (fX0_ofFloat_L13 2000 x0 x0 (127 : Int32)) else (0 : Int32))
def ok_X0_ofFloat (x0 : UInt32) : Prop := ((0 < (Op.cmpValue (FP.fcmp x0 FP.fconst0) CmpOp.g) → (okX0_ofFloat_L13 2000 x0 x0 (127 : Int32))) ∧ (¬ 0 < (Op.cmpValue (FP.fcmp x0 FP.fconst0) CmpOp.g) → True))
abbrev rm_X0_ofFloat : Room := { frames := 0, cells := 0, slots := 0, locals := 0 }
set_option maxHeartbeats 4000000 in
set_option maxRecDepth 100000 in
theorem c_X0_ofFloat (l : Launch) (G : GE) (hG : Gok G) (σ : St) (x0 : UInt32) (hok : ok_X0_ofFloat x0) : MtI l G yX0_ofFloat cX0_ofFloat 3 rm_X0_ofFloat [.float x0] σ (σ, f_X0_ofFloat x0) := by
  generalize hf : f_X0_ofFloat x0 = fv
  rw [f_X0_ofFloat] at hf
  rw [ok_X0_ofFloat] at hok
  refine g_start hG (plainFor_of_name (by decide)) (Nat.le_of_ble_eq_true rfl) ?_
  intro p e s m args below meth c X hr hlk ls hl H locs hP hS
  have X : Cx G p s m args c cX0_ofFloat 3 RX0 := X
  obtain ⟨hx, hb, hml, hown, hts, hK, hbs, hXW, -⟩ := id X
  have hl : lv_has ls 3 [(0, .float x0)] := hl
  refine lv_fload_n hx hb dX0_ofFloat_0 rfl (lv_at hl 0 rfl) ?_
  refine lv_fconst0 hx hb dX0_ofFloat_1 ?_
  refine lv_fcmp hx hb dX0_ofFloat_2 ?_
  refine lv_if_gt (tgt := 8) hx hb dX0_ofFloat_3 (by decide) (fun hc => ?_) (fun hc => ?_)
  · have hf := ite_t hc hf
    have hok := hok.1 hc
    refine lv_fload_n hx hb dX0_ofFloat_8 rfl (lv_at hl 0 rfl) ?_
    refine lv_fstore_n (lv' := [(1, .float x0), (0, .float x0)]) hx hb dX0_ofFloat_9 rfl hl (by decide) rfl (fun ls hl => ?_)
    refine lv_bipush (v := 127) hx hb dX0_ofFloat_10 (by decide) ?_
    refine lv_istore_n (lv' := [(2, .int (127 : Int32)), (1, .float x0), (0, .float x0)]) hx hb dX0_ofFloat_12 rfl hl (by decide) rfl (fun ls hl => ?_)
    have K13 : ∀ (n13 : Nat) (x0 : UInt32) (x1 : UInt32) (x2 : Int32), okX0_ofFloat_L13 n13 x0 x1 x2 → fX0_ofFloat_L13 n13 x0 x1 x2 = fv → ∀ (H : Heap) (locs : List Loc), va_P G.1 vcl (wl G σ) H → va_S (GA G) s.heap H locs → ∀ (ls : Array Slot), lv_has ls 3 [(0, .float x0), (1, .float x1), (2, .int x2)] → W p l e rm_X0_ofFloat s m args below meth c H locs 0 0 (MQ below (va_Qi (fun r u => (u, r) = (σ, fv)) (PB G) (GA G)) args s 0 0 (GA G)) (F0 m 13 ls []) := by
      intro n13
      induction n13 with
      | zero =>
        intro x0 x1 x2 hok
        exact hok.elim
      | succ n13 ih13 =>
        intro x0 x1 x2 hok hf H locs hP hS ls hl
        rw [okX0_ofFloat_L13] at hok
        rw [fX0_ofFloat_L13] at hf
        refine lv_iload_n hx hb dX0_ofFloat_13 rfl (lv_at hl 2 rfl) ?_
        refine lv_sipush (v := 254) hx hb dX0_ofFloat_14 (by decide) ?_
        refine lv_icmp_ge (tgt := 37) hx hb dX0_ofFloat_17 (by decide) (fun hc => ?_) (fun hc => ?_)
        · have hf := ite_t hc hf
          have hok := hok.1 hc
          have K37 : ∀ (n37 : Nat) (x0 : UInt32) (x1 : UInt32) (x2 : Int32), okX0_ofFloat_L37 n37 x0 x1 x2 → fX0_ofFloat_L37 n37 x0 x1 x2 = fv → ∀ (H : Heap) (locs : List Loc), va_P G.1 vcl (wl G σ) H → va_S (GA G) s.heap H locs → ∀ (ls : Array Slot), lv_has ls 3 [(0, .float x0), (1, .float x1), (2, .int x2)] → W p l e rm_X0_ofFloat s m args below meth c H locs 0 0 (MQ below (va_Qi (fun r u => (u, r) = (σ, fv)) (PB G) (GA G)) args s 0 0 (GA G)) (F0 m 37 ls []) := by
            intro n37
            induction n37 with
            | zero =>
              intro x0 x1 x2 hok
              exact hok.elim
            | succ n37 ih37 =>
              intro x0 x1 x2 hok hf H locs hP hS ls hl
              rw [okX0_ofFloat_L37] at hok
              rw [fX0_ofFloat_L37] at hf
              refine lv_iload_n hx hb dX0_ofFloat_37 rfl (lv_at hl 2 rfl) ?_
              refine lv_iconst (v := 1) hx hb dX0_ofFloat_38 (by decide) ?_
              refine lv_icmp_le (tgt := 58) hx hb dX0_ofFloat_39 (by decide) (fun hc => ?_) (fun hc => ?_)
              · have hf := ite_t hc hf
                have hok := hok.1 hc
                refine lv_iload_n hx hb dX0_ofFloat_58 rfl (lv_at hl 2 rfl) ?_
                refine lv_bipush (v := 23) hx hb dX0_ofFloat_59 (by decide) ?_
                refine lv_ishl hx hb dX0_ofFloat_61 ?_
                refine lv_fload_n hx hb dX0_ofFloat_62 rfl (lv_at hl 1 rfl) ?_
                refine lv_fconst1 hx hb dX0_ofFloat_63 ?_
                have hs1 := hok.1
                have hok := hok.2
                refine lv_fsub hx hb dX0_ofFloat_64 hs1 ?_
                refine lv_ldcf hx hb hown (hts _ kc_X0_8) dX0_ofFloat_65 ?_
                have hs2 := hok
                refine lv_fmul hx hb dX0_ofFloat_67 hs2 ?_
                refine lv_f2i hx hb dX0_ofFloat_68 ?_
                refine lv_iadd hx hb dX0_ofFloat_69 ?_
                exact g_iret X hr hlk hP hS (congrArg (Prod.mk σ) hf) dX0_ofFloat_70
              · have hf := ite_f hc hf
                have hok := hok.2 hc
                refine lv_fload_n hx hb dX0_ofFloat_42 rfl (lv_at hl 1 rfl) ?_
                refine lv_fconst1 hx hb dX0_ofFloat_43 ?_
                refine lv_fcmp hx hb dX0_ofFloat_44 ?_
                refine lv_if_ge (tgt := 58) hx hb dX0_ofFloat_45 (by decide) (fun hc => ?_) (fun hc => ?_)
                · have hf := ite_t hc hf
                  have hok := hok.1 hc
                  refine lv_iload_n hx hb dX0_ofFloat_58 rfl (lv_at hl 2 rfl) ?_
                  refine lv_bipush (v := 23) hx hb dX0_ofFloat_59 (by decide) ?_
                  refine lv_ishl hx hb dX0_ofFloat_61 ?_
                  refine lv_fload_n hx hb dX0_ofFloat_62 rfl (lv_at hl 1 rfl) ?_
                  refine lv_fconst1 hx hb dX0_ofFloat_63 ?_
                  have hs3 := hok.1
                  have hok := hok.2
                  refine lv_fsub hx hb dX0_ofFloat_64 hs3 ?_
                  refine lv_ldcf hx hb hown (hts _ kc_X0_8) dX0_ofFloat_65 ?_
                  have hs4 := hok
                  refine lv_fmul hx hb dX0_ofFloat_67 hs4 ?_
                  refine lv_f2i hx hb dX0_ofFloat_68 ?_
                  refine lv_iadd hx hb dX0_ofFloat_69 ?_
                  exact g_iret X hr hlk hP hS (congrArg (Prod.mk σ) hf) dX0_ofFloat_70
                · have hf := ite_f hc hf
                  have hok := hok.2 hc
                  refine lv_fload_n hx hb dX0_ofFloat_48 rfl (lv_at hl 1 rfl) ?_
                  refine lv_fconst2 hx hb dX0_ofFloat_49 ?_
                  have hs5 := hok.1
                  have hok := hok.2
                  refine lv_fmul hx hb dX0_ofFloat_50 hs5 ?_
                  refine lv_fstore_n (lv' := [(1, .float (FP.fmul x1 FP.fconst2)), (0, .float x0), (2, .int x2)]) hx hb dX0_ofFloat_51 rfl hl (by decide) rfl (fun ls hl => ?_)
                  refine lv_iinc (v := (x2 + (-1 : Int32))) (lv' := [(2, .int (x2 + (-1 : Int32))), (1, .float (FP.fmul x1 FP.fconst2)), (0, .float x0)]) hx hb dX0_ofFloat_52 hl (k := 2) rfl rfl (by decide) rfl (fun ls hl => ?_)
                  refine lv_goto (tgt := 37) hx hb dX0_ofFloat_55 (by decide) ?_
                  exact ih37 x0 (FP.fmul x1 FP.fconst2) (x2 + (-1 : Int32)) hok hf _ _ hP hS ls (lv_sub hl [2, 1, 0] rfl)
          exact K37 2000 x0 x1 x2 hok hf _ _ hP hS ls (lv_sub hl [0, 1, 2] rfl)
        · have hf := ite_f hc hf
          have hok := hok.2 hc
          refine lv_fload_n hx hb dX0_ofFloat_20 rfl (lv_at hl 1 rfl) ?_
          refine lv_fconst2 hx hb dX0_ofFloat_21 ?_
          refine lv_fcmp hx hb dX0_ofFloat_22 ?_
          refine lv_if_lt (tgt := 37) hx hb dX0_ofFloat_23 (by decide) (fun hc => ?_) (fun hc => ?_)
          · have hf := ite_t hc hf
            have hok := hok.1 hc
            have K37 : ∀ (n37 : Nat) (x0 : UInt32) (x1 : UInt32) (x2 : Int32), okX0_ofFloat_L37 n37 x0 x1 x2 → fX0_ofFloat_L37 n37 x0 x1 x2 = fv → ∀ (H : Heap) (locs : List Loc), va_P G.1 vcl (wl G σ) H → va_S (GA G) s.heap H locs → ∀ (ls : Array Slot), lv_has ls 3 [(0, .float x0), (1, .float x1), (2, .int x2)] → W p l e rm_X0_ofFloat s m args below meth c H locs 0 0 (MQ below (va_Qi (fun r u => (u, r) = (σ, fv)) (PB G) (GA G)) args s 0 0 (GA G)) (F0 m 37 ls []) := by
              intro n37
              induction n37 with
              | zero =>
                intro x0 x1 x2 hok
                exact hok.elim
              | succ n37 ih37 =>
                intro x0 x1 x2 hok hf H locs hP hS ls hl
                rw [okX0_ofFloat_L37] at hok
                rw [fX0_ofFloat_L37] at hf
                refine lv_iload_n hx hb dX0_ofFloat_37 rfl (lv_at hl 2 rfl) ?_
                refine lv_iconst (v := 1) hx hb dX0_ofFloat_38 (by decide) ?_
                refine lv_icmp_le (tgt := 58) hx hb dX0_ofFloat_39 (by decide) (fun hc => ?_) (fun hc => ?_)
                · have hf := ite_t hc hf
                  have hok := hok.1 hc
                  refine lv_iload_n hx hb dX0_ofFloat_58 rfl (lv_at hl 2 rfl) ?_
                  refine lv_bipush (v := 23) hx hb dX0_ofFloat_59 (by decide) ?_
                  refine lv_ishl hx hb dX0_ofFloat_61 ?_
                  refine lv_fload_n hx hb dX0_ofFloat_62 rfl (lv_at hl 1 rfl) ?_
                  refine lv_fconst1 hx hb dX0_ofFloat_63 ?_
                  have hs6 := hok.1
                  have hok := hok.2
                  refine lv_fsub hx hb dX0_ofFloat_64 hs6 ?_
                  refine lv_ldcf hx hb hown (hts _ kc_X0_8) dX0_ofFloat_65 ?_
                  have hs7 := hok
                  refine lv_fmul hx hb dX0_ofFloat_67 hs7 ?_
                  refine lv_f2i hx hb dX0_ofFloat_68 ?_
                  refine lv_iadd hx hb dX0_ofFloat_69 ?_
                  exact g_iret X hr hlk hP hS (congrArg (Prod.mk σ) hf) dX0_ofFloat_70
                · have hf := ite_f hc hf
                  have hok := hok.2 hc
                  refine lv_fload_n hx hb dX0_ofFloat_42 rfl (lv_at hl 1 rfl) ?_
                  refine lv_fconst1 hx hb dX0_ofFloat_43 ?_
                  refine lv_fcmp hx hb dX0_ofFloat_44 ?_
                  refine lv_if_ge (tgt := 58) hx hb dX0_ofFloat_45 (by decide) (fun hc => ?_) (fun hc => ?_)
                  · have hf := ite_t hc hf
                    have hok := hok.1 hc
                    refine lv_iload_n hx hb dX0_ofFloat_58 rfl (lv_at hl 2 rfl) ?_
                    refine lv_bipush (v := 23) hx hb dX0_ofFloat_59 (by decide) ?_
                    refine lv_ishl hx hb dX0_ofFloat_61 ?_
                    refine lv_fload_n hx hb dX0_ofFloat_62 rfl (lv_at hl 1 rfl) ?_
                    refine lv_fconst1 hx hb dX0_ofFloat_63 ?_
                    have hs8 := hok.1
                    have hok := hok.2
                    refine lv_fsub hx hb dX0_ofFloat_64 hs8 ?_
                    refine lv_ldcf hx hb hown (hts _ kc_X0_8) dX0_ofFloat_65 ?_
                    have hs9 := hok
                    refine lv_fmul hx hb dX0_ofFloat_67 hs9 ?_
                    refine lv_f2i hx hb dX0_ofFloat_68 ?_
                    refine lv_iadd hx hb dX0_ofFloat_69 ?_
                    exact g_iret X hr hlk hP hS (congrArg (Prod.mk σ) hf) dX0_ofFloat_70
                  · have hf := ite_f hc hf
                    have hok := hok.2 hc
                    refine lv_fload_n hx hb dX0_ofFloat_48 rfl (lv_at hl 1 rfl) ?_
                    refine lv_fconst2 hx hb dX0_ofFloat_49 ?_
                    have hs10 := hok.1
                    have hok := hok.2
                    refine lv_fmul hx hb dX0_ofFloat_50 hs10 ?_
                    refine lv_fstore_n (lv' := [(1, .float (FP.fmul x1 FP.fconst2)), (0, .float x0), (2, .int x2)]) hx hb dX0_ofFloat_51 rfl hl (by decide) rfl (fun ls hl => ?_)
                    refine lv_iinc (v := (x2 + (-1 : Int32))) (lv' := [(2, .int (x2 + (-1 : Int32))), (1, .float (FP.fmul x1 FP.fconst2)), (0, .float x0)]) hx hb dX0_ofFloat_52 hl (k := 2) rfl rfl (by decide) rfl (fun ls hl => ?_)
                    refine lv_goto (tgt := 37) hx hb dX0_ofFloat_55 (by decide) ?_
                    exact ih37 x0 (FP.fmul x1 FP.fconst2) (x2 + (-1 : Int32)) hok hf _ _ hP hS ls (lv_sub hl [2, 1, 0] rfl)
            exact K37 2000 x0 x1 x2 hok hf _ _ hP hS ls (lv_sub hl [0, 1, 2] rfl)
          · have hf := ite_f hc hf
            have hok := hok.2 hc
            refine lv_fload_n hx hb dX0_ofFloat_26 rfl (lv_at hl 1 rfl) ?_
            refine lv_ldcf hx hb hown (hts _ kc_X0_7) dX0_ofFloat_27 ?_
            have hs11 := hok.1
            have hok := hok.2
            refine lv_fmul hx hb dX0_ofFloat_29 hs11 ?_
            refine lv_fstore_n (lv' := [(1, .float (FP.fmul x1 (1056964608 : UInt32))), (0, .float x0), (2, .int x2)]) hx hb dX0_ofFloat_30 rfl hl (by decide) rfl (fun ls hl => ?_)
            refine lv_iinc (v := (x2 + (1 : Int32))) (lv' := [(2, .int (x2 + (1 : Int32))), (1, .float (FP.fmul x1 (1056964608 : UInt32))), (0, .float x0)]) hx hb dX0_ofFloat_31 hl (k := 2) rfl rfl (by decide) rfl (fun ls hl => ?_)
            refine lv_goto (tgt := 13) hx hb dX0_ofFloat_34 (by decide) ?_
            exact ih13 x0 (FP.fmul x1 (1056964608 : UInt32)) (x2 + (1 : Int32)) hok hf _ _ hP hS ls (lv_sub hl [2, 1, 0] rfl)
    exact K13 2000 x0 x0 (127 : Int32) hok hf _ _ hP hS ls (lv_sub hl [2, 1, 0] rfl)
  · have hf := ite_f hc hf
    refine lv_iconst (v := 0) hx hb dX0_ofFloat_6 (by decide) ?_
    exact g_iret X hr hlk hP hS (congrArg (Prod.mk σ) hf) dX0_ofFloat_7
