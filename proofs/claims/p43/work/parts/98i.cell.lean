/-! the script's cell -/
def sc (L : Nat) (xs : Nat → Int32) (k : Nat) : Int32 := if k < L then xs k else 7919 * nI k + 12
def WdS (G : GE) (σ : St) (b L : Nat) (xs : Nat → Int32) (U : State) : Prop := Wd G σ U ∧ b < G.2.2.2.1 ∧ va_X b L xs U U.heap
theorem WdS_blind (G : GE) (σ : St) (b L : Nat) (xs : Nat → Int32) (av : List Value) : FrameBlind (va_Pc av (WdS G σ b L xs)) := fun a U g mk h => by
  obtain ⟨h0, h1, h2, h3⟩ := h
  exact ⟨h0, (Wd_blind G σ av a U g mk ⟨h0, h1⟩).2, h2, va_X.moved (u := U) (U := U.calling g mk a) (Vm.Alike.refl U.vm) h3⟩
theorem g_startX {l : Launch} {G : GE} {y : MethodName} {cc : ByteArray} {maxL : Nat} {ret : Option FieldType} {rm : Room} {av : List Value} {σ : St} {b L : Nat} {xs : Nat → Int32} {Qc : Array Value → State → Outcome → State → Prop} {mc ms : Nat} {free : Addr → Prop} (hG : Gok G) (hy : plainFor y = true) (hn : (lg_sl av).length ≤ maxL)
    (body : ∀ (p : Program) (e : Env) (s : State) (m : MethodId) (args : Array Value) (below : List Frame) (meth : Method) (c : Code), Cx G p s m args c cc maxL y.cls → meth.sig.returnType = ret → meth.locks = false → b < G.2.2.2.1 → va_X b L xs s s.heap → ∀ (ls : Array Slot), lv_has ls maxL (lv_args 0 av) → ∀ (H : Heap) (locs : List Loc), va_P G.1 vcl (wl G σ) H → va_S (GA G) s.heap H locs → W p l e rm s m args below meth c H locs 0 0 (MQ below Qc args s mc ms free) (F0 m 0 ls [])) :
    Met l y (wsA y cc maxL ret) rm (va_Pc av (WdS G σ b L xs)) Qc mc ms free := by
  refine g_ofWF (cc := cc) (maxL := maxL) (ret := ret) hy rfl ?_
  intro p e s m args below meth c s₁ B hml hv
  obtain ⟨rfl, ⟨hP, hK, hbs, hXW⟩, hbl, hX⟩ := hv
  have hts0 := atoms_spec (ws := wsA y cc maxL ret) B.pre
  have hl := lv_entry av hn
  rw [lg_entry_eq]
  exact body p e s m _ below meth c ⟨B.exec, B.bytes, hml, findClass_of_methodNamed B.named, fun w h => hts0 w (List.mem_cons_of_mem _ h), hK, hbs, hXW, hG⟩ B.returns B.notSynchronized hbl hX _ hl s.heap [] hP va_S.rf
abbrev rm_L_cell : Room := { frames := 0, cells := 0, slots := 0, locals := 0 }
set_option maxHeartbeats 4000000 in
set_option maxRecDepth 100000 in
theorem c_L_cell (l : Launch) (G : GE) (hG : Gok G) (σ : St) (b L k : Nat) (xs : Nat → Int32) (hL : L < 2 ^ 31) (hk : k < 2 ^ 31) : Met l yL_cell (wsA yL_cell cL_cell 2 (some .int)) rm_L_cell (va_Pc [.ref b, .int (nI k)] (WdS G σ b L xs)) (va_Qi (fun r u => (u, r) = (σ, sc L xs k)) (PB G) (GA G)) 0 0 (GA G) := by
  refine g_startX hG (plainFor_of_name (by decide)) (Nat.le_of_ble_eq_true rfl) ?_
  intro p e s m args below meth c X hr hlk hbl hX ls hl H locs hP hS
  have X : Cx G p s m args c cL_cell 2 RL := X
  obtain ⟨hx, hb, hml, hown, hts, hK, hbs, hXW, -⟩ := id X
  have hl : lv_has ls 2 [(0, .ref b), (1, .int (nI k))] := hl
  have hbA : ¬ GA G b := by
    show ¬ G.2.2.2.1 ≤ b
    omega
  have hbz : b < s.heap.size := by omega
  refine lv_iload_n hx hb dL_cell_0 rfl (lv_at hl 1 rfl) ?_
  refine lv_aload_n hx hb dL_cell_1 rfl (lv_at hl 0 rfl) ?_
  refine va_slen hx hb hX hbz hbA hS dL_cell_2 ?_
  refine lv_icmp_ge (tgt := 12) hx hb dL_cell_3 (by decide) (fun hc => ?_) (fun hc => ?_)
  · have hn : ¬ k < L := fun q => nI_ge q (by omega) hc
    have hf : sc L xs k = 7919 * nI k + 12 := if_neg hn
    refine lv_sipush (v := 7919) hx hb dL_cell_12 (by decide) ?_
    refine lv_iload_n hx hb dL_cell_15 rfl (lv_at hl 1 rfl) ?_
    refine lv_imul hx hb dL_cell_16 ?_
    refine lv_bipush (v := 12) hx hb dL_cell_17 (by decide) ?_
    refine lv_iadd hx hb dL_cell_19 ?_
    exact g_iret X hr hlk hP hS (congrArg (Prod.mk σ) hf.symm) dL_cell_20
  · have hn : k < L := by
      rcases Nat.lt_or_ge k L with q | q
      · exact q
      · exact absurd (nI_le q (by omega)) hc
    have hf : sc L xs k = xs (nI k).toNatClampNeg := by
      rw [nI_clamp (by omega)]
      exact if_pos hn
    refine lv_aload_n hx hb dL_cell_6 rfl (lv_at hl 0 rfl) ?_
    refine lv_iload_n hx hb dL_cell_7 rfl (lv_at hl 1 rfl) ?_
    refine va_sld hx hb hX hbz hbA hS (vp_in_nI hn hL) dL_cell_8 ?_
    refine lv_goto (tgt := 20) hx hb dL_cell_9 (by decide) ?_
    exact g_iret X hr hlk hP hS (congrArg (Prod.mk σ) hf.symm) dL_cell_20
section LWR
variable {p : Program} {l : Launch} {e : Env} {R : Room} {s : State} {m : MethodId} {args : Array Value} {below : List Frame} {meth : Method} {c : Code} {H : Heap} {locs : List Loc} {cells slots : Nat} {Q : State → Prop}
variable {G : GE} {cc : ByteArray} {nL : Nat} {own : String} {pc : Nat} {ls : Array Slot} {rest st0 : List Value} {σ σ' : St} {a : Array Value} {mc ms : Nat}
theorem gl_rJe {fv : St × Int64} {v : Int64} (he : fv = (σ', v)) (hr : va_Run p l e R s m args below meth c H locs cells slots mc ms (F0 m pc ls st0) rest (va_Ql (fun r u => (u, r) = fv) (PB G) (GA G) a) (GA G)) (hS : va_S (GA G) s.heap H locs)
    (kk : ∀ (H : Heap) (locs : List Loc), va_P G.1 vcl (wl G σ') H → va_S (GA G) s.heap H locs → W p l e R s m args below meth c H locs (cells + mc) (slots + ms) Q (F0 m (pc + 3) ls (.long v :: rest))) : W p l e R s m args below meth c H locs cells slots Q (F0 m pc ls st0) :=
  gl_rJ hr hS (fun q hq H locs hP hS => by
    subst he
    subst hq
    exact kk H locs hP hS)
theorem gl_rIe {fv : St × Int32} {v : Int32} (he : fv = (σ', v)) (hr : va_Run p l e R s m args below meth c H locs cells slots mc ms (F0 m pc ls st0) rest (va_Qi (fun r u => (u, r) = fv) (PB G) (GA G) a) (GA G)) (hS : va_S (GA G) s.heap H locs)
    (kk : ∀ (H : Heap) (locs : List Loc), va_P G.1 vcl (wl G σ') H → va_S (GA G) s.heap H locs → W p l e R s m args below meth c H locs (cells + mc) (slots + ms) Q (F0 m (pc + 3) ls (.int v :: rest))) : W p l e R s m args below meth c H locs cells slots Q (F0 m pc ls st0) :=
  gl_rI hr hS (fun q hq H locs hP hS => by
    subst he
    subst hq
    exact kk H locs hP hS)
theorem gl_rZe {fv : St × Bool} {v : Bool} (he : fv = (σ', v)) (hr : va_Run p l e R s m args below meth c H locs cells slots mc ms (F0 m pc ls st0) rest (va_Qi (fun r u => (u, r) = (fv.1, bI fv.2)) (PB G) (GA G) a) (GA G)) (hS : va_S (GA G) s.heap H locs)
    (kk : ∀ (H : Heap) (locs : List Loc), va_P G.1 vcl (wl G σ') H → va_S (GA G) s.heap H locs → W p l e R s m args below meth c H locs (cells + mc) (slots + ms) Q (F0 m (pc + 3) ls (.int (bI v) :: rest))) : W p l e R s m args below meth c H locs cells slots Q (F0 m pc ls st0) :=
  gl_rZ hr hS (fun q hq H locs hP hS => by
    subst he
    subst hq
    exact kk H locs hP hS)
theorem lw_cell {index b L k : Nat} {xs : Nat → Int32} (X : Cx G p s m args c cc nL own) (hX : va_X b L xs s s.heap) (hbl : b < s.heap.size) (hGs : G.2.2.2.1 = s.heap.size) (hL : L < 2 ^ 31) (hk : k < 2 ^ 31) (hl : Cond.methodLink own index yL_cell ∈ allW) (hR : 0 + 1 ≤ R.frames ∧ 8 + (2 + 11) + 0 ≤ R.locals) (hP : va_P G.1 vcl (wl G σ) H) (hS : va_S (GA G) s.heap H locs) (hsz : ls.size = nL) (hW : (rest.map fun v => v.category).sum ≤ 8) (hf : cells ≤ R.cells ∧ slots ≤ R.slots) (hdg : decode cc pc = .ok (.invokestatic index, 3))
    (kk : ∀ (H : Heap) (locs : List Loc), va_P G.1 vcl (wl G σ) H → va_S (GA G) s.heap H locs → W p l e R s m args below meth c H locs cells slots Q (F0 m (pc + 3) ls (.int (sc L xs k) :: rest))) : W p l e R s m args below meth c H locs cells slots Q (F0 m pc ls (.int (nI k) :: .ref b :: rest)) := by
  obtain ⟨hx, hb, hml, hown, hts, hK, hbs, hXW, hG⟩ := id X
  obtain ⟨⟨a1, a2, a3, a4⟩, a5⟩ := ca_L_cell
  have hbA : ¬ GA G b := by
    show ¬ G.2.2.2.1 ≤ b
    omega
  refine gl_rIe (mc := 0) (ms := 0) rfl (va_runS (As := [.ref b, .int (nI k)]) (nL := nL) (Ts := allW) ⟨hx, hb, hml, hown, hts⟩ (c_L_cell l G hG σ b L k xs hL hk) ⟨⟨rfl, rfl, hR.1, hR.2, g_pay hts a1, List.mem_cons_self, hts _ a1, hts _ a2, a3, g_len a4, hts _ hl⟩, hts _ a5⟩ ⟨WdS_blind G σ b L xs _, fun U hU hW => ⟨rfl, X.wd hP hS U hU hW, by omega, ?_⟩⟩ rfl rfl hsz rfl (lv_room hW) hdg hf) hS kk
  rw [hU]
  exact va_X.moved hW.alike (hX.kept (hS.2.1 b hbl hbA))
theorem lw_pick {index : Nat} {x n : Int32} (X : Cx G p s m args c cc nL own) (hn : ¬ n = 0) (hl : Cond.methodLink own index yL_pick ∈ allW) (hR : 0 + 1 ≤ R.frames ∧ 8 + (2 + 11) + 0 ≤ R.locals) (hP : va_P G.1 vcl (wl G σ) H) (hS : va_S (GA G) s.heap H locs) (hsz : ls.size = nL) (hW : (rest.map fun v => v.category).sum ≤ 8) (hf : cells ≤ R.cells ∧ slots ≤ R.slots) (hdg : decode cc pc = .ok (.invokestatic index, 3))
    (kk : ∀ (H : Heap) (locs : List Loc), va_P G.1 vcl (wl G σ) H → va_S (GA G) s.heap H locs → W p l e R s m args below meth c H locs cells slots Q (F0 m (pc + 3) ls (.int (f_L_pick x n) :: rest))) : W p l e R s m args below meth c H locs cells slots Q (F0 m pc ls (.int n :: .int x :: rest)) :=
  gl_rIe (mc := 0) (ms := 0) rfl (g_runS (As := [.int x, .int n]) X (c_L_pick l G X.2.2.2.2.2.2.2.2 σ x n hn) ca_L_pick hl rfl rfl hR hP hS rfl hsz rfl hW hf hdg) hS kk
end LWR
theorem Act.any {σ : St} {w : Nat → Int32} {f : Nat → UInt32} {l : List Dat} {okL : Prop} {fL : St × Int64} (h : Act σ w f l okL fL) : okL ∧ ∃ (σ' : St) (r : Int64) (w' : Nat → Int32) (f' : Nat → UInt32) (l' : List Dat), fL = (σ', r) ∧ Zs σ' w' f' l' ∧ KR SK σ σ' := by
  obtain ⟨h1, h2⟩ := h
  rcases h2 with ⟨σ', r, e, -, hZ, hk⟩ | ⟨σ', v, w', f', e, hZ, hk⟩
  · exact ⟨h1, σ', r, w, f, l, e, hZ, hk⟩
  · exact ⟨h1, σ', _, w', f', _, e, hZ, hk⟩
