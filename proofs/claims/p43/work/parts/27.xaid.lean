def exN (k : Nat) : String := match k with
  | 1 => "java/lang/IllegalArgumentException"
  | 2 => "java/lang/IndexOutOfBoundsException"
  | 3 => "java/lang/UnsupportedOperationException"
  | 4 => "java/util/NoSuchElementException"
  | 5 => "java/lang/IllegalStateException"
  | _ => "java/lang/ArithmeticException"
def nwL : List Cond := excL.map (fun E => .castable E E) ++ declL.map (fun x => .declares x)
theorem kt_285 : Cond.classLink RX9 285 "java/lang/IllegalStateException" ∈ allW := allW_in (t3_in (List.mem_of_getElem? (i := 135) rfl)) rfl
theorem ki_285 : Cond.initialized "java/lang/IllegalStateException" ∈ allW := allW_in (t1_in (List.mem_of_getElem? (i := 28) rfl)) rfl
theorem ka_289 : ∀ w ∈ vx_atS RX9 289 "java/lang/IllegalStateException" ["java/lang/RuntimeException", "java/lang/Exception"], (w ∈ lw_tbl ∧ goodWord w = true) ∨ w ∈ nwL := by decide +kernel
theorem kt_342 : Cond.classLink RX9 342 "java/lang/IllegalArgumentException" ∈ allW := allW_in (t2_in (List.mem_of_getElem? (i := 153) rfl)) rfl
theorem ki_342 : Cond.initialized "java/lang/IllegalArgumentException" ∈ allW := allW_in (t1_in (List.mem_of_getElem? (i := 15) rfl)) rfl
theorem ka_346 : ∀ w ∈ vx_atS RX9 346 "java/lang/IllegalArgumentException" ["java/lang/RuntimeException", "java/lang/Exception"], (w ∈ lw_tbl ∧ goodWord w = true) ∨ w ∈ nwL := by decide +kernel
theorem kt_384 : Cond.classLink RX9 384 "java/lang/IndexOutOfBoundsException" ∈ allW := allW_in (t2_in (List.mem_of_getElem? (i := 82) rfl)) rfl
theorem ki_384 : Cond.initialized "java/lang/IndexOutOfBoundsException" ∈ allW := allW_in (t1_in (List.mem_of_getElem? (i := 14) rfl)) rfl
theorem ka_388 : ∀ w ∈ vx_atS RX9 388 "java/lang/IndexOutOfBoundsException" ["java/lang/RuntimeException", "java/lang/Exception"], (w ∈ lw_tbl ∧ goodWord w = true) ∨ w ∈ nwL := by decide +kernel
theorem kt_391 : Cond.classLink RX9 391 "java/lang/UnsupportedOperationException" ∈ allW := allW_in (t2_in (List.mem_of_getElem? (i := 169) rfl)) rfl
theorem ki_391 : Cond.initialized "java/lang/UnsupportedOperationException" ∈ allW := allW_in (t1_in (List.mem_of_getElem? (i := 16) rfl)) rfl
theorem ka_395 : ∀ w ∈ vx_atS RX9 395 "java/lang/UnsupportedOperationException" ["java/lang/RuntimeException", "java/lang/Exception"], (w ∈ lw_tbl ∧ goodWord w = true) ∨ w ∈ nwL := by decide +kernel
theorem kt_396 : Cond.classLink RX9 396 "java/util/NoSuchElementException" ∈ allW := allW_in (t3_in (List.mem_of_getElem? (i := 214) rfl)) rfl
theorem ki_396 : Cond.initialized "java/util/NoSuchElementException" ∈ allW := allW_in (t1_in (List.mem_of_getElem? (i := 22) rfl)) rfl
theorem ka_400 : ∀ w ∈ (nx_w RX9 400 "java/util/NoSuchElementException" "java/lang/RuntimeException" ["java/lang/Exception"]).filter vx_no, (w ∈ lw_tbl ∧ goodWord w = true) ∨ w ∈ nwL := by decide +kernel
abbrev BX (G : GE) : String → Nat × St → State → Prop := fun E w t => E = exN w.1 ∧ va_P G.1 vcl (wl G w.2) t.heap
abbrev pxI (fv : Nat × St × Int32) : Nat × St → Prop := fun w => w.1 ≠ 0 ∧ (w.1, w.2, 0) = fv
abbrev XtI (l : Launch) (G : GE) (y : MethodName) (cc : ByteArray) (maxL : Nat) (rm : Room) (av : List Value) (σ : St) (fv : Nat × St × Int32) (mc ms : Nat) : Prop := vx_Met l y (wsA y cc maxL (some .int)) rm (va_Pc av (Wd G σ)) (va_Qi (fun r u => (0, u, r) = fv) (PB G) (GA G)) (vx_X (pxI fv) (BX G) (GA G)) mc ms (GA G)
abbrev pxC (fv : Nat × St × Int32) : Nat × St → Prop := fun w => w.1 ≠ 0 ∧ (w.1, w.2, 0) = fv
abbrev XtC (l : Launch) (G : GE) (y : MethodName) (cc : ByteArray) (maxL : Nat) (rm : Room) (av : List Value) (σ : St) (fv : Nat × St × Int32) (mc ms : Nat) : Prop := vx_Met l y (wsA y cc maxL (some .char)) rm (va_Pc av (Wd G σ)) (va_Qi (fun r u => (0, u, r) = fv) (PB G) (GA G)) (vx_X (pxC fv) (BX G) (GA G)) mc ms (GA G)
abbrev pxF (fv : Nat × St × UInt32) : Nat × St → Prop := fun w => w.1 ≠ 0 ∧ (w.1, w.2, 0) = fv
abbrev XtF (l : Launch) (G : GE) (y : MethodName) (cc : ByteArray) (maxL : Nat) (rm : Room) (av : List Value) (σ : St) (fv : Nat × St × UInt32) (mc ms : Nat) : Prop := vx_Met l y (wsA y cc maxL (some .float)) rm (va_Pc av (Wd G σ)) (va_Qf (fun r u => (0, u, r) = fv) (PB G) (GA G)) (vx_X (pxF fv) (BX G) (GA G)) mc ms (GA G)
abbrev pxJ (fv : Nat × St × Int64) : Nat × St → Prop := fun w => w.1 ≠ 0 ∧ (w.1, w.2, 0) = fv
abbrev XtJ (l : Launch) (G : GE) (y : MethodName) (cc : ByteArray) (maxL : Nat) (rm : Room) (av : List Value) (σ : St) (fv : Nat × St × Int64) (mc ms : Nat) : Prop := vx_Met l y (wsA y cc maxL (some .long)) rm (va_Pc av (Wd G σ)) (va_Ql (fun r u => (0, u, r) = fv) (PB G) (GA G)) (vx_X (pxJ fv) (BX G) (GA G)) mc ms (GA G)
abbrev pxV (fv : Nat × St) : Nat × St → Prop := fun w => w.1 ≠ 0 ∧ (w.1, w.2) = fv
abbrev XtV (l : Launch) (G : GE) (y : MethodName) (cc : ByteArray) (maxL : Nat) (rm : Room) (av : List Value) (σ : St) (fv : Nat × St) (mc ms : Nat) : Prop := vx_Met l y (wsA y cc maxL none) rm (va_Pc av (Wd G σ)) (va_Qv (fun u => (0, u) = fv) (PB G) (GA G)) (vx_X (pxV fv) (BX G) (GA G)) mc ms (GA G)
theorem nwL_at {G : GE} {s : State} {args : Array Value} (h : XW G s s.heap) : ∀ w ∈ nwL, w.before args s = true ∧ w.onTables = true := fun w hw => by
  rcases List.mem_append.mp hw with q | q
  · obtain ⟨E, hE, rfl⟩ := List.mem_map.mp q
    exact ⟨va_Nw.use rfl (h.2.2.2.2.2.2.2.1 E hE), rfl⟩
  · obtain ⟨x, hx, rfl⟩ := List.mem_map.mp q
    exact ⟨va_Nw.use rfl (h.2.2.2.2.2.2.2.2.1 x hx), rfl⟩
theorem gx_start {l : Launch} {G : GE} {y : MethodName} {cc : ByteArray} {maxL : Nat} {ret : Option FieldType} {rm : Room} {av : List Value} {σ : St} {Qc : Array Value → State → Outcome → State → Prop} {XC : String → State → State → Prop} {mc ms : Nat} {free : Addr → Prop} (hG : Gok G) (hy : plainName y.cls = true) (hn : (lg_sl av).length ≤ maxL)
    (body : ∀ (p : Program) (e : Env) (s : State) (m : MethodId) (args : Array Value) (below : List Frame) (meth : Method) (c : Code), Cx G p s m args c cc maxL y.cls → meth.sig.returnType = ret → meth.locks = false → (∀ x ∈ c.exceptionTable.toList, False) → ∀ (ls : Array Slot), lv_has ls maxL (lv_args 0 av) → ∀ (H : Heap) (locs : List Loc), va_P G.1 vcl (wl G σ) H → va_S (GA G) s.heap H locs → W p l e rm s m args below meth c H locs 0 0 (vx_MQ below Qc XC args s mc ms free) (F0 m 0 ls [])) :
    vx_Met l y (wsA y cc maxL ret) rm (va_Pc av (Wd G σ)) Qc XC mc ms free := by
  refine vx_ofW (cc := cc) (maxL := maxL) (ret := ret) hy rfl ?_
  intro p e s m args below meth c s₁ B hml hex hv
  obtain ⟨rfl, hP, hK, hbs, hXW⟩ := hv
  have hts0 := atoms_spec (ws := wsA y cc maxL ret) B.pre
  have hl := lv_entry av hn
  rw [lg_entry_eq]
  exact body p e s m _ below meth c ⟨B.exec, B.bytes, hml, findClass_of_methodNamed B.named, fun w h => hts0 w (List.mem_cons_of_mem _ h), hK, hbs, hXW, hG⟩ B.returns B.notSynchronized hex _ hl s.heap [] hP va_S.rf
section GX
variable {p : Program} {l : Launch} {e : Env} {R : Room} {s : State} {m : MethodId} {args : Array Value} {below : List Frame} {meth : Method} {c : Code} {H : Heap} {locs : List Loc} {cells slots : Nat} {Q : State → Prop}
variable {G : GE} {cc : ByteArray} {nL : Nat} {own : String} {pc : Nat} {ls : Array Slot} {rest st0 : List Value} {σ u : St} {a : Array Value} {mc ms mc1 ms1 : Nat} {XC : String → State → State → Prop}
theorem gx_iret {fv : Nat × St × Int32} {v : Int32} (X : Cx G p s m args c cc nL own) (hr : meth.sig.returnType = some .int) (hlk : meth.locks = false) (hP : va_P G.1 vcl (wl G u) H) (hS : va_S (GA G) s.heap H locs) (hq : (0, u, v) = fv) (hc : cells ≤ mc) (hs : slots ≤ ms) (hdg : decode cc pc = .ok (.ireturn, 1)) :
    W p l e R s m args below meth c H locs cells slots (vx_MQ below (va_Qi (fun r u => (0, u, r) = fv) (PB G) (GA G)) XC args s mc ms (GA G)) (F0 m pc ls [.int v]) :=
  vx_ret (W.widen hc hs (W.iret X.1 X.2.1 hr (fun t ht _ => ⟨⟨v, u, rfl, hq, by show va_P _ _ _ _; rw [ht]; exact hP⟩, hS.F ht⟩) hS.2.2 hdg hlk))
theorem gx_cret {fv : Nat × St × Int32} {v : Int32} (X : Cx G p s m args c cc nL own) (hr : meth.sig.returnType = some .char) (hlk : meth.locks = false) (hn : narrow .char (.int v) = .int v) (hP : va_P G.1 vcl (wl G u) H) (hS : va_S (GA G) s.heap H locs) (hq : (0, u, v) = fv) (hc : cells ≤ mc) (hs : slots ≤ ms) (hdg : decode cc pc = .ok (.ireturn, 1)) :
    W p l e R s m args below meth c H locs cells slots (vx_MQ below (va_Qi (fun r u => (0, u, r) = fv) (PB G) (GA G)) XC args s mc ms (GA G)) (F0 m pc ls [.int v]) :=
  vx_ret (W.widen hc hs (W.zret X.1 X.2.1 hr hn (fun t ht _ => ⟨⟨v, u, rfl, hq, by show va_P _ _ _ _; rw [ht]; exact hP⟩, hS.F ht⟩) hS.2.2 hdg hlk))
theorem gx_fret {fv : Nat × St × UInt32} {v : UInt32} (X : Cx G p s m args c cc nL own) (hr : meth.sig.returnType = some .float) (hlk : meth.locks = false) (hP : va_P G.1 vcl (wl G u) H) (hS : va_S (GA G) s.heap H locs) (hq : (0, u, v) = fv) (hc : cells ≤ mc) (hs : slots ≤ ms) (hdg : decode cc pc = .ok (.freturn, 1)) :
    W p l e R s m args below meth c H locs cells slots (vx_MQ below (va_Qf (fun r u => (0, u, r) = fv) (PB G) (GA G)) XC args s mc ms (GA G)) (F0 m pc ls [.float v]) :=
  vx_ret (W.widen hc hs (W.fret X.1 X.2.1 hr (fun t ht _ => ⟨⟨v, u, rfl, hq, by show va_P _ _ _ _; rw [ht]; exact hP⟩, hS.F ht⟩) hS.2.2 hdg hlk))
theorem gx_lret {fv : Nat × St × Int64} {v : Int64} (X : Cx G p s m args c cc nL own) (hr : meth.sig.returnType = some .long) (hlk : meth.locks = false) (hP : va_P G.1 vcl (wl G u) H) (hS : va_S (GA G) s.heap H locs) (hq : (0, u, v) = fv) (hc : cells ≤ mc) (hs : slots ≤ ms) (hdg : decode cc pc = .ok (.lreturn, 1)) :
    W p l e R s m args below meth c H locs cells slots (vx_MQ below (va_Ql (fun r u => (0, u, r) = fv) (PB G) (GA G)) XC args s mc ms (GA G)) (F0 m pc ls [.long v]) :=
  vx_ret (W.widen hc hs (W.lret X.1 X.2.1 hr (fun t ht _ => ⟨⟨v, u, rfl, hq, by show va_P _ _ _ _; rw [ht]; exact hP⟩, hS.F ht⟩) hS.2.2 hdg hlk))
theorem gx_vret {fv : Nat × St} (X : Cx G p s m args c cc nL own) (hr : meth.sig.returnType = none) (hlk : meth.locks = false) (hP : va_P G.1 vcl (wl G u) H) (hS : va_S (GA G) s.heap H locs) (hq : (0, u) = fv) (hc : cells ≤ mc) (hs : slots ≤ ms) (hdg : decode cc pc = .ok (.return_, 1)) :
    W p l e R s m args below meth c H locs cells slots (vx_MQ below (va_Qv (fun u => (0, u) = fv) (PB G) (GA G)) XC args s mc ms (GA G)) (F0 m pc ls []) :=
  vx_ret (W.widen hc hs (W.vret X.1 X.2.1 hr (fun t ht _ => ⟨⟨u, rfl, hq, by show va_P _ _ _ _; rw [ht]; exact hP⟩, hS.F ht⟩) hS.2.2 hdg hlk))
theorem gx_throw {text : String} {ik is ic sa k : Nat} {px : Nat × St → Prop} {Qc : Array Value → State → Outcome → State → Prop} (X : Cx G p s m args c cc nL own) (hfl : l.stackTraces = false) (hlk : meth.locks = false) (hex : ∀ x ∈ c.exceptionTable.toList, False) (hcl : Bundle.fit (exN k) = true) (hk : Cond.classLink own ik (exN k) ∈ allW) (hini : Cond.initialized (exN k) ∈ allW) (hat : ∀ w ∈ vx_atS own ic (exN k) ["java/lang/RuntimeException", "java/lang/Exception"], (w ∈ lw_tbl ∧ goodWord w = true) ∨ w ∈ nwL) (hstr : vk_R own is text sa s)
    (hP : va_P G.1 vcl (wl G σ) H) (hS : va_S (GA G) s.heap H locs) (hsz : ls.size = nL) (d0 : decode cc pc = .ok (.new ik, 3)) (d3 : decode cc (pc + 3) = .ok (.dup, 1)) (d4 : decode cc (pc + 4) = .ok (.ldc_w is, 3)) (d7 : decode cc (pc + 7) = .ok (.invokespecial ic, 3)) (d10 : decode cc (pc + 10) = .ok (.athrow, 1))
    (hR : 5 < R.frames ∧ 8 + 82 ≤ R.locals ∧ cells + 1 ≤ R.cells ∧ slots + 6 ≤ R.slots) (hW : (rest.map fun v => v.category).sum ≤ 8) (hq : px (k, σ)) (hc : cells + 1 ≤ mc) (hs : slots + 6 ≤ ms) :
    W p l e R s m args below meth c H locs cells slots (vx_MQ below Qc (vx_X px (BX G) (GA G)) args s mc ms (GA G)) (F0 m pc ls rest) := by
  obtain ⟨hx, hb, hml, hown, hts, hK, hbs, hXW, hG⟩ := id X
  have hw : ∀ w ∈ vx_atS own ic (exN k) ["java/lang/RuntimeException", "java/lang/Exception"], w.before args s = true ∧ vx_ot w = true := fun w h => by
    rcases hat w h with q | q
    · exact ⟨hts _ (allW_in q.1 q.2), by unfold vx_ot; rw [q.2]; simp⟩
    · obtain ⟨q1, q2⟩ := nwL_at (args := args) hXW w q
      exact ⟨q1, by unfold vx_ot; rw [q2]; rfl⟩
  refine vx_throwSW (A := GA G) hx hb hfl hown hcl (by decide) (hts _ hk) (hts _ hini) hstr (fun w h => (hw w h).1) (fun w h => by
    rcases List.mem_cons.mp h with h | h
    · rw [h]; unfold vx_ot; rw [allW_good hk]; simp
    · rcases List.mem_cons.mp h with h | h
      · rw [h]; unfold vx_ot; rw [allW_good hini]; simp
      · exact (hw w h).2) hXW.2.2.2.2.1 hXW.2.2.2.2.2.1 hS (hsz.trans hml.symm) d0 d3 d4 d7 d10 (fun x h => (hex x h).elim) hR.1 (Nat.le_trans (Nat.add_le_add hW (Nat.le_of_ble_eq_true rfl)) hR.2.1) hR.2.2.1 hR.2.2.2 hlk ?_ hS.2.2 hc hs
  intro t _ hz hk2
  refine ⟨(k, σ), hq, ⟨rfl, hP.kept (fun j q h => hk2 q.1 (hP j q h).lt)⟩, Nat.le_trans hS.1 hz, fun q h1 h2 => ?_⟩
  rw [hk2 q (Nat.lt_of_lt_of_le h1 hS.1)]
  exact hS.2.1 q h1 h2
theorem gx_throwN {text : String} {ik is ic sa k : Nat} {px : Nat × St → Prop} {Qc : Array Value → State → Outcome → State → Prop} (X : Cx G p s m args c cc nL own) (hfl : l.stackTraces = false) (hlk : meth.locks = false) (hex : ∀ x ∈ c.exceptionTable.toList, False) (hcl : Bundle.fit (exN k) = true) (hk : Cond.classLink own ik (exN k) ∈ allW) (hini : Cond.initialized (exN k) ∈ allW) (hat : ∀ w ∈ (nx_w own ic (exN k) "java/lang/RuntimeException" ["java/lang/Exception"]).filter vx_no, (w ∈ lw_tbl ∧ goodWord w = true) ∨ w ∈ nwL) (hstr : vk_R own is text sa s)
    (hP : va_P G.1 vcl (wl G σ) H) (hS : va_S (GA G) s.heap H locs) (hsz : ls.size = nL) (d0 : decode cc pc = .ok (.new ik, 3)) (d3 : decode cc (pc + 3) = .ok (.dup, 1)) (d4 : decode cc (pc + 4) = .ok (.ldc_w is, 3)) (d7 : decode cc (pc + 7) = .ok (.invokespecial ic, 3)) (d10 : decode cc (pc + 10) = .ok (.athrow, 1))
    (hR : 5 < R.frames ∧ 8 + 82 ≤ R.locals ∧ cells + 1 ≤ R.cells ∧ slots + 6 ≤ R.slots) (hW : (rest.map fun v => v.category).sum ≤ 8) (hq : px (k, σ)) (hc : cells + 1 ≤ mc) (hs : slots + 6 ≤ ms) :
    W p l e R s m args below meth c H locs cells slots (vx_MQ below Qc (vx_X px (BX G) (GA G)) args s mc ms (GA G)) (F0 m pc ls rest) := by
  obtain ⟨hx, hb, hml, hown, hts, hK, hbs, hXW, hG⟩ := id X
  have hw : ∀ w ∈ (nx_w own ic (exN k) "java/lang/RuntimeException" ["java/lang/Exception"]).filter vx_no, w.before args s = true ∧ vx_ot w = true := fun w h => by
    rcases hat w h with q | q
    · exact ⟨hts _ (allW_in q.1 q.2), by unfold vx_ot; rw [q.2]; simp⟩
    · obtain ⟨q1, q2⟩ := nwL_at (args := args) hXW w q
      exact ⟨q1, by unfold vx_ot; rw [q2]; rfl⟩
  refine nx_throw (A := GA G) hx hb hfl hown hcl (by decide) (by decide) (hts _ hk) (hts _ hini) hstr (fun w h => (hw w h).1) (fun w h => by
    rcases List.mem_cons.mp h with h | h
    · rw [h]; unfold vx_ot; rw [allW_good hk]; simp
    · rcases List.mem_cons.mp h with h | h
      · rw [h]; unfold vx_ot; rw [allW_good hini]; simp
      · exact (hw w h).2) hXW.2.2.2.2.1 hXW.2.2.2.2.2.1 hS (hsz.trans hml.symm) d0 d3 d4 d7 d10 (fun x h => (hex x h).elim) hR.1 (Nat.le_trans (Nat.add_le_add hW (Nat.le_of_ble_eq_true rfl)) hR.2.1) hR.2.2.1 hR.2.2.2 hlk ?_ hS.2.2 hc hs
  intro t _ hz hk2
  refine ⟨(k, σ), hq, ⟨rfl, hP.kept (fun j q h => hk2 q.1 (hP j q h).lt)⟩, Nat.le_trans hS.1 hz, fun q h1 h2 => ?_⟩
  rw [hk2 q (Nat.lt_of_lt_of_le h1 hS.1)]
  exact hS.2.1 q h1 h2
theorem gx_out {q : Nat × St} {px : Nat × St → Prop} {Qc : Array Value → State → Outcome → State → Prop} {ce : Cell} {q9 : Addr} (hex : ∀ x ∈ c.exceptionTable.toList, False) (hlk : meth.locks = false) (hP : va_P G.1 vcl (wl G q.2) H) (hS : va_S (GA G) s.heap H locs) (hce : H[q9]? = some ce) (hcv : ce.vm = .none) (hcl : s.vm.findClass (exN q.1) = some ce.cls) (hq : px q) (hc : cells ≤ mc) (hs : slots ≤ ms) :
    vx_W p l e R s m args below meth c H locs cells slots (vx_MQ below Qc (vx_X px (BX G) (GA G)) args s mc ms (GA G)) (F0 m pc ls rest) q9 :=
  vx_out (fun x h => (hex x h).elim) hlk hce hcv hcl (fun t ht _ => ⟨q, hq, ⟨rfl, by rw [ht]; exact hP⟩, hS.F ht⟩) hS.2.2 hc hs
theorem gx_runV {y : MethodName} {bytes : ByteArray} {maxL n index i ci : Nat} {ret : Option FieldType} {rm : Room} {As : List Value} {fs : List Value} {Qc : Array Value → State → Outcome → State → Prop} {q : vw_C} {free : Addr → Prop} (X : Cx G p s m args c cc nL own) (hM : vx_Met l y (wsA y bytes maxL ret) rm (va_Pc (.ref (G.2.1 i) :: As) (Wd G σ)) Qc XC mc1 ms1 free) (hC : CalV y bytes maxL ret n) (hl : Cond.methodLink own index y ∈ allW) (hrc : rm.cells = mc1) (hrs : rm.slots = ms1) (hR : rm.frames + 1 ≤ R.frames ∧ 8 + (maxL + 11) + rm.locals ≤ R.locals)
    (hP : va_P G.1 vcl (wl G σ) H) (hS : va_S (GA G) s.heap H locs) (hi : i < 196) (he : cell G σ i = .inr (ci, fs)) (hc : vcl[ci]? = some q) (hq : q.1 = y.cls) (hn : As.length = n) (hsz : ls.size = nL) (hst : st0 = As.reverse ++ .ref (G.2.1 i) :: rest) (hW : (rest.map fun v => v.category).sum ≤ 8) (hf : cells + mc1 ≤ R.cells ∧ slots + ms1 ≤ R.slots) (hdg : decode cc pc = .ok (.invokevirtual index, 3)) :
    vx_Run p l e R s m args below meth c H locs cells slots mc1 ms1 (F0 m pc ls st0) rest (Qc (Value.ref (G.2.1 i) :: As).toArray) XC free := by
  obtain ⟨hx, hb, hml, hown, hts, hK, hbs, hXW, hG⟩ := id X
  obtain ⟨⟨a1, a2, a3, a4⟩, a5, a6⟩ := hC
  have hrv := va_recv hK hP hc (by rw [wl_at G σ hi, he])
  rw [hq] at hrv
  exact vx_runV (C := y.cls) (nL := nL) (Ts := allW) ⟨hx, hb, hml, hown, hts⟩ hM ⟨⟨hrc, hrs, hR.1, hR.2, g_pay hts a1, List.mem_cons_self, hts _ a1, hts _ a2, a3, g_len a4, hts _ hl⟩, hts _ a5, hts _ a6⟩ ⟨Wd_blind G σ _, hrv, fun U hU hW => ⟨rfl, X.wd hP hS U hU hW⟩⟩ rfl hn hsz hst (lv_room hW) hdg hf
theorem gx_runS {y : MethodName} {bytes : ByteArray} {maxL n index : Nat} {ret : Option FieldType} {rm : Room} {As : List Value} {Qc : Array Value → State → Outcome → State → Prop} {free : Addr → Prop} (X : Cx G p s m args c cc nL own) (hM : vx_Met l y (wsA y bytes maxL ret) rm (va_Pc As (Wd G σ)) Qc XC mc1 ms1 free) (hC : CalS y bytes maxL ret n) (hl : Cond.methodLink own index y ∈ allW) (hrc : rm.cells = mc1) (hrs : rm.slots = ms1) (hR : rm.frames + 1 ≤ R.frames ∧ 8 + (maxL + 11) + rm.locals ≤ R.locals)
    (hP : va_P G.1 vcl (wl G σ) H) (hS : va_S (GA G) s.heap H locs) (hn : As.length = n) (hsz : ls.size = nL) (hst : st0 = As.reverse ++ rest) (hW : (rest.map fun v => v.category).sum ≤ 8) (hf : cells + mc1 ≤ R.cells ∧ slots + ms1 ≤ R.slots) (hdg : decode cc pc = .ok (.invokestatic index, 3)) :
    vx_Run p l e R s m args below meth c H locs cells slots mc1 ms1 (F0 m pc ls st0) rest (Qc As.toArray) XC free := by
  obtain ⟨hx, hb, hml, hown, hts, hK, hbs, hXW, hG⟩ := id X
  obtain ⟨⟨a1, a2, a3, a4⟩, a5⟩ := hC
  exact vx_runS (nL := nL) (Ts := allW) ⟨hx, hb, hml, hown, hts⟩ hM ⟨⟨hrc, hrs, hR.1, hR.2, g_pay hts a1, List.mem_cons_self, hts _ a1, hts _ a2, a3, g_len a4, hts _ hl⟩, hts _ a5⟩ ⟨Wd_blind G σ _, fun U hU hW => ⟨rfl, X.wd hP hS U hU hW⟩⟩ rfl hn hsz hst (lv_room hW) hdg hf
theorem gx_cV {fv : Nat × St} (hr : vx_Run p l e R s m args below meth c H locs cells slots mc1 ms1 (F0 m pc ls st0) rest (va_Qv (fun u => (0, u) = fv) (PB G) (GA G) a) (vx_X (pxV fv) (BX G) (GA G)) (GA G)) (hS : va_S (GA G) s.heap H locs)
    (kx : ∀ (q : Nat × St), q = fv → q.1 ≠ 0 → ∀ (H : Heap) (locs : List Loc), va_P G.1 vcl (wl G q.2) H → va_S (GA G) s.heap H locs → ∀ (ce : Cell) (q9 : Addr), H[q9]? = some ce → ce.vm = .none → s.vm.findClass (exN q.1) = some ce.cls → vx_W p l e R s m args below meth c H locs (cells + mc1) (slots + ms1) Q (F0 m pc ls rest) q9)
    (kk : ∀ (q : Nat × St), q = fv → q.1 = 0 → ∀ (H : Heap) (locs : List Loc), va_P G.1 vcl (wl G q.2) H → va_S (GA G) s.heap H locs → W p l e R s m args below meth c H locs (cells + mc1) (slots + ms1) Q (F0 m (pc + 3) ls rest)) : W p l e R s m args below meth c H locs cells slots Q (F0 m pc ls st0) :=
  vx_callv hr hS (fun _ _ h => h) (fun _ h => h) (fun _ _ h => h)
    (fun E ce q9 w t H1 locs1 ht _ hp hB _ _ hS1 hce hcv hcl => kx w hp.2 hp.1 H1 locs1 (by rw [← ht]; exact hB.2) hS1 ce q9 hce hcv (by rw [← hB.1]; exact hcl))
    (fun u t H1 locs1 ht _ hw hB _ _ hS1 => kk (0, u) hw rfl H1 locs1 (by rw [← ht]; exact hB) hS1)
end GX
