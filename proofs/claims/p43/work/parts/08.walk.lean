def strO : List String := ["PotatoStamps", "PotatoStamps", "PotatoStamps", "PotatoStamps", "PotatoStamps", "PotatoStamps", "PotatoStamps", "PotatoStamps", "PotatoStamps$OrderText", "PotatoStamps$OrderText", "PotatoStamps$OrderText", "PotatoStamps$OrderText", "PotatoStamps$OrderText", "PotatoStampsLaw", "PotatoStampsLaw", "PotatoStampsLaw", "PotatoStampsLaw", "PotatoStampsLaw", "PotatoStampsLaw"]
def strE : List Nat := [386, 389, 393, 344, 370, 379, 398, 287, 69, 71, 73, 75, 77, 304, 306, 308, 310, 312, 314]
def strT : List String := ["there is no such thing", "this is out of range", "this is refused", "no such account", "there is nothing to undo", "there is no snapshot", "there is none", "the input is full", "wshtfp", "d>d*n/d", "n@d", "n", "d", "w0>1*3/0;s0@0", "s1@0;h1", "h0;p2", "t1;p1", "w2>1*9/0;w1>2*5/0", "f1;p3"]
def lenS : List Nat := [22, 20, 15, 15, 24, 20, 13, 17, 6, 7, 3, 1, 1, 13, 7, 5, 5, 17, 5]
def bytS : List (List Int32) := [[116, 104, 101, 114, 101, 32, 105, 115, 32, 110, 111, 32, 115, 117, 99, 104, 32, 116, 104, 105, 110, 103], [116, 104, 105, 115, 32, 105, 115, 32, 111, 117, 116, 32, 111, 102, 32, 114, 97, 110, 103, 101], [116, 104, 105, 115, 32, 105, 115, 32, 114, 101, 102, 117, 115, 101, 100], [110, 111, 32, 115, 117, 99, 104, 32, 97, 99, 99, 111, 117, 110, 116], [116, 104, 101, 114, 101, 32, 105, 115, 32, 110, 111, 116, 104, 105, 110, 103, 32, 116, 111, 32, 117, 110, 100, 111], [116, 104, 101, 114, 101, 32, 105, 115, 32, 110, 111, 32, 115, 110, 97, 112, 115, 104, 111, 116], [116, 104, 101, 114, 101, 32, 105, 115, 32, 110, 111, 110, 101], [116, 104, 101, 32, 105, 110, 112, 117, 116, 32, 105, 115, 32, 102, 117, 108, 108], [119, 115, 104, 116, 102, 112], [100, 62, 100, 42, 110, 47, 100], [110, 64, 100], [110], [100], [119, 48, 62, 49, 42, 51, 47, 48, 59, 115, 48, 64, 48], [115, 49, 64, 48, 59, 104, 49], [104, 48, 59, 112, 50], [116, 49, 59, 112, 49], [119, 50, 62, 49, 42, 57, 47, 48, 59, 119, 49, 62, 50, 42, 53, 47, 48], [102, 49, 59, 112, 51]]
def excL : List String := ["java/lang/IllegalArgumentException", "java/lang/IndexOutOfBoundsException", "java/lang/UnsupportedOperationException", "java/util/NoSuchElementException", "java/lang/IllegalStateException"]
def declL : List MethodName := [⟨"java/lang/RuntimeException", "<init>", "(Ljava/lang/String;)V"⟩, ⟨"java/lang/Exception", "<init>", "(Ljava/lang/String;)V"⟩, ⟨"java/lang/Throwable", "<init>", "(Ljava/lang/String;)V"⟩]
def ncL : List (String × String) := [("java/lang/IllegalArgumentException", "java/lang/IndexOutOfBoundsException"), ("java/lang/UnsupportedOperationException", "java/lang/IndexOutOfBoundsException"), ("java/lang/UnsupportedOperationException", "java/lang/IllegalArgumentException"), ("java/util/NoSuchElementException", "java/lang/IndexOutOfBoundsException")]
def nestL : List (String × Nat × MethodName × String) := [(RX9, 9, yX1_init, "PotatoStamps"), (RX1, 11, yX6_init, "PotatoStamps"), (RX6, 11, yX2_init, "PotatoStamps"), (RX6, 20, yX5_init, "PotatoStamps"), (RX6, 34, yX3_init, "PotatoStamps"), (RX9, 25, yX6_init, "PotatoStamps"), (RX4, 17, yX6_init, "PotatoStamps"), (RX9, 41, yX7_init, "PotatoStamps"), (RX1, 25, yX9_inRange, "PotatoStamps"), (RX1, 54, yX9_isChild, "PotatoStamps"), (RX1, 68, yX9_crayonNeeded, "PotatoStamps"), (RX6, 56, yX9_crayonNeeded, "PotatoStamps"), (RX2, 41, yX9_printOf, "PotatoStamps"), (RX1, 96, yX9_isStrong, "PotatoStamps"), (RX6, 82, yX9_softer, "PotatoStamps"), (RX6, 89, yX9_drier, "PotatoStamps"), (RX1, 72, yX9_areSides, "PotatoStamps"), (RX1, 79, yX9_stringNeeded, "PotatoStamps"), (RX6, 72, yX9_stringNeeded, "PotatoStamps"), (RX6, 135, yX9_hungrier, "PotatoStamps"), (RX6, 138, yX9_isHungry, "PotatoStamps"), (RX8, 30, yX9_isChild, "PotatoStamps"), (RX8, 34, yX9_inRange, "PotatoStamps")]
/-- what stays of the launch: the literals, statics of the JDK's -/
def XW (G : GE) (U : State) (H : Heap) : Prop := vk_S 19 lenS bytS G.2.2.2.2.1 G.2.2.2.2.2 (GA G) U H ∧ (∀ i, i < 19 → vk_R (strO.getD i "") (strE.getD i 0) (strT.getD i "") (G.2.2.2.2.1 i) U) ∧ va_Z "java/lang/String" "COMPACT_STRINGS" "Z" (.int 1) (GA G) U H ∧ va_Zq "jdk/internal/util/Preconditions" "SIOOBE_FORMATTER" "Ljava/util/function/BiFunction;" (GA G) U H ∧ vx_Zq Bundle.tN "UNASSIGNED_STACK" Bundle.steD (GA G) U H ∧ vx_Zq Bundle.tN "SUPPRESSED_SENTINEL" Bundle.listD (GA G) U H ∧ (∀ q ∈ nestL, va_Nw (.methodLinkNest q.1 q.2.1 q.2.2.1 q.2.2.2) U) ∧ (∀ E ∈ excL, va_Nw (.castable E E) U) ∧ (∀ x ∈ declL, va_Nw (.declares x) U) ∧ (∀ q ∈ ncL, va_Nc q.1 q.2 U) ∧ va_Z "PotatoStampsLaw" "TEXTS" "[Ljava/lang/String;" (.ref (G.2.2.2.2.2 99)) (GA G) U H ∧ va_T (.object "java/lang/String") (G.2.2.2.2.2 99) 6 (fun k => .ref (G.2.2.2.2.1 (13 + k))) (GA G) U H
theorem XW.go {G : GE} {s U : State} {H : Heap} {locs : List Loc} (h : XW G s s.heap) (hS : va_S (GA G) s.heap H locs) (hW : s.WarmedH U.vm) : XW G U H := by
  obtain ⟨h1, h2, h3, h4, h5, h6, h7, h8, h9, h10, h11, h12⟩ := h
  exact ⟨vk_S.moved hW.alike (vk_S.kept h1 hS.2.1), fun i hi => vk_R.warm hW (h2 i hi), va_Z.moved hW.alike (va_Z.kept h3 hS.2.1), va_Zq.moved hW.alike (va_Zq.kept h4 hS.2.1), vx_Zq.moved hW.alike (vx_Zq.kept h5 hS.2.1), vx_Zq.moved hW.alike (vx_Zq.kept h6 hS.2.1), fun q hq => va_Nw.warmM hW (h7 q hq), fun E hE => va_Nw.warmC hW (h8 E hE), fun x hx => va_Nw.warmD hW (h9 x hx), fun q hq => va_Nc.moved hW.alike (h10 q hq), va_Z.moved hW.alike (va_Z.kept h11 hS.2.1), va_T.moved hW.alike (va_T.kept h12 hS.2.1)⟩
theorem XW.calls {G : GE} {U : State} (h : XW G U U.heap) (g : JFrame) (mk : MethodId) (a : Array Value) : XW G (U.calling g mk a) (U.calling g mk a).heap := by
  obtain ⟨h1, h2, h3, h4, h5, h6, h7, h8, h9, h10, h11, h12⟩ := h
  have e : U.vm.Alike (U.calling g mk a).vm := Vm.Alike.refl U.vm
  exact ⟨vk_S.moved e h1, fun i hi => vk_R.same (u := U) rfl (h2 i hi), va_Z.moved e h3, va_Zq.moved e h4, vx_Zq.moved e h5, vx_Zq.moved e h6, fun q hq => va_Nw.same rfl (u := U) rfl (h7 q hq), fun E hE => va_Nw.same rfl (u := U) rfl (h8 E hE), fun x hx => va_Nw.same rfl (u := U) rfl (h9 x hx), fun q hq => va_Nc.moved e (h10 q hq), va_Z.moved e h11, va_T.moved e h12⟩
/-- the world at a method's start, in state σ -/
def Wd (G : GE) (σ : St) (U : State) : Prop := va_P G.1 vcl (wl G σ) U.heap ∧ va_K G.1 vcl (tysG G) U ∧ G.2.2.2.1 ≤ U.heap.size ∧ XW G U U.heap
theorem Wd_blind (G : GE) (σ : St) (av : List Value) : FrameBlind (va_Pc av (Wd G σ)) := fun a U g mk h => by
  obtain ⟨h0, h1, h2, h3, h4⟩ := h
  exact ⟨h0, h1, va_K.moved (u := U) (U := U.calling g mk a) (Vm.Alike.refl U.vm) h2, h3, h4.calls g mk a⟩
/-- what a walk has at hand: the machine, the code, the class, the tables' words, the world's tables -/
def Cx (G : GE) (p : Program) (s : State) (m : MethodId) (args : Array Value) (c : Code) (cc : ByteArray) (nL : Nat) (own : String) : Prop :=
  p.tables.exec = Jvm.exec ∧ c.code = cc ∧ c.maxLocals = nL ∧ s.vm.findClass own = some m.cls ∧ (∀ w ∈ allW, w.before args s = true) ∧ va_K G.1 vcl (tysG G) s ∧ G.2.2.2.1 ≤ s.heap.size ∧ XW G s s.heap ∧ Gok G
theorem Cx.wd {G : GE} {p : Program} {s : State} {m : MethodId} {args : Array Value} {c : Code} {cc : ByteArray} {nL : Nat} {own : String} (X : Cx G p s m args c cc nL own) {σ : St} {H : Heap} {locs : List Loc} (hP : va_P G.1 vcl (wl G σ) H) (hS : va_S (GA G) s.heap H locs) (U : State) (hU : U.heap = H) (hW : s.WarmedH U.vm) : Wd G σ U := by
  obtain ⟨-, -, -, -, -, hK, hbs, hXW, -⟩ := X
  exact ⟨by rw [hU]; exact hP, va_K.moved hW.alike hK, by rw [hU]; exact Nat.le_trans hbs hS.1, by rw [hU]; exact hXW.go hS hW⟩
theorem Cx.hA {G : GE} {p : Program} {s : State} {m : MethodId} {args : Array Value} {c : Code} {cc : ByteArray} {nL : Nat} {own : String} (X : Cx G p s m args c cc nL own) : ∀ q, s.heap.size ≤ q → GA G q := fun q h => Nat.le_trans X.2.2.2.2.2.2.1 h
/-- a contract's words: its own code, and all of the tables' that keep -/
abbrev wsA (y : MethodName) (cc : ByteArray) (maxL : Nat) (ret : Option FieldType) : List Cond := .code y cc maxL ret :: allW
abbrev PB (G : GE) : St → State → Prop := fun u t => va_P G.1 vcl (wl G u) t.heap
abbrev MtI (l : Launch) (G : GE) (y : MethodName) (cc : ByteArray) (maxL : Nat) (rm : Room) (av : List Value) (σ : St) (fv : St × Int32) : Prop := Met l y (wsA y cc maxL (some .int)) rm (va_Pc av (Wd G σ)) (va_Qi (fun r u => (u, r) = fv) (PB G) (GA G)) 0 0 (GA G)
abbrev bI (b : Bool) : Int32 := if b then 1 else 0
abbrev MtZ (l : Launch) (G : GE) (y : MethodName) (cc : ByteArray) (maxL : Nat) (rm : Room) (av : List Value) (σ : St) (fv : St × Bool) : Prop := Met l y (wsA y cc maxL (some .boolean)) rm (va_Pc av (Wd G σ)) (va_Qi (fun r u => (u, r) = (fv.1, bI fv.2)) (PB G) (GA G)) 0 0 (GA G)
abbrev MtC (l : Launch) (G : GE) (y : MethodName) (cc : ByteArray) (maxL : Nat) (rm : Room) (av : List Value) (σ : St) (fv : St × Int32) : Prop := Met l y (wsA y cc maxL (some .char)) rm (va_Pc av (Wd G σ)) (va_Qi (fun r u => (u, r) = fv) (PB G) (GA G)) 0 0 (GA G)
abbrev MtF (l : Launch) (G : GE) (y : MethodName) (cc : ByteArray) (maxL : Nat) (rm : Room) (av : List Value) (σ : St) (fv : St × UInt32) : Prop := Met l y (wsA y cc maxL (some .float)) rm (va_Pc av (Wd G σ)) (va_Qf (fun r u => (u, r) = fv) (PB G) (GA G)) 0 0 (GA G)
abbrev MtD (l : Launch) (G : GE) (y : MethodName) (cc : ByteArray) (maxL : Nat) (rm : Room) (av : List Value) (σ : St) (fv : St × UInt64) : Prop := Met l y (wsA y cc maxL (some .double)) rm (va_Pc av (Wd G σ)) (va_Qd (fun r u => (u, r) = fv) (PB G) (GA G)) 0 0 (GA G)
abbrev MtJ (l : Launch) (G : GE) (y : MethodName) (cc : ByteArray) (maxL : Nat) (rm : Room) (av : List Value) (σ : St) (fv : St × Int64) : Prop := Met l y (wsA y cc maxL (some .long)) rm (va_Pc av (Wd G σ)) (va_Ql (fun r u => (u, r) = fv) (PB G) (GA G)) 0 0 (GA G)
abbrev MtV (l : Launch) (G : GE) (y : MethodName) (cc : ByteArray) (maxL : Nat) (rm : Room) (av : List Value) (σ : St) (fv : St) : Prop := Met l y (wsA y cc maxL none) rm (va_Pc av (Wd G σ)) (va_Qv (fun u => u = fv) (PB G) (GA G)) 0 0 (GA G)
theorem g_ofWF {l : Launch} {y : MethodName} {ws ws' : List Cond} {rm : Room} {Pc : Array Value → State → Prop} {Qc : Array Value → State → Outcome → State → Prop} {mc ms : Nat} {free : Addr → Prop} {cc : ByteArray} {maxL : Nat} {ret : Option FieldType}
    (hy : plainFor y = true) (hw : ws = Cond.code y cc maxL ret :: ws')
    (body : ∀ p e s m args below meth c s₁, BodyLoose p l y (headSpec ws rm) cc maxL ret e s m args below meth c s₁ → c.maxLocals = maxL → Pc args s →
      W p l e (headSpec ws rm).room s m args below meth c s.heap [] 0 0 (MQ below Qc args s mc ms free) (entryFrame m args maxL)) : Met l y ws rm Pc Qc mc ms free := by
  refine MetFree.of_bodySF (code := cc) (maxLocals := maxL) (ret := ret) hy ?_ ?_
  · intro args s m h hn
    obtain ⟨meth, c, h1, h2, h3, h4, h5, h6, -, -⟩ := Cond.code_spec hn (atoms_spec (ws := ws) h _ (by rw [hw]; exact List.mem_cons_self))
    exact ⟨meth, c, h1, h2, h3, h4, h5, h6⟩
  · intro p e s m args below meth c s₁ B hml hP _
    have hh0 : s₁.heap = s.heap := by rw [B.state]; rfl
    obtain ⟨t, a1, o, b1, b2, b3⟩ := body p e s m args below meth c s₁ B hml hP s₁ hh0 (Stand.of_body B)
    exact ⟨t, o, a1, b1, b2, ⟨b3.1, b3.2⟩⟩
theorem g_start {l : Launch} {G : GE} {y : MethodName} {cc : ByteArray} {maxL : Nat} {ret : Option FieldType} {rm : Room} {av : List Value} {σ : St} {Qc : Array Value → State → Outcome → State → Prop} {mc ms : Nat} {free : Addr → Prop} (hG : Gok G) (hy : plainFor y = true) (hn : (lg_sl av).length ≤ maxL)
    (body : ∀ (p : Program) (e : Env) (s : State) (m : MethodId) (args : Array Value) (below : List Frame) (meth : Method) (c : Code), Cx G p s m args c cc maxL y.cls → meth.sig.returnType = ret → meth.locks = false → ∀ (ls : Array Slot), lv_has ls maxL (lv_args 0 av) → ∀ (H : Heap) (locs : List Loc), va_P G.1 vcl (wl G σ) H → va_S (GA G) s.heap H locs → W p l e rm s m args below meth c H locs 0 0 (MQ below Qc args s mc ms free) (F0 m 0 ls [])) :
    Met l y (wsA y cc maxL ret) rm (va_Pc av (Wd G σ)) Qc mc ms free := by
  refine g_ofWF (cc := cc) (maxL := maxL) (ret := ret) hy rfl ?_
  intro p e s m args below meth c s₁ B hml hv
  obtain ⟨rfl, hP, hK, hbs, hXW⟩ := hv
  have hts0 := atoms_spec (ws := wsA y cc maxL ret) B.pre
  have hl := lv_entry av hn
  rw [lg_entry_eq]
  exact body p e s m _ below meth c ⟨B.exec, B.bytes, hml, findClass_of_methodNamed B.named, fun w h => hts0 w (List.mem_cons_of_mem _ h), hK, hbs, hXW, hG⟩ B.returns B.notSynchronized _ hl s.heap [] hP va_S.rf
section GW
variable {p : Program} {l : Launch} {e : Env} {R : Room} {s : State} {m : MethodId} {args : Array Value} {below : List Frame} {meth : Method} {c : Code} {H : Heap} {locs : List Loc} {cells slots : Nat} {Q : State → Prop}
variable {G : GE} {cc : ByteArray} {nL : Nat} {own : String} {pc : Nat} {ls : Array Slot} {rest : List Value} {σ u : St}
theorem g_iret {fv : St × Int32} {v : Int32} (X : Cx G p s m args c cc nL own) (hr : meth.sig.returnType = some .int) (hlk : meth.locks = false) (hP : va_P G.1 vcl (wl G u) H) (hS : va_S (GA G) s.heap H locs) (hq : (u, v) = fv) (hdg : decode cc pc = .ok (.ireturn, 1)) :
    W p l e R s m args below meth c H locs 0 0 (MQ below (va_Qi (fun r u => (u, r) = fv) (PB G) (GA G)) args s 0 0 (GA G)) (F0 m pc ls [.int v]) :=
  W.iret X.1 X.2.1 hr (fun t ht _ => ⟨⟨v, u, rfl, hq, by show va_P _ _ _ _; rw [ht]; exact hP⟩, hS.F ht⟩) hS.2.2 hdg hlk
theorem g_cret {fv : St × Int32} {v : Int32} (X : Cx G p s m args c cc nL own) (hr : meth.sig.returnType = some .char) (hlk : meth.locks = false) (hn : narrow .char (.int v) = .int v) (hP : va_P G.1 vcl (wl G u) H) (hS : va_S (GA G) s.heap H locs) (hq : (u, v) = fv) (hdg : decode cc pc = .ok (.ireturn, 1)) :
    W p l e R s m args below meth c H locs 0 0 (MQ below (va_Qi (fun r u => (u, r) = fv) (PB G) (GA G)) args s 0 0 (GA G)) (F0 m pc ls [.int v]) :=
  W.zret X.1 X.2.1 hr hn (fun t ht _ => ⟨⟨v, u, rfl, hq, by show va_P _ _ _ _; rw [ht]; exact hP⟩, hS.F ht⟩) hS.2.2 hdg hlk
theorem bI_nar (b : Bool) : narrow .boolean (.int (bI b)) = .int (bI b) := by cases b <;> rfl
theorem g_zret {fv : St × Bool} {b : Bool} {v : Int32} (X : Cx G p s m args c cc nL own) (hr : meth.sig.returnType = some .boolean) (hlk : meth.locks = false) (hv : v = bI b) (hP : va_P G.1 vcl (wl G u) H) (hS : va_S (GA G) s.heap H locs) (hq : (u, b) = fv) (hdg : decode cc pc = .ok (.ireturn, 1)) :
    W p l e R s m args below meth c H locs 0 0 (MQ below (va_Qi (fun r u => (u, r) = (fv.1, bI fv.2)) (PB G) (GA G)) args s 0 0 (GA G)) (F0 m pc ls [.int v]) :=
  W.zret X.1 X.2.1 hr (by rw [hv]; exact bI_nar b) (fun t ht _ => ⟨⟨v, u, rfl, by rw [← hq, hv], by show va_P _ _ _ _; rw [ht]; exact hP⟩, hS.F ht⟩) hS.2.2 hdg hlk
theorem g_fret {fv : St × UInt32} {v : UInt32} (X : Cx G p s m args c cc nL own) (hr : meth.sig.returnType = some .float) (hlk : meth.locks = false) (hP : va_P G.1 vcl (wl G u) H) (hS : va_S (GA G) s.heap H locs) (hq : (u, v) = fv) (hdg : decode cc pc = .ok (.freturn, 1)) :
    W p l e R s m args below meth c H locs 0 0 (MQ below (va_Qf (fun r u => (u, r) = fv) (PB G) (GA G)) args s 0 0 (GA G)) (F0 m pc ls [.float v]) :=
  W.fret X.1 X.2.1 hr (fun t ht _ => ⟨⟨v, u, rfl, hq, by show va_P _ _ _ _; rw [ht]; exact hP⟩, hS.F ht⟩) hS.2.2 hdg hlk
theorem g_dret {fv : St × UInt64} {v : UInt64} (X : Cx G p s m args c cc nL own) (hr : meth.sig.returnType = some .double) (hlk : meth.locks = false) (hP : va_P G.1 vcl (wl G u) H) (hS : va_S (GA G) s.heap H locs) (hq : (u, v) = fv) (hdg : decode cc pc = .ok (.dreturn, 1)) :
    W p l e R s m args below meth c H locs 0 0 (MQ below (va_Qd (fun r u => (u, r) = fv) (PB G) (GA G)) args s 0 0 (GA G)) (F0 m pc ls [.double v]) :=
  W.dret X.1 X.2.1 hr (fun t ht _ => ⟨⟨v, u, rfl, hq, by show va_P _ _ _ _; rw [ht]; exact hP⟩, hS.F ht⟩) hS.2.2 hdg hlk
theorem g_lret {fv : St × Int64} {v : Int64} (X : Cx G p s m args c cc nL own) (hr : meth.sig.returnType = some .long) (hlk : meth.locks = false) (hP : va_P G.1 vcl (wl G u) H) (hS : va_S (GA G) s.heap H locs) (hq : (u, v) = fv) (hdg : decode cc pc = .ok (.lreturn, 1)) :
    W p l e R s m args below meth c H locs 0 0 (MQ below (va_Ql (fun r u => (u, r) = fv) (PB G) (GA G)) args s 0 0 (GA G)) (F0 m pc ls [.long v]) :=
  W.lret X.1 X.2.1 hr (fun t ht _ => ⟨⟨v, u, rfl, hq, by show va_P _ _ _ _; rw [ht]; exact hP⟩, hS.F ht⟩) hS.2.2 hdg hlk
theorem g_vret {fv : St} (X : Cx G p s m args c cc nL own) (hr : meth.sig.returnType = none) (hlk : meth.locks = false) (hP : va_P G.1 vcl (wl G u) H) (hS : va_S (GA G) s.heap H locs) (hq : u = fv) (hdg : decode cc pc = .ok (.return_, 1)) :
    W p l e R s m args below meth c H locs 0 0 (MQ below (va_Qv (fun u => u = fv) (PB G) (GA G)) args s 0 0 (GA G)) (F0 m pc ls []) :=
  W.vret X.1 X.2.1 hr (fun t ht _ => ⟨⟨u, rfl, hq, by show va_P _ _ _ _; rw [ht]; exact hP⟩, hS.F ht⟩) hS.2.2 hdg hlk
/-- reading a field -/
theorem g_get {a C : String} {Tt : u_T} {N ci index i k : Nat} {fs : List Value} {v : Value} (X : Cx G p s m args c cc nL own) (hP : va_P G.1 vcl (wl G σ) H) (hi : i < 196) (he : cell G σ i = .inr (ci, fs)) (hc : vcl[ci]? = some (C, Tt, N)) (hin : ∀ w ∈ u_ws C Tt N, w ∈ allW) (hk : k < N) (hl : Cond.fieldLink own index (Tt k).1 (Tt k).2.1 (Tt k).2.2.1 ∈ allW) (hv : fs[k]? = some v) (hdg : decode cc pc = .ok (.getfield index, 3))
    (kk : W p l e R s m args below meth c H locs cells slots Q (F0 m (pc + 3) ls (v :: rest))) : W p l e R s m args below meth c H locs cells slots Q (F0 m pc ls (.ref (G.2.1 i) :: rest)) := by
  obtain ⟨hx, hb, hml, hown, hts, hK, hbs, hXW, hG⟩ := X
  exact va_get hx hb hts hin hown hK hP i (by rw [wl_at G σ hi, he]) hc k hk (hts _ hl) (fun _ h => h) hv hdg kk
/-- writing a field -/
theorem g_put {C : String} {Tt : u_T} {N ci index i k : Nat} {fs : List Value} {v : Value} {ty : FieldType} {σ' : St} (X : Cx G p s m args c cc nL own) (hP : va_P G.1 vcl (wl G σ) H) (hS : va_S (GA G) s.heap H locs) (hi : i < 196) (he : cell G σ i = .inr (ci, fs)) (hc : vcl[ci]? = some (C, Tt, N)) (hin : ∀ w ∈ u_ws C Tt N, w ∈ allW) (ty0 : Nat → FieldType) (hty : ∀ k, k < N → parseFieldDescriptor (Tt k).2.2.1 = some (ty0 k)) (hnm : ∀ a, a < N → ∀ b, b < N → a ≠ b → (Tt a).2.1 ≠ (Tt b).2.1) (hk : k < N) (hl : Cond.fieldLink own index (Tt k).1 (Tt k).2.1 (Tt k).2.2.1 ∈ allW) (hfin : (Tt k).2.2.2 = false) (hd : ty0 k = ty) (hn : narrow ty v = v) (hfit : fits ty v = true) (hlen : k < fs.length)
    (h1 : cell G σ' i = .inr (ci, fs.set k v)) (h2 : ∀ j, j ≠ i → cell G σ' j = cell G σ j) (hdg : decode cc pc = .ok (.putfield index, 3))
    (kk : ∀ (H : Heap) (locs : List Loc), va_P G.1 vcl (wl G σ') H → va_S (GA G) s.heap H locs → W p l e R s m args below meth c H locs cells slots Q (F0 m (pc + 3) ls rest)) : W p l e R s m args below meth c H locs cells slots Q (F0 m pc ls (v :: .ref (G.2.1 i) :: rest)) := by
  obtain ⟨hx, hb, hml, hown, hts, hK, hbs, hXW, hG⟩ := X
  exact va_put hx hb hts hin ty0 hty hnm hown hK hP (wl_D hG σ) hS i (by rw [wl_at G σ hi, he]) hc k hk (hts _ hl) (fun _ h => h) hfin (by rw [hty k hk, hd]) hn hfit hlen hdg (fun H1 locs1 a1 _ a3 => kk H1 locs1 (by rw [← wl_set hi h1 h2]; exact a1) a3)
/-- int rows -/
theorem g_iald {i : Nat} {x : Int32} (X : Cx G p s m args c cc nL own) (hP : va_P G.1 vcl (wl G σ) H) (ht : tyOf i = 20) (hin : vp_in x (lnOf i)) (hdg : decode cc pc = .ok (.iaload, 1))
    (kk : W p l e R s m args below meth c H locs cells slots Q (F0 m (pc + 1) ls (.int (σ.1 i x.toNatClampNeg) :: rest))) : W p l e R s m args below meth c H locs cells slots Q (F0 m pc ls (.int x :: .ref (G.2.1 i) :: rest)) :=
  va_iald X.1 X.2.1 X.2.2.2.2.2.1 hP i 0 (by rw [wl_at G σ (ty_lt ht), cell_20 ht]) rfl hin hdg kk
theorem g_cald {i : Nat} {x : Int32} (X : Cx G p s m args c cc nL own) (hP : va_P G.1 vcl (wl G σ) H) (ht : tyOf i = 22) (hin : vp_in x (lnOf i)) (hdg : decode cc pc = .ok (.caload, 1))
    (kk : W p l e R s m args below meth c H locs cells slots Q (F0 m (pc + 1) ls (.int (σ.1 i x.toNatClampNeg) :: rest))) : W p l e R s m args below meth c H locs cells slots Q (F0 m pc ls (.int x :: .ref (G.2.1 i) :: rest)) :=
  va_cald X.1 X.2.1 X.2.2.2.2.2.1 hP i 2 (by rw [wl_at G σ (ty_lt ht), cell_22 ht]) rfl hin hdg kk
theorem g_fald {i : Nat} {x : Int32} (X : Cx G p s m args c cc nL own) (hP : va_P G.1 vcl (wl G σ) H) (ht : tyOf i = 21) (hin : vp_in x (lnOf i)) (hdg : decode cc pc = .ok (.faload, 1))
    (kk : W p l e R s m args below meth c H locs cells slots Q (F0 m (pc + 1) ls (.float (σ.2.1 i x.toNatClampNeg) :: rest))) : W p l e R s m args below meth c H locs cells slots Q (F0 m pc ls (.int x :: .ref (G.2.1 i) :: rest)) :=
  va_fald X.1 X.2.1 X.2.2.2.2.2.1 hP i 1 (by rw [wl_at G σ (ty_lt ht), cell_21 ht]) rfl hin hdg kk
theorem g_aald {i : Nat} {x : Int32} (X : Cx G p s m args c cc nL own) (hP : va_P G.1 vcl (wl G σ) H) (ht : tyOf i = 23) (hin : vp_in x (lnOf i)) (hdg : decode cc pc = .ok (.aaload, 1))
    (kk : W p l e R s m args below meth c H locs cells slots Q (F0 m (pc + 1) ls (.ref (G.2.1 (53 + 17 * x.toNatClampNeg)) :: rest))) : W p l e R s m args below meth c H locs cells slots Q (F0 m pc ls (.int x :: .ref (G.2.1 i) :: rest)) :=
  va_aldq (f := fun k => some (G.2.1 (53 + 17 * k))) X.1 X.2.1 X.2.2.2.2.2.1 hP i 3 (by rw [wl_at G σ (ty_lt ht), cell_23 ht]) rfl hin hdg kk
theorem g_iast {i : Nat} {x y : Int32} (X : Cx G p s m args c cc nL own) (hP : va_P G.1 vcl (wl G σ) H) (hS : va_S (GA G) s.heap H locs) (ht : tyOf i = 20) (hin : vp_in x (lnOf i)) (hdg : decode cc pc = .ok (.iastore, 1))
    (kk : ∀ (H : Heap) (locs : List Loc), va_P G.1 vcl (wl G (setI σ i x.toNatClampNeg y)) H → va_S (GA G) s.heap H locs → W p l e R s m args below meth c H locs cells slots Q (F0 m (pc + 1) ls rest)) : W p l e R s m args below meth c H locs cells slots Q (F0 m pc ls (.int y :: .int x :: .ref (G.2.1 i) :: rest)) :=
  va_iast X.1 X.2.1 X.2.2.2.2.2.1 hP (wl_D X.2.2.2.2.2.2.2.2 σ) hS i 0 (by rw [wl_at G σ (ty_lt ht), cell_20 ht]) rfl hin hdg (fun H1 locs1 a1 _ a3 => kk H1 locs1 (by rw [← wl_set (ty_lt ht) (σ' := setI σ i x.toNatClampNeg y) (e := .inl (G.2.2.1 0, lnOf i, .inl (upd (σ.1 i) x.toNatClampNeg y))) (by rw [cell_20 ht]; unfold setI; rw [rowI_s]) (rowI_n G σ i _)]; exact a1) a3)
theorem g_cast {i : Nat} {x y : Int32} (X : Cx G p s m args c cc nL own) (hP : va_P G.1 vcl (wl G σ) H) (hS : va_S (GA G) s.heap H locs) (ht : tyOf i = 22) (hin : vp_in x (lnOf i)) (hdg : decode cc pc = .ok (.castore, 1))
    (kk : ∀ (H : Heap) (locs : List Loc), va_P G.1 vcl (wl G (setI σ i x.toNatClampNeg (vp_nar .char y))) H → va_S (GA G) s.heap H locs → W p l e R s m args below meth c H locs cells slots Q (F0 m (pc + 1) ls rest)) : W p l e R s m args below meth c H locs cells slots Q (F0 m pc ls (.int y :: .int x :: .ref (G.2.1 i) :: rest)) :=
  va_cast X.1 X.2.1 X.2.2.2.2.2.1 hP (wl_D X.2.2.2.2.2.2.2.2 σ) hS i 2 (by rw [wl_at G σ (ty_lt ht), cell_22 ht]) rfl hin hdg (fun H1 locs1 a1 _ a3 => kk H1 locs1 (by rw [← wl_set (ty_lt ht) (σ' := setI σ i x.toNatClampNeg (vp_nar .char y)) (e := .inl (G.2.2.1 2, lnOf i, .inl (upd (σ.1 i) x.toNatClampNeg (vp_nar .char y)))) (by rw [cell_22 ht]; unfold setI; rw [rowI_s]) (rowI_n G σ i _)]; exact a1) a3)
theorem g_fast {i : Nat} {x : Int32} {y : UInt32} (X : Cx G p s m args c cc nL own) (hP : va_P G.1 vcl (wl G σ) H) (hS : va_S (GA G) s.heap H locs) (ht : tyOf i = 21) (hin : vp_in x (lnOf i)) (hdg : decode cc pc = .ok (.fastore, 1))
    (kk : ∀ (H : Heap) (locs : List Loc), va_P G.1 vcl (wl G (setF σ i x.toNatClampNeg y)) H → va_S (GA G) s.heap H locs → W p l e R s m args below meth c H locs cells slots Q (F0 m (pc + 1) ls rest)) : W p l e R s m args below meth c H locs cells slots Q (F0 m pc ls (.float y :: .int x :: .ref (G.2.1 i) :: rest)) :=
  va_fast X.1 X.2.1 X.2.2.2.2.2.1 hP (wl_D X.2.2.2.2.2.2.2.2 σ) hS i 1 (by rw [wl_at G σ (ty_lt ht), cell_21 ht]) rfl hin hdg (fun H1 locs1 a1 _ a3 => kk H1 locs1 (by rw [← wl_set (ty_lt ht) (σ' := setF σ i x.toNatClampNeg y) (e := .inl (G.2.2.1 1, lnOf i, .inr (.inr (.inl (vf_upd (σ.2.1 i) x.toNatClampNeg y))))) (by rw [cell_21 ht]; unfold setF; rw [rowF_s]) (rowF_n G σ i _)]; exact a1) a3)
theorem g_alen {i t t0 : Nat} {v : Int32} (X : Cx G p s m args c cc nL own) (hP : va_P G.1 vcl (wl G σ) H) (hi : i < 196) {cA : ClassId} {x : vp_A} {ty : FieldType} (he : cell G σ i = .inl (cA, x)) (ht : (tysG G)[t0]? = some (cA, ty)) (hv : Int32.ofNat x.1 = v) (hdg : decode cc pc = .ok (.arraylength, 1))
    (kk : W p l e R s m args below meth c H locs cells slots Q (F0 m (pc + 1) ls (.int v :: rest))) : W p l e R s m args below meth c H locs cells slots Q (F0 m pc ls (.ref (G.2.1 i) :: rest)) :=
  va_alen X.1 X.2.1 X.2.2.2.2.2.1 hP i t0 (by rw [wl_at G σ hi, he]) ht hv hdg kk
/-- what the tables say of a callee, but its link -/
def Cal (y : MethodName) (bytes : ByteArray) (maxL : Nat) (ret : Option FieldType) (n : Nat) : Prop := Cond.code y bytes maxL ret ∈ allW ∧ Cond.initialized y.cls ∈ allW ∧ (y.cls ≠ "java/lang/invoke/MethodHandle" ∧ y.cls ≠ "java/lang/invoke/VarHandle") ∧ (parseMethodDescriptor y.desc).map (fun d => d.parameters.length) = some n
def CalV (y : MethodName) (bytes : ByteArray) (maxL : Nat) (ret : Option FieldType) (n : Nat) : Prop := Cal y bytes maxL ret n ∧ Cond.instanceMethod y ∈ allW ∧ Cond.selects y.cls y y ∈ allW
def CalS (y : MethodName) (bytes : ByteArray) (maxL : Nat) (ret : Option FieldType) (n : Nat) : Prop := Cal y bytes maxL ret n ∧ Cond.static y ∈ allW
theorem g_len {y : MethodName} {n : Nat} (h : (parseMethodDescriptor y.desc).map (fun d => d.parameters.length) = some n) : ∀ sig, parseMethodDescriptor y.desc = some sig → n = sig.parameters.length := fun sig h2 => by
  rw [h2] at h; exact (Option.some.inj h).symm
theorem g_pay {y : MethodName} {bytes : ByteArray} {maxL : Nat} {ret : Option FieldType} (hts : ∀ w ∈ allW, w.before args s = true) (hc : Cond.code y bytes maxL ret ∈ allW) : ∀ w ∈ wsA y bytes maxL ret, ∀ (a' : Array Value) (U : State), s.WarmedH U.vm → w.before a' U = true := fun w hw a' U hW => by
  have h : w ∈ allW := by
    rcases List.mem_cons.mp hw with h | h
    · rw [h]; exact hc
    · exact h
  exact word_at hW (good_of_word (allW_good h)) (hts w h)
theorem g_runV {y : MethodName} {bytes : ByteArray} {maxL n index i ci : Nat} {ret : Option FieldType} {rm : Room} {As : List Value} {st0 : List Value} {fs : List Value} {Qc : Array Value → State → Outcome → State → Prop} {q : vw_C} {mc ms : Nat} {free : Addr → Prop} (X : Cx G p s m args c cc nL own) (hM : Met l y (wsA y bytes maxL ret) rm (va_Pc (.ref (G.2.1 i) :: As) (Wd G σ)) Qc mc ms free) (hC : CalV y bytes maxL ret n) (hl : Cond.methodLink own index y ∈ allW) (hrc : rm.cells = mc) (hrs : rm.slots = ms) (hR : rm.frames + 1 ≤ R.frames ∧ 8 + (maxL + 11) + rm.locals ≤ R.locals)
    (hP : va_P G.1 vcl (wl G σ) H) (hS : va_S (GA G) s.heap H locs) (hi : i < 196) (he : cell G σ i = .inr (ci, fs)) (hc : vcl[ci]? = some q) (hq : q.1 = y.cls) (hn : As.length = n) (hsz : ls.size = nL) (hst : st0 = As.reverse ++ .ref (G.2.1 i) :: rest) (hW : (rest.map fun v => v.category).sum ≤ 8) (hf : cells + mc ≤ R.cells ∧ slots + ms ≤ R.slots) (hdg : decode cc pc = .ok (.invokevirtual index, 3)) :
    va_Run p l e R s m args below meth c H locs cells slots mc ms (F0 m pc ls st0) rest (Qc (Value.ref (G.2.1 i) :: As).toArray) free := by
  obtain ⟨hx, hb, hml, hown, hts, hK, hbs, hXW, hG⟩ := id X
  obtain ⟨⟨a1, a2, a3, a4⟩, a5, a6⟩ := hC
  have hrv := va_recv hK hP hc (by rw [wl_at G σ hi, he])
  rw [hq] at hrv
  exact va_runV (C := y.cls) (nL := nL) (Ts := allW) ⟨hx, hb, hml, hown, hts⟩ hM ⟨⟨hrc, hrs, hR.1, hR.2, g_pay hts a1, List.mem_cons_self, hts _ a1, hts _ a2, a3, g_len a4, hts _ hl⟩, hts _ a5, hts _ a6⟩ ⟨Wd_blind G σ _, hrv, fun U hU hW => ⟨rfl, X.wd hP hS U hU hW⟩⟩ rfl hn hsz hst (lv_room hW) hdg hf
theorem g_runVN {y : MethodName} {host : String} {bytes : ByteArray} {maxL n index i ci : Nat} {ret : Option FieldType} {rm : Room} {As : List Value} {st0 : List Value} {fs : List Value} {Qc : Array Value → State → Outcome → State → Prop} {q : vw_C} {mc ms : Nat} {free : Addr → Prop} (X : Cx G p s m args c cc nL own) (hM : Met l y (wsA y bytes maxL ret) rm (va_Pc (.ref (G.2.1 i) :: As) (Wd G σ)) Qc mc ms free) (hC : CalV y bytes maxL ret n) (hl : (own, index, y, host) ∈ nestL) (hrc : rm.cells = mc) (hrs : rm.slots = ms) (hR : rm.frames + 1 ≤ R.frames ∧ 8 + (maxL + 11) + rm.locals ≤ R.locals)
    (hP : va_P G.1 vcl (wl G σ) H) (hS : va_S (GA G) s.heap H locs) (hi : i < 196) (he : cell G σ i = .inr (ci, fs)) (hc : vcl[ci]? = some q) (hq : q.1 = y.cls) (hn : As.length = n) (hsz : ls.size = nL) (hst : st0 = As.reverse ++ .ref (G.2.1 i) :: rest) (hW : (rest.map fun v => v.category).sum ≤ 8) (hf : cells + mc ≤ R.cells ∧ slots + ms ≤ R.slots) (hdg : decode cc pc = .ok (.invokevirtual index, 3)) :
    va_Run p l e R s m args below meth c H locs cells slots mc ms (F0 m pc ls st0) rest (Qc (Value.ref (G.2.1 i) :: As).toArray) free := by
  obtain ⟨hx, hb, hml, hown, hts, hK, hbs, hXW, hG⟩ := id X
  obtain ⟨⟨a1, a2, a3, a4⟩, a5, a6⟩ := hC
  have hrv := va_recv hK hP hc (by rw [wl_at G σ hi, he])
  rw [hq] at hrv
  exact va_runVN (C := y.cls) (nL := nL) (Ts := allW) ⟨hx, hb, hml, hown, hts⟩ hM ⟨⟨⟨hrc, hrs, hR.1, hR.2, g_pay hts a1, List.mem_cons_self⟩, hts _ a1, hts _ a2, a3, g_len a4, va_Nw.use rfl (hXW.2.2.2.2.2.2.1 _ hl)⟩, hts _ a5, hts _ a6⟩ ⟨Wd_blind G σ _, hrv, fun U hU hW => ⟨rfl, X.wd hP hS U hU hW⟩⟩ rfl hn hsz hst (lv_room hW) hdg hf
theorem g_runS {y : MethodName} {bytes : ByteArray} {maxL n index : Nat} {ret : Option FieldType} {rm : Room} {As : List Value} {st0 : List Value} {Qc : Array Value → State → Outcome → State → Prop} {mc ms : Nat} {free : Addr → Prop} (X : Cx G p s m args c cc nL own) (hM : Met l y (wsA y bytes maxL ret) rm (va_Pc As (Wd G σ)) Qc mc ms free) (hC : CalS y bytes maxL ret n) (hl : Cond.methodLink own index y ∈ allW) (hrc : rm.cells = mc) (hrs : rm.slots = ms) (hR : rm.frames + 1 ≤ R.frames ∧ 8 + (maxL + 11) + rm.locals ≤ R.locals)
    (hP : va_P G.1 vcl (wl G σ) H) (hS : va_S (GA G) s.heap H locs) (hn : As.length = n) (hsz : ls.size = nL) (hst : st0 = As.reverse ++ rest) (hW : (rest.map fun v => v.category).sum ≤ 8) (hf : cells + mc ≤ R.cells ∧ slots + ms ≤ R.slots) (hdg : decode cc pc = .ok (.invokestatic index, 3)) :
    va_Run p l e R s m args below meth c H locs cells slots mc ms (F0 m pc ls st0) rest (Qc As.toArray) free := by
  obtain ⟨hx, hb, hml, hown, hts, hK, hbs, hXW, hG⟩ := id X
  obtain ⟨⟨a1, a2, a3, a4⟩, a5⟩ := hC
  exact va_runS (nL := nL) (Ts := allW) ⟨hx, hb, hml, hown, hts⟩ hM ⟨⟨hrc, hrs, hR.1, hR.2, g_pay hts a1, List.mem_cons_self, hts _ a1, hts _ a2, a3, g_len a4, hts _ hl⟩, hts _ a5⟩ ⟨Wd_blind G σ _, fun U hU hW => ⟨rfl, X.wd hP hS U hU hW⟩⟩ rfl hn hsz hst (lv_room hW) hdg hf
theorem g_runSN {y : MethodName} {host : String} {bytes : ByteArray} {maxL n index : Nat} {ret : Option FieldType} {rm : Room} {As : List Value} {st0 : List Value} {Qc : Array Value → State → Outcome → State → Prop} {mc ms : Nat} {free : Addr → Prop} (X : Cx G p s m args c cc nL own) (hM : Met l y (wsA y bytes maxL ret) rm (va_Pc As (Wd G σ)) Qc mc ms free) (hC : CalS y bytes maxL ret n) (hl : (own, index, y, host) ∈ nestL) (hrc : rm.cells = mc) (hrs : rm.slots = ms) (hR : rm.frames + 1 ≤ R.frames ∧ 8 + (maxL + 11) + rm.locals ≤ R.locals)
    (hP : va_P G.1 vcl (wl G σ) H) (hS : va_S (GA G) s.heap H locs) (hn : As.length = n) (hsz : ls.size = nL) (hst : st0 = As.reverse ++ rest) (hW : (rest.map fun v => v.category).sum ≤ 8) (hf : cells + mc ≤ R.cells ∧ slots + ms ≤ R.slots) (hdg : decode cc pc = .ok (.invokestatic index, 3)) :
    va_Run p l e R s m args below meth c H locs cells slots mc ms (F0 m pc ls st0) rest (Qc As.toArray) free := by
  obtain ⟨hx, hb, hml, hown, hts, hK, hbs, hXW, hG⟩ := id X
  obtain ⟨⟨a1, a2, a3, a4⟩, a5⟩ := hC
  exact va_runSN (nL := nL) (Ts := allW) ⟨hx, hb, hml, hown, hts⟩ hM ⟨⟨⟨hrc, hrs, hR.1, hR.2, g_pay hts a1, List.mem_cons_self⟩, hts _ a1, hts _ a2, a3, g_len a4, va_Nw.use rfl (hXW.2.2.2.2.2.2.1 _ hl)⟩, hts _ a5, trivial⟩ ⟨Wd_blind G σ _, fun U hU hW => ⟨rfl, X.wd hP hS U hU hW⟩⟩ rfl hn hsz hst (lv_room hW) hdg hf
theorem g_ldcwF {index : Nat} {v : UInt32} (X : Cx G p s m args c cc nL own) (hc : Cond.constantFloat own index v ∈ allW) (hdg : decode cc pc = .ok (.ldc_w index, 3)) (k : W p l e R s m args below meth c H locs cells slots Q (F0 m (pc + 3) ls (.float v :: rest))) : W p l e R s m args below meth c H locs cells slots Q (F0 m pc ls rest) := by
  obtain ⟨hx, hb, hml, hown, hts, -⟩ := X
  intro T hT Y
  obtain ⟨t, a, b⟩ := k T hT Y
  obtain ⟨k1, cf, hk, hcf, hcp⟩ := Cond.constantFloat_spec hown (hts _ hc)
  obtain ⟨k', hk', he⟩ := Y.warmed.alike.2.2 _ _ hk
  refine ⟨t, ?_, b⟩
  have hdg' : decode c.code (F0 m pc ls rest).pc = .ok (.ldc_w index, 3) := by rw [hb]; exact hdg
  jvm_step Y.here [hx, hdg', ldc_w.wp_float (s := T) (f := F0 m pc ls rest) Y.here.top hk' (by rw [he]; exact hcf) hcp]
  exact a
theorem g_ldcwS {tx : String} {index q : Nat} (X : Cx G p s m args c cc nL own) (hZ : vk_R own index tx q s) (hdg : decode cc pc = .ok (.ldc_w index, 3)) (k : W p l e R s m args below meth c H locs cells slots Q (F0 m (pc + 3) ls (.ref q :: rest))) : W p l e R s m args below meth c H locs cells slots Q (F0 m pc ls rest) := by
  obtain ⟨hx, hb, hml, hown, hts, -⟩ := X
  intro T hT Y
  obtain ⟨t, a, b⟩ := k T hT Y
  obtain ⟨k1, cf, i, a', hk, hcf, hcp, -, hr, hev'⟩ := Cond.stringRef_spec hown hZ.1
  cases hZ.2.symm.trans hev'
  obtain ⟨k', hk', he⟩ := Y.warmed.alike.2.2 _ _ hk
  have hr' : k'.resolved[index]? = some (some (.string q)) := by
    rcases Y.warmed.entry hk hk' index with h | ⟨h, -⟩
    · rw [h]; exact hr
    · rw [hr] at h; cases h
  refine ⟨t, ?_, b⟩
  have hdg' : decode c.code (F0 m pc ls rest).pc = .ok (.ldc_w index, 3) := by rw [hb]; exact hdg
  jvm_step Y.here [hx, hdg', ldc_w.wp_string (e := e) (s := T) (f := F0 m pc ls rest) Y.here.top hk' (by rw [he]; exact hcf) hcp hr']
  exact a
variable {st0 : List Value} {a : Array Value}
theorem g_ci {post : Int32 → St → Prop} (hr : va_Run p l e R s m args below meth c H locs cells slots 0 0 (F0 m pc ls st0) rest (va_Qi post (PB G) (GA G) a) (GA G)) (hS : va_S (GA G) s.heap H locs)
    (kk : ∀ (r : Int32) (u : St), post r u → ∀ (H : Heap) (locs : List Loc), va_P G.1 vcl (wl G u) H → va_S (GA G) s.heap H locs → W p l e R s m args below meth c H locs cells slots Q (F0 m (pc + 3) ls (.int r :: rest))) : W p l e R s m args below meth c H locs cells slots Q (F0 m pc ls st0) :=
  va_calli hr hS (fun _ _ h => h) (fun _ h => h) (fun r u t H1 locs1 ht _ hw hB _ _ hS1 => kk r u hw H1 locs1 (by rw [← ht]; exact hB) hS1)
theorem g_cf {post : UInt32 → St → Prop} (hr : va_Run p l e R s m args below meth c H locs cells slots 0 0 (F0 m pc ls st0) rest (va_Qf post (PB G) (GA G) a) (GA G)) (hS : va_S (GA G) s.heap H locs)
    (kk : ∀ (r : UInt32) (u : St), post r u → ∀ (H : Heap) (locs : List Loc), va_P G.1 vcl (wl G u) H → va_S (GA G) s.heap H locs → W p l e R s m args below meth c H locs cells slots Q (F0 m (pc + 3) ls (.float r :: rest))) : W p l e R s m args below meth c H locs cells slots Q (F0 m pc ls st0) :=
  va_callf hr hS (fun _ _ h => h) (fun _ h => h) (fun r u t H1 locs1 ht _ hw hB _ _ hS1 => kk r u hw H1 locs1 (by rw [← ht]; exact hB) hS1)
theorem g_cd {post : UInt64 → St → Prop} (hr : va_Run p l e R s m args below meth c H locs cells slots 0 0 (F0 m pc ls st0) rest (va_Qd post (PB G) (GA G) a) (GA G)) (hS : va_S (GA G) s.heap H locs)
    (kk : ∀ (r : UInt64) (u : St), post r u → ∀ (H : Heap) (locs : List Loc), va_P G.1 vcl (wl G u) H → va_S (GA G) s.heap H locs → W p l e R s m args below meth c H locs cells slots Q (F0 m (pc + 3) ls (.double r :: rest))) : W p l e R s m args below meth c H locs cells slots Q (F0 m pc ls st0) :=
  va_calld hr hS (fun _ _ h => h) (fun _ h => h) (fun r u t H1 locs1 ht _ hw hB _ _ hS1 => kk r u hw H1 locs1 (by rw [← ht]; exact hB) hS1)
theorem g_cl {post : Int64 → St → Prop} (hr : va_Run p l e R s m args below meth c H locs cells slots 0 0 (F0 m pc ls st0) rest (va_Ql post (PB G) (GA G) a) (GA G)) (hS : va_S (GA G) s.heap H locs)
    (kk : ∀ (r : Int64) (u : St), post r u → ∀ (H : Heap) (locs : List Loc), va_P G.1 vcl (wl G u) H → va_S (GA G) s.heap H locs → W p l e R s m args below meth c H locs cells slots Q (F0 m (pc + 3) ls (.long r :: rest))) : W p l e R s m args below meth c H locs cells slots Q (F0 m pc ls st0) :=
  va_calll hr hS (fun _ _ h => h) (fun _ h => h) (fun r u t H1 locs1 ht _ hw hB _ _ hS1 => kk r u hw H1 locs1 (by rw [← ht]; exact hB) hS1)
theorem g_cv {post : St → Prop} (hr : va_Run p l e R s m args below meth c H locs cells slots 0 0 (F0 m pc ls st0) rest (va_Qv post (PB G) (GA G) a) (GA G)) (hS : va_S (GA G) s.heap H locs)
    (kk : ∀ (u : St), post u → ∀ (H : Heap) (locs : List Loc), va_P G.1 vcl (wl G u) H → va_S (GA G) s.heap H locs → W p l e R s m args below meth c H locs cells slots Q (F0 m (pc + 3) ls rest)) : W p l e R s m args below meth c H locs cells slots Q (F0 m pc ls st0) :=
  va_callv hr hS (fun _ _ h => h) (fun _ h => h) (fun u t H1 locs1 ht _ hw hB _ _ hS1 => kk u hw H1 locs1 (by rw [← ht]; exact hB) hS1)
end GW
/-- a value at hand, for the rest -/
def bnd {α β : Type} (x : α) (k : α → β) : β := k x
