/-! the constructors: a world that grows -/
def GA' (G : GE) (a : Nat → Nat) : GE := (G.1, a, G.2.2)
def sI0 (t n : Nat) (k : Nat) : Int32 := match t with
  | 7 => (match k with | 5 => -1 | _ => 0)
  | 20 => (match n with | 30 => (if k < 30 then -1 else 0) | _ => 0)
  | _ => 0
def sF0 (t i : Nat) (k : Nat) : UInt32 := match t with
  | 2 => (match k with | 4 => 1077936128 | 5 => FP.fconst2 | _ => 0)
  | _ => 0
/-- the numbers at the start -/
def s0 : St := (fun i => sI0 (tyOf i) (lnOf i), fun i => sF0 (tyOf i) i, fun _ _ => 0, fun _ _ => 0)
def lw (G : GE) (a : Nat → Nat) (labs : List Nat) : va_W := labs.map (fun i => (a i, cell (GA' G a) s0 i))
theorem lw_app (G : GE) (a : Nat → Nat) (l1 l2 : List Nat) : lw G a (l1 ++ l2) = lw G a l1 ++ lw G a l2 := List.map_append
def WdN (G : GE) (ws : va_W) (sz : Nat) (U : State) : Prop := U.heap.size = sz ∧ va_P G.1 vcl ws U.heap ∧ (∀ (k : Nat) (q : Nat × va_E), ws[k]? = some q → GA G q.1) ∧ va_K G.1 vcl (tysG G) U ∧ G.2.2.2.1 ≤ U.heap.size ∧ XW G U U.heap ∧ va_AO "PotatoStamps$Office" U
theorem WdN_blind (G : GE) (ws : va_W) (sz : Nat) (av : List Value) : FrameBlind (va_Pc av (WdN G ws sz)) := fun a U g mk h => by
  obtain ⟨h0, h1, h2, h3, h4, h5, h6, h7⟩ := h
  exact ⟨h0, h1, h2, h3, va_K.moved (u := U) (U := U.calling g mk a) (Vm.Alike.refl U.vm) h4, h5, h6.calls g mk a, va_AO.moved (u := U) (U := U.calling g mk a) (Vm.Alike.refl U.vm) h7⟩
def CxN (G : GE) (p : Program) (s : State) (m : MethodId) (args : Array Value) (c : Code) (cc : ByteArray) (nL : Nat) (own : String) : Prop :=
  p.tables.exec = Jvm.exec ∧ c.code = cc ∧ c.maxLocals = nL ∧ s.vm.findClass own = some m.cls ∧ (∀ w ∈ allW, w.before args s = true) ∧ va_K G.1 vcl (tysG G) s ∧ G.2.2.2.1 ≤ s.heap.size ∧ XW G s s.heap ∧ va_AO "PotatoStamps$Office" s
theorem CxN.wd {G : GE} {p : Program} {s : State} {m : MethodId} {args : Array Value} {c : Code} {cc : ByteArray} {nL : Nat} {own : String} (X : CxN G p s m args c cc nL own) {ws : va_W} {H : Heap} {locs : List Loc} {A : Nat → Prop} (hP : va_P G.1 vcl ws H) (hD : va_D A ws) (hAG : ∀ q, A q → GA G q) (hS : va_S A s.heap H locs) (U : State) (hU : U.heap = H) (hW : s.WarmedH U.vm) : WdN G ws H.size U := by
  obtain ⟨-, -, -, -, -, hK, hbs, hXW, hAO⟩ := X
  have hS' : va_S (GA G) s.heap H locs := ⟨hS.1, fun q h1 h2 => hS.2.1 q h1 (fun z => h2 (hAG q z)), fun l h => hAG _ (hS.2.2 l h)⟩
  exact ⟨by rw [hU], by rw [hU]; exact hP, fun k q h => hAG _ (hD.2 k q h), va_K.moved hW.alike hK, by rw [hU]; exact Nat.le_trans hbs hS.1, by rw [hU]; exact hXW.go hS' hW, va_AO.moved hW.alike hAO⟩
theorem n_start {l : Launch} {G : GE} {y : MethodName} {cc : ByteArray} {maxL : Nat} {rm : Room} {av : List Value} {h0 sz : Nat} {e0 : va_E} {Qc : Array Value → State → Outcome → State → Prop} {mc ms : Nat} {free : Addr → Prop} (hy : plainFor y = true) (hn : (lg_sl av).length ≤ maxL)
    (body : ∀ (p : Program) (e : Env) (s : State) (m : MethodId) (args : Array Value) (below : List Frame) (meth : Method) (c : Code), CxN G p s m args c cc maxL y.cls → meth.sig.returnType = none → meth.locks = false → meth.name = y.name → (∀ q, s.heap.size ≤ q → va_A [(h0, e0)] sz q) → (∀ q, va_A [(h0, e0)] sz q → GA G q) → va_D (va_A [(h0, e0)] sz) [(h0, e0)] → ∀ (ls : Array Slot), lv_has ls maxL (lv_args 0 av) → ∀ (H : Heap) (locs : List Loc), va_P G.1 vcl [(h0, e0)] H → va_S (va_A [(h0, e0)] sz) s.heap H locs → W p l e rm s m args below meth c H locs 0 0 (MQ below Qc args s mc ms free) (F0 m 0 ls [])) :
    Met l y (wsA y cc maxL none) rm (va_Pc av (WdN G [(h0, e0)] sz)) Qc mc ms free := by
  refine g_ofWF (cc := cc) (maxL := maxL) (ret := none) hy rfl ?_
  intro p e s m args below meth c s₁ B hml hv
  obtain ⟨rfl, hsz, hP, hG, hK, hbs, hXW, hAO⟩ := hv
  have hts0 := atoms_spec (ws := wsA y cc maxL none) B.pre
  have hl := lv_entry av hn
  rw [lg_entry_eq]
  refine body p e s m _ below meth c ⟨B.exec, B.bytes, hml, findClass_of_methodNamed B.named, fun w h => hts0 w (List.mem_cons_of_mem _ h), hK, hbs, hXW, hAO⟩ B.returns B.notSynchronized (name_of_methodNamed B.named B.method).1 (fun q h => Or.inr (by rw [← hsz]; exact h)) (fun q h => ?_) ⟨fun i j p q hi hj _ => ?_, fun k q hk => Or.inl ⟨k, q.2, hk⟩⟩ _ hl s.heap [] hP va_S.rf
  · rcases h with ⟨k, e, h⟩ | h
    · exact hG k _ h
    · show G.2.2.2.1 ≤ q
      rw [hsz] at hbs
      exact Nat.le_trans hbs h
  · have h1 := (List.getElem?_eq_some_iff.mp hi).1
    have h2 := (List.getElem?_eq_some_iff.mp hj).1
    simp only [List.length_cons, List.length_nil] at h1 h2
    omega
theorem n_join {A0 : Nat → Prop} {D : va_G} {cl : List vw_C} {ws wc w1 : va_W} {H H1 : Heap} (hP : va_P D cl (ws ++ wc) H) (hD : va_D A0 (ws ++ wc)) (hk : ∀ q : Nat, q < H.size → ¬ va_A wc H.size q → H1[q]? = H[q]?) (hF : ∀ q, va_A wc H.size q → A0 q) (hP1 : va_P D cl w1 H1) (hD1 : va_D (va_A wc H.size) w1) : va_P D cl (ws ++ w1) H1 ∧ va_D A0 (ws ++ w1) := by
  have lf : ∀ (k : Nat) (q : Nat × va_E), ws[k]? = some q → (ws ++ wc)[k]? = some q := fun k q hq => by
    rw [List.getElem?_append_left (List.getElem?_eq_some_iff.mp hq).1]; exact hq
  have ap : ∀ (k : Nat) (q : Nat × va_E), ws[k]? = some q → q.1 < H.size ∧ ¬ va_A wc H.size q.1 := by
    intro k q hq
    have hkl : k < ws.length := (List.getElem?_eq_some_iff.mp hq).1
    have hl := (hP k q (lf k q hq)).lt
    refine ⟨hl, fun h => ?_⟩
    rcases h with ⟨j, e, hj⟩ | h
    · have h3 : (ws ++ wc)[ws.length + j]? = some (q.1, e) := by rw [List.getElem?_append_right (Nat.le_add_right _ _), Nat.add_sub_cancel_left]; exact hj
      have := hD.1 k (ws.length + j) q (q.1, e) (lf k q hq) h3 rfl
      omega
    · omega
  have hPw : va_P D cl ws H1 := fun k q hq => (hP k q (lf k q hq)).kept (hk q.1 (ap k q hq).1 (ap k q hq).2)
  have hDw : va_D A0 ws := ⟨fun i j p q hi hj e => hD.1 i j p q (lf i p hi) (lf j q hj) e, fun k q hq => hD.2 k q (lf k q hq)⟩
  exact ⟨hPw.app hP1, hDw.app (hD1.weaken (fun k q _ h => hF q.1 h)) (fun i j x y hx hy hxy => (ap i x hx).2 (by rw [hxy]; exact hD1.2 j y hy))⟩
section NN
variable {p : Program} {l : Launch} {e : Env} {R : Room} {s : State} {m : MethodId} {args : Array Value} {below : List Frame} {meth : Method} {c : Code} {H : Heap} {locs : List Loc} {cells slots : Nat} {Q : State → Prop}
variable {G : GE} {cc : ByteArray} {nL : Nat} {own : String} {pc : Nat} {ls : Array Slot} {rest : List Value} {A : Nat → Prop} {ws r : va_W} {mc1 ms1 : Nat}
theorem n_obj {idx a : Nat} (X : CxN G p s m args c cc nL own) (hl : Cond.methodLink own idx Lib.objectInit ∈ allW) (h1 : Cond.instanceMethod Lib.objectInit ∈ allW) (h2 : Cond.code Lib.objectInit ⟨#[0xb1]⟩ 1 none ∈ allW) (hsz : ls.size = nL) (hd : decode cc pc = .ok (.invokespecial idx, 3)) (hfr : 1 ≤ R.frames) (hlo : (rest.map fun v => v.category).sum + 12 ≤ R.locals)
    (kk : W p l e R s m args below meth c H locs cells slots Q (F0 m (pc + 3) ls rest)) : W p l e R s m args below meth c H locs cells slots Q (F0 m pc ls (.ref a :: rest)) := by
  obtain ⟨hx, hb, hml, hown, hts, -⟩ := X
  refine W.objInit hx hb hown (hts _ hl) (hts _ h1) (hts _ h2) rfl (hsz.trans hml.symm) rfl hd hfr (by show 2 * 0 + _ + 12 ≤ _; rw [Nat.mul_zero, Nat.zero_add]; exact hlo) ?_
  exact W.eq (g2 := F0 m (pc + 3) ls rest) rfl kk
theorem n_newa {atype : ArrayType} {ty : FieldType} {n : Int32} {N' : Nat} {x : (Nat → Int32) ⊕ (Nat → Int64) ⊕ (Nat → UInt32) ⊕ (Nat → UInt64) ⊕ (Nat → Option Nat)} (t0 : Nat) (X : CxN G p s m args c cc nL own) (harr : Cond.arrayClass ty ∈ allW) (hty : newarray.typeOf atype = ty) (ht : (tysG G)[t0]? = some (G.2.2.1 t0, ty)) (hRA : ∀ k, va_RA s k ty = (s.vm.findClass ("[" ++ ty.toString) = some k)) (hP : va_P G.1 vcl ws H) (hD : va_D A ws) (hS : va_S A s.heap H locs) (hA : ∀ q, s.heap.size ≤ q → A q)
    (ha : ∀ cA : ClassId, vp_cell cA (N', x) = arrV cA N' (fun _ => defaultValue ty)) (hn : ¬ n < 0) (hN : n.toNatClampNeg = N') (hbytes : N' * componentBytes ty ≤ 536870912) (hcells : cells + 1 ≤ R.cells) (hslots : slots + N' ≤ R.slots) (hdg : decode cc pc = .ok (.newarray atype, 2))
    (kk : ∀ (q : Nat) (H1 : Heap), va_P G.1 vcl (ws ++ [(q, .inl (G.2.2.1 t0, N', x))]) H1 → va_D A (ws ++ [(q, .inl (G.2.2.1 t0, N', x))]) → va_S A s.heap H1 locs →
      W p l e R s m args below meth c H1 locs (cells + 1) (slots + N') Q (F0 m (pc + 2) ls (.ref q :: rest))) : W p l e R s m args below meth c H locs cells slots Q (F0 m pc ls (.int n :: rest)) := by
  obtain ⟨hx, hb, hml, hown, hts, hK, -⟩ := X
  refine va_newa (a0 := (N', x)) hx hb (by rw [hty]; exact hts _ harr) hty hK hP hD hS hA ha hn hN hbytes hcells hslots hdg (fun q cA H1 hK1 hP1 hD1 hS1 => ?_)
  have e1 := (hK1.2 (tysG G).length (cA, ty) (by rw [List.getElem?_append_right (Nat.le_refl _), Nat.sub_self]; rfl)).2
  have e2 := (hK.2 t0 _ ht).2
  rw [hRA] at e1 e2
  have e3 : cA = G.2.2.1 t0 := Option.some.inj (e1.symm.trans e2)
  subst e3
  exact kk q H1 hP1 hD1 hS1
theorem n_putF {C : String} {T : u_T} {N ci index k h0 : Nat} {ty0 : Nat → FieldType} {fs : List Value} {v : Value} {ty : FieldType} (X : CxN G p s m args c cc nL own) (hin : ∀ w ∈ u_ws C T N, w ∈ allW) (hty : ∀ k, k < N → parseFieldDescriptor (T k).2.2.1 = some (ty0 k)) (hnm : ∀ a, a < N → ∀ b, b < N → a ≠ b → (T a).2.1 ≠ (T b).2.1) (hP : va_P G.1 vcl ((h0, .inr (ci, fs)) :: r) H) (hD : va_D A ((h0, .inr (ci, fs)) :: r)) (hS : va_S A s.heap H locs) (hc : vcl[ci]? = some (C, T, N)) (hk : k < N) (hlink : Cond.fieldLink own index (T k).1 (T k).2.1 (T k).2.2.1 ∈ allW) (hfin : (T k).2.2.2 = true) (hin2 : meth.name = "<init>") (hdecl : (T k).1 = own) (hd : parseFieldDescriptor (T k).2.2.1 = some ty) (hn : narrow ty v = v) (hfit : fits ty v = true) (hl : k < fs.length)
    (hdg : decode cc pc = .ok (.putfield index, 3)) (kk : ∀ (H1 : Heap) (locs1 : List Loc), va_P G.1 vcl ((h0, .inr (ci, fs.set k v)) :: r) H1 → va_D A ((h0, .inr (ci, fs.set k v)) :: r) → va_S A s.heap H1 locs1 → W p l e R s m args below meth c H1 locs1 cells slots Q (F0 m (pc + 3) ls rest)) : W p l e R s m args below meth c H locs cells slots Q (F0 m pc ls (v :: .ref h0 :: rest)) := by
  obtain ⟨hx, hb, hml, hown, hts, hK, -⟩ := X
  exact va_putF hx hb hts hin ty0 hty hnm hown hK hP hD hS 0 rfl hc k hk (hts _ hlink) (fun _ h => h) hfin hin2 hdecl hd hn hfit hl hdg kk
theorem n_put {C : String} {T : u_T} {N ci index k h0 : Nat} {ty0 : Nat → FieldType} {fs : List Value} {v : Value} {ty : FieldType} (X : CxN G p s m args c cc nL own) (hin : ∀ w ∈ u_ws C T N, w ∈ allW) (hty : ∀ k, k < N → parseFieldDescriptor (T k).2.2.1 = some (ty0 k)) (hnm : ∀ a, a < N → ∀ b, b < N → a ≠ b → (T a).2.1 ≠ (T b).2.1) (hP : va_P G.1 vcl ((h0, .inr (ci, fs)) :: r) H) (hD : va_D A ((h0, .inr (ci, fs)) :: r)) (hS : va_S A s.heap H locs) (hc : vcl[ci]? = some (C, T, N)) (hk : k < N) (hlink : Cond.fieldLink own index (T k).1 (T k).2.1 (T k).2.2.1 ∈ allW) (hfin : (T k).2.2.2 = false) (hd : parseFieldDescriptor (T k).2.2.1 = some ty) (hn : narrow ty v = v) (hfit : fits ty v = true) (hl : k < fs.length)
    (hdg : decode cc pc = .ok (.putfield index, 3)) (kk : ∀ (H1 : Heap) (locs1 : List Loc), va_P G.1 vcl ((h0, .inr (ci, fs.set k v)) :: r) H1 → va_D A ((h0, .inr (ci, fs.set k v)) :: r) → va_S A s.heap H1 locs1 → W p l e R s m args below meth c H1 locs1 cells slots Q (F0 m (pc + 3) ls rest)) : W p l e R s m args below meth c H locs cells slots Q (F0 m pc ls (v :: .ref h0 :: rest)) := by
  obtain ⟨hx, hb, hml, hown, hts, hK, -⟩ := X
  exact va_put hx hb hts hin ty0 hty hnm hown hK hP hD hS 0 rfl hc k hk (hts _ hlink) (fun _ h => h) hfin hd hn hfit hl hdg kk
theorem n_get {C : String} {T : u_T} {N ci index k a q0 : Nat} {fs : List Value} {v : Value} (X : CxN G p s m args c cc nL own) (hin : ∀ w ∈ u_ws C T N, w ∈ allW) (hP : va_P G.1 vcl ws H) (he : ws[q0]? = some (a, .inr (ci, fs))) (hc : vcl[ci]? = some (C, T, N)) (hk : k < N) (hlink : Cond.fieldLink own index (T k).1 (T k).2.1 (T k).2.2.1 ∈ allW) (hv : fs[k]? = some v)
    (hdg : decode cc pc = .ok (.getfield index, 3)) (kk : W p l e R s m args below meth c H locs cells slots Q (F0 m (pc + 3) ls (v :: rest))) : W p l e R s m args below meth c H locs cells slots Q (F0 m pc ls (.ref a :: rest)) := by
  obtain ⟨hx, hb, hml, hown, hts, hK, -⟩ := X
  exact va_get hx hb hts hin hown hK hP q0 he hc k hk (hts _ hlink) (fun _ h => h) hv hdg kk
theorem n_new {C : String} {T : u_T} {N ci index : Nat} {ty : Nat → FieldType} {fs : List Value} (X : CxN G p s m args c cc nL own) (hin : ∀ w ∈ u_ws C T N, w ∈ allW) (hty : ∀ k, k < N → parseFieldDescriptor (T k).2.2.1 = some (ty k)) (hcl : Cond.classLink own index C ∈ allW) (hinst : Cond.instantiable C N ∈ allW) (hini : Cond.initialized C ∈ allW)
    (hP : va_P G.1 vcl ws H) (hD : va_D A ws) (hS : va_S A s.heap H locs) (hA : ∀ q, s.heap.size ≤ q → A q) (hc : vcl[ci]? = some (C, T, N)) (hfs : ∀ j, j < N → defaultValue (ty j) = vp_V fs j) (hcells : cells + 1 ≤ R.cells) (hslots : slots + N ≤ R.slots) (hdg : decode cc pc = .ok (.new index, 3))
    (kk : ∀ (q : Nat) (H1 : Heap), va_P G.1 vcl (ws ++ [(q, .inr (ci, fs))]) H1 → va_D A (ws ++ [(q, .inr (ci, fs))]) → va_S A s.heap H1 locs →
      W p l e R s m args below meth c H1 locs (cells + 1) (slots + N) Q (F0 m (pc + 3) ls (.ref q :: rest))) : W p l e R s m args below meth c H locs cells slots Q (F0 m pc ls rest) := by
  obtain ⟨hx, hb, hml, hown, hts, hK, -⟩ := X
  exact va_new hx hb hts hin ty hty hown (hts _ hcl) (hts _ hinst) (hts _ hini) hK hP hD hS hA hc hfs hcells hslots hdg kk
/-- a constructor's contract: its own cell becomes the cells of some labels -/
abbrev MtN (l : Launch) (G : GE) (y : MethodName) (cc : ByteArray) (maxL : Nat) (rm : Room) (e0 : va_E) (lab0 : Nat) (labs : List Nat) (mc ms : Nat) : Prop := ∀ h0 sz : Nat, Met l y (wsA y cc maxL none) rm (va_Pc [.ref h0] (WdN G [(h0, e0)] sz)) (va_Qv (fun a : Nat → Nat => a lab0 = h0) (fun a t => va_P G.1 vcl (lw G a labs) t.heap ∧ va_D (va_A [(h0, e0)] sz) (lw G a labs)) (va_A [(h0, e0)] sz)) mc ms (va_A [(h0, e0)] sz)
theorem n_call {y : MethodName} {bytes : ByteArray} {maxL index q lab0 : Nat} {rm : Room} {e1 : va_E} {labs : List Nat} (X : CxN G p s m args c cc nL own) (hM : MtN l G y bytes maxL rm e1 lab0 labs mc1 ms1) (hC : Cal y bytes maxL none 0 ∧ Cond.instanceMethod y ∈ allW) (hl : (∃ host, (own, index, y, host) ∈ nestL) ∨ Cond.methodLink own index y ∈ allW) (hy : y.name = "<init>") (hrc : rm.cells = mc1) (hrs : rm.slots = ms1) (hR : rm.frames + 1 ≤ R.frames ∧ 8 + (maxL + 11) + rm.locals ≤ R.locals)
    (hP : va_P G.1 vcl (ws ++ [(q, e1)]) H) (hD : va_D A (ws ++ [(q, e1)])) (hS : va_S A s.heap H locs) (hA : ∀ q, s.heap.size ≤ q → A q) (hAG : ∀ q, A q → GA G q) (hsz : ls.size = nL) (hW : (rest.map fun v => v.category).sum ≤ 8) (hf : cells + mc1 ≤ R.cells ∧ slots + ms1 ≤ R.slots) (hdg : decode cc pc = .ok (.invokespecial index, 3))
    (kk : ∀ (a : Nat → Nat), a lab0 = q → ∀ (H : Heap) (locs : List Loc), va_P G.1 vcl (ws ++ lw G a labs) H → va_D A (ws ++ lw G a labs) → va_S A s.heap H locs → W p l e R s m args below meth c H locs (cells + mc1) (slots + ms1) Q (F0 m (pc + 3) ls rest)) : W p l e R s m args below meth c H locs cells slots Q (F0 m pc ls (.ref q :: rest)) := by
  obtain ⟨hx, hb, hml, hown, hts, hK, hbs, hXW, hAO⟩ := id X
  obtain ⟨⟨a1, a2, a3, a4⟩, a5⟩ := hC
  have hi : (ws ++ [(q, e1)])[ws.length]? = some (q, e1) := by rw [List.getElem?_append_right (Nat.le_refl _), Nat.sub_self]; rfl
  have hPc : va_P G.1 vcl [(q, e1)] H := fun k x hx => by
    have hz : k < 1 := (List.getElem?_eq_some_iff.mp hx).1
    rw [show k = 0 by omega] at hx
    cases hx
    exact hP _ _ hi
  have hDc : va_D A [(q, e1)] := ⟨fun i j x y h1 h2 _ => by
    have h1 := (List.getElem?_eq_some_iff.mp h1).1
    have h2 := (List.getElem?_eq_some_iff.mp h2).1
    simp only [List.length_cons, List.length_nil] at h1 h2
    omega, fun k x hx => by
    have hz : k < 1 := (List.getElem?_eq_some_iff.mp hx).1
    rw [show k = 0 by omega] at hx
    cases hx
    exact hD.2 _ _ hi⟩
  have hFc : ∀ x, va_A [(q, e1)] H.size x → A x := fun x h => by
    rcases h with ⟨k, e, h⟩ | h
    · exact hDc.2 k _ h
    · exact hA x (Nat.le_trans hS.1 h)
  have hrun : va_Run p l e R s m args below meth c H locs cells slots mc1 ms1 (F0 m pc ls (.ref q :: rest)) rest (va_Qv (fun a : Nat → Nat => a lab0 = q) (fun a t => va_P G.1 vcl (lw G a labs) t.heap ∧ va_D (va_A [(q, e1)] H.size) (lw G a labs)) (va_A [(q, e1)] H.size) [Value.ref q].toArray) (va_A [(q, e1)] H.size) := by
    rcases hl with ⟨host, hl⟩ | hl
    · exact va_runIN (As := []) (n := 0) (nL := nL) (Ts := allW) ⟨hx, hb, hml, hown, hts⟩ (hM q H.size) ⟨⟨⟨hrc, hrs, hR.1, hR.2, g_pay hts a1, List.mem_cons_self⟩, hts _ a1, hts _ a2, a3, g_len a4, va_Nw.use rfl (hXW.2.2.2.2.2.2.1 _ hl)⟩, hy, hts _ a5⟩ ⟨WdN_blind G _ _ _, fun U hU hW => ⟨rfl, X.wd hPc hDc hAG hS U hU hW⟩⟩ rfl rfl hsz rfl (lv_room hW) hdg hf
    · exact va_runI (As := []) (n := 0) (nL := nL) (Ts := allW) ⟨hx, hb, hml, hown, hts⟩ (hM q H.size) ⟨⟨hrc, hrs, hR.1, hR.2, g_pay hts a1, List.mem_cons_self, hts _ a1, hts _ a2, a3, g_len a4, hts _ hl⟩, hy, hts _ a5⟩ ⟨WdN_blind G _ _ _, fun U hU hW => ⟨rfl, X.wd hPc hDc hAG hS U hU hW⟩⟩ rfl rfl hsz rfl (lv_room hW) hdg hf
  refine va_callv hrun hS (fun q _ h => hFc q h) hFc (fun a t H1 locs1 ht hvm hw hB hz1 hk1 hS1 => ?_)
  obtain ⟨hP1, hD1⟩ := hB
  rw [ht] at hP1
  obtain ⟨j1, j2⟩ := n_join hP hD hk1 hFc hP1 hD1
  exact kk a hw H1 locs1 j1 j2 hS1
end NN
theorem ob_i : Cond.instanceMethod Lib.objectInit ∈ allW := allW_in (t1_in (List.mem_of_getElem? (i := 35) rfl)) rfl
theorem ob_c : Cond.code Lib.objectInit ⟨#[0xb1]⟩ 1 none ∈ allW := allW_in (t1_in (List.mem_of_getElem? (i := 36) rfl)) rfl
theorem ac_int : Cond.arrayClass .int ∈ allW := allW_in (t1_in (List.mem_of_getElem? (i := 138) rfl)) rfl
theorem ac_float : Cond.arrayClass .float ∈ allW := allW_in (t1_in (List.mem_of_getElem? (i := 89) rfl)) rfl
theorem ac_char : Cond.arrayClass .char ∈ allW := allW_in (t2_in (List.mem_of_getElem? (i := 33) rfl)) rfl
abbrev rm_fill : Room := { frames := 0, cells := 0, slots := 0, locals := 0 }
set_option maxHeartbeats 4000000 in
set_option maxRecDepth 100000 in
theorem c_fill (l : Launch) (G : GE) (h0 sz : Nat) : Met l yJ7_fill_53178 (wsA yJ7_fill_53178 cJ7_fill_53178 4 none) rm_fill (va_Pc [.ref h0, .int (-1)] (WdN G [(h0, .inl (G.2.2.1 0, 30, .inl (fun _ => 0)))] sz)) (va_Qv (fun _ : Unit => True) (fun _ t => va_P G.1 vcl [(h0, .inl (G.2.2.1 0, 30, .inl (fun k => if k < 30 then -1 else 0)))] t.heap ∧ va_D (va_A [(h0, .inl (G.2.2.1 0, 30, .inl (fun _ => 0)))] sz) [(h0, .inl (G.2.2.1 0, 30, .inl (fun k => if k < 30 then -1 else 0)))]) (va_A [(h0, .inl (G.2.2.1 0, 30, .inl (fun _ => 0)))] sz)) 0 0 (va_A [(h0, .inl (G.2.2.1 0, 30, .inl (fun _ => 0)))] sz) := by
  refine n_start (by decide +kernel) (Nat.le_of_ble_eq_true rfl) ?_
  intro p e s m args below meth c X hr hlk hin hA hAG hD ls hl H locs hP hS
  have X : CxN G p s m args c cJ7_fill_53178 4 RJ7 := X
  obtain ⟨hx, hb, hml, hown, hts, hK, hbs, hXW, hAO⟩ := id X
  have hl : lv_has ls 4 [(0, .ref h0), (1, .int (-1))] := hl
  generalize hAe : va_A [(h0, .inl (G.2.2.1 0, 30, .inl (fun _ => 0)))] sz = A at hD hS hA hAG ⊢
  have hP : va_P G.1 vcl [(h0, .inl (G.2.2.1 0, 30, .inl (fun k => if k < 0 then -1 else 0)))] H := hP
  have hD : va_D A [(h0, .inl (G.2.2.1 0, 30, .inl (fun k => if k < 0 then -1 else 0)))] := hD
  refine lv_iconst (v := 0) hx hb dJ7_fill_53178_0 (by decide) ?_
  refine lv_istore_n (lv' := [(2, .int 0), (0, .ref h0), (1, .int (-1))]) hx hb dJ7_fill_53178_1 rfl hl (by decide) rfl (fun ls hl => ?_)
  refine lv_aload_n hx hb dJ7_fill_53178_2 rfl (lv_at hl 1 rfl) ?_
  refine va_alen (v := 30) hx hb hK hP 0 0 rfl rfl rfl dJ7_fill_53178_3 ?_
  refine lv_istore_n (lv' := [(3, .int 30), (2, .int 0), (0, .ref h0), (1, .int (-1))]) hx hb dJ7_fill_53178_4 rfl hl (by decide) rfl (fun ls hl => ?_)
  have K : ∀ (d i : Nat), i + d = 30 → ∀ (H : Heap) (locs : List Loc), va_P G.1 vcl [(h0, .inl (G.2.2.1 0, 30, .inl (fun k => if k < i then -1 else 0)))] H → va_D A [(h0, .inl (G.2.2.1 0, 30, .inl (fun k => if k < i then -1 else 0)))] → va_S A s.heap H locs → ∀ (ls : Array Slot), lv_has ls 4 [(3, .int 30), (2, .int (nI i)), (0, .ref h0), (1, .int (-1))] → W p l e rm_fill s m args below meth c H locs 0 0 (MQ below (va_Qv (fun _ : Unit => True) (fun _ t => va_P G.1 vcl [(h0, .inl (G.2.2.1 0, 30, .inl (fun k => if k < 30 then -1 else 0)))] t.heap ∧ va_D A [(h0, .inl (G.2.2.1 0, 30, .inl (fun k => if k < 30 then -1 else 0)))]) A) args s 0 0 A) (F0 m 5 ls []) := by
    intro d
    induction d with
    | zero =>
      intro i hi H locs hP hD hS ls hl
      have : i = 30 := by omega
      subst this
      refine lv_iload_n hx hb dJ7_fill_53178_5 rfl (lv_at hl 1 rfl) ?_
      refine lv_iload_n hx hb dJ7_fill_53178_6 rfl (lv_at hl 0 rfl) ?_
      refine lv_icmp_ge (tgt := 20) hx hb dJ7_fill_53178_7 (by decide) (fun hc => ?_) (fun hc => absurd (by decide) hc)
      exact W.vret hx hb hr (fun t ht _ => ⟨⟨(), rfl, trivial, (by rw [ht]; exact hP), hD⟩, hS.F ht⟩) hS.2.2 dJ7_fill_53178_20 hlk
    | succ d ih =>
      intro i hi H locs hP hD hS ls hl
      refine lv_iload_n hx hb dJ7_fill_53178_5 rfl (lv_at hl 1 rfl) ?_
      refine lv_iload_n hx hb dJ7_fill_53178_6 rfl (lv_at hl 0 rfl) ?_
      have hlt : ¬ (30 : Int32) ≤ nI i := nI_ge (by omega : i < 30) (by decide)
      refine lv_icmp_ge (tgt := 20) hx hb dJ7_fill_53178_7 (by decide) (fun hc => absurd hc hlt) (fun hc => ?_)
      refine lv_aload_n hx hb dJ7_fill_53178_10 rfl (lv_at hl 2 rfl) ?_
      refine lv_iload_n hx hb dJ7_fill_53178_11 rfl (lv_at hl 1 rfl) ?_
      refine lv_iload_n hx hb dJ7_fill_53178_12 rfl (lv_at hl 3 rfl) ?_
      refine va_iast hx hb hK hP hD hS 0 0 rfl rfl (vp_in_nI (by omega) (by decide)) dJ7_fill_53178_13 (fun H locs hP hD hS => ?_)
      refine lv_iinc (v := nI (i + 1)) (lv' := [(2, .int (nI (i + 1))), (3, .int 30), (0, .ref h0), (1, .int (-1))]) hx hb dJ7_fill_53178_14 hl (k := 1) rfl (by rw [← nI_1]; rfl) (by decide) rfl (fun ls hl => ?_)
      refine lv_goto (tgt := 5) hx hb dJ7_fill_53178_17 (by decide) ?_
      have hu : upd (fun k => if k < i then -1 else (0 : Int32)) (nI i).toNatClampNeg (-1) = (fun k => if k < i + 1 then -1 else 0) := by
        rw [nI_clamp (by omega)]
        funext k
        unfold upd
        by_cases h1 : k = i
        · rw [if_pos h1, if_pos (by omega)]
        · rw [if_neg h1]
          by_cases h2 : k < i
          · show (if k < i then (-1 : Int32) else 0) = _
            rw [if_pos h2, if_pos (by omega)]
          · show (if k < i then (-1 : Int32) else 0) = _
            rw [if_neg h2, if_neg (by omega)]
      rw [hu] at hP hD
      exact ih (i + 1) (by omega) H locs hP hD hS ls (lv_sub hl [1, 0, 2, 3] rfl)
  exact K 30 0 (by decide) H locs hP hD hS ls hl
abbrev L2 : List Nat := [3, 4, 5]
abbrev L5 : List Nat := [6, 7, 8, 9, 10, 11, 12, 13, 14]
abbrev L8 : List Nat := [15, 16, 17]
abbrev L3 : List Nat := [18]
abbrev L6 : List Nat := [2, 3, 4, 5, 6, 7, 8, 9, 10, 11, 12, 13, 14, 15, 16, 17, 18]
abbrev L1 : List Nat := [1, 2, 3, 4, 5, 6, 7, 8, 9, 10, 11, 12, 13, 14, 15, 16, 17, 18]
abbrev L7 : List Nat := [191, 192, 193, 194]
abbrev L4 : List Nat := [189, 190, 53, 54, 55, 56, 57, 58, 59, 60, 61, 62, 63, 64, 65, 66, 67, 68, 69, 70, 71, 72, 73, 74, 75, 76, 77, 78, 79, 80, 81, 82, 83, 84, 85, 86, 87, 88, 89, 90, 91, 92, 93, 94, 95, 96, 97, 98, 99, 100, 101, 102, 103, 104, 105, 106, 107, 108, 109, 110, 111, 112, 113, 114, 115, 116, 117, 118, 119, 120, 121, 122, 123, 124, 125, 126, 127, 128, 129, 130, 131, 132, 133, 134, 135, 136, 137, 138, 139, 140, 141, 142, 143, 144, 145, 146, 147, 148, 149, 150, 151, 152, 153, 154, 155, 156, 157, 158, 159, 160, 161, 162, 163, 164, 165, 166, 167, 168, 169, 170, 171, 172, 173, 174, 175, 176, 177, 178, 179, 180, 181, 182, 183, 184, 185, 186, 187, 188]
abbrev L9 : List Nat := [0, 1, 2, 3, 4, 5, 6, 7, 8, 9, 10, 11, 12, 13, 14, 15, 16, 17, 18, 19, 20, 21, 22, 23, 24, 25, 26, 27, 28, 29, 30, 31, 32, 33, 34, 35, 36, 37, 38, 39, 40, 41, 42, 43, 44, 45, 46, 47, 48, 49, 50, 51, 52, 189, 190, 53, 54, 55, 56, 57, 58, 59, 60, 61, 62, 63, 64, 65, 66, 67, 68, 69, 70, 71, 72, 73, 74, 75, 76, 77, 78, 79, 80, 81, 82, 83, 84, 85, 86, 87, 88, 89, 90, 91, 92, 93, 94, 95, 96, 97, 98, 99, 100, 101, 102, 103, 104, 105, 106, 107, 108, 109, 110, 111, 112, 113, 114, 115, 116, 117, 118, 119, 120, 121, 122, 123, 124, 125, 126, 127, 128, 129, 130, 131, 132, 133, 134, 135, 136, 137, 138, 139, 140, 141, 142, 143, 144, 145, 146, 147, 148, 149, 150, 151, 152, 153, 154, 155, 156, 157, 158, 159, 160, 161, 162, 163, 164, 165, 166, 167, 168, 169, 170, 171, 172, 173, 174, 175, 176, 177, 178, 179, 180, 181, 182, 183, 184, 185, 186, 187, 188, 191, 192, 193, 194, 195]
theorem ol_X2 : Cond.methodLink RX2 3 Lib.objectInit ∈ allW := allW_in (t1_in (List.mem_of_getElem? (i := 54) rfl)) rfl
abbrev rm_X2_init : Room := { frames := 1, cells := 2, slots := 13, locals := 60 }
set_option maxHeartbeats 4000000 in
set_option maxRecDepth 100000 in
theorem c_X2_init (l : Launch) (G : GE) : MtN l G yX2_init cX2_init 1 rm_X2_init (.inr (1, [.null, .null, .int 0, .int 0, .float 0, .float 0])) 3 L2 2 13 := by
  intro h0 sz
  refine n_start (plainFor_of_name (by decide)) (Nat.le_of_ble_eq_true rfl) ?_
  intro p e s m args below meth c X hr hlk hin hA hAG hD ls hl H locs hP hS
  have X : CxN G p s m args c cX2_init 1 RX2 := X
  obtain ⟨hx, hb, hml, hown, hts, hK, hbs, hXW, hAO⟩ := id X
  have hl : lv_has ls 1 [(0, .ref h0)] := hl
  have hin : meth.name = "<init>" := hin
  refine lv_aload_n hx hb dX2_init_0 rfl (lv_at hl 0 rfl) ?_
  refine n_obj X ol_X2 ob_i ob_c hl.1 dX2_init_1 (Nat.le_of_ble_eq_true rfl) (Nat.le_of_ble_eq_true rfl) ?_
  refine lv_aload_n hx hb dX2_init_4 rfl (lv_at hl 0 rfl) ?_
  refine lv_bipush (v := 8) hx hb dX2_init_5 (by decide) ?_
  refine n_newa 1 X ac_float rfl rfl (fun _ => rfl) hP hD hS hA (x := .inr (.inr (.inl (fun _ => 0)))) (ty := .float) (N' := 8) (fun _ => rfl) (by decide) rfl (Nat.le_of_ble_eq_true rfl) (Nat.le_of_ble_eq_true rfl) (Nat.le_of_ble_eq_true rfl) dX2_init_7 (fun q1 H hP hD hS => ?_)
  have hP : va_P G.1 vcl ((h0, .inr (1, [.null, .null, .int 0, .int 0, .float 0, .float 0])) :: [(q1, .inl (G.2.2.1 1, 8, .inr (.inr (.inl (fun _ => 0)))))]) H := hP
  have hD : va_D (va_A [(h0, .inr (1, [.null, .null, .int 0, .int 0, .float 0, .float 0]))] sz) ((h0, .inr (1, [.null, .null, .int 0, .int 0, .float 0, .float 0])) :: [(q1, .inl (G.2.2.1 1, 8, .inr (.inr (.inl (fun _ => 0)))))]) := hD
  refine n_putF (k := 0) (v := .ref q1) X in_X2 tyX2_ok nmX2 hP hD hS rfl (by decide) kf_X2_9 rfl hin rfl (tyX2_ok 0 (by decide)) rfl rfl (Nat.le_of_ble_eq_true rfl) dX2_init_9 (fun H locs hP hD hS => ?_)
  have hP : va_P G.1 vcl ((h0, .inr (1, [.ref q1, .null, .int 0, .int 0, .float 0, .float 0])) :: [(q1, .inl (G.2.2.1 1, 8, .inr (.inr (.inl (fun _ => 0)))))]) H := hP
  have hD : va_D (va_A [(h0, .inr (1, [.null, .null, .int 0, .int 0, .float 0, .float 0]))] sz) ((h0, .inr (1, [.ref q1, .null, .int 0, .int 0, .float 0, .float 0])) :: [(q1, .inl (G.2.2.1 1, 8, .inr (.inr (.inl (fun _ => 0)))))]) := hD
  refine lv_aload_n hx hb dX2_init_12 rfl (lv_at hl 0 rfl) ?_
  refine lv_iconst (v := 5) hx hb dX2_init_13 (by decide) ?_
  refine n_newa 1 X ac_float rfl rfl (fun _ => rfl) hP hD hS hA (x := .inr (.inr (.inl (fun _ => 0)))) (ty := .float) (N' := 5) (fun _ => rfl) (by decide) rfl (Nat.le_of_ble_eq_true rfl) (Nat.le_of_ble_eq_true rfl) (Nat.le_of_ble_eq_true rfl) dX2_init_14 (fun q2 H hP hD hS => ?_)
  have hP : va_P G.1 vcl ((h0, .inr (1, [.ref q1, .null, .int 0, .int 0, .float 0, .float 0])) :: [(q1, .inl (G.2.2.1 1, 8, .inr (.inr (.inl (fun _ => 0))))), (q2, .inl (G.2.2.1 1, 5, .inr (.inr (.inl (fun _ => 0)))))]) H := hP
  have hD : va_D (va_A [(h0, .inr (1, [.null, .null, .int 0, .int 0, .float 0, .float 0]))] sz) ((h0, .inr (1, [.ref q1, .null, .int 0, .int 0, .float 0, .float 0])) :: [(q1, .inl (G.2.2.1 1, 8, .inr (.inr (.inl (fun _ => 0))))), (q2, .inl (G.2.2.1 1, 5, .inr (.inr (.inl (fun _ => 0)))))]) := hD
  refine n_putF (k := 1) (v := .ref q2) X in_X2 tyX2_ok nmX2 hP hD hS rfl (by decide) kf_X2_15 rfl hin rfl (tyX2_ok 1 (by decide)) rfl rfl (Nat.le_of_ble_eq_true rfl) dX2_init_16 (fun H locs hP hD hS => ?_)
  have hP : va_P G.1 vcl ((h0, .inr (1, [.ref q1, .ref q2, .int 0, .int 0, .float 0, .float 0])) :: [(q1, .inl (G.2.2.1 1, 8, .inr (.inr (.inl (fun _ => 0))))), (q2, .inl (G.2.2.1 1, 5, .inr (.inr (.inl (fun _ => 0)))))]) H := hP
  have hD : va_D (va_A [(h0, .inr (1, [.null, .null, .int 0, .int 0, .float 0, .float 0]))] sz) ((h0, .inr (1, [.ref q1, .ref q2, .int 0, .int 0, .float 0, .float 0])) :: [(q1, .inl (G.2.2.1 1, 8, .inr (.inr (.inl (fun _ => 0))))), (q2, .inl (G.2.2.1 1, 5, .inr (.inr (.inl (fun _ => 0)))))]) := hD
  refine lv_aload_n hx hb dX2_init_19 rfl (lv_at hl 0 rfl) ?_
  refine lv_ldcf hx hb hown (hts _ kc_X2_18) dX2_init_20 ?_
  refine n_put (k := 4) (v := .float 1077936128) X in_X2 tyX2_ok nmX2 hP hD hS rfl (by decide) kf_X2_19 rfl  (tyX2_ok 4 (by decide)) rfl rfl (Nat.le_of_ble_eq_true rfl) dX2_init_22 (fun H locs hP hD hS => ?_)
  have hP : va_P G.1 vcl ((h0, .inr (1, [.ref q1, .ref q2, .int 0, .int 0, .float 1077936128, .float 0])) :: [(q1, .inl (G.2.2.1 1, 8, .inr (.inr (.inl (fun _ => 0))))), (q2, .inl (G.2.2.1 1, 5, .inr (.inr (.inl (fun _ => 0)))))]) H := hP
  have hD : va_D (va_A [(h0, .inr (1, [.null, .null, .int 0, .int 0, .float 0, .float 0]))] sz) ((h0, .inr (1, [.ref q1, .ref q2, .int 0, .int 0, .float 1077936128, .float 0])) :: [(q1, .inl (G.2.2.1 1, 8, .inr (.inr (.inl (fun _ => 0))))), (q2, .inl (G.2.2.1 1, 5, .inr (.inr (.inl (fun _ => 0)))))]) := hD
  refine lv_aload_n hx hb dX2_init_25 rfl (lv_at hl 0 rfl) ?_
  refine lv_fconst2 hx hb dX2_init_26 ?_
  refine n_put (k := 5) (v := .float FP.fconst2) X in_X2 tyX2_ok nmX2 hP hD hS rfl (by decide) kf_X2_23 rfl  (tyX2_ok 5 (by decide)) rfl rfl (Nat.le_of_ble_eq_true rfl) dX2_init_27 (fun H locs hP hD hS => ?_)
  have hP : va_P G.1 vcl ((h0, .inr (1, [.ref q1, .ref q2, .int 0, .int 0, .float 1077936128, .float FP.fconst2])) :: [(q1, .inl (G.2.2.1 1, 8, .inr (.inr (.inl (fun _ => 0))))), (q2, .inl (G.2.2.1 1, 5, .inr (.inr (.inl (fun _ => 0)))))]) H := hP
  have hD : va_D (va_A [(h0, .inr (1, [.null, .null, .int 0, .int 0, .float 0, .float 0]))] sz) ((h0, .inr (1, [.ref q1, .ref q2, .int 0, .int 0, .float 1077936128, .float FP.fconst2])) :: [(q1, .inl (G.2.2.1 1, 8, .inr (.inr (.inl (fun _ => 0))))), (q2, .inl (G.2.2.1 1, 5, .inr (.inr (.inl (fun _ => 0)))))]) := hD
  have hW : ((h0, .inr (1, [.ref q1, .ref q2, .int 0, .int 0, .float 1077936128, .float FP.fconst2])) :: [(q1, .inl (G.2.2.1 1, 8, .inr (.inr (.inl (fun _ => 0))))), (q2, .inl (G.2.2.1 1, 5, .inr (.inr (.inl (fun _ => 0)))))] : va_W) = lw G (fun i => [h0, q1, q2].getD (i - 3) 0) L2 := rfl
  rw [hW] at hP hD
  exact W.widen (Nat.le_of_ble_eq_true rfl) (Nat.le_of_ble_eq_true rfl) (W.vret hx hb hr (fun t ht _ => ⟨⟨_, rfl, rfl, (by rw [ht]; exact hP), hD⟩, hS.F ht⟩) hS.2.2 dX2_init_30 hlk)
theorem ol_X5 : Cond.methodLink RX5 3 Lib.objectInit ∈ allW := allW_in (t1_in (List.mem_of_getElem? (i := 95) rfl)) rfl
abbrev rm_X5_init : Room := { frames := 1, cells := 8, slots := 160, locals := 60 }
set_option maxHeartbeats 4000000 in
set_option maxRecDepth 100000 in
theorem c_X5_init (l : Launch) (G : GE) : MtN l G yX5_init cX5_init 1 rm_X5_init (.inr (4, [.null, .null, .null, .null, .null, .null, .null, .null, .int 0])) 6 L5 8 160 := by
  intro h0 sz
  refine n_start (plainFor_of_name (by decide)) (Nat.le_of_ble_eq_true rfl) ?_
  intro p e s m args below meth c X hr hlk hin hA hAG hD ls hl H locs hP hS
  have X : CxN G p s m args c cX5_init 1 RX5 := X
  obtain ⟨hx, hb, hml, hown, hts, hK, hbs, hXW, hAO⟩ := id X
  have hl : lv_has ls 1 [(0, .ref h0)] := hl
  have hin : meth.name = "<init>" := hin
  refine lv_aload_n hx hb dX5_init_0 rfl (lv_at hl 0 rfl) ?_
  refine n_obj X ol_X5 ob_i ob_c hl.1 dX5_init_1 (Nat.le_of_ble_eq_true rfl) (Nat.le_of_ble_eq_true rfl) ?_
  refine lv_aload_n hx hb dX5_init_4 rfl (lv_at hl 0 rfl) ?_
  refine lv_bipush (v := 20) hx hb dX5_init_5 (by decide) ?_
  refine n_newa 0 X ac_int rfl rfl (fun _ => rfl) hP hD hS hA (x := .inl (fun _ => 0)) (ty := .int) (N' := 20) (fun _ => rfl) (by decide) rfl (Nat.le_of_ble_eq_true rfl) (Nat.le_of_ble_eq_true rfl) (Nat.le_of_ble_eq_true rfl) dX5_init_7 (fun q1 H hP hD hS => ?_)
  have hP : va_P G.1 vcl ((h0, .inr (4, [.null, .null, .null, .null, .null, .null, .null, .null, .int 0])) :: [(q1, .inl (G.2.2.1 0, 20, .inl (fun _ => 0)))]) H := hP
  have hD : va_D (va_A [(h0, .inr (4, [.null, .null, .null, .null, .null, .null, .null, .null, .int 0]))] sz) ((h0, .inr (4, [.null, .null, .null, .null, .null, .null, .null, .null, .int 0])) :: [(q1, .inl (G.2.2.1 0, 20, .inl (fun _ => 0)))]) := hD
  refine n_putF (k := 0) (v := .ref q1) X in_X5 tyX5_ok nmX5 hP hD hS rfl (by decide) kf_X5_9 rfl hin rfl (tyX5_ok 0 (by decide)) rfl rfl (Nat.le_of_ble_eq_true rfl) dX5_init_9 (fun H locs hP hD hS => ?_)
  have hP : va_P G.1 vcl ((h0, .inr (4, [.ref q1, .null, .null, .null, .null, .null, .null, .null, .int 0])) :: [(q1, .inl (G.2.2.1 0, 20, .inl (fun _ => 0)))]) H := hP
  have hD : va_D (va_A [(h0, .inr (4, [.null, .null, .null, .null, .null, .null, .null, .null, .int 0]))] sz) ((h0, .inr (4, [.ref q1, .null, .null, .null, .null, .null, .null, .null, .int 0])) :: [(q1, .inl (G.2.2.1 0, 20, .inl (fun _ => 0)))]) := hD
  refine lv_aload_n hx hb dX5_init_12 rfl (lv_at hl 0 rfl) ?_
  refine lv_bipush (v := 20) hx hb dX5_init_13 (by decide) ?_
  refine n_newa 0 X ac_int rfl rfl (fun _ => rfl) hP hD hS hA (x := .inl (fun _ => 0)) (ty := .int) (N' := 20) (fun _ => rfl) (by decide) rfl (Nat.le_of_ble_eq_true rfl) (Nat.le_of_ble_eq_true rfl) (Nat.le_of_ble_eq_true rfl) dX5_init_15 (fun q2 H hP hD hS => ?_)
  have hP : va_P G.1 vcl ((h0, .inr (4, [.ref q1, .null, .null, .null, .null, .null, .null, .null, .int 0])) :: [(q1, .inl (G.2.2.1 0, 20, .inl (fun _ => 0))), (q2, .inl (G.2.2.1 0, 20, .inl (fun _ => 0)))]) H := hP
  have hD : va_D (va_A [(h0, .inr (4, [.null, .null, .null, .null, .null, .null, .null, .null, .int 0]))] sz) ((h0, .inr (4, [.ref q1, .null, .null, .null, .null, .null, .null, .null, .int 0])) :: [(q1, .inl (G.2.2.1 0, 20, .inl (fun _ => 0))), (q2, .inl (G.2.2.1 0, 20, .inl (fun _ => 0)))]) := hD
  refine n_putF (k := 1) (v := .ref q2) X in_X5 tyX5_ok nmX5 hP hD hS rfl (by decide) kf_X5_15 rfl hin rfl (tyX5_ok 1 (by decide)) rfl rfl (Nat.le_of_ble_eq_true rfl) dX5_init_17 (fun H locs hP hD hS => ?_)
  have hP : va_P G.1 vcl ((h0, .inr (4, [.ref q1, .ref q2, .null, .null, .null, .null, .null, .null, .int 0])) :: [(q1, .inl (G.2.2.1 0, 20, .inl (fun _ => 0))), (q2, .inl (G.2.2.1 0, 20, .inl (fun _ => 0)))]) H := hP
  have hD : va_D (va_A [(h0, .inr (4, [.null, .null, .null, .null, .null, .null, .null, .null, .int 0]))] sz) ((h0, .inr (4, [.ref q1, .ref q2, .null, .null, .null, .null, .null, .null, .int 0])) :: [(q1, .inl (G.2.2.1 0, 20, .inl (fun _ => 0))), (q2, .inl (G.2.2.1 0, 20, .inl (fun _ => 0)))]) := hD
  refine lv_aload_n hx hb dX5_init_20 rfl (lv_at hl 0 rfl) ?_
  refine lv_bipush (v := 20) hx hb dX5_init_21 (by decide) ?_
  refine n_newa 0 X ac_int rfl rfl (fun _ => rfl) hP hD hS hA (x := .inl (fun _ => 0)) (ty := .int) (N' := 20) (fun _ => rfl) (by decide) rfl (Nat.le_of_ble_eq_true rfl) (Nat.le_of_ble_eq_true rfl) (Nat.le_of_ble_eq_true rfl) dX5_init_23 (fun q3 H hP hD hS => ?_)
  have hP : va_P G.1 vcl ((h0, .inr (4, [.ref q1, .ref q2, .null, .null, .null, .null, .null, .null, .int 0])) :: [(q1, .inl (G.2.2.1 0, 20, .inl (fun _ => 0))), (q2, .inl (G.2.2.1 0, 20, .inl (fun _ => 0))), (q3, .inl (G.2.2.1 0, 20, .inl (fun _ => 0)))]) H := hP
  have hD : va_D (va_A [(h0, .inr (4, [.null, .null, .null, .null, .null, .null, .null, .null, .int 0]))] sz) ((h0, .inr (4, [.ref q1, .ref q2, .null, .null, .null, .null, .null, .null, .int 0])) :: [(q1, .inl (G.2.2.1 0, 20, .inl (fun _ => 0))), (q2, .inl (G.2.2.1 0, 20, .inl (fun _ => 0))), (q3, .inl (G.2.2.1 0, 20, .inl (fun _ => 0)))]) := hD
  refine n_putF (k := 2) (v := .ref q3) X in_X5 tyX5_ok nmX5 hP hD hS rfl (by decide) kf_X5_18 rfl hin rfl (tyX5_ok 2 (by decide)) rfl rfl (Nat.le_of_ble_eq_true rfl) dX5_init_25 (fun H locs hP hD hS => ?_)
  have hP : va_P G.1 vcl ((h0, .inr (4, [.ref q1, .ref q2, .ref q3, .null, .null, .null, .null, .null, .int 0])) :: [(q1, .inl (G.2.2.1 0, 20, .inl (fun _ => 0))), (q2, .inl (G.2.2.1 0, 20, .inl (fun _ => 0))), (q3, .inl (G.2.2.1 0, 20, .inl (fun _ => 0)))]) H := hP
  have hD : va_D (va_A [(h0, .inr (4, [.null, .null, .null, .null, .null, .null, .null, .null, .int 0]))] sz) ((h0, .inr (4, [.ref q1, .ref q2, .ref q3, .null, .null, .null, .null, .null, .int 0])) :: [(q1, .inl (G.2.2.1 0, 20, .inl (fun _ => 0))), (q2, .inl (G.2.2.1 0, 20, .inl (fun _ => 0))), (q3, .inl (G.2.2.1 0, 20, .inl (fun _ => 0)))]) := hD
  refine lv_aload_n hx hb dX5_init_28 rfl (lv_at hl 0 rfl) ?_
  refine lv_bipush (v := 20) hx hb dX5_init_29 (by decide) ?_
  refine n_newa 0 X ac_int rfl rfl (fun _ => rfl) hP hD hS hA (x := .inl (fun _ => 0)) (ty := .int) (N' := 20) (fun _ => rfl) (by decide) rfl (Nat.le_of_ble_eq_true rfl) (Nat.le_of_ble_eq_true rfl) (Nat.le_of_ble_eq_true rfl) dX5_init_31 (fun q4 H hP hD hS => ?_)
  have hP : va_P G.1 vcl ((h0, .inr (4, [.ref q1, .ref q2, .ref q3, .null, .null, .null, .null, .null, .int 0])) :: [(q1, .inl (G.2.2.1 0, 20, .inl (fun _ => 0))), (q2, .inl (G.2.2.1 0, 20, .inl (fun _ => 0))), (q3, .inl (G.2.2.1 0, 20, .inl (fun _ => 0))), (q4, .inl (G.2.2.1 0, 20, .inl (fun _ => 0)))]) H := hP
  have hD : va_D (va_A [(h0, .inr (4, [.null, .null, .null, .null, .null, .null, .null, .null, .int 0]))] sz) ((h0, .inr (4, [.ref q1, .ref q2, .ref q3, .null, .null, .null, .null, .null, .int 0])) :: [(q1, .inl (G.2.2.1 0, 20, .inl (fun _ => 0))), (q2, .inl (G.2.2.1 0, 20, .inl (fun _ => 0))), (q3, .inl (G.2.2.1 0, 20, .inl (fun _ => 0))), (q4, .inl (G.2.2.1 0, 20, .inl (fun _ => 0)))]) := hD
  refine n_putF (k := 3) (v := .ref q4) X in_X5 tyX5_ok nmX5 hP hD hS rfl (by decide) kf_X5_21 rfl hin rfl (tyX5_ok 3 (by decide)) rfl rfl (Nat.le_of_ble_eq_true rfl) dX5_init_33 (fun H locs hP hD hS => ?_)
  have hP : va_P G.1 vcl ((h0, .inr (4, [.ref q1, .ref q2, .ref q3, .ref q4, .null, .null, .null, .null, .int 0])) :: [(q1, .inl (G.2.2.1 0, 20, .inl (fun _ => 0))), (q2, .inl (G.2.2.1 0, 20, .inl (fun _ => 0))), (q3, .inl (G.2.2.1 0, 20, .inl (fun _ => 0))), (q4, .inl (G.2.2.1 0, 20, .inl (fun _ => 0)))]) H := hP
  have hD : va_D (va_A [(h0, .inr (4, [.null, .null, .null, .null, .null, .null, .null, .null, .int 0]))] sz) ((h0, .inr (4, [.ref q1, .ref q2, .ref q3, .ref q4, .null, .null, .null, .null, .int 0])) :: [(q1, .inl (G.2.2.1 0, 20, .inl (fun _ => 0))), (q2, .inl (G.2.2.1 0, 20, .inl (fun _ => 0))), (q3, .inl (G.2.2.1 0, 20, .inl (fun _ => 0))), (q4, .inl (G.2.2.1 0, 20, .inl (fun _ => 0)))]) := hD
  refine lv_aload_n hx hb dX5_init_36 rfl (lv_at hl 0 rfl) ?_
  refine lv_bipush (v := 20) hx hb dX5_init_37 (by decide) ?_
  refine n_newa 0 X ac_int rfl rfl (fun _ => rfl) hP hD hS hA (x := .inl (fun _ => 0)) (ty := .int) (N' := 20) (fun _ => rfl) (by decide) rfl (Nat.le_of_ble_eq_true rfl) (Nat.le_of_ble_eq_true rfl) (Nat.le_of_ble_eq_true rfl) dX5_init_39 (fun q5 H hP hD hS => ?_)
  have hP : va_P G.1 vcl ((h0, .inr (4, [.ref q1, .ref q2, .ref q3, .ref q4, .null, .null, .null, .null, .int 0])) :: [(q1, .inl (G.2.2.1 0, 20, .inl (fun _ => 0))), (q2, .inl (G.2.2.1 0, 20, .inl (fun _ => 0))), (q3, .inl (G.2.2.1 0, 20, .inl (fun _ => 0))), (q4, .inl (G.2.2.1 0, 20, .inl (fun _ => 0))), (q5, .inl (G.2.2.1 0, 20, .inl (fun _ => 0)))]) H := hP
  have hD : va_D (va_A [(h0, .inr (4, [.null, .null, .null, .null, .null, .null, .null, .null, .int 0]))] sz) ((h0, .inr (4, [.ref q1, .ref q2, .ref q3, .ref q4, .null, .null, .null, .null, .int 0])) :: [(q1, .inl (G.2.2.1 0, 20, .inl (fun _ => 0))), (q2, .inl (G.2.2.1 0, 20, .inl (fun _ => 0))), (q3, .inl (G.2.2.1 0, 20, .inl (fun _ => 0))), (q4, .inl (G.2.2.1 0, 20, .inl (fun _ => 0))), (q5, .inl (G.2.2.1 0, 20, .inl (fun _ => 0)))]) := hD
  refine n_putF (k := 4) (v := .ref q5) X in_X5 tyX5_ok nmX5 hP hD hS rfl (by decide) kf_X5_24 rfl hin rfl (tyX5_ok 4 (by decide)) rfl rfl (Nat.le_of_ble_eq_true rfl) dX5_init_41 (fun H locs hP hD hS => ?_)
  have hP : va_P G.1 vcl ((h0, .inr (4, [.ref q1, .ref q2, .ref q3, .ref q4, .ref q5, .null, .null, .null, .int 0])) :: [(q1, .inl (G.2.2.1 0, 20, .inl (fun _ => 0))), (q2, .inl (G.2.2.1 0, 20, .inl (fun _ => 0))), (q3, .inl (G.2.2.1 0, 20, .inl (fun _ => 0))), (q4, .inl (G.2.2.1 0, 20, .inl (fun _ => 0))), (q5, .inl (G.2.2.1 0, 20, .inl (fun _ => 0)))]) H := hP
  have hD : va_D (va_A [(h0, .inr (4, [.null, .null, .null, .null, .null, .null, .null, .null, .int 0]))] sz) ((h0, .inr (4, [.ref q1, .ref q2, .ref q3, .ref q4, .ref q5, .null, .null, .null, .int 0])) :: [(q1, .inl (G.2.2.1 0, 20, .inl (fun _ => 0))), (q2, .inl (G.2.2.1 0, 20, .inl (fun _ => 0))), (q3, .inl (G.2.2.1 0, 20, .inl (fun _ => 0))), (q4, .inl (G.2.2.1 0, 20, .inl (fun _ => 0))), (q5, .inl (G.2.2.1 0, 20, .inl (fun _ => 0)))]) := hD
  refine lv_aload_n hx hb dX5_init_44 rfl (lv_at hl 0 rfl) ?_
  refine lv_bipush (v := 20) hx hb dX5_init_45 (by decide) ?_
  refine n_newa 0 X ac_int rfl rfl (fun _ => rfl) hP hD hS hA (x := .inl (fun _ => 0)) (ty := .int) (N' := 20) (fun _ => rfl) (by decide) rfl (Nat.le_of_ble_eq_true rfl) (Nat.le_of_ble_eq_true rfl) (Nat.le_of_ble_eq_true rfl) dX5_init_47 (fun q6 H hP hD hS => ?_)
  have hP : va_P G.1 vcl ((h0, .inr (4, [.ref q1, .ref q2, .ref q3, .ref q4, .ref q5, .null, .null, .null, .int 0])) :: [(q1, .inl (G.2.2.1 0, 20, .inl (fun _ => 0))), (q2, .inl (G.2.2.1 0, 20, .inl (fun _ => 0))), (q3, .inl (G.2.2.1 0, 20, .inl (fun _ => 0))), (q4, .inl (G.2.2.1 0, 20, .inl (fun _ => 0))), (q5, .inl (G.2.2.1 0, 20, .inl (fun _ => 0))), (q6, .inl (G.2.2.1 0, 20, .inl (fun _ => 0)))]) H := hP
  have hD : va_D (va_A [(h0, .inr (4, [.null, .null, .null, .null, .null, .null, .null, .null, .int 0]))] sz) ((h0, .inr (4, [.ref q1, .ref q2, .ref q3, .ref q4, .ref q5, .null, .null, .null, .int 0])) :: [(q1, .inl (G.2.2.1 0, 20, .inl (fun _ => 0))), (q2, .inl (G.2.2.1 0, 20, .inl (fun _ => 0))), (q3, .inl (G.2.2.1 0, 20, .inl (fun _ => 0))), (q4, .inl (G.2.2.1 0, 20, .inl (fun _ => 0))), (q5, .inl (G.2.2.1 0, 20, .inl (fun _ => 0))), (q6, .inl (G.2.2.1 0, 20, .inl (fun _ => 0)))]) := hD
  refine n_putF (k := 5) (v := .ref q6) X in_X5 tyX5_ok nmX5 hP hD hS rfl (by decide) kf_X5_27 rfl hin rfl (tyX5_ok 5 (by decide)) rfl rfl (Nat.le_of_ble_eq_true rfl) dX5_init_49 (fun H locs hP hD hS => ?_)
  have hP : va_P G.1 vcl ((h0, .inr (4, [.ref q1, .ref q2, .ref q3, .ref q4, .ref q5, .ref q6, .null, .null, .int 0])) :: [(q1, .inl (G.2.2.1 0, 20, .inl (fun _ => 0))), (q2, .inl (G.2.2.1 0, 20, .inl (fun _ => 0))), (q3, .inl (G.2.2.1 0, 20, .inl (fun _ => 0))), (q4, .inl (G.2.2.1 0, 20, .inl (fun _ => 0))), (q5, .inl (G.2.2.1 0, 20, .inl (fun _ => 0))), (q6, .inl (G.2.2.1 0, 20, .inl (fun _ => 0)))]) H := hP
  have hD : va_D (va_A [(h0, .inr (4, [.null, .null, .null, .null, .null, .null, .null, .null, .int 0]))] sz) ((h0, .inr (4, [.ref q1, .ref q2, .ref q3, .ref q4, .ref q5, .ref q6, .null, .null, .int 0])) :: [(q1, .inl (G.2.2.1 0, 20, .inl (fun _ => 0))), (q2, .inl (G.2.2.1 0, 20, .inl (fun _ => 0))), (q3, .inl (G.2.2.1 0, 20, .inl (fun _ => 0))), (q4, .inl (G.2.2.1 0, 20, .inl (fun _ => 0))), (q5, .inl (G.2.2.1 0, 20, .inl (fun _ => 0))), (q6, .inl (G.2.2.1 0, 20, .inl (fun _ => 0)))]) := hD
  refine lv_aload_n hx hb dX5_init_52 rfl (lv_at hl 0 rfl) ?_
  refine lv_bipush (v := 20) hx hb dX5_init_53 (by decide) ?_
  refine n_newa 0 X ac_int rfl rfl (fun _ => rfl) hP hD hS hA (x := .inl (fun _ => 0)) (ty := .int) (N' := 20) (fun _ => rfl) (by decide) rfl (Nat.le_of_ble_eq_true rfl) (Nat.le_of_ble_eq_true rfl) (Nat.le_of_ble_eq_true rfl) dX5_init_55 (fun q7 H hP hD hS => ?_)
  have hP : va_P G.1 vcl ((h0, .inr (4, [.ref q1, .ref q2, .ref q3, .ref q4, .ref q5, .ref q6, .null, .null, .int 0])) :: [(q1, .inl (G.2.2.1 0, 20, .inl (fun _ => 0))), (q2, .inl (G.2.2.1 0, 20, .inl (fun _ => 0))), (q3, .inl (G.2.2.1 0, 20, .inl (fun _ => 0))), (q4, .inl (G.2.2.1 0, 20, .inl (fun _ => 0))), (q5, .inl (G.2.2.1 0, 20, .inl (fun _ => 0))), (q6, .inl (G.2.2.1 0, 20, .inl (fun _ => 0))), (q7, .inl (G.2.2.1 0, 20, .inl (fun _ => 0)))]) H := hP
  have hD : va_D (va_A [(h0, .inr (4, [.null, .null, .null, .null, .null, .null, .null, .null, .int 0]))] sz) ((h0, .inr (4, [.ref q1, .ref q2, .ref q3, .ref q4, .ref q5, .ref q6, .null, .null, .int 0])) :: [(q1, .inl (G.2.2.1 0, 20, .inl (fun _ => 0))), (q2, .inl (G.2.2.1 0, 20, .inl (fun _ => 0))), (q3, .inl (G.2.2.1 0, 20, .inl (fun _ => 0))), (q4, .inl (G.2.2.1 0, 20, .inl (fun _ => 0))), (q5, .inl (G.2.2.1 0, 20, .inl (fun _ => 0))), (q6, .inl (G.2.2.1 0, 20, .inl (fun _ => 0))), (q7, .inl (G.2.2.1 0, 20, .inl (fun _ => 0)))]) := hD
  refine n_putF (k := 6) (v := .ref q7) X in_X5 tyX5_ok nmX5 hP hD hS rfl (by decide) kf_X5_30 rfl hin rfl (tyX5_ok 6 (by decide)) rfl rfl (Nat.le_of_ble_eq_true rfl) dX5_init_57 (fun H locs hP hD hS => ?_)
  have hP : va_P G.1 vcl ((h0, .inr (4, [.ref q1, .ref q2, .ref q3, .ref q4, .ref q5, .ref q6, .ref q7, .null, .int 0])) :: [(q1, .inl (G.2.2.1 0, 20, .inl (fun _ => 0))), (q2, .inl (G.2.2.1 0, 20, .inl (fun _ => 0))), (q3, .inl (G.2.2.1 0, 20, .inl (fun _ => 0))), (q4, .inl (G.2.2.1 0, 20, .inl (fun _ => 0))), (q5, .inl (G.2.2.1 0, 20, .inl (fun _ => 0))), (q6, .inl (G.2.2.1 0, 20, .inl (fun _ => 0))), (q7, .inl (G.2.2.1 0, 20, .inl (fun _ => 0)))]) H := hP
  have hD : va_D (va_A [(h0, .inr (4, [.null, .null, .null, .null, .null, .null, .null, .null, .int 0]))] sz) ((h0, .inr (4, [.ref q1, .ref q2, .ref q3, .ref q4, .ref q5, .ref q6, .ref q7, .null, .int 0])) :: [(q1, .inl (G.2.2.1 0, 20, .inl (fun _ => 0))), (q2, .inl (G.2.2.1 0, 20, .inl (fun _ => 0))), (q3, .inl (G.2.2.1 0, 20, .inl (fun _ => 0))), (q4, .inl (G.2.2.1 0, 20, .inl (fun _ => 0))), (q5, .inl (G.2.2.1 0, 20, .inl (fun _ => 0))), (q6, .inl (G.2.2.1 0, 20, .inl (fun _ => 0))), (q7, .inl (G.2.2.1 0, 20, .inl (fun _ => 0)))]) := hD
  refine lv_aload_n hx hb dX5_init_60 rfl (lv_at hl 0 rfl) ?_
  refine lv_bipush (v := 20) hx hb dX5_init_61 (by decide) ?_
  refine n_newa 1 X ac_float rfl rfl (fun _ => rfl) hP hD hS hA (x := .inr (.inr (.inl (fun _ => 0)))) (ty := .float) (N' := 20) (fun _ => rfl) (by decide) rfl (Nat.le_of_ble_eq_true rfl) (Nat.le_of_ble_eq_true rfl) (Nat.le_of_ble_eq_true rfl) dX5_init_63 (fun q8 H hP hD hS => ?_)
  have hP : va_P G.1 vcl ((h0, .inr (4, [.ref q1, .ref q2, .ref q3, .ref q4, .ref q5, .ref q6, .ref q7, .null, .int 0])) :: [(q1, .inl (G.2.2.1 0, 20, .inl (fun _ => 0))), (q2, .inl (G.2.2.1 0, 20, .inl (fun _ => 0))), (q3, .inl (G.2.2.1 0, 20, .inl (fun _ => 0))), (q4, .inl (G.2.2.1 0, 20, .inl (fun _ => 0))), (q5, .inl (G.2.2.1 0, 20, .inl (fun _ => 0))), (q6, .inl (G.2.2.1 0, 20, .inl (fun _ => 0))), (q7, .inl (G.2.2.1 0, 20, .inl (fun _ => 0))), (q8, .inl (G.2.2.1 1, 20, .inr (.inr (.inl (fun _ => 0)))))]) H := hP
  have hD : va_D (va_A [(h0, .inr (4, [.null, .null, .null, .null, .null, .null, .null, .null, .int 0]))] sz) ((h0, .inr (4, [.ref q1, .ref q2, .ref q3, .ref q4, .ref q5, .ref q6, .ref q7, .null, .int 0])) :: [(q1, .inl (G.2.2.1 0, 20, .inl (fun _ => 0))), (q2, .inl (G.2.2.1 0, 20, .inl (fun _ => 0))), (q3, .inl (G.2.2.1 0, 20, .inl (fun _ => 0))), (q4, .inl (G.2.2.1 0, 20, .inl (fun _ => 0))), (q5, .inl (G.2.2.1 0, 20, .inl (fun _ => 0))), (q6, .inl (G.2.2.1 0, 20, .inl (fun _ => 0))), (q7, .inl (G.2.2.1 0, 20, .inl (fun _ => 0))), (q8, .inl (G.2.2.1 1, 20, .inr (.inr (.inl (fun _ => 0)))))]) := hD
  refine n_putF (k := 7) (v := .ref q8) X in_X5 tyX5_ok nmX5 hP hD hS rfl (by decide) kf_X5_33 rfl hin rfl (tyX5_ok 7 (by decide)) rfl rfl (Nat.le_of_ble_eq_true rfl) dX5_init_65 (fun H locs hP hD hS => ?_)
  have hP : va_P G.1 vcl ((h0, .inr (4, [.ref q1, .ref q2, .ref q3, .ref q4, .ref q5, .ref q6, .ref q7, .ref q8, .int 0])) :: [(q1, .inl (G.2.2.1 0, 20, .inl (fun _ => 0))), (q2, .inl (G.2.2.1 0, 20, .inl (fun _ => 0))), (q3, .inl (G.2.2.1 0, 20, .inl (fun _ => 0))), (q4, .inl (G.2.2.1 0, 20, .inl (fun _ => 0))), (q5, .inl (G.2.2.1 0, 20, .inl (fun _ => 0))), (q6, .inl (G.2.2.1 0, 20, .inl (fun _ => 0))), (q7, .inl (G.2.2.1 0, 20, .inl (fun _ => 0))), (q8, .inl (G.2.2.1 1, 20, .inr (.inr (.inl (fun _ => 0)))))]) H := hP
  have hD : va_D (va_A [(h0, .inr (4, [.null, .null, .null, .null, .null, .null, .null, .null, .int 0]))] sz) ((h0, .inr (4, [.ref q1, .ref q2, .ref q3, .ref q4, .ref q5, .ref q6, .ref q7, .ref q8, .int 0])) :: [(q1, .inl (G.2.2.1 0, 20, .inl (fun _ => 0))), (q2, .inl (G.2.2.1 0, 20, .inl (fun _ => 0))), (q3, .inl (G.2.2.1 0, 20, .inl (fun _ => 0))), (q4, .inl (G.2.2.1 0, 20, .inl (fun _ => 0))), (q5, .inl (G.2.2.1 0, 20, .inl (fun _ => 0))), (q6, .inl (G.2.2.1 0, 20, .inl (fun _ => 0))), (q7, .inl (G.2.2.1 0, 20, .inl (fun _ => 0))), (q8, .inl (G.2.2.1 1, 20, .inr (.inr (.inl (fun _ => 0)))))]) := hD
  have hW : ((h0, .inr (4, [.ref q1, .ref q2, .ref q3, .ref q4, .ref q5, .ref q6, .ref q7, .ref q8, .int 0])) :: [(q1, .inl (G.2.2.1 0, 20, .inl (fun _ => 0))), (q2, .inl (G.2.2.1 0, 20, .inl (fun _ => 0))), (q3, .inl (G.2.2.1 0, 20, .inl (fun _ => 0))), (q4, .inl (G.2.2.1 0, 20, .inl (fun _ => 0))), (q5, .inl (G.2.2.1 0, 20, .inl (fun _ => 0))), (q6, .inl (G.2.2.1 0, 20, .inl (fun _ => 0))), (q7, .inl (G.2.2.1 0, 20, .inl (fun _ => 0))), (q8, .inl (G.2.2.1 1, 20, .inr (.inr (.inl (fun _ => 0)))))] : va_W) = lw G (fun i => [h0, q1, q2, q3, q4, q5, q6, q7, q8].getD (i - 6) 0) L5 := rfl
  rw [hW] at hP hD
  exact W.widen (Nat.le_of_ble_eq_true rfl) (Nat.le_of_ble_eq_true rfl) (W.vret hx hb hr (fun t ht _ => ⟨⟨_, rfl, rfl, (by rw [ht]; exact hP), hD⟩, hS.F ht⟩) hS.2.2 dX5_init_68 hlk)
theorem ol_X8 : Cond.methodLink RX8 5 Lib.objectInit ∈ allW := allW_in (t1_in (List.mem_of_getElem? (i := 144) rfl)) rfl
abbrev rm_X8_init : Room := { frames := 2, cells := 2, slots := 36, locals := 83 }
set_option maxHeartbeats 4000000 in
set_option maxRecDepth 100000 in
theorem c_X8_init (l : Launch) (G : GE) : MtN l G yX8_init cX8_init 1 rm_X8_init (.inr (7, [.null, .null])) 15 L8 2 36 := by
  intro h0 sz
  refine n_start (plainFor_of_name (by decide)) (Nat.le_of_ble_eq_true rfl) ?_
  intro p e s m args below meth c X hr hlk hin hA hAG hD ls hl H locs hP hS
  have X : CxN G p s m args c cX8_init 1 RX8 := X
  obtain ⟨hx, hb, hml, hown, hts, hK, hbs, hXW, hAO⟩ := id X
  have hl : lv_has ls 1 [(0, .ref h0)] := hl
  have hin : meth.name = "<init>" := hin
  refine lv_aload_n hx hb dX8_init_0 rfl (lv_at hl 0 rfl) ?_
  refine n_obj X ol_X8 ob_i ob_c hl.1 dX8_init_1 (Nat.le_of_ble_eq_true rfl) (Nat.le_of_ble_eq_true rfl) ?_
  refine lv_aload_n hx hb dX8_init_4 rfl (lv_at hl 0 rfl) ?_
  refine lv_bipush (v := 30) hx hb dX8_init_5 (by decide) ?_
  refine n_newa 0 X ac_int rfl rfl (fun _ => rfl) hP hD hS hA (x := .inl (fun _ => 0)) (ty := .int) (N' := 30) (fun _ => rfl) (by decide) rfl (Nat.le_of_ble_eq_true rfl) (Nat.le_of_ble_eq_true rfl) (Nat.le_of_ble_eq_true rfl) dX8_init_7 (fun q1 H hP hD hS => ?_)
  have hP : va_P G.1 vcl ((h0, .inr (7, [.null, .null])) :: [(q1, .inl (G.2.2.1 0, 30, .inl (fun _ => 0)))]) H := hP
  have hD : va_D (va_A [(h0, .inr (7, [.null, .null]))] sz) ((h0, .inr (7, [.null, .null])) :: [(q1, .inl (G.2.2.1 0, 30, .inl (fun _ => 0)))]) := hD
  refine n_putF (k := 0) (v := .ref q1) X in_X8 tyX8_ok nmX8 hP hD hS rfl (by decide) kf_X8_11 rfl hin rfl (tyX8_ok 0 (by decide)) rfl rfl (Nat.le_of_ble_eq_true rfl) dX8_init_9 (fun H locs hP hD hS => ?_)
  have hP : va_P G.1 vcl ((h0, .inr (7, [.ref q1, .null])) :: [(q1, .inl (G.2.2.1 0, 30, .inl (fun _ => 0)))]) H := hP
  have hD : va_D (va_A [(h0, .inr (7, [.null, .null]))] sz) ((h0, .inr (7, [.ref q1, .null])) :: [(q1, .inl (G.2.2.1 0, 30, .inl (fun _ => 0)))]) := hD
  refine lv_aload_n hx hb dX8_init_12 rfl (lv_at hl 0 rfl) ?_
  refine lv_bipush (v := 6) hx hb dX8_init_13 (by decide) ?_
  refine n_newa 0 X ac_int rfl rfl (fun _ => rfl) hP hD hS hA (x := .inl (fun _ => 0)) (ty := .int) (N' := 6) (fun _ => rfl) (by decide) rfl (Nat.le_of_ble_eq_true rfl) (Nat.le_of_ble_eq_true rfl) (Nat.le_of_ble_eq_true rfl) dX8_init_15 (fun q2 H hP hD hS => ?_)
  have hP : va_P G.1 vcl ((h0, .inr (7, [.ref q1, .null])) :: [(q1, .inl (G.2.2.1 0, 30, .inl (fun _ => 0))), (q2, .inl (G.2.2.1 0, 6, .inl (fun _ => 0)))]) H := hP
  have hD : va_D (va_A [(h0, .inr (7, [.null, .null]))] sz) ((h0, .inr (7, [.ref q1, .null])) :: [(q1, .inl (G.2.2.1 0, 30, .inl (fun _ => 0))), (q2, .inl (G.2.2.1 0, 6, .inl (fun _ => 0)))]) := hD
  refine n_putF (k := 1) (v := .ref q2) X in_X8 tyX8_ok nmX8 hP hD hS rfl (by decide) kf_X8_15 rfl hin rfl (tyX8_ok 1 (by decide)) rfl rfl (Nat.le_of_ble_eq_true rfl) dX8_init_17 (fun H locs hP hD hS => ?_)
  have hP : va_P G.1 vcl ((h0, .inr (7, [.ref q1, .ref q2])) :: [(q1, .inl (G.2.2.1 0, 30, .inl (fun _ => 0))), (q2, .inl (G.2.2.1 0, 6, .inl (fun _ => 0)))]) H := hP
  have hD : va_D (va_A [(h0, .inr (7, [.null, .null]))] sz) ((h0, .inr (7, [.ref q1, .ref q2])) :: [(q1, .inl (G.2.2.1 0, 30, .inl (fun _ => 0))), (q2, .inl (G.2.2.1 0, 6, .inl (fun _ => 0)))]) := hD
  refine lv_aload_n hx hb dX8_init_20 rfl (lv_at hl 0 rfl) ?_
  refine n_get (q0 := 0) (k := 0) X in_X8 hP rfl rfl (by decide) kf_X8_11 rfl dX8_init_21 ?_
  refine lv_iconst (v := -1) hx hb dX8_init_24 (by decide) ?_
  have hPc := hP.sub (ws' := [(q1, .inl (G.2.2.1 0, 30, .inl (fun _ => 0)))]) [1] rfl
  have hDc := hD.sub (ws' := [(q1, .inl (G.2.2.1 0, 30, .inl (fun _ => 0)))]) [1] (by decide) rfl
  have hFc := va_free (wc := [(q1, .inl (G.2.2.1 0, 30, .inl (fun _ => 0)))]) hD hS hA [1] rfl
  refine va_callv (va_runS (As := [.ref q1, .int (-1)]) (rest := []) (n := 2) (nL := 1) (Ts := allW) ⟨hx, hb, hml, hown, hts⟩ (c_fill l G q1 H.size) ⟨⟨rfl, rfl, (Nat.le_of_ble_eq_true rfl : _ ≤ _), (Nat.le_of_ble_eq_true rfl : _ ≤ _), g_pay hts ca_J7_fill_53178.1.1, List.mem_cons_self, hts _ ca_J7_fill_53178.1.1, hts _ ca_J7_fill_53178.1.2.1, ca_J7_fill_53178.1.2.2.1, g_len ca_J7_fill_53178.1.2.2.2, hts _ km_X8_18⟩, hts _ ca_J7_fill_53178.2⟩ ⟨WdN_blind G _ _ _, fun U hU hW => ⟨rfl, X.wd hPc hDc hAG hS U hU hW⟩⟩ rfl rfl hl.1 rfl (lv_room (Nat.le_of_ble_eq_true rfl)) dX8_init_25 ⟨Nat.le_of_ble_eq_true rfl, Nat.le_of_ble_eq_true rfl⟩) hS (fun q _ h => hFc q h) hFc (fun u t H1 locs1 ht hvm hw hB hz1 hk1 hS => ?_)
  obtain ⟨hP1, hD1⟩ := hB
  rw [ht] at hP1
  obtain ⟨hP, hD⟩ := va_join (wr := [(h0, .inr (7, [.ref q1, .ref q2])), (q2, .inl (G.2.2.1 0, 6, .inl (fun _ => 0)))]) hP hD [1] [0, 2] rfl rfl (by decide) (by decide) hk1 hFc hP1 hD1
  have hP := hP.sub (ws' := [(h0, .inr (7, [.ref q1, .ref q2])), (q1, .inl (G.2.2.1 0, 30, .inl (fun k => if k < 30 then -1 else 0))), (q2, .inl (G.2.2.1 0, 6, .inl (fun _ => 0)))]) [0, 2, 1] rfl
  have hD := hD.sub (ws' := [(h0, .inr (7, [.ref q1, .ref q2])), (q1, .inl (G.2.2.1 0, 30, .inl (fun k => if k < 30 then -1 else 0))), (q2, .inl (G.2.2.1 0, 6, .inl (fun _ => 0)))]) [0, 2, 1] (by decide) rfl
  generalize H1 = H at hP hS ⊢
  have hP : va_P G.1 vcl ((h0, .inr (7, [.ref q1, .ref q2])) :: [(q1, .inl (G.2.2.1 0, 30, .inl (fun k => if k < 30 then -1 else 0))), (q2, .inl (G.2.2.1 0, 6, .inl (fun _ => 0)))]) H := hP
  have hD : va_D (va_A [(h0, .inr (7, [.null, .null]))] sz) ((h0, .inr (7, [.ref q1, .ref q2])) :: [(q1, .inl (G.2.2.1 0, 30, .inl (fun k => if k < 30 then -1 else 0))), (q2, .inl (G.2.2.1 0, 6, .inl (fun _ => 0)))]) := hD
  have hW : ((h0, .inr (7, [.ref q1, .ref q2])) :: [(q1, .inl (G.2.2.1 0, 30, .inl (fun k => if k < 30 then -1 else 0))), (q2, .inl (G.2.2.1 0, 6, .inl (fun _ => 0)))] : va_W) = lw G (fun i => [h0, q1, q2].getD (i - 15) 0) L8 := rfl
  rw [hW] at hP hD
  exact W.widen (Nat.le_of_ble_eq_true rfl) (Nat.le_of_ble_eq_true rfl) (W.vret hx hb hr (fun t ht _ => ⟨⟨_, rfl, rfl, (by rw [ht]; exact hP), hD⟩, hS.F ht⟩) hS.2.2 dX8_init_28 hlk)
theorem ol_X3 : Cond.methodLink RX3 3 Lib.objectInit ∈ allW := allW_in (t1_in (List.mem_of_getElem? (i := 163) rfl)) rfl
abbrev rm_X3_init : Room := { frames := 1, cells := 0, slots := 0, locals := 60 }
set_option maxHeartbeats 4000000 in
set_option maxRecDepth 100000 in
theorem c_X3_init (l : Launch) (G : GE) : MtN l G yX3_init cX3_init 1 rm_X3_init (.inr (2, [.float 0, .int 0, .int 0, .int 0])) 18 L3 0 0 := by
  intro h0 sz
  refine n_start (plainFor_of_name (by decide)) (Nat.le_of_ble_eq_true rfl) ?_
  intro p e s m args below meth c X hr hlk hin hA hAG hD ls hl H locs hP hS
  have X : CxN G p s m args c cX3_init 1 RX3 := X
  obtain ⟨hx, hb, hml, hown, hts, hK, hbs, hXW, hAO⟩ := id X
  have hl : lv_has ls 1 [(0, .ref h0)] := hl
  have hin : meth.name = "<init>" := hin
  refine lv_aload_n hx hb dX3_init_0 rfl (lv_at hl 0 rfl) ?_
  refine n_obj X ol_X3 ob_i ob_c hl.1 dX3_init_1 (Nat.le_of_ble_eq_true rfl) (Nat.le_of_ble_eq_true rfl) ?_
  have hW : ((h0, .inr (2, [.float 0, .int 0, .int 0, .int 0])) :: [] : va_W) = lw G (fun i => [h0].getD (i - 18) 0) L3 := rfl
  rw [hW] at hP hD
  exact W.widen (Nat.le_of_ble_eq_true rfl) (Nat.le_of_ble_eq_true rfl) (W.vret hx hb hr (fun t ht _ => ⟨⟨_, rfl, rfl, (by rw [ht]; exact hP), hD⟩, hS.F ht⟩) hS.2.2 dX3_init_4 hlk)
theorem ol_X6 : Cond.methodLink RX6 3 Lib.objectInit ∈ allW := allW_in (t1_in (List.mem_of_getElem? (i := 48) rfl)) rfl
theorem nw_X6_9 : Cond.classLink RX6 9 RX2 ∈ allW := allW_in (t1_in (List.mem_of_getElem? (i := 49) rfl)) rfl
theorem ni_X2 : Cond.instantiable RX2 6 ∈ allW ∧ Cond.initialized RX2 ∈ allW := ⟨allW_in (t1_in (List.mem_of_getElem? (i := 50) rfl)) rfl, allW_in (t1_in (List.mem_of_getElem? (i := 4) rfl)) rfl⟩
theorem nw_X6_18 : Cond.classLink RX6 18 RX5 ∈ allW := allW_in (t1_in (List.mem_of_getElem? (i := 90) rfl)) rfl
theorem ni_X5 : Cond.instantiable RX5 9 ∈ allW ∧ Cond.initialized RX5 ∈ allW := ⟨allW_in (t1_in (List.mem_of_getElem? (i := 91) rfl)) rfl, allW_in (t1_in (List.mem_of_getElem? (i := 5) rfl)) rfl⟩
theorem nw_X6_25 : Cond.classLink RX6 25 RX8 ∈ allW := allW_in (t1_in (List.mem_of_getElem? (i := 139) rfl)) rfl
theorem ni_X8 : Cond.instantiable RX8 2 ∈ allW ∧ Cond.initialized RX8 ∈ allW := ⟨allW_in (t1_in (List.mem_of_getElem? (i := 140) rfl)) rfl, allW_in (t1_in (List.mem_of_getElem? (i := 6) rfl)) rfl⟩
theorem nw_X6_32 : Cond.classLink RX6 32 RX3 ∈ allW := allW_in (t1_in (List.mem_of_getElem? (i := 158) rfl)) rfl
theorem ni_X3 : Cond.instantiable RX3 4 ∈ allW ∧ Cond.initialized RX3 ∈ allW := ⟨allW_in (t1_in (List.mem_of_getElem? (i := 159) rfl)) rfl, allW_in (t1_in (List.mem_of_getElem? (i := 8) rfl)) rfl⟩
abbrev rm_X6_init : Room := { frames := 3, cells := 16, slots := 230, locals := 103 }
set_option maxHeartbeats 4000000 in
set_option maxRecDepth 100000 in
theorem c_X6_init (l : Launch) (G : GE) : MtN l G yX6_init cX6_init 1 rm_X6_init (.inr (5, [.null, .null, .null, .null])) 2 L6 16 230 := by
  intro h0 sz
  refine n_start (plainFor_of_name (by decide)) (Nat.le_of_ble_eq_true rfl) ?_
  intro p e s m args below meth c X hr hlk hin hA hAG hD ls hl H locs hP hS
  have X : CxN G p s m args c cX6_init 1 RX6 := X
  obtain ⟨hx, hb, hml, hown, hts, hK, hbs, hXW, hAO⟩ := id X
  have hl : lv_has ls 1 [(0, .ref h0)] := hl
  have hin : meth.name = "<init>" := hin
  refine lv_aload_n hx hb dX6_init_0 rfl (lv_at hl 0 rfl) ?_
  refine n_obj X ol_X6 ob_i ob_c hl.1 dX6_init_1 (Nat.le_of_ble_eq_true rfl) (Nat.le_of_ble_eq_true rfl) ?_
  refine lv_aload_n hx hb dX6_init_4 rfl (lv_at hl 0 rfl) ?_
  refine n_new (ci := 1) (fs := [.null, .null, .int 0, .int 0, .float 0, .float 0]) (ty := tyX2) X in_X2 tyX2_ok nw_X6_9 ni_X2.1 ni_X2.2 hP hD hS hA rfl (by decide) (Nat.le_of_ble_eq_true rfl) (Nat.le_of_ble_eq_true rfl) dX6_init_5 (fun q1 H hP hD hS => ?_)
  refine lv_dup hx hb dX6_init_8 rfl ?_
  refine n_call X (c_X2_init l G) ca_X2_init (Or.inl ⟨_, km_X6_11⟩) rfl rfl rfl ⟨Nat.le_of_ble_eq_true rfl, Nat.le_of_ble_eq_true rfl⟩ (ws := (h0, .inr (5, [.null, .null, .null, .null])) :: []) hP hD hS hA hAG hl.1 (Nat.le_of_ble_eq_true rfl) ⟨Nat.le_of_ble_eq_true rfl, Nat.le_of_ble_eq_true rfl⟩ dX6_init_9 (fun a1 ha1 H locs hP hD hS => ?_)
  have hP : va_P G.1 vcl ((h0, .inr (5, [.null, .null, .null, .null])) :: lw G a1 L2) H := hP
  have hD : va_D (va_A [(h0, .inr (5, [.null, .null, .null, .null]))] sz) ((h0, .inr (5, [.null, .null, .null, .null])) :: lw G a1 L2) := hD
  refine n_putF (k := 0) (v := .ref q1) X in_X6 tyX6_ok nmX6 hP hD hS rfl (by decide) kf_X6_12 rfl hin rfl (tyX6_ok 0 (by decide)) rfl rfl (Nat.le_of_ble_eq_true rfl) dX6_init_12 (fun H locs hP hD hS => ?_)
  have hP : va_P G.1 vcl ((h0, .inr (5, [.ref q1, .null, .null, .null])) :: lw G a1 L2) H := hP
  have hD : va_D (va_A [(h0, .inr (5, [.null, .null, .null, .null]))] sz) ((h0, .inr (5, [.ref q1, .null, .null, .null])) :: lw G a1 L2) := hD
  refine lv_aload_n hx hb dX6_init_15 rfl (lv_at hl 0 rfl) ?_
  refine n_new (ci := 4) (fs := [.null, .null, .null, .null, .null, .null, .null, .null, .int 0]) (ty := tyX5) X in_X5 tyX5_ok nw_X6_18 ni_X5.1 ni_X5.2 hP hD hS hA rfl (by decide) (Nat.le_of_ble_eq_true rfl) (Nat.le_of_ble_eq_true rfl) dX6_init_16 (fun q2 H hP hD hS => ?_)
  refine lv_dup hx hb dX6_init_19 rfl ?_
  refine n_call X (c_X5_init l G) ca_X5_init (Or.inl ⟨_, km_X6_20⟩) rfl rfl rfl ⟨Nat.le_of_ble_eq_true rfl, Nat.le_of_ble_eq_true rfl⟩ (ws := (h0, .inr (5, [.ref q1, .null, .null, .null])) :: lw G a1 L2) hP hD hS hA hAG hl.1 (Nat.le_of_ble_eq_true rfl) ⟨Nat.le_of_ble_eq_true rfl, Nat.le_of_ble_eq_true rfl⟩ dX6_init_20 (fun a2 ha2 H locs hP hD hS => ?_)
  have hP : va_P G.1 vcl ((h0, .inr (5, [.ref q1, .null, .null, .null])) :: (lw G a1 L2 ++ lw G a2 L5)) H := hP
  have hD : va_D (va_A [(h0, .inr (5, [.null, .null, .null, .null]))] sz) ((h0, .inr (5, [.ref q1, .null, .null, .null])) :: (lw G a1 L2 ++ lw G a2 L5)) := hD
  refine n_putF (k := 1) (v := .ref q2) X in_X6 tyX6_ok nmX6 hP hD hS rfl (by decide) kf_X6_21 rfl hin rfl (tyX6_ok 1 (by decide)) rfl rfl (Nat.le_of_ble_eq_true rfl) dX6_init_23 (fun H locs hP hD hS => ?_)
  have hP : va_P G.1 vcl ((h0, .inr (5, [.ref q1, .ref q2, .null, .null])) :: (lw G a1 L2 ++ lw G a2 L5)) H := hP
  have hD : va_D (va_A [(h0, .inr (5, [.null, .null, .null, .null]))] sz) ((h0, .inr (5, [.ref q1, .ref q2, .null, .null])) :: (lw G a1 L2 ++ lw G a2 L5)) := hD
  refine lv_aload_n hx hb dX6_init_26 rfl (lv_at hl 0 rfl) ?_
  refine n_new (ci := 7) (fs := [.null, .null]) (ty := tyX8) X in_X8 tyX8_ok nw_X6_25 ni_X8.1 ni_X8.2 hP hD hS hA rfl (by decide) (Nat.le_of_ble_eq_true rfl) (Nat.le_of_ble_eq_true rfl) dX6_init_27 (fun q3 H hP hD hS => ?_)
  refine lv_dup hx hb dX6_init_30 rfl ?_
  refine n_call X (c_X8_init l G) ca_X8_init (Or.inr km_X6_27) rfl rfl rfl ⟨Nat.le_of_ble_eq_true rfl, Nat.le_of_ble_eq_true rfl⟩ (ws := (h0, .inr (5, [.ref q1, .ref q2, .null, .null])) :: (lw G a1 L2 ++ lw G a2 L5)) hP hD hS hA hAG hl.1 (Nat.le_of_ble_eq_true rfl) ⟨Nat.le_of_ble_eq_true rfl, Nat.le_of_ble_eq_true rfl⟩ dX6_init_31 (fun a3 ha3 H locs hP hD hS => ?_)
  have hP : va_P G.1 vcl ((h0, .inr (5, [.ref q1, .ref q2, .null, .null])) :: ((lw G a1 L2 ++ lw G a2 L5) ++ lw G a3 L8)) H := hP
  have hD : va_D (va_A [(h0, .inr (5, [.null, .null, .null, .null]))] sz) ((h0, .inr (5, [.ref q1, .ref q2, .null, .null])) :: ((lw G a1 L2 ++ lw G a2 L5) ++ lw G a3 L8)) := hD
  refine n_putF (k := 2) (v := .ref q3) X in_X6 tyX6_ok nmX6 hP hD hS rfl (by decide) kf_X6_28 rfl hin rfl (tyX6_ok 2 (by decide)) rfl rfl (Nat.le_of_ble_eq_true rfl) dX6_init_34 (fun H locs hP hD hS => ?_)
  have hP : va_P G.1 vcl ((h0, .inr (5, [.ref q1, .ref q2, .ref q3, .null])) :: ((lw G a1 L2 ++ lw G a2 L5) ++ lw G a3 L8)) H := hP
  have hD : va_D (va_A [(h0, .inr (5, [.null, .null, .null, .null]))] sz) ((h0, .inr (5, [.ref q1, .ref q2, .ref q3, .null])) :: ((lw G a1 L2 ++ lw G a2 L5) ++ lw G a3 L8)) := hD
  refine lv_aload_n hx hb dX6_init_37 rfl (lv_at hl 0 rfl) ?_
  refine n_new (ci := 2) (fs := [.float 0, .int 0, .int 0, .int 0]) (ty := tyX3) X in_X3 tyX3_ok nw_X6_32 ni_X3.1 ni_X3.2 hP hD hS hA rfl (by decide) (Nat.le_of_ble_eq_true rfl) (Nat.le_of_ble_eq_true rfl) dX6_init_38 (fun q4 H hP hD hS => ?_)
  refine lv_dup hx hb dX6_init_41 rfl ?_
  refine n_call X (c_X3_init l G) ca_X3_init (Or.inl ⟨_, km_X6_34⟩) rfl rfl rfl ⟨Nat.le_of_ble_eq_true rfl, Nat.le_of_ble_eq_true rfl⟩ (ws := (h0, .inr (5, [.ref q1, .ref q2, .ref q3, .null])) :: ((lw G a1 L2 ++ lw G a2 L5) ++ lw G a3 L8)) hP hD hS hA hAG hl.1 (Nat.le_of_ble_eq_true rfl) ⟨Nat.le_of_ble_eq_true rfl, Nat.le_of_ble_eq_true rfl⟩ dX6_init_42 (fun a4 ha4 H locs hP hD hS => ?_)
  have hP : va_P G.1 vcl ((h0, .inr (5, [.ref q1, .ref q2, .ref q3, .null])) :: (((lw G a1 L2 ++ lw G a2 L5) ++ lw G a3 L8) ++ lw G a4 L3)) H := hP
  have hD : va_D (va_A [(h0, .inr (5, [.null, .null, .null, .null]))] sz) ((h0, .inr (5, [.ref q1, .ref q2, .ref q3, .null])) :: (((lw G a1 L2 ++ lw G a2 L5) ++ lw G a3 L8) ++ lw G a4 L3)) := hD
  refine n_putF (k := 3) (v := .ref q4) X in_X6 tyX6_ok nmX6 hP hD hS rfl (by decide) kf_X6_35 rfl hin rfl (tyX6_ok 3 (by decide)) rfl rfl (Nat.le_of_ble_eq_true rfl) dX6_init_45 (fun H locs hP hD hS => ?_)
  have hP : va_P G.1 vcl ((h0, .inr (5, [.ref q1, .ref q2, .ref q3, .ref q4])) :: (((lw G a1 L2 ++ lw G a2 L5) ++ lw G a3 L8) ++ lw G a4 L3)) H := hP
  have hD : va_D (va_A [(h0, .inr (5, [.null, .null, .null, .null]))] sz) ((h0, .inr (5, [.ref q1, .ref q2, .ref q3, .ref q4])) :: (((lw G a1 L2 ++ lw G a2 L5) ++ lw G a3 L8) ++ lw G a4 L3)) := hD
  subst ha1
  subst ha2
  subst ha3
  subst ha4
  have hW : ((h0, .inr (5, [.ref (a1 3), .ref (a2 6), .ref (a3 15), .ref (a4 18)])) :: (((lw G a1 L2 ++ lw G a2 L5) ++ lw G a3 L8) ++ lw G a4 L3) : va_W) = lw G (fun i => [h0, a1 3, a1 4, a1 5, a2 6, a2 7, a2 8, a2 9, a2 10, a2 11, a2 12, a2 13, a2 14, a3 15, a3 16, a3 17, a4 18].getD (i - 2) 0) L6 := rfl
  rw [hW] at hP hD
  exact W.widen (Nat.le_of_ble_eq_true rfl) (Nat.le_of_ble_eq_true rfl) (W.vret hx hb hr (fun t ht _ => ⟨⟨_, rfl, rfl, (by rw [ht]; exact hP), hD⟩, hS.F ht⟩) hS.2.2 dX6_init_48 hlk)
theorem ol_X1 : Cond.methodLink RX1 3 Lib.objectInit ∈ allW := allW_in (t1_in (List.mem_of_getElem? (i := 42) rfl)) rfl
theorem nw_X1_9 : Cond.classLink RX1 9 RX6 ∈ allW := allW_in (t1_in (List.mem_of_getElem? (i := 43) rfl)) rfl
theorem ni_X6 : Cond.instantiable RX6 4 ∈ allW ∧ Cond.initialized RX6 ∈ allW := ⟨allW_in (t1_in (List.mem_of_getElem? (i := 44) rfl)) rfl, allW_in (t1_in (List.mem_of_getElem? (i := 3) rfl)) rfl⟩
abbrev rm_X1_init : Room := { frames := 4, cells := 17, slots := 234, locals := 123 }
set_option maxHeartbeats 4000000 in
set_option maxRecDepth 100000 in
theorem c_X1_init (l : Launch) (G : GE) : MtN l G yX1_init cX1_init 1 rm_X1_init (.inr (0, [.null, .int 0, .int 0])) 1 L1 17 234 := by
  intro h0 sz
  refine n_start (plainFor_of_name (by decide)) (Nat.le_of_ble_eq_true rfl) ?_
  intro p e s m args below meth c X hr hlk hin hA hAG hD ls hl H locs hP hS
  have X : CxN G p s m args c cX1_init 1 RX1 := X
  obtain ⟨hx, hb, hml, hown, hts, hK, hbs, hXW, hAO⟩ := id X
  have hl : lv_has ls 1 [(0, .ref h0)] := hl
  have hin : meth.name = "<init>" := hin
  refine lv_aload_n hx hb dX1_init_0 rfl (lv_at hl 0 rfl) ?_
  refine n_obj X ol_X1 ob_i ob_c hl.1 dX1_init_1 (Nat.le_of_ble_eq_true rfl) (Nat.le_of_ble_eq_true rfl) ?_
  refine lv_aload_n hx hb dX1_init_4 rfl (lv_at hl 0 rfl) ?_
  refine n_new (ci := 5) (fs := [.null, .null, .null, .null]) (ty := tyX6) X in_X6 tyX6_ok nw_X1_9 ni_X6.1 ni_X6.2 hP hD hS hA rfl (by decide) (Nat.le_of_ble_eq_true rfl) (Nat.le_of_ble_eq_true rfl) dX1_init_5 (fun q1 H hP hD hS => ?_)
  refine lv_dup hx hb dX1_init_8 rfl ?_
  refine n_call X (c_X6_init l G) ca_X6_init (Or.inl ⟨_, km_X1_11⟩) rfl rfl rfl ⟨Nat.le_of_ble_eq_true rfl, Nat.le_of_ble_eq_true rfl⟩ (ws := (h0, .inr (0, [.null, .int 0, .int 0])) :: []) hP hD hS hA hAG hl.1 (Nat.le_of_ble_eq_true rfl) ⟨Nat.le_of_ble_eq_true rfl, Nat.le_of_ble_eq_true rfl⟩ dX1_init_9 (fun a1 ha1 H locs hP hD hS => ?_)
  have hP : va_P G.1 vcl ((h0, .inr (0, [.null, .int 0, .int 0])) :: lw G a1 L6) H := hP
  have hD : va_D (va_A [(h0, .inr (0, [.null, .int 0, .int 0]))] sz) ((h0, .inr (0, [.null, .int 0, .int 0])) :: lw G a1 L6) := hD
  refine n_putF (k := 0) (v := .ref q1) X in_X1 tyX1_ok nmX1 hP hD hS rfl (by decide) kf_X1_12 rfl hin rfl (tyX1_ok 0 (by decide)) rfl rfl (Nat.le_of_ble_eq_true rfl) dX1_init_12 (fun H locs hP hD hS => ?_)
  have hP : va_P G.1 vcl ((h0, .inr (0, [.ref q1, .int 0, .int 0])) :: lw G a1 L6) H := hP
  have hD : va_D (va_A [(h0, .inr (0, [.null, .int 0, .int 0]))] sz) ((h0, .inr (0, [.ref q1, .int 0, .int 0])) :: lw G a1 L6) := hD
  refine lv_aload_n hx hb dX1_init_15 rfl (lv_at hl 0 rfl) ?_
  refine lv_iconst (v := 0) hx hb dX1_init_16 (by decide) ?_
  refine n_put (k := 1) (v := .int 0) X in_X1 tyX1_ok nmX1 hP hD hS rfl (by decide) kf_X1_18 rfl  (tyX1_ok 1 (by decide)) rfl rfl (Nat.le_of_ble_eq_true rfl) dX1_init_17 (fun H locs hP hD hS => ?_)
  have hP : va_P G.1 vcl ((h0, .inr (0, [.ref q1, .int 0, .int 0])) :: lw G a1 L6) H := hP
  have hD : va_D (va_A [(h0, .inr (0, [.null, .int 0, .int 0]))] sz) ((h0, .inr (0, [.ref q1, .int 0, .int 0])) :: lw G a1 L6) := hD
  subst ha1
  have hW : ((h0, .inr (0, [.ref (a1 2), .int 0, .int 0])) :: lw G a1 L6 : va_W) = lw G (fun i => [h0, a1 2, a1 3, a1 4, a1 5, a1 6, a1 7, a1 8, a1 9, a1 10, a1 11, a1 12, a1 13, a1 14, a1 15, a1 16, a1 17, a1 18].getD (i - 1) 0) L1 := rfl
  rw [hW] at hP hD
  exact W.widen (Nat.le_of_ble_eq_true rfl) (Nat.le_of_ble_eq_true rfl) (W.vret hx hb hr (fun t ht _ => ⟨⟨_, rfl, rfl, (by rw [ht]; exact hP), hD⟩, hS.F ht⟩) hS.2.2 dX1_init_20 hlk)
theorem ol_X7 : Cond.methodLink RX7 3 Lib.objectInit ∈ allW := allW_in (t2_in (List.mem_of_getElem? (i := 3) rfl)) rfl
abbrev rm_X7_init : Room := { frames := 1, cells := 3, slots := 165, locals := 60 }
set_option maxHeartbeats 4000000 in
set_option maxRecDepth 100000 in
theorem c_X7_init (l : Launch) (G : GE) : MtN l G yX7_init cX7_init 1 rm_X7_init (.inr (6, [.null, .null, .null, .int 0, .int 0, .int 0, .int 0, .int 0])) 191 L7 3 165 := by
  intro h0 sz
  refine n_start (plainFor_of_name (by decide)) (Nat.le_of_ble_eq_true rfl) ?_
  intro p e s m args below meth c X hr hlk hin hA hAG hD ls hl H locs hP hS
  have X : CxN G p s m args c cX7_init 1 RX7 := X
  obtain ⟨hx, hb, hml, hown, hts, hK, hbs, hXW, hAO⟩ := id X
  have hl : lv_has ls 1 [(0, .ref h0)] := hl
  have hin : meth.name = "<init>" := hin
  refine lv_aload_n hx hb dX7_init_0 rfl (lv_at hl 0 rfl) ?_
  refine n_obj X ol_X7 ob_i ob_c hl.1 dX7_init_1 (Nat.le_of_ble_eq_true rfl) (Nat.le_of_ble_eq_true rfl) ?_
  refine lv_aload_n hx hb dX7_init_4 rfl (lv_at hl 0 rfl) ?_
  refine lv_bipush (v := 60) hx hb dX7_init_5 (by decide) ?_
  refine n_newa 2 X ac_char rfl rfl (fun _ => rfl) hP hD hS hA (x := .inl (fun _ => 0)) (ty := .char) (N' := 60) (fun _ => rfl) (by decide) rfl (Nat.le_of_ble_eq_true rfl) (Nat.le_of_ble_eq_true rfl) (Nat.le_of_ble_eq_true rfl) dX7_init_7 (fun q1 H hP hD hS => ?_)
  have hP : va_P G.1 vcl ((h0, .inr (6, [.null, .null, .null, .int 0, .int 0, .int 0, .int 0, .int 0])) :: [(q1, .inl (G.2.2.1 2, 60, .inl (fun _ => 0)))]) H := hP
  have hD : va_D (va_A [(h0, .inr (6, [.null, .null, .null, .int 0, .int 0, .int 0, .int 0, .int 0]))] sz) ((h0, .inr (6, [.null, .null, .null, .int 0, .int 0, .int 0, .int 0, .int 0])) :: [(q1, .inl (G.2.2.1 2, 60, .inl (fun _ => 0)))]) := hD
  refine n_putF (k := 0) (v := .ref q1) X in_X7 tyX7_ok nmX7 hP hD hS rfl (by decide) kf_X7_9 rfl hin rfl (tyX7_ok 0 (by decide)) rfl rfl (Nat.le_of_ble_eq_true rfl) dX7_init_9 (fun H locs hP hD hS => ?_)
  have hP : va_P G.1 vcl ((h0, .inr (6, [.ref q1, .null, .null, .int 0, .int 0, .int 0, .int 0, .int 0])) :: [(q1, .inl (G.2.2.1 2, 60, .inl (fun _ => 0)))]) H := hP
  have hD : va_D (va_A [(h0, .inr (6, [.null, .null, .null, .int 0, .int 0, .int 0, .int 0, .int 0]))] sz) ((h0, .inr (6, [.ref q1, .null, .null, .int 0, .int 0, .int 0, .int 0, .int 0])) :: [(q1, .inl (G.2.2.1 2, 60, .inl (fun _ => 0)))]) := hD
  refine lv_aload_n hx hb dX7_init_12 rfl (lv_at hl 0 rfl) ?_
  refine lv_bipush (v := 21) hx hb dX7_init_13 (by decide) ?_
  refine n_newa 0 X ac_int rfl rfl (fun _ => rfl) hP hD hS hA (x := .inl (fun _ => 0)) (ty := .int) (N' := 21) (fun _ => rfl) (by decide) rfl (Nat.le_of_ble_eq_true rfl) (Nat.le_of_ble_eq_true rfl) (Nat.le_of_ble_eq_true rfl) dX7_init_15 (fun q2 H hP hD hS => ?_)
  have hP : va_P G.1 vcl ((h0, .inr (6, [.ref q1, .null, .null, .int 0, .int 0, .int 0, .int 0, .int 0])) :: [(q1, .inl (G.2.2.1 2, 60, .inl (fun _ => 0))), (q2, .inl (G.2.2.1 0, 21, .inl (fun _ => 0)))]) H := hP
  have hD : va_D (va_A [(h0, .inr (6, [.null, .null, .null, .int 0, .int 0, .int 0, .int 0, .int 0]))] sz) ((h0, .inr (6, [.ref q1, .null, .null, .int 0, .int 0, .int 0, .int 0, .int 0])) :: [(q1, .inl (G.2.2.1 2, 60, .inl (fun _ => 0))), (q2, .inl (G.2.2.1 0, 21, .inl (fun _ => 0)))]) := hD
  refine n_putF (k := 1) (v := .ref q2) X in_X7 tyX7_ok nmX7 hP hD hS rfl (by decide) kf_X7_15 rfl hin rfl (tyX7_ok 1 (by decide)) rfl rfl (Nat.le_of_ble_eq_true rfl) dX7_init_17 (fun H locs hP hD hS => ?_)
  have hP : va_P G.1 vcl ((h0, .inr (6, [.ref q1, .ref q2, .null, .int 0, .int 0, .int 0, .int 0, .int 0])) :: [(q1, .inl (G.2.2.1 2, 60, .inl (fun _ => 0))), (q2, .inl (G.2.2.1 0, 21, .inl (fun _ => 0)))]) H := hP
  have hD : va_D (va_A [(h0, .inr (6, [.null, .null, .null, .int 0, .int 0, .int 0, .int 0, .int 0]))] sz) ((h0, .inr (6, [.ref q1, .ref q2, .null, .int 0, .int 0, .int 0, .int 0, .int 0])) :: [(q1, .inl (G.2.2.1 2, 60, .inl (fun _ => 0))), (q2, .inl (G.2.2.1 0, 21, .inl (fun _ => 0)))]) := hD
  refine lv_aload_n hx hb dX7_init_20 rfl (lv_at hl 0 rfl) ?_
  refine lv_bipush (v := 84) hx hb dX7_init_21 (by decide) ?_
  refine n_newa 0 X ac_int rfl rfl (fun _ => rfl) hP hD hS hA (x := .inl (fun _ => 0)) (ty := .int) (N' := 84) (fun _ => rfl) (by decide) rfl (Nat.le_of_ble_eq_true rfl) (Nat.le_of_ble_eq_true rfl) (Nat.le_of_ble_eq_true rfl) dX7_init_23 (fun q3 H hP hD hS => ?_)
  have hP : va_P G.1 vcl ((h0, .inr (6, [.ref q1, .ref q2, .null, .int 0, .int 0, .int 0, .int 0, .int 0])) :: [(q1, .inl (G.2.2.1 2, 60, .inl (fun _ => 0))), (q2, .inl (G.2.2.1 0, 21, .inl (fun _ => 0))), (q3, .inl (G.2.2.1 0, 84, .inl (fun _ => 0)))]) H := hP
  have hD : va_D (va_A [(h0, .inr (6, [.null, .null, .null, .int 0, .int 0, .int 0, .int 0, .int 0]))] sz) ((h0, .inr (6, [.ref q1, .ref q2, .null, .int 0, .int 0, .int 0, .int 0, .int 0])) :: [(q1, .inl (G.2.2.1 2, 60, .inl (fun _ => 0))), (q2, .inl (G.2.2.1 0, 21, .inl (fun _ => 0))), (q3, .inl (G.2.2.1 0, 84, .inl (fun _ => 0)))]) := hD
  refine n_putF (k := 2) (v := .ref q3) X in_X7 tyX7_ok nmX7 hP hD hS rfl (by decide) kf_X7_19 rfl hin rfl (tyX7_ok 2 (by decide)) rfl rfl (Nat.le_of_ble_eq_true rfl) dX7_init_25 (fun H locs hP hD hS => ?_)
  have hP : va_P G.1 vcl ((h0, .inr (6, [.ref q1, .ref q2, .ref q3, .int 0, .int 0, .int 0, .int 0, .int 0])) :: [(q1, .inl (G.2.2.1 2, 60, .inl (fun _ => 0))), (q2, .inl (G.2.2.1 0, 21, .inl (fun _ => 0))), (q3, .inl (G.2.2.1 0, 84, .inl (fun _ => 0)))]) H := hP
  have hD : va_D (va_A [(h0, .inr (6, [.null, .null, .null, .int 0, .int 0, .int 0, .int 0, .int 0]))] sz) ((h0, .inr (6, [.ref q1, .ref q2, .ref q3, .int 0, .int 0, .int 0, .int 0, .int 0])) :: [(q1, .inl (G.2.2.1 2, 60, .inl (fun _ => 0))), (q2, .inl (G.2.2.1 0, 21, .inl (fun _ => 0))), (q3, .inl (G.2.2.1 0, 84, .inl (fun _ => 0)))]) := hD
  refine lv_aload_n hx hb dX7_init_28 rfl (lv_at hl 0 rfl) ?_
  refine lv_iconst (v := -1) hx hb dX7_init_29 (by decide) ?_
  refine n_put (k := 5) (v := .int (-1)) X in_X7 tyX7_ok nmX7 hP hD hS rfl (by decide) kf_X7_22 rfl  (tyX7_ok 5 (by decide)) rfl rfl (Nat.le_of_ble_eq_true rfl) dX7_init_30 (fun H locs hP hD hS => ?_)
  have hP : va_P G.1 vcl ((h0, .inr (6, [.ref q1, .ref q2, .ref q3, .int 0, .int 0, .int (-1), .int 0, .int 0])) :: [(q1, .inl (G.2.2.1 2, 60, .inl (fun _ => 0))), (q2, .inl (G.2.2.1 0, 21, .inl (fun _ => 0))), (q3, .inl (G.2.2.1 0, 84, .inl (fun _ => 0)))]) H := hP
  have hD : va_D (va_A [(h0, .inr (6, [.null, .null, .null, .int 0, .int 0, .int 0, .int 0, .int 0]))] sz) ((h0, .inr (6, [.ref q1, .ref q2, .ref q3, .int 0, .int 0, .int (-1), .int 0, .int 0])) :: [(q1, .inl (G.2.2.1 2, 60, .inl (fun _ => 0))), (q2, .inl (G.2.2.1 0, 21, .inl (fun _ => 0))), (q3, .inl (G.2.2.1 0, 84, .inl (fun _ => 0)))]) := hD
  have hW : ((h0, .inr (6, [.ref q1, .ref q2, .ref q3, .int 0, .int 0, .int (-1), .int 0, .int 0])) :: [(q1, .inl (G.2.2.1 2, 60, .inl (fun _ => 0))), (q2, .inl (G.2.2.1 0, 21, .inl (fun _ => 0))), (q3, .inl (G.2.2.1 0, 84, .inl (fun _ => 0)))] : va_W) = lw G (fun i => [h0, q1, q2, q3].getD (i - 191) 0) L7 := rfl
  rw [hW] at hP hD
  exact W.widen (Nat.le_of_ble_eq_true rfl) (Nat.le_of_ble_eq_true rfl) (W.vret hx hb hr (fun t ht _ => ⟨⟨_, rfl, rfl, (by rw [ht]; exact hP), hD⟩, hS.F ht⟩) hS.2.2 dX7_init_33 hlk)
theorem ol_X4 : Cond.methodLink RX4 3 Lib.objectInit ∈ allW := allW_in (t1_in (List.mem_of_getElem? (i := 223) rfl)) rfl
theorem ol_X9 : Cond.methodLink RX9 1 Lib.objectInit ∈ allW := allW_in (t1_in (List.mem_of_getElem? (i := 34) rfl)) rfl
theorem nw_X4_9 : Cond.classLink RX4 9 RX6 ∈ allW := allW_in (t1_in (List.mem_of_getElem? (i := 224) rfl)) rfl
theorem nw_X9_7 : Cond.classLink RX9 7 RX1 ∈ allW := allW_in (t1_in (List.mem_of_getElem? (i := 37) rfl)) rfl
theorem ni_X1 : Cond.instantiable RX1 3 ∈ allW ∧ Cond.initialized RX1 ∈ allW := ⟨allW_in (t1_in (List.mem_of_getElem? (i := 38) rfl)) rfl, allW_in (t1_in (List.mem_of_getElem? (i := 2) rfl)) rfl⟩
theorem nw_X9_23 : Cond.classLink RX9 23 RX6 ∈ allW := allW_in (t1_in (List.mem_of_getElem? (i := 216) rfl)) rfl
theorem nw_X9_32 : Cond.classLink RX9 32 RX4 ∈ allW := allW_in (t1_in (List.mem_of_getElem? (i := 218) rfl)) rfl
theorem ni_X4 : Cond.instantiable RX4 3 ∈ allW ∧ Cond.initialized RX4 ∈ allW := ⟨allW_in (t1_in (List.mem_of_getElem? (i := 219) rfl)) rfl, allW_in (t1_in (List.mem_of_getElem? (i := 9) rfl)) rfl⟩
theorem nw_X9_39 : Cond.classLink RX9 39 RX7 ∈ allW := allW_in (t1_in (List.mem_of_getElem? (i := 238) rfl)) rfl
theorem ni_X7 : Cond.instantiable RX7 8 ∈ allW ∧ Cond.initialized RX7 ∈ allW := ⟨allW_in (t1_in (List.mem_of_getElem? (i := 239) rfl)) rfl, allW_in (t1_in (List.mem_of_getElem? (i := 10) rfl)) rfl⟩
