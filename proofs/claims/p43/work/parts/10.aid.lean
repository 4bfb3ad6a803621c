theorem ac_nat : Cond.native arraycopyName ∈ allW := allW_in (t2_in (List.mem_of_getElem? (i := 199) rfl)) rfl
theorem ac_sta : Cond.static arraycopyName ∈ allW := allW_in (t2_in (List.mem_of_getElem? (i := 198) rfl)) rfl
theorem ac_ini : Cond.initialized "java/lang/System" ∈ allW := allW_in (t1_in (List.mem_of_getElem? (i := 17) rfl)) rfl
theorem mm_sta : Cond.static Lib.Math.min.name ∈ allW := allW_in (t2_in (List.mem_of_getElem? (i := 215) rfl)) rfl
theorem mm_ini : Cond.initialized "java/lang/Math" ∈ allW := allW_in (t1_in (List.mem_of_getElem? (i := 18) rfl)) rfl
theorem mm_cod : Cond.code Lib.Math.min.name Lib.Math.min.code 2 (some .int) ∈ allW := allW_in (t2_in (List.mem_of_getElem? (i := 216) rfl)) rfl
theorem ml_sta : Cond.static Lib.MathLoose.min_long.x ∈ allW := allW_in (t5_in (List.mem_of_getElem? (i := 230) rfl)) rfl
theorem ml_cod : Cond.code Lib.MathLoose.min_long.x Lib.MathLoose.min_long.code 4 (some .long) ∈ allW := allW_in (t5_in (List.mem_of_getElem? (i := 231) rfl)) rfl
theorem fr_nat : Cond.native ⟨"java/lang/Float", "floatToRawIntBits", "(F)I"⟩ ∈ allW := allW_in (t4_in (List.mem_of_getElem? (i := 6) rfl)) rfl
theorem fr_sta : Cond.static ⟨"java/lang/Float", "floatToRawIntBits", "(F)I"⟩ ∈ allW := allW_in (t4_in (List.mem_of_getElem? (i := 5) rfl)) rfl
theorem fr_ini : Cond.initialized "java/lang/Float" ∈ allW := allW_in (t1_in (List.mem_of_getElem? (i := 24) rfl)) rfl
theorem dr_nat : Cond.native ⟨"java/lang/Float", "intBitsToFloat", "(I)F"⟩ ∈ allW := allW_in (t5_in (List.mem_of_getElem? (i := 182) rfl)) rfl
theorem dr_sta : Cond.static ⟨"java/lang/Float", "intBitsToFloat", "(I)F"⟩ ∈ allW := allW_in (t5_in (List.mem_of_getElem? (i := 181) rfl)) rfl
theorem dr_ini : Cond.initialized "java/lang/Float" ∈ allW := allW_in (t1_in (List.mem_of_getElem? (i := 24) rfl)) rfl
theorem ite_t {α : Sort _} {c : Prop} [Decidable c] {a b v : α} (hc : c) (h : (if c then a else b) = v) : a = v := (if_pos hc).symm.trans h
theorem ite_f {α : Sort _} {c : Prop} [Decidable c] {a b v : α} (hc : ¬ c) (h : (if c then a else b) = v) : b = v := (if_neg hc).symm.trans h
theorem ite_z {α : Sort _} {c : Bool} {a b v : α} (hc : c = false) (h : (if c = true then a else b) = v) : b = v := by subst hc; exact h
theorem bnd_go {α β : Type} {x q : α} {k : α → β} {v : β} (hq : q = x) (h : bnd x k = v) : k q = v := by subst hq; exact h
def bndP {α : Type} (x : α) (k : α → Prop) : Prop := k x
theorem bnd_goP {α : Type} {x q : α} {k : α → Prop} (hq : q = x) (h : bndP x k) : k q := by subst hq; exact h
section GA2
variable {p : Program} {l : Launch} {e : Env} {R : Room} {s : State} {m : MethodId} {args : Array Value} {below : List Frame} {meth : Method} {c : Code} {H : Heap} {locs : List Loc} {cells slots : Nat} {Q : State → Prop}
variable {G : GE} {cc : ByteArray} {nL : Nat} {own : String} {pc : Nat} {ls : Array Slot} {rest : List Value} {σ u : St}
theorem g_ifeqZ {b : Bool} {off : Int} {tgt : Nat} (X : Cx G p s m args c cc nL own) (hdg : decode cc pc = .ok (.ifCond .eq off, 3)) (ht : (pc : Int) + off = (tgt : Int)) (kt : b = false → W p l e R s m args below meth c H locs cells slots Q (F0 m tgt ls rest)) (kf : b = true → W p l e R s m args below meth c H locs cells slots Q (F0 m (pc + 3) ls rest)) : W p l e R s m args below meth c H locs cells slots Q (F0 m pc ls (.int (bI b) :: rest)) :=
  lv_if_eq X.1 X.2.1 hdg ht (fun h => kt (by cases b; rfl; exact absurd h (by decide))) (fun h => kf (by cases b; exact absurd rfl h; rfl))
theorem g_ifneZ {b : Bool} {off : Int} {tgt : Nat} (X : Cx G p s m args c cc nL own) (hdg : decode cc pc = .ok (.ifCond .ne off, 3)) (ht : (pc : Int) + off = (tgt : Int)) (kt : b = true → W p l e R s m args below meth c H locs cells slots Q (F0 m tgt ls rest)) (kf : b = false → W p l e R s m args below meth c H locs cells slots Q (F0 m (pc + 3) ls rest)) : W p l e R s m args below meth c H locs cells slots Q (F0 m pc ls (.int (bI b) :: rest)) :=
  lv_if_ne X.1 X.2.1 hdg ht (fun h => kt (by cases b; exact absurd rfl h; rfl)) (fun h => kf (by cases b; rfl; exact absurd h (by decide)))
theorem g_name {Wg : Prop} (hP : va_P G.1 vcl (wl G σ) H) (k : ∀ q : St, q = σ → va_P G.1 vcl (wl G q) H → Wg) : Wg := k σ rfl hP
theorem g_copyI {i0 i1 N index : Nat} {n : Int32} (X : Cx G p s m args c cc nL own) (hP : va_P G.1 vcl (wl G σ) H) (hS : va_S (GA G) s.heap H locs) (ht0 : tyOf i0 = 20) (ht1 : tyOf i1 = 20) (hn : n.toNatClampNeg = N) (h3 : ¬ n < 0) (h4 : N ≤ lnOf i0) (h5 : N ≤ lnOf i1) (hl : Cond.methodLink own index arraycopyName ∈ allW) (hsz : ls.size = nL) (hfr : 1 ≤ R.frames) (hlo : (rest.map fun v => v.category).sum + (nativeFrameWords "java/lang/System" "arraycopy" 5 + 11) ≤ R.locals) (hdg : decode cc pc = .ok (.invokestatic index, 3))
    (kk : ∀ (H : Heap) (locs : List Loc), va_P G.1 vcl (wl G (rowI σ i1 (va_cpy (σ.1 i0) (σ.1 i1) 0 0 N))) H → va_S (GA G) s.heap H locs → W p l e R s m args below meth c H locs cells slots Q (F0 m (pc + 3) ls rest)) : W p l e R s m args below meth c H locs cells slots Q (F0 m pc ls (.int n :: .int 0 :: .ref (G.2.1 i1) :: .int 0 :: .ref (G.2.1 i0) :: rest)) := by
  obtain ⟨hx, hb, hml, hown, hts, hK, hbs, hXW, hG⟩ := id X
  refine va_copyi hx hb (hml.trans hsz.symm) hown (hts _ hl) (hts _ ac_nat) (hts _ ac_sta) (hts _ ac_ini) hK hP (wl_D hG σ) hS i0 i1 0 0 (ty := .int) (f := σ.1 i0) (g := σ.1 i1) (by rw [wl_at G σ (ty_lt ht0), cell_20 ht0]) (by rw [wl_at G σ (ty_lt ht1), cell_20 ht1]) rfl rfl rfl (by decide) (by decide) h3 (by rw [hn, show (0 : Int32).toNatClampNeg = 0 from rfl, Nat.zero_add]; exact h4) (by rw [hn, show (0 : Int32).toNatClampNeg = 0 from rfl, Nat.zero_add]; exact h5) (fun _ _ => rfl) hfr hlo hdg (fun H1 locs1 a1 _ a3 => kk H1 locs1 ?_ a3)
  rw [hn] at a1
  rw [← wl_set (ty_lt ht1) (σ' := rowI σ i1 (va_cpy (σ.1 i0) (σ.1 i1) 0 0 N)) (e := .inl (G.2.2.1 0, lnOf i1, .inl (va_cpy (σ.1 i0) (σ.1 i1) 0 0 N))) (by rw [cell_20 ht1, rowI_s]) (rowI_n G σ i1 _)]
  exact a1
theorem g_copyF {i0 i1 N index : Nat} {n : Int32} (X : Cx G p s m args c cc nL own) (hP : va_P G.1 vcl (wl G σ) H) (hS : va_S (GA G) s.heap H locs) (ht0 : tyOf i0 = 21) (ht1 : tyOf i1 = 21) (hn : n.toNatClampNeg = N) (h3 : ¬ n < 0) (h4 : N ≤ lnOf i0) (h5 : N ≤ lnOf i1) (hl : Cond.methodLink own index arraycopyName ∈ allW) (hsz : ls.size = nL) (hfr : 1 ≤ R.frames) (hlo : (rest.map fun v => v.category).sum + (nativeFrameWords "java/lang/System" "arraycopy" 5 + 11) ≤ R.locals) (hdg : decode cc pc = .ok (.invokestatic index, 3))
    (kk : ∀ (H : Heap) (locs : List Loc), va_P G.1 vcl (wl G (rowF σ i1 (va_cpy (σ.2.1 i0) (σ.2.1 i1) 0 0 N))) H → va_S (GA G) s.heap H locs → W p l e R s m args below meth c H locs cells slots Q (F0 m (pc + 3) ls rest)) : W p l e R s m args below meth c H locs cells slots Q (F0 m pc ls (.int n :: .int 0 :: .ref (G.2.1 i1) :: .int 0 :: .ref (G.2.1 i0) :: rest)) := by
  obtain ⟨hx, hb, hml, hown, hts, hK, hbs, hXW, hG⟩ := id X
  refine va_copyf hx hb (hml.trans hsz.symm) hown (hts _ hl) (hts _ ac_nat) (hts _ ac_sta) (hts _ ac_ini) hK hP (wl_D hG σ) hS i0 i1 1 1 (ty := .float) (f := σ.2.1 i0) (g := σ.2.1 i1) (by rw [wl_at G σ (ty_lt ht0), cell_21 ht0]) (by rw [wl_at G σ (ty_lt ht1), cell_21 ht1]) rfl rfl rfl (by decide) (by decide) h3 (by rw [hn, show (0 : Int32).toNatClampNeg = 0 from rfl, Nat.zero_add]; exact h4) (by rw [hn, show (0 : Int32).toNatClampNeg = 0 from rfl, Nat.zero_add]; exact h5) (fun _ _ => rfl) hfr hlo hdg (fun H1 locs1 a1 _ a3 => kk H1 locs1 ?_ a3)
  rw [hn] at a1
  rw [← wl_set (ty_lt ht1) (σ' := rowF σ i1 (va_cpy (σ.2.1 i0) (σ.2.1 i1) 0 0 N)) (e := .inl (G.2.2.1 1, lnOf i1, .inr (.inr (.inl (va_cpy (σ.2.1 i0) (σ.2.1 i1) 0 0 N))))) (by rw [cell_21 ht1, rowF_s]) (rowF_n G σ i1 _)]
  exact a1
theorem g_min {index : Nat} {x y : Int32} (X : Cx G p s m args c cc nL own) (hl : Cond.methodLink own index Lib.Math.min.name ∈ allW) (hsz : ls.size = nL) (hfr : 1 ≤ R.frames) (hlo : (rest.map fun v => v.category).sum + 13 ≤ R.locals) (hc : cells ≤ R.cells) (hs : slots ≤ R.slots) (hdg : decode cc pc = .ok (.invokestatic index, 3)) (kk : W p l e R s m args below meth c H locs cells slots Q (F0 m (pc + 3) ls (.int (if y < x then y else x) :: rest))) : W p l e R s m args below meth c H locs cells slots Q (F0 m pc ls (.int y :: .int x :: rest)) :=
  va_mmin X.1 X.2.1 (X.2.2.1.trans hsz.symm) X.2.2.2.1 (X.2.2.2.2.1 _ hl) (X.2.2.2.2.1 _ mm_sta) (X.2.2.2.2.1 _ mm_ini) (X.2.2.2.2.1 _ mm_cod) hfr hlo hc hs hdg kk
variable {st0 : List Value} {a : Array Value}
/-- calls whose contracts are of the printed forms -/
theorem g_cI {fv : St × Int32} (hr : va_Run p l e R s m args below meth c H locs cells slots 0 0 (F0 m pc ls st0) rest (va_Qi (fun r u => (u, r) = fv) (PB G) (GA G) a) (GA G)) (hS : va_S (GA G) s.heap H locs)
    (kk : ∀ (q : St × Int32), q = fv → ∀ (H : Heap) (locs : List Loc), va_P G.1 vcl (wl G q.1) H → va_S (GA G) s.heap H locs → W p l e R s m args below meth c H locs cells slots Q (F0 m (pc + 3) ls (.int q.2 :: rest))) : W p l e R s m args below meth c H locs cells slots Q (F0 m pc ls st0) :=
  g_ci hr hS (fun r u h H1 locs1 a b => kk (u, r) h H1 locs1 a b)
theorem g_cIp {v : Int32} (hr : va_Run p l e R s m args below meth c H locs cells slots 0 0 (F0 m pc ls st0) rest (va_Qi (fun r u => (u, r) = (σ, v)) (PB G) (GA G) a) (GA G)) (hS : va_S (GA G) s.heap H locs)
    (kk : ∀ (H : Heap) (locs : List Loc), va_P G.1 vcl (wl G σ) H → va_S (GA G) s.heap H locs → W p l e R s m args below meth c H locs cells slots Q (F0 m (pc + 3) ls (.int v :: rest))) : W p l e R s m args below meth c H locs cells slots Q (F0 m pc ls st0) :=
  g_ci hr hS (fun r u h H1 locs1 a b => by obtain ⟨h1, h2⟩ := Prod.mk.inj h; subst h1; subst h2; exact kk H1 locs1 a b)
theorem g_cZ {fv : St × Bool} (hr : va_Run p l e R s m args below meth c H locs cells slots 0 0 (F0 m pc ls st0) rest (va_Qi (fun r u => (u, r) = (fv.1, bI fv.2)) (PB G) (GA G) a) (GA G)) (hS : va_S (GA G) s.heap H locs)
    (kk : ∀ (q : St × Bool), q = fv → ∀ (H : Heap) (locs : List Loc), va_P G.1 vcl (wl G q.1) H → va_S (GA G) s.heap H locs → W p l e R s m args below meth c H locs cells slots Q (F0 m (pc + 3) ls (.int (bI q.2) :: rest))) : W p l e R s m args below meth c H locs cells slots Q (F0 m pc ls st0) :=
  g_ci hr hS (fun r u h H1 locs1 a b => by obtain ⟨h1, h2⟩ := Prod.mk.inj h; subst h1; subst h2; exact kk fv rfl H1 locs1 a b)
theorem g_cZp {v : Bool} (hr : va_Run p l e R s m args below meth c H locs cells slots 0 0 (F0 m pc ls st0) rest (va_Qi (fun r u => (u, r) = ((σ, v).1, bI (σ, v).2)) (PB G) (GA G) a) (GA G)) (hS : va_S (GA G) s.heap H locs)
    (kk : ∀ (H : Heap) (locs : List Loc), va_P G.1 vcl (wl G σ) H → va_S (GA G) s.heap H locs → W p l e R s m args below meth c H locs cells slots Q (F0 m (pc + 3) ls (.int (bI v) :: rest))) : W p l e R s m args below meth c H locs cells slots Q (F0 m pc ls st0) :=
  g_ci hr hS (fun r u h H1 locs1 a b => by obtain ⟨h1, h2⟩ := Prod.mk.inj h; subst h1; subst h2; exact kk H1 locs1 a b)
theorem g_cF {fv : St × UInt32} (hr : va_Run p l e R s m args below meth c H locs cells slots 0 0 (F0 m pc ls st0) rest (va_Qf (fun r u => (u, r) = fv) (PB G) (GA G) a) (GA G)) (hS : va_S (GA G) s.heap H locs)
    (kk : ∀ (q : St × UInt32), q = fv → ∀ (H : Heap) (locs : List Loc), va_P G.1 vcl (wl G q.1) H → va_S (GA G) s.heap H locs → W p l e R s m args below meth c H locs cells slots Q (F0 m (pc + 3) ls (.float q.2 :: rest))) : W p l e R s m args below meth c H locs cells slots Q (F0 m pc ls st0) :=
  g_cf hr hS (fun r u h H1 locs1 a b => kk (u, r) h H1 locs1 a b)
theorem g_cFp {v : UInt32} (hr : va_Run p l e R s m args below meth c H locs cells slots 0 0 (F0 m pc ls st0) rest (va_Qf (fun r u => (u, r) = (σ, v)) (PB G) (GA G) a) (GA G)) (hS : va_S (GA G) s.heap H locs)
    (kk : ∀ (H : Heap) (locs : List Loc), va_P G.1 vcl (wl G σ) H → va_S (GA G) s.heap H locs → W p l e R s m args below meth c H locs cells slots Q (F0 m (pc + 3) ls (.float v :: rest))) : W p l e R s m args below meth c H locs cells slots Q (F0 m pc ls st0) :=
  g_cf hr hS (fun r u h H1 locs1 a b => by obtain ⟨h1, h2⟩ := Prod.mk.inj h; subst h1; subst h2; exact kk H1 locs1 a b)
theorem g_cDp {v : UInt64} (hr : va_Run p l e R s m args below meth c H locs cells slots 0 0 (F0 m pc ls st0) rest (va_Qd (fun r u => (u, r) = (σ, v)) (PB G) (GA G) a) (GA G)) (hS : va_S (GA G) s.heap H locs)
    (kk : ∀ (H : Heap) (locs : List Loc), va_P G.1 vcl (wl G σ) H → va_S (GA G) s.heap H locs → W p l e R s m args below meth c H locs cells slots Q (F0 m (pc + 3) ls (.double v :: rest))) : W p l e R s m args below meth c H locs cells slots Q (F0 m pc ls st0) :=
  g_cd hr hS (fun r u h H1 locs1 a b => by obtain ⟨h1, h2⟩ := Prod.mk.inj h; subst h1; subst h2; exact kk H1 locs1 a b)
theorem g_cJp {v : Int64} (hr : va_Run p l e R s m args below meth c H locs cells slots 0 0 (F0 m pc ls st0) rest (va_Ql (fun r u => (u, r) = (σ, v)) (PB G) (GA G) a) (GA G)) (hS : va_S (GA G) s.heap H locs)
    (kk : ∀ (H : Heap) (locs : List Loc), va_P G.1 vcl (wl G σ) H → va_S (GA G) s.heap H locs → W p l e R s m args below meth c H locs cells slots Q (F0 m (pc + 3) ls (.long v :: rest))) : W p l e R s m args below meth c H locs cells slots Q (F0 m pc ls st0) :=
  g_cl hr hS (fun r u h H1 locs1 a b => by obtain ⟨h1, h2⟩ := Prod.mk.inj h; subst h1; subst h2; exact kk H1 locs1 a b)
theorem g_cV {fv : St} (hr : va_Run p l e R s m args below meth c H locs cells slots 0 0 (F0 m pc ls st0) rest (va_Qv (fun u => u = fv) (PB G) (GA G) a) (GA G)) (hS : va_S (GA G) s.heap H locs)
    (kk : ∀ (q : St), q = fv → ∀ (H : Heap) (locs : List Loc), va_P G.1 vcl (wl G q) H → va_S (GA G) s.heap H locs → W p l e R s m args below meth c H locs cells slots Q (F0 m (pc + 3) ls rest)) : W p l e R s m args below meth c H locs cells slots Q (F0 m pc ls st0) :=
  g_cv hr hS kk
end GA2
