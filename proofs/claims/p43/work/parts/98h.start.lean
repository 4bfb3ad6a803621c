/-! THE CLAIM OUT OF ONE WALK OF THE LAW'S BODY. Your part is whole_start (and what it stands on); all else here is the same for every law, but numbers. -/
def R_law : String := "PotatoStampsLaw"
def lw_P (b : Addr) (xs : List Int32) (args : Array Value) (s : State) : Prop := args = #[.ref b] ∧ s.IntsAt b xs ∧ xs.length ≤ 260 ∧ (Jvm.Cond.and given_1 narrow_1).before args s = true
/-- what a walk over the start with the record d0 says of its end, said of the start itself -/
theorem lw_closed {s t : State} {o : Outcome} {d0 : Drawn} {L : List Loc} {k n : Nat} (hd0 : s.drawn.sameBut d0 lw_cs) (hv : ∃ v, o = .returned v) (hW : (s.setDrawn d0).WarmedH t.vm) (hs : (s.setDrawn d0).sameButNew ({ t with vm := s.vm } : State) L k n) : State.butDraws s t lw_cs (fun t1 => Framed s o t1 L k n) := by
  have h2 : t.drawn = d0 := congrArg State.drawn hs.1
  refine ⟨⟨hv, hW, State.sameButNew.setDrawn hs s.drawn⟩, ?_, by decide⟩
  rw [h2]
  exact hd0
def lw_Q (_ : Array Value) (s : State) (o : Outcome) (t : State) : Prop := o = .returned (some (.int 1)) ∧ State.butDraws s t lw_cs (fun t1 => Framed s o t1 [] 600258 7293130)
def lw_Z (below : List Frame) (a : Array Value) (s : State) : State → Prop := fun t => ∃ o, t.status = .running ∧ Ended t below o ∧ lw_Q a s o t
/-- the law's own end, with 1 on the stack, nothing written that was there before, its room as the claim has it; d0: the record of draws at this point (at the entry s.drawn: begin with 'refine W.base ?_' and 'have hd0 := Drawn.sameBut.refl s.drawn lw_cs') -/
theorem lw_ret {p : Program} {l : Launch} {e : Env} {s : State} {m : MethodId} {below : List Frame} {meth : Method} {c : Code} {b : Nat} {d0 : Drawn} (hd0 : s.drawn.sameBut d0 lw_cs) (hx : p.tables.exec = Jvm.exec) (hb : c.code = code) (hr : meth.sig.returnType = ret) (hlocks : meth.locks = false) {pc : Nat} {H : Heap} {ls : Array Slot} (hdg : decode code pc = .ok (.ireturn, 1)) : W p l e room_1 (s.setDrawn d0) m #[Value.ref b] below meth c H [] 600258 7293130 (lw_Z below #[Value.ref b] s) (F0 m pc ls [.int 1]) := by
  intro T hT X
  obtain ⟨fs, hret, hrun, hended, hW, hframe⟩ := X.leave (v := some (.int 1)) (hlocks := hlocks) (fun h => by rw [hr] at h; cases h)
  have hmeth' : T.vm.method? m = some meth := X.method'
  refine ⟨T.setFrames fs, ?_, .returned (some (.int 1)), hrun, hended, rfl, lw_closed hd0 ⟨_, rfl⟩ hW hframe⟩
  jvm_step X.here [X.here.top, hx, hb, hdg, hmeth', hr, ret, narrow_b1]
  (try refine ⟨rfl, ?_⟩); (try refine ⟨rfl, ?_⟩)
  first | (intro acts; rw [hret _ acts rfl rfl rfl]) | rw [hret _ _ rfl rfl rfl]
  exact Steps.refl _
/-- what holds at the law's entry: the machine, the code, the tables' words (any of lw_tbl by 'hts w (by decide +kernel)'), the script of L ints xs at the cell b, what the Statement gives of the start (any of its parts by flat_of_before) -/
def lw_At (p : Program) (s : State) (m : MethodId) (meth : Method) (c : Code) (b L : Nat) (xs : Nat → Int32) : Prop :=
  p.tables.exec = Jvm.exec ∧ c.code = code ∧ meth.sig.returnType = ret ∧ c.maxLocals = 12 ∧ s.vm.findClass R_law = some m.cls ∧ (∀ w ∈ lw_tbl, w.before #[Value.ref b] s = true) ∧ va_X b L xs s s.heap ∧ b < s.heap.size ∧ meth.locks = false ∧ (Jvm.Cond.and given_1 narrow_1).before #[Value.ref b] s = true
/-! what the launch gives -/
abbrev gvC : Cond := Jvm.Cond.and given_1 narrow_1
abbrev tmS (i : Nat) : Term := .string (strO.getD i "") (strE.getD i 0)
abbrev tmT : Term := .static "PotatoStampsLaw" "TEXTS" "[Ljava/lang/String;"
set_option maxRecDepth 100000 in
theorem gv_ex : ∀ i, i < 19 → Cond.exactly (tmS i) "java/lang/String" ∈ flatC gvC := by decide +kernel
set_option maxRecDepth 100000 in
theorem gv_co : ∀ i, i < 19 → Cond.eq (.field (tmS i) "java/lang/String" "coder" "B") (.int 0) ∈ flatC gvC := by decide +kernel
set_option maxRecDepth 100000 in
theorem gv_ar : ∀ i, i < 19 → Cond.arrayOf (.field (tmS i) "java/lang/String" "value" "[B") .byte ∈ flatC gvC := by decide +kernel
set_option maxRecDepth 100000 in
theorem gv_le : ∀ i, i < 19 → Cond.eq (.length (.field (tmS i) "java/lang/String" "value" "[B")) (.int (Int32.ofNat (lenS.getD i 0))) ∈ flatC gvC := by decide +kernel
set_option maxRecDepth 100000 in
theorem gv_elx : ∀ i, i < 19 → ∀ j, j < lenS.getD i 0 → (flatC gvC)[([93, 119, 144, 165, 187, 219, 248, 271, 299, 317, 337, 354, 370, 387, 417, 442, 466, 491, 529] : List Nat).getD i 0 + j]? = some (Cond.eq (.elem (.field (tmS i) "java/lang/String" "value" "[B") (.int (Int32.ofNat j))) (.int ((bytS.getD i []).getD j 0))) := by decide +kernel
theorem gv_el : ∀ i, i < 19 → ∀ j, j < lenS.getD i 0 → Cond.eq (.elem (.field (tmS i) "java/lang/String" "value" "[B") (.int (Int32.ofNat j))) (.int ((bytS.getD i []).getD j 0)) ∈ flatC gvC := fun i hi j hj => List.mem_of_getElem? (gv_elx i hi j hj)
set_option maxRecDepth 100000 in
theorem gv_nex : ∀ i, i < 19 → ∀ j, j < i → (flatC gvC)[([0, 139, 159, 180, 211, 239, 261, 288, 305, 324, 340, 355, 371, 400, 424, 447, 471, 508, 534] : List Nat).getD i 0 + j]? = some (Cond.not (Cond.eq (tmS j) (tmS i))) := by decide +kernel
theorem gv_ne : ∀ i, i < 19 → ∀ j, j < i → Cond.not (Cond.eq (tmS j) (tmS i)) ∈ flatC gvC := fun i hi j hj => List.mem_of_getElem? (gv_nex i hi j hj)
set_option maxRecDepth 100000 in
theorem gv_nc : ∀ q ∈ ncL, Cond.not (.castable q.1 q.2) ∈ flatC gvC := by decide +kernel
set_option maxRecDepth 100000 in
theorem gv_st : Cond.eq (.static "java/lang/String" "COMPACT_STRINGS" "Z") (.int 1) ∈ flatC gvC ∧ Cond.isRef (.static "jdk/internal/util/Preconditions" "SIOOBE_FORMATTER" "Ljava/util/function/BiFunction;") ∈ flatC gvC ∧ Cond.isRef (.static Bundle.tN "UNASSIGNED_STACK" Bundle.steD) ∈ flatC gvC ∧ Cond.isRef (.static Bundle.tN "SUPPRESSED_SENTINEL" Bundle.listD) ∈ flatC gvC := by decide +kernel
set_option maxRecDepth 100000 in
theorem gv_tx : Cond.arrayOf tmT (.object "java/lang/String") ∈ flatC gvC ∧ Cond.eq (.length tmT) (.int 6) ∈ flatC gvC ∧ ∀ j, j < 6 → Cond.eq (.elem tmT (.int (Int32.ofNat j))) (tmS (13 + j)) ∈ flatC gvC := by decide +kernel
set_option maxRecDepth 100000 in
theorem tb_sr : ∀ i, i < 19 → Cond.stringRef (strO.getD i "") (strE.getD i 0) (strT.getD i "") ∈ lw_tbl := by decide +kernel
set_option maxRecDepth 100000 in
theorem tb_ne : ∀ q ∈ nestL, Cond.methodLinkNest q.1 q.2.1 q.2.2.1 q.2.2.2 ∈ lw_tbl := by decide +kernel
set_option maxRecDepth 100000 in
theorem tb_ca : ∀ E ∈ excL, Cond.castable E E ∈ lw_tbl := by decide +kernel
set_option maxRecDepth 100000 in
theorem tb_de : ∀ x ∈ declL, Cond.declares x ∈ lw_tbl := by decide +kernel
set_option maxRecDepth 100000 in
theorem tb_st : Cond.laysStatic "java/lang/String" "COMPACT_STRINGS" "Z" ∈ lw_tbl ∧ Cond.initialized "java/lang/String" ∈ lw_tbl ∧ Cond.laysStatic "jdk/internal/util/Preconditions" "SIOOBE_FORMATTER" "Ljava/util/function/BiFunction;" ∈ lw_tbl ∧ Cond.initialized "jdk/internal/util/Preconditions" ∈ lw_tbl ∧ Cond.laysStatic Bundle.tN "UNASSIGNED_STACK" Bundle.steD ∈ lw_tbl ∧ Cond.laysStatic Bundle.tN "SUPPRESSED_SENTINEL" Bundle.listD ∈ lw_tbl ∧ Cond.initialized Bundle.tN ∈ lw_tbl ∧ Cond.arrayOver (.object "PotatoStamps$Office") ∈ lw_tbl := by decide +kernel
set_option maxRecDepth 100000 in
theorem tb_tx : Cond.laysStatic "PotatoStampsLaw" "TEXTS" "[Ljava/lang/String;" ∈ lw_tbl ∧ Cond.initialized "PotatoStampsLaw" ∈ lw_tbl := by decide +kernel
theorem eq_ref {args : Array Value} {s : State} {t u : Term} {q : Nat} (h : (Cond.eq t u).before args s = true) (hu : u.eval args s none [] s = some (.ref q)) : t.eval args s none [] s = some (.ref q) := by
  cases hv : t.eval args s none [] s with
  | none => simp [Cond.before, Cond.holds, Cond.value, hv] at h
  | some w =>
    simp only [Cond.before, Cond.holds, Cond.value, hv, hu] at h
    cases w <;> simp_all
theorem xw_ex {s : State} {args : Array Value} (hts : ∀ w ∈ lw_tbl, w.before args s = true) (hgv : gvC.before args s = true) : ∃ adK adV : Nat → Nat, ∀ (dG : va_G) (aG : Nat → Nat) (cG : Nat → ClassId), XW (dG, aG, cG, s.heap.size, adK, adV) s s.heap := by
  have hs := flat_of_before _ hgv
  have hA : ∀ a : Nat, a < s.heap.size → ¬ (fun q : Nat => s.heap.size ≤ q) a := fun a h => Nat.not_le.mpr h
  obtain ⟨adK, adV, h1, h2⟩ := vk_Sof (args := args) (s := s) (N := 19) (tm := tmS) (len := lenS) (byt := bytS) (A := fun q : Nat => s.heap.size ≤ q) (by decide +kernel) (fun i hi => hs _ (gv_ex i hi)) (fun i hi => hs _ (gv_co i hi)) (fun i hi => hs _ (gv_ar i hi)) (fun i hi => hs _ (gv_le i hi)) (fun i hi j hj => hs _ (gv_el i hi j hj)) (fun i j hi hj hij => by
    rcases Nat.lt_or_gt_of_ne hij with h | h
    · exact Or.inl (hs _ (gv_ne j hj i h))
    · exact Or.inr (hs _ (gv_ne i hi j h))) hA
  obtain ⟨t, t1, t2⟩ := va_Tof (args := args) (s := s) (tm := tmT) (ty := .object "java/lang/String") (N := 6) (f := fun k => .ref (adK (13 + k))) (A := fun q : Nat => s.heap.size ≤ q) (by decide) (hs _ gv_tx.1) (va_eqt (hs _ gv_tx.2.1)) (fun j hj => eq_ref (hs _ (gv_tx.2.2 j hj)) (h2 (13 + j) (by omega))) hA
  obtain ⟨adW, hW⟩ : ∃ adW : Nat → Nat, adW = fun k => if k = 99 then t else adV k := ⟨_, rfl⟩
  have w1 : adW 99 = t := by rw [hW]; rfl
  have w2 : ∀ i, i < 19 → adW i = adV i := fun i hi => by rw [hW]; exact if_neg (by omega)
  have h1' : vk_S 19 lenS bytS adK adW (fun q : Nat => s.heap.size ≤ q) s s.heap := ⟨fun i hi => by rw [w2 i hi]; exact h1.1 i hi, h1.2⟩
  refine ⟨adK, adW, fun dG aG cG => ⟨h1', fun i hi => vk_R.of (hts _ (tb_sr i hi)) (h2 i hi), va_Zof (hts _ tb_st.1) (hts _ tb_st.2.1) (va_eqt (hs _ gv_st.1)) hA, va_Zqof (hts _ tb_st.2.2.1) (hts _ tb_st.2.2.2.1) (hs _ gv_st.2.1) hA, vx_Zqof (hts _ tb_st.2.2.2.2.1) (hts _ tb_st.2.2.2.2.2.2.1) (hs _ gv_st.2.2.1) hA, vx_Zqof (hts _ tb_st.2.2.2.2.2.1) (hts _ tb_st.2.2.2.2.2.2.1) (hs _ gv_st.2.2.2) hA, fun q hq => va_Nw.of rfl (hts _ (tb_ne q hq)), fun E hE => va_Nw.of rfl (hts _ (tb_ca E hE)), fun x hx => va_Nw.of rfl (hts _ (tb_de x hx)), fun q hq => va_Nc.of (hs _ (gv_nc q hq)), ?_, ?_⟩⟩
  · show va_Z "PotatoStampsLaw" "TEXTS" "[Ljava/lang/String;" (.ref (adW 99)) _ s s.heap
    rw [w1]
    exact va_Zof (hts _ tb_tx.1) (hts _ tb_tx.2) t1 hA
  · show va_T (.object "java/lang/String") (adW 99) 6 (fun k => .ref (adK (13 + k))) _ s s.heap
    rw [w1]
    exact t2
theorem fm_lw {w : Cond} (h : w ∈ allW) : w ∈ lw_tbl := (List.mem_filter.mp h).1
theorem nj_X1 : Cond.instantiable RX1 3 ∈ allW := allW_in (t1_in (List.mem_of_getElem? (i := 38) rfl)) rfl
theorem nj_X2 : Cond.instantiable RX2 6 ∈ allW := allW_in (t1_in (List.mem_of_getElem? (i := 50) rfl)) rfl
theorem nj_X3 : Cond.instantiable RX3 4 ∈ allW := allW_in (t1_in (List.mem_of_getElem? (i := 159) rfl)) rfl
theorem nj_X4 : Cond.instantiable RX4 3 ∈ allW := allW_in (t1_in (List.mem_of_getElem? (i := 219) rfl)) rfl
theorem nj_X5 : Cond.instantiable RX5 9 ∈ allW := allW_in (t1_in (List.mem_of_getElem? (i := 91) rfl)) rfl
theorem nj_X6 : Cond.instantiable RX6 4 ∈ allW := allW_in (t1_in (List.mem_of_getElem? (i := 44) rfl)) rfl
theorem nj_X7 : Cond.instantiable RX7 8 ∈ allW := allW_in (t1_in (List.mem_of_getElem? (i := 239) rfl)) rfl
theorem nj_X8 : Cond.instantiable RX8 2 ∈ allW := allW_in (t1_in (List.mem_of_getElem? (i := 140) rfl)) rfl
theorem nj_X9 : Cond.instantiable RX9 8 ∈ allW := allW_in (t1_in (List.mem_of_getElem? (i := 30) rfl)) rfl
theorem nw_L_8 : Cond.classLink RL 8 RX9 ∈ allW := allW_in (t1_in (List.mem_of_getElem? (i := 29) rfl)) rfl
theorem nz_X9 : Cond.initialized RX9 ∈ allW := allW_in (t1_in (List.mem_of_getElem? (i := 1) rfl)) rfl
abbrev tyL : List FieldType := [.int, .float, .char, .object "PotatoStamps$Office"]
theorem kk_ex {s : State} {args : Array Value} (hts : ∀ w ∈ lw_tbl, w.before args s = true) : ∃ (dG : va_G) (cG : Nat → ClassId), ∀ (aG adK adV : Nat → Nat) (n : Nat), va_K dG vcl (tysG (dG, aG, cG, n, adK, adV)) s := by
  have hw : ∀ w ∈ allW, w.before args s = true := fun w h => hts w (fm_lw h)
  have h : ∀ k : Nat, ∃ r : ClassId × (Nat → Nat), ∀ q : vw_C, vcl[k]? = some q → u_Kn s q.1 q.2.1 q.2.2 r.1 r.2 := by
    intro k
    obtain ⟨c0, i0, h0⟩ := u_known (C := RX1) (T := TX1) (N := 3) (n := 3) hw in_X1 (hw _ nj_X1)
    obtain ⟨c1, i1, h1⟩ := u_known (C := RX2) (T := TX2) (N := 6) (n := 6) hw in_X2 (hw _ nj_X2)
    obtain ⟨c2, i2, h2⟩ := u_known (C := RX3) (T := TX3) (N := 4) (n := 4) hw in_X3 (hw _ nj_X3)
    obtain ⟨c3, i3, h3⟩ := u_known (C := RX4) (T := TX4) (N := 3) (n := 3) hw in_X4 (hw _ nj_X4)
    obtain ⟨c4, i4, h4⟩ := u_known (C := RX5) (T := TX5) (N := 9) (n := 9) hw in_X5 (hw _ nj_X5)
    obtain ⟨c5, i5, h5⟩ := u_known (C := RX6) (T := TX6) (N := 4) (n := 4) hw in_X6 (hw _ nj_X6)
    obtain ⟨c6, i6, h6⟩ := u_known (C := RX7) (T := TX7) (N := 8) (n := 8) hw in_X7 (hw _ nj_X7)
    obtain ⟨c7, i7, h7⟩ := u_known (C := RX8) (T := TX8) (N := 2) (n := 2) hw in_X8 (hw _ nj_X8)
    obtain ⟨c8, i8, h8⟩ := u_known (C := RX9) (T := TX9) (N := 8) (n := 8) hw in_X9 (hw _ nj_X9)
    match k with
    | 0 => exact ⟨(c0, i0), fun q hq => by cases hq; exact h0⟩
    | 1 => exact ⟨(c1, i1), fun q hq => by cases hq; exact h1⟩
    | 2 => exact ⟨(c2, i2), fun q hq => by cases hq; exact h2⟩
    | 3 => exact ⟨(c3, i3), fun q hq => by cases hq; exact h3⟩
    | 4 => exact ⟨(c4, i4), fun q hq => by cases hq; exact h4⟩
    | 5 => exact ⟨(c5, i5), fun q hq => by cases hq; exact h5⟩
    | 6 => exact ⟨(c6, i6), fun q hq => by cases hq; exact h6⟩
    | 7 => exact ⟨(c7, i7), fun q hq => by cases hq; exact h7⟩
    | 8 => exact ⟨(c8, i8), fun q hq => by cases hq; exact h8⟩
    | k + 9 => exact ⟨(c0, i0), fun q hq => by simp [vcl] at hq⟩
  obtain ⟨f, hf⟩ := Classical.axiomOfChoice h
  have h2 : ∀ k : Nat, ∃ cA : ClassId, ∀ ty : FieldType, tyL[k]? = some ty → ArrOfT s cA ty ∧ va_RA s cA ty := by
    intro k
    have pr : ∀ ty : FieldType, Cond.arrayClass ty ∈ allW → (∀ cA, s.vm.findClass ("[" ++ ty.toString) = some cA → va_RA s cA ty) → ∃ cA : ClassId, ArrOfT s cA ty ∧ va_RA s cA ty := fun ty h1 h2 => by
      obtain ⟨cA, kA, comp, e1, e2, e3⟩ := Cond.arrayClass_spec (hw _ h1)
      exact ⟨cA, fun n z => ⟨(fun k h => by cases h), kA, e2, comp, e3⟩, h2 cA e1⟩
    obtain ⟨a0, b0⟩ := pr .int ac_int (fun _ h => h)
    obtain ⟨a1, b1⟩ := pr .float ac_float (fun _ h => h)
    obtain ⟨a2, b2⟩ := pr .char ac_char (fun _ h => h)
    obtain ⟨comp, a3, kA, e1, e2, e3, e4, e5⟩ := Cond.arrayOver_spec (hts _ tb_st.2.2.2.2.2.2.2)
    have b3 : ArrOfT s a3 (.object "PotatoStamps$Office") ∧ va_RA s a3 (.object "PotatoStamps$Office") := ⟨fun n z => ⟨(fun k h => by cases h), kA, e3, comp, e4⟩, kA, comp, e3, e4, e1, e5⟩
    match k with
    | 0 => exact ⟨a0, fun ty h => by cases h; exact b0⟩
    | 1 => exact ⟨a1, fun ty h => by cases h; exact b1⟩
    | 2 => exact ⟨a2, fun ty h => by cases h; exact b2⟩
    | 3 => exact ⟨a3, fun ty h => by cases h; exact b3⟩
    | k + 4 => exact ⟨a0, fun ty h => by simp [tyL] at h⟩
  obtain ⟨g, hg⟩ := Classical.axiomOfChoice h2
  refine ⟨(fun k => (f k).1, fun k => (f k).2), g, fun aG adK adV n => ⟨fun k q hq => hf k q hq, fun k q hq => ?_⟩⟩
  match k, hq with
  | 0, hq => cases hq; exact hg 0 _ rfl
  | 1, hq => cases hq; exact hg 1 _ rfl
  | 2, hq => cases hq; exact hg 2 _ rfl
  | 3, hq => cases hq; exact hg 3 _ rfl
  | k + 4, hq => simp at hq
