/-! THE CLAIM OUT OF ONE WALK OF THE LAW'S BODY. Your part is whole_start (and what it stands on); all else here is the same for every law, but numbers. -/
def R_law : String := "PotatoStampsLaw"
def lw_P (b : Addr) (xs : List Int32) (args : Array Value) (s : State) : Prop := args = #[.ref b] ∧ s.IntsAt b xs ∧ xs.length ≤ 3072 ∧ (Jvm.Cond.and given_1 narrow_1).before args s = true
/-- what a walk over the start with the record d0 says of its end, said of the start itself -/
theorem lw_closed {s t : State} {o : Outcome} {d0 : Drawn} {L : List Loc} {k n : Nat} (hd0 : s.drawn.sameBut d0 lw_cs) (hv : ∃ v, o = .returned v) (hW : (s.setDrawn d0).WarmedH t.vm) (hs : (s.setDrawn d0).sameButNew ({ t with vm := s.vm } : State) L k n) : State.butDraws s t lw_cs (fun t1 => Framed s o t1 L k n) := by
  have h2 : t.drawn = d0 := congrArg State.drawn hs.1
  refine ⟨⟨hv, hW, State.sameButNew.setDrawn hs s.drawn⟩, ?_, by decide⟩
  rw [h2]
  exact hd0
def lw_Q (_ : Array Value) (s : State) (o : Outcome) (t : State) : Prop := o = .returned (some (.int 1)) ∧ State.butDraws s t lw_cs (fun t1 => Framed s o t1 [] 603072 7198826)
def lw_Z (below : List Frame) (a : Array Value) (s : State) : State → Prop := fun t => ∃ o, t.status = .running ∧ Ended t below o ∧ lw_Q a s o t
/-- the law's own end, with 1 on the stack, nothing written that was there before, its room as the claim has it; d0: the record of draws at this point (at the entry s.drawn: begin with 'refine W.base ?_' and 'have hd0 := Drawn.sameBut.refl s.drawn lw_cs') -/
theorem lw_ret {p : Program} {l : Launch} {e : Env} {s : State} {m : MethodId} {below : List Frame} {meth : Method} {c : Code} {b : Nat} {d0 : Drawn} (hd0 : s.drawn.sameBut d0 lw_cs) (hx : p.tables.exec = Jvm.exec) (hb : c.code = code) (hr : meth.sig.returnType = ret) (hlocks : meth.locks = false) {pc : Nat} {H : Heap} {ls : Array Slot} (hdg : decode code pc = .ok (.ireturn, 1)) : W p l e room_1 (s.setDrawn d0) m #[Value.ref b] below meth c H [] 603072 7198826 (lw_Z below #[Value.ref b] s) (F0 m pc ls [.int 1]) := by
  intro T hT X
  obtain ⟨fs, hret, hrun, hended, hW, hframe⟩ := X.leave (v := some (.int 1)) (hlocks := hlocks) (fun h => by rw [hr] at h; cases h)
  have hmeth' : T.vm.method? m = some meth := X.method'
  refine ⟨T.setFrames fs, ?_, .returned (some (.int 1)), hrun, hended, rfl, lw_closed hd0 ⟨_, rfl⟩ hW hframe⟩
  jvm_step X.here [X.here.top, hx, hb, hdg, hmeth', hr, ret, narrow_b1]
  (try refine ⟨rfl, ?_⟩); (try refine ⟨rfl, ?_⟩)
  first | (intro acts; rw [hret _ acts rfl rfl rfl]) | rw [hret _ _ rfl rfl rfl]
  exact Steps.refl _
/-- what holds at the law's entry: the machine, the code, the tables' words (any of lw_tbl by 'hts w (by decide +kernel)'), the script of L ints xs at the cell b, what the Statement gives of the start (any of its parts by flat_of_before) -/
def lw_At (p : Program) (s : State) (m : MethodId) (meth : Method) (c : Code) (b L : Nat) (xs : Nat → Int32) : Prop :=
  p.tables.exec = Jvm.exec ∧ c.code = code ∧ meth.sig.returnType = ret ∧ c.maxLocals = 10 ∧ s.vm.findClass R_law = some m.cls ∧ (∀ w ∈ lw_tbl, w.before #[Value.ref b] s = true) ∧ va_X b L xs s s.heap ∧ b < s.heap.size ∧ meth.locks = false ∧ (Jvm.Cond.and given_1 narrow_1).before #[Value.ref b] s = true
/-! what the launch gives -/
abbrev gvC : Cond := Jvm.Cond.and given_1 narrow_1
abbrev tmS (i : Nat) : Term := .string (strO.getD i "") (strE.getD i 0)
set_option maxRecDepth 100000 in
theorem gv_ex : ∀ i, i < 16 → Cond.exactly (tmS i) "java/lang/String" ∈ flatC gvC := by decide +kernel
set_option maxRecDepth 100000 in
theorem gv_co : ∀ i, i < 16 → Cond.eq (.field (tmS i) "java/lang/String" "coder" "B") (.int 0) ∈ flatC gvC := by decide +kernel
set_option maxRecDepth 100000 in
theorem gv_ar : ∀ i, i < 16 → Cond.arrayOf (.field (tmS i) "java/lang/String" "value" "[B") .byte ∈ flatC gvC := by decide +kernel
set_option maxRecDepth 100000 in
theorem gv_le : ∀ i, i < 16 → Cond.eq (.length (.field (tmS i) "java/lang/String" "value" "[B")) (.int (Int32.ofNat (lenS.getD i 0))) ∈ flatC gvC := by decide +kernel
set_option maxRecDepth 100000 in
theorem gv_elx : ∀ i, i < 16 → ∀ j, j < lenS.getD i 0 → (flatC gvC)[([110, 136, 161, 182, 202, 215, 229, 256, 273, 292, 308, 323, 339, 370, 407, 449] : List Nat).getD i 0 + j]? = some (Cond.eq (.elem (.field (tmS i) "java/lang/String" "value" "[B") (.int (Int32.ofNat j))) (.int ((bytS.getD i []).getD j 0))) := by decide +kernel
theorem gv_el : ∀ i, i < 16 → ∀ j, j < lenS.getD i 0 → Cond.eq (.elem (.field (tmS i) "java/lang/String" "value" "[B") (.int (Int32.ofNat j))) (.int ((bytS.getD i []).getD j 0)) ∈ flatC gvC := fun i hi j hj => List.mem_of_getElem? (gv_elx i hi j hj)
set_option maxRecDepth 100000 in
theorem gv_nex : ∀ i, i < 16 → ∀ j, j < i → (flatC gvC)[([0, 156, 176, 195, 207, 220, 246, 262, 280, 295, 309, 324, 354, 390, 431, 469] : List Nat).getD i 0 + j]? = some (Cond.not (Cond.eq (tmS j) (tmS i))) := by decide +kernel
theorem gv_ne : ∀ i, i < 16 → ∀ j, j < i → Cond.not (Cond.eq (tmS j) (tmS i)) ∈ flatC gvC := fun i hi j hj => List.mem_of_getElem? (gv_nex i hi j hj)
set_option maxRecDepth 100000 in
theorem gv_nc : ∀ q ∈ ncL, Cond.not (.castable q.1 q.2) ∈ flatC gvC := by decide +kernel
set_option maxRecDepth 100000 in
theorem gv_st : Cond.eq (.static "java/lang/String" "COMPACT_STRINGS" "Z") (.int 1) ∈ flatC gvC ∧ Cond.isRef (.static "jdk/internal/util/Preconditions" "SIOOBE_FORMATTER" "Ljava/util/function/BiFunction;") ∈ flatC gvC ∧ Cond.isRef (.static Bundle.tN "UNASSIGNED_STACK" Bundle.steD) ∈ flatC gvC ∧ Cond.isRef (.static Bundle.tN "SUPPRESSED_SENTINEL" Bundle.listD) ∈ flatC gvC := by decide +kernel
set_option maxRecDepth 100000 in
theorem tb_sr : ∀ i, i < 16 → Cond.stringRef (strO.getD i "") (strE.getD i 0) (strT.getD i "") ∈ lw_tbl := by decide +kernel
set_option maxRecDepth 100000 in
theorem tb_ne : ∀ q ∈ nestL, Cond.methodLinkNest q.1 q.2.1 q.2.2.1 q.2.2.2 ∈ lw_tbl := by decide +kernel
set_option maxRecDepth 100000 in
theorem tb_ca : ∀ E ∈ excL, Cond.castable E E ∈ lw_tbl := by decide +kernel
set_option maxRecDepth 100000 in
theorem tb_de : ∀ x ∈ declL, Cond.declares x ∈ lw_tbl := by decide +kernel
set_option maxRecDepth 100000 in
theorem tb_st : Cond.laysStatic "java/lang/String" "COMPACT_STRINGS" "Z" ∈ lw_tbl ∧ Cond.initialized "java/lang/String" ∈ lw_tbl ∧ Cond.laysStatic "jdk/internal/util/Preconditions" "SIOOBE_FORMATTER" "Ljava/util/function/BiFunction;" ∈ lw_tbl ∧ Cond.initialized "jdk/internal/util/Preconditions" ∈ lw_tbl ∧ Cond.laysStatic Bundle.tN "UNASSIGNED_STACK" Bundle.steD ∈ lw_tbl ∧ Cond.laysStatic Bundle.tN "SUPPRESSED_SENTINEL" Bundle.listD ∈ lw_tbl ∧ Cond.initialized Bundle.tN ∈ lw_tbl ∧ Cond.arrayOver (.object "PotatoStamps$Office") ∈ lw_tbl := by decide +kernel
theorem xw_ex {s : State} {args : Array Value} (hts : ∀ w ∈ lw_tbl, w.before args s = true) (hgv : gvC.before args s = true) : ∃ adK adV : Nat → Nat, ∀ (dG : va_G) (aG : Nat → Nat) (cG : Nat → ClassId), XW (dG, aG, cG, s.heap.size, adK, adV) s s.heap := by
  have hs := flat_of_before _ hgv
  have hA : ∀ a : Nat, a < s.heap.size → ¬ (fun q : Nat => s.heap.size ≤ q) a := fun a h => Nat.not_le.mpr h
  obtain ⟨adK, adV, h1, h2⟩ := vk_Sof (args := args) (s := s) (N := 16) (tm := tmS) (len := lenS) (byt := bytS) (A := fun q : Nat => s.heap.size ≤ q) (by decide +kernel) (fun i hi => hs _ (gv_ex i hi)) (fun i hi => hs _ (gv_co i hi)) (fun i hi => hs _ (gv_ar i hi)) (fun i hi => hs _ (gv_le i hi)) (fun i hi j hj => hs _ (gv_el i hi j hj)) (fun i j hi hj hij => by
    rcases Nat.lt_or_gt_of_ne hij with h | h
    · exact Or.inl (hs _ (gv_ne j hj i h))
    · exact Or.inr (hs _ (gv_ne i hi j h))) hA
  refine ⟨adK, adV, fun dG aG cG => ⟨h1, fun i hi => vk_R.of (hts _ (tb_sr i hi)) (h2 i hi), va_Zof (hts _ tb_st.1) (hts _ tb_st.2.1) (va_eqt (hs _ gv_st.1)) hA, va_Zqof (hts _ tb_st.2.2.1) (hts _ tb_st.2.2.2.1) (hs _ gv_st.2.1) hA, vx_Zqof (hts _ tb_st.2.2.2.2.1) (hts _ tb_st.2.2.2.2.2.2.1) (hs _ gv_st.2.2.1) hA, vx_Zqof (hts _ tb_st.2.2.2.2.2.1) (hts _ tb_st.2.2.2.2.2.2.1) (hs _ gv_st.2.2.2) hA, fun q hq => va_Nw.of rfl (hts _ (tb_ne q hq)), fun E hE => va_Nw.of rfl (hts _ (tb_ca E hE)), fun x hx => va_Nw.of rfl (hts _ (tb_de x hx)), fun q hq => va_Nc.of (hs _ (gv_nc q hq))⟩⟩
theorem fm_lw {w : Cond} (h : w ∈ allW) : w ∈ lw_tbl := (List.mem_filter.mp h).1
theorem nj_X1 : Cond.instantiable RX1 3 ∈ allW := allW_in (t1_in (List.mem_of_getElem? (i := 41) rfl)) rfl
theorem nj_X2 : Cond.instantiable RX2 6 ∈ allW := allW_in (t1_in (List.mem_of_getElem? (i := 53) rfl)) rfl
theorem nj_X3 : Cond.instantiable RX3 4 ∈ allW := allW_in (t1_in (List.mem_of_getElem? (i := 163) rfl)) rfl
theorem nj_X4 : Cond.instantiable RX4 3 ∈ allW := allW_in (t1_in (List.mem_of_getElem? (i := 225) rfl)) rfl
theorem nj_X5 : Cond.instantiable RX5 9 ∈ allW := allW_in (t1_in (List.mem_of_getElem? (i := 94) rfl)) rfl
theorem nj_X6 : Cond.instantiable RX6 4 ∈ allW := allW_in (t1_in (List.mem_of_getElem? (i := 47) rfl)) rfl
theorem nj_X7 : Cond.instantiable RX7 8 ∈ allW := allW_in (t2_in (List.mem_of_getElem? (i := 5) rfl)) rfl
theorem nj_X8 : Cond.instantiable RX8 2 ∈ allW := allW_in (t1_in (List.mem_of_getElem? (i := 144) rfl)) rfl
theorem nj_X9 : Cond.instantiable RX9 8 ∈ allW := allW_in (t1_in (List.mem_of_getElem? (i := 33) rfl)) rfl
theorem nj_X10 : Cond.instantiable RX10 25 ∈ allW := allW_in (t6_in (List.mem_of_getElem? (i := 32) rfl)) rfl
theorem nw_L_8 : Cond.classLink RL 8 RX9 ∈ allW := allW_in (t1_in (List.mem_of_getElem? (i := 32) rfl)) rfl
theorem nw_L_138 : Cond.classLink RL 138 RX10 ∈ allW := allW_in (t6_in (List.mem_of_getElem? (i := 31) rfl)) rfl
theorem nz_X9 : Cond.initialized RX9 ∈ allW := allW_in (t1_in (List.mem_of_getElem? (i := 1) rfl)) rfl
theorem nz_X10 : Cond.initialized RX10 ∈ allW := allW_in (t1_in (List.mem_of_getElem? (i := 11) rfl)) rfl
abbrev tyL : List FieldType := [.int, .float, .char, .object "PotatoStamps$Office", .long, .double]
theorem kk_ex {s : State} {args : Array Value} (hts : ∀ w ∈ lw_tbl, w.before args s = true) : ∃ (dG : va_G) (cG : Nat → ClassId), ∀ (aG adK adV : Nat → Nat) (n : Nat), va_K dG vcl (tysG (dG, aG, cG, n, adK, adV)) s := by
  have hw : ∀ w ∈ allW, w.before args s = true := fun w h => hts w (fm_lw h)
  have h : ∀ k : Nat, ∃ r : ClassId × (Nat → Nat), ∀ q : vw_C, vcl[k]? = some q → u_Kn s q.1 q.2.1 q.2.2 r.1 r.2 := by
    intro k
    obtain ⟨c0, i0, h0⟩ := u_known (C := RX1) (T := TX1) (N := 3) (n := 3) hw in_X1 (hw _ nj_X1)
    obtain ⟨c1, i1, h1⟩ := u_known (C := RX2) (T := TX2) (N := 6) (n := 6) hw in_X2 (hw _ nj_X2)
    obtain ⟨c2, i2, h2⟩ := u_known (C := RX3) (T := TX3) (N := 4) (n := 4) hw in_X3 (hw _ nj_X3)
    obtain ⟨c3, i3, h3⟩ := u_known (C := RX4) (T := TX4) (N := 3) (n := 3) hw in_X4 (hw _ nj_X4)
    obtain ⟨c4, i4, h4⟩ := u_known (C := RX5) (T := TX5) (N := 9) (n := 9) hw in_X5 (hw _ nj_X5)
    obtain ⟨c5, i5, h5⟩ := u_known (C := RX6) (T := TX6) (N := 4) (n := 4) hw in_X6 (hw _ nj_X6)
    obtain ⟨c6, i6, h6⟩ := u_known (C := RX7) (T := TX7) (N := 8) (n := 8) hw in_X7 (hw _ nj_X7)
    obtain ⟨c7, i7, h7⟩ := u_known (C := RX8) (T := TX8) (N := 2) (n := 2) hw in_X8 (hw _ nj_X8)
    obtain ⟨c8, i8, h8⟩ := u_known (C := RX9) (T := TX9) (N := 8) (n := 8) hw in_X9 (hw _ nj_X9)
    obtain ⟨c9, i9, h9⟩ := u_known (C := RX10) (T := TX10) (N := 25) (n := 25) hw in_X10 (hw _ nj_X10)
    match k with
    | 0 => exact ⟨(c0, i0), fun q hq => by cases hq; exact h0⟩
    | 1 => exact ⟨(c1, i1), fun q hq => by cases hq; exact h1⟩
    | 2 => exact ⟨(c2, i2), fun q hq => by cases hq; exact h2⟩
    | 3 => exact ⟨(c3, i3), fun q hq => by cases hq; exact h3⟩
    | 4 => exact ⟨(c4, i4), fun q hq => by cases hq; exact h4⟩
    | 5 => exact ⟨(c5, i5), fun q hq => by cases hq; exact h5⟩
    | 6 => exact ⟨(c6, i6), fun q hq => by cases hq; exact h6⟩
    | 7 => exact ⟨(c7, i7), fun q hq => by cases hq; exact h7⟩
    | 8 => exact ⟨(c8, i8), fun q hq => by cases hq; exact h8⟩
    | 9 => exact ⟨(c9, i9), fun q hq => by cases hq; exact h9⟩
    | k + 10 => exact ⟨(c0, i0), fun q hq => by simp [vcl] at hq⟩
  obtain ⟨f, hf⟩ := Classical.axiomOfChoice h
  have h2 : ∀ k : Nat, ∃ cA : ClassId, ∀ ty : FieldType, tyL[k]? = some ty → ArrOfT s cA ty ∧ va_RA s cA ty := by
    intro k
    have pr : ∀ ty : FieldType, Cond.arrayClass ty ∈ allW → (∀ cA, s.vm.findClass ("[" ++ ty.toString) = some cA → va_RA s cA ty) → ∃ cA : ClassId, ArrOfT s cA ty ∧ va_RA s cA ty := fun ty h1 h2 => by
      obtain ⟨cA, kA, comp, e1, e2, e3⟩ := Cond.arrayClass_spec (hw _ h1)
      exact ⟨cA, fun n z => ⟨(fun k h => by cases h), kA, e2, comp, e3⟩, h2 cA e1⟩
    obtain ⟨a0, b0⟩ := pr .int ac_int (fun _ h => h)
    obtain ⟨a1, b1⟩ := pr .float ac_float (fun _ h => h)
    obtain ⟨a2, b2⟩ := pr .char ac_char (fun _ h => h)
    obtain ⟨a4, b4⟩ := pr .long ac_long (fun _ h => h)
    obtain ⟨a5, b5⟩ := pr .double ac_double (fun _ h => h)
    obtain ⟨comp, a3, kA, e1, e2, e3, e4, e5⟩ := Cond.arrayOver_spec (hts _ tb_st.2.2.2.2.2.2.2)
    have b3 : ArrOfT s a3 (.object "PotatoStamps$Office") ∧ va_RA s a3 (.object "PotatoStamps$Office") := ⟨fun n z => ⟨(fun k h => by cases h), kA, e3, comp, e4⟩, kA, comp, e3, e4, e1, e5⟩
    match k with
    | 0 => exact ⟨a0, fun ty h => by cases h; exact b0⟩
    | 1 => exact ⟨a1, fun ty h => by cases h; exact b1⟩
    | 2 => exact ⟨a2, fun ty h => by cases h; exact b2⟩
    | 3 => exact ⟨a3, fun ty h => by cases h; exact b3⟩
    | 4 => exact ⟨a4, fun ty h => by cases h; exact b4⟩
    | 5 => exact ⟨a5, fun ty h => by cases h; exact b5⟩
    | k + 6 => exact ⟨a0, fun ty h => by simp [tyL] at h⟩
  obtain ⟨g, hg⟩ := Classical.axiomOfChoice h2
  refine ⟨(fun k => (f k).1, fun k => (f k).2), g, fun aG adK adV n => ⟨fun k q hq => hf k q hq, fun k q hq => ?_⟩⟩
  match k, hq with
  | 0, hq => cases hq; exact hg 0 _ rfl
  | 1, hq => cases hq; exact hg 1 _ rfl
  | 2, hq => cases hq; exact hg 2 _ rfl
  | 3, hq => cases hq; exact hg 3 _ rfl
  | 4, hq => cases hq; exact hg 4 _ rfl
  | 5, hq => cases hq; exact hg 5 _ rfl
  | k + 6, hq => simp at hq
def SimOK (S : St → Prop) : Prop := Sim_0 S ∧ Sim_1 S ∧ Sim_2 S ∧ Sim_3 S ∧ Sim_4 S ∧ Sim_5 S ∧ Sim_6 S ∧ Sim_7 S ∧ Sim_8 S ∧ Sim_9 S ∧ Sim_10 S ∧ Sim_11 S ∧ Sim_12 S ∧ Sim_13 S ∧ Sim_14 S ∧ Sim_15 S ∧ Sim_16 S ∧ Sim_17 S ∧ Sim_18 S ∧ Sim_19 S ∧ Sim_20 S ∧ Sim_21 S ∧ Sim_22 S ∧ Sim_23 S ∧ Sim_24 S ∧ Sim_25 S ∧ Sim_26 S ∧ Sim_27 S ∧ Sim_28 S ∧ Sim_29 S ∧ Sim_30 S ∧ Sim_31 S ∧ Sim_32 S ∧ Sim_33 S ∧ Sim_34 S ∧ Sim_35 S ∧ Sim_36 S ∧ Sim_37 S ∧ Sim_38 S ∧ Sim_39 S
theorem lw_gt {L i : Nat} (hL : L ≤ 3072) (h : L < i + 6) (hi : i ≤ 3072) : Int32.ofNat L - 6 < nI i := by
  have e1 : Int32.ofNat L = nI L := rfl
  rw [Int32.lt_iff_toInt_lt, Int32.toInt_sub, e1, nI_toInt (by omega), nI_toInt (by omega), show (6 : Int32).toInt = 6 from by decide]
  rw [Int.bmod_eq_of_le (by omega) (by omega)]
  omega
theorem lw_sel (v : Int32) : v = 0 ∨ v = 1 ∨ v = 2 ∨ v = 3 ∨ v = 4 ∨ v = 5 ∨ v = 6 ∨ v = 7 ∨ v = 8 ∨ v = 9 ∨ v = 10 ∨ v = 11 ∨ v = 12 ∨ v = 13 ∨ v = 14 ∨ v = 15 ∨ v = 16 ∨ v = 17 ∨ v = 18 ∨ v = 19 ∨ v = 20 ∨ v = 21 ∨ v = 22 ∨ v = 23 ∨ v = 24 ∨ v = 25 ∨ v = 26 ∨ v = 27 ∨ v = 28 ∨ v = 29 ∨ v = 30 ∨ v = 31 ∨ v = 32 ∨ v = 33 ∨ v = 34 ∨ v = 35 ∨ v = 36 ∨ v = 37 ∨ v = 38 ∨ v = 39 ∨ (v.toInt < 0 ∨ 39 < v.toInt) := by
  have h : v.toInt = 0 ∨ v.toInt = 1 ∨ v.toInt = 2 ∨ v.toInt = 3 ∨ v.toInt = 4 ∨ v.toInt = 5 ∨ v.toInt = 6 ∨ v.toInt = 7 ∨ v.toInt = 8 ∨ v.toInt = 9 ∨ v.toInt = 10 ∨ v.toInt = 11 ∨ v.toInt = 12 ∨ v.toInt = 13 ∨ v.toInt = 14 ∨ v.toInt = 15 ∨ v.toInt = 16 ∨ v.toInt = 17 ∨ v.toInt = 18 ∨ v.toInt = 19 ∨ v.toInt = 20 ∨ v.toInt = 21 ∨ v.toInt = 22 ∨ v.toInt = 23 ∨ v.toInt = 24 ∨ v.toInt = 25 ∨ v.toInt = 26 ∨ v.toInt = 27 ∨ v.toInt = 28 ∨ v.toInt = 29 ∨ v.toInt = 30 ∨ v.toInt = 31 ∨ v.toInt = 32 ∨ v.toInt = 33 ∨ v.toInt = 34 ∨ v.toInt = 35 ∨ v.toInt = 36 ∨ v.toInt = 37 ∨ v.toInt = 38 ∨ v.toInt = 39 ∨ (v.toInt < 0 ∨ 39 < v.toInt) := by omega
  rcases h with h | h | h | h | h | h | h | h | h | h | h | h | h | h | h | h | h | h | h | h | h | h | h | h | h | h | h | h | h | h | h | h | h | h | h | h | h | h | h | h | h 
  · exact Or.inl (Int32.toInt_inj.mp h)
  · exact Or.inr (Or.inl (Int32.toInt_inj.mp h))
  · exact Or.inr (Or.inr (Or.inl (Int32.toInt_inj.mp h)))
  · exact Or.inr (Or.inr (Or.inr (Or.inl (Int32.toInt_inj.mp h))))
  · exact Or.inr (Or.inr (Or.inr (Or.inr (Or.inl (Int32.toInt_inj.mp h)))))
  · exact Or.inr (Or.inr (Or.inr (Or.inr (Or.inr (Or.inl (Int32.toInt_inj.mp h))))))
  · exact Or.inr (Or.inr (Or.inr (Or.inr (Or.inr (Or.inr (Or.inl (Int32.toInt_inj.mp h)))))))
  · exact Or.inr (Or.inr (Or.inr (Or.inr (Or.inr (Or.inr (Or.inr (Or.inl (Int32.toInt_inj.mp h))))))))
  · exact Or.inr (Or.inr (Or.inr (Or.inr (Or.inr (Or.inr (Or.inr (Or.inr (Or.inl (Int32.toInt_inj.mp h)))))))))
  · exact Or.inr (Or.inr (Or.inr (Or.inr (Or.inr (Or.inr (Or.inr (Or.inr (Or.inr (Or.inl (Int32.toInt_inj.mp h))))))))))
  · exact Or.inr (Or.inr (Or.inr (Or.inr (Or.inr (Or.inr (Or.inr (Or.inr (Or.inr (Or.inr (Or.inl (Int32.toInt_inj.mp h)))))))))))
  · exact Or.inr (Or.inr (Or.inr (Or.inr (Or.inr (Or.inr (Or.inr (Or.inr (Or.inr (Or.inr (Or.inr (Or.inl (Int32.toInt_inj.mp h))))))))))))
  · exact Or.inr (Or.inr (Or.inr (Or.inr (Or.inr (Or.inr (Or.inr (Or.inr (Or.inr (Or.inr (Or.inr (Or.inr (Or.inl (Int32.toInt_inj.mp h)))))))))))))
  · exact Or.inr (Or.inr (Or.inr (Or.inr (Or.inr (Or.inr (Or.inr (Or.inr (Or.inr (Or.inr (Or.inr (Or.inr (Or.inr (Or.inl (Int32.toInt_inj.mp h))))))))))))))
  · exact Or.inr (Or.inr (Or.inr (Or.inr (Or.inr (Or.inr (Or.inr (Or.inr (Or.inr (Or.inr (Or.inr (Or.inr (Or.inr (Or.inr (Or.inl (Int32.toInt_inj.mp h)))))))))))))))
  · exact Or.inr (Or.inr (Or.inr (Or.inr (Or.inr (Or.inr (Or.inr (Or.inr (Or.inr (Or.inr (Or.inr (Or.inr (Or.inr (Or.inr (Or.inr (Or.inl (Int32.toInt_inj.mp h))))))))))))))))
  · exact Or.inr (Or.inr (Or.inr (Or.inr (Or.inr (Or.inr (Or.inr (Or.inr (Or.inr (Or.inr (Or.inr (Or.inr (Or.inr (Or.inr (Or.inr (Or.inr (Or.inl (Int32.toInt_inj.mp h)))))))))))))))))
  · exact Or.inr (Or.inr (Or.inr (Or.inr (Or.inr (Or.inr (Or.inr (Or.inr (Or.inr (Or.inr (Or.inr (Or.inr (Or.inr (Or.inr (Or.inr (Or.inr (Or.inr (Or.inl (Int32.toInt_inj.mp h))))))))))))))))))
  · exact Or.inr (Or.inr (Or.inr (Or.inr (Or.inr (Or.inr (Or.inr (Or.inr (Or.inr (Or.inr (Or.inr (Or.inr (Or.inr (Or.inr (Or.inr (Or.inr (Or.inr (Or.inr (Or.inl (Int32.toInt_inj.mp h)))))))))))))))))))
  · exact Or.inr (Or.inr (Or.inr (Or.inr (Or.inr (Or.inr (Or.inr (Or.inr (Or.inr (Or.inr (Or.inr (Or.inr (Or.inr (Or.inr (Or.inr (Or.inr (Or.inr (Or.inr (Or.inr (Or.inl (Int32.toInt_inj.mp h))))))))))))))))))))
  · exact Or.inr (Or.inr (Or.inr (Or.inr (Or.inr (Or.inr (Or.inr (Or.inr (Or.inr (Or.inr (Or.inr (Or.inr (Or.inr (Or.inr (Or.inr (Or.inr (Or.inr (Or.inr (Or.inr (Or.inr (Or.inl (Int32.toInt_inj.mp h)))))))))))))))))))))
  · exact Or.inr (Or.inr (Or.inr (Or.inr (Or.inr (Or.inr (Or.inr (Or.inr (Or.inr (Or.inr (Or.inr (Or.inr (Or.inr (Or.inr (Or.inr (Or.inr (Or.inr (Or.inr (Or.inr (Or.inr (Or.inr (Or.inl (Int32.toInt_inj.mp h))))))))))))))))))))))
  · exact Or.inr (Or.inr (Or.inr (Or.inr (Or.inr (Or.inr (Or.inr (Or.inr (Or.inr (Or.inr (Or.inr (Or.inr (Or.inr (Or.inr (Or.inr (Or.inr (Or.inr (Or.inr (Or.inr (Or.inr (Or.inr (Or.inr (Or.inl (Int32.toInt_inj.mp h)))))))))))))))))))))))
  · exact Or.inr (Or.inr (Or.inr (Or.inr (Or.inr (Or.inr (Or.inr (Or.inr (Or.inr (Or.inr (Or.inr (Or.inr (Or.inr (Or.inr (Or.inr (Or.inr (Or.inr (Or.inr (Or.inr (Or.inr (Or.inr (Or.inr (Or.inr (Or.inl (Int32.toInt_inj.mp h))))))))))))))))))))))))
  · exact Or.inr (Or.inr (Or.inr (Or.inr (Or.inr (Or.inr (Or.inr (Or.inr (Or.inr (Or.inr (Or.inr (Or.inr (Or.inr (Or.inr (Or.inr (Or.inr (Or.inr (Or.inr (Or.inr (Or.inr (Or.inr (Or.inr (Or.inr (Or.inr (Or.inl (Int32.toInt_inj.mp h)))))))))))))))))))))))))
  · exact Or.inr (Or.inr (Or.inr (Or.inr (Or.inr (Or.inr (Or.inr (Or.inr (Or.inr (Or.inr (Or.inr (Or.inr (Or.inr (Or.inr (Or.inr (Or.inr (Or.inr (Or.inr (Or.inr (Or.inr (Or.inr (Or.inr (Or.inr (Or.inr (Or.inr (Or.inl (Int32.toInt_inj.mp h))))))))))))))))))))))))))
  · exact Or.inr (Or.inr (Or.inr (Or.inr (Or.inr (Or.inr (Or.inr (Or.inr (Or.inr (Or.inr (Or.inr (Or.inr (Or.inr (Or.inr (Or.inr (Or.inr (Or.inr (Or.inr (Or.inr (Or.inr (Or.inr (Or.inr (Or.inr (Or.inr (Or.inr (Or.inr (Or.inl (Int32.toInt_inj.mp h)))))))))))))))))))))))))))
  · exact Or.inr (Or.inr (Or.inr (Or.inr (Or.inr (Or.inr (Or.inr (Or.inr (Or.inr (Or.inr (Or.inr (Or.inr (Or.inr (Or.inr (Or.inr (Or.inr (Or.inr (Or.inr (Or.inr (Or.inr (Or.inr (Or.inr (Or.inr (Or.inr (Or.inr (Or.inr (Or.inr (Or.inl (Int32.toInt_inj.mp h))))))))))))))))))))))))))))
  · exact Or.inr (Or.inr (Or.inr (Or.inr (Or.inr (Or.inr (Or.inr (Or.inr (Or.inr (Or.inr (Or.inr (Or.inr (Or.inr (Or.inr (Or.inr (Or.inr (Or.inr (Or.inr (Or.inr (Or.inr (Or.inr (Or.inr (Or.inr (Or.inr (Or.inr (Or.inr (Or.inr (Or.inr (Or.inl (Int32.toInt_inj.mp h)))))))))))))))))))))))))))))
  · exact Or.inr (Or.inr (Or.inr (Or.inr (Or.inr (Or.inr (Or.inr (Or.inr (Or.inr (Or.inr (Or.inr (Or.inr (Or.inr (Or.inr (Or.inr (Or.inr (Or.inr (Or.inr (Or.inr (Or.inr (Or.inr (Or.inr (Or.inr (Or.inr (Or.inr (Or.inr (Or.inr (Or.inr (Or.inr (Or.inl (Int32.toInt_inj.mp h))))))))))))))))))))))))))))))
  · exact Or.inr (Or.inr (Or.inr (Or.inr (Or.inr (Or.inr (Or.inr (Or.inr (Or.inr (Or.inr (Or.inr (Or.inr (Or.inr (Or.inr (Or.inr (Or.inr (Or.inr (Or.inr (Or.inr (Or.inr (Or.inr (Or.inr (Or.inr (Or.inr (Or.inr (Or.inr (Or.inr (Or.inr (Or.inr (Or.inr (Or.inl (Int32.toInt_inj.mp h)))))))))))))))))))))))))))))))
  · exact Or.inr (Or.inr (Or.inr (Or.inr (Or.inr (Or.inr (Or.inr (Or.inr (Or.inr (Or.inr (Or.inr (Or.inr (Or.inr (Or.inr (Or.inr (Or.inr (Or.inr (Or.inr (Or.inr (Or.inr (Or.inr (Or.inr (Or.inr (Or.inr (Or.inr (Or.inr (Or.inr (Or.inr (Or.inr (Or.inr (Or.inr (Or.inl (Int32.toInt_inj.mp h))))))))))))))))))))))))))))))))
  · exact Or.inr (Or.inr (Or.inr (Or.inr (Or.inr (Or.inr (Or.inr (Or.inr (Or.inr (Or.inr (Or.inr (Or.inr (Or.inr (Or.inr (Or.inr (Or.inr (Or.inr (Or.inr (Or.inr (Or.inr (Or.inr (Or.inr (Or.inr (Or.inr (Or.inr (Or.inr (Or.inr (Or.inr (Or.inr (Or.inr (Or.inr (Or.inr (Or.inl (Int32.toInt_inj.mp h)))))))))))))))))))))))))))))))))
  · exact Or.inr (Or.inr (Or.inr (Or.inr (Or.inr (Or.inr (Or.inr (Or.inr (Or.inr (Or.inr (Or.inr (Or.inr (Or.inr (Or.inr (Or.inr (Or.inr (Or.inr (Or.inr (Or.inr (Or.inr (Or.inr (Or.inr (Or.inr (Or.inr (Or.inr (Or.inr (Or.inr (Or.inr (Or.inr (Or.inr (Or.inr (Or.inr (Or.inr (Or.inl (Int32.toInt_inj.mp h))))))))))))))))))))))))))))))))))
  · exact Or.inr (Or.inr (Or.inr (Or.inr (Or.inr (Or.inr (Or.inr (Or.inr (Or.inr (Or.inr (Or.inr (Or.inr (Or.inr (Or.inr (Or.inr (Or.inr (Or.inr (Or.inr (Or.inr (Or.inr (Or.inr (Or.inr (Or.inr (Or.inr (Or.inr (Or.inr (Or.inr (Or.inr (Or.inr (Or.inr (Or.inr (Or.inr (Or.inr (Or.inr (Or.inl (Int32.toInt_inj.mp h)))))))))))))))))))))))))))))))))))
  · exact Or.inr (Or.inr (Or.inr (Or.inr (Or.inr (Or.inr (Or.inr (Or.inr (Or.inr (Or.inr (Or.inr (Or.inr (Or.inr (Or.inr (Or.inr (Or.inr (Or.inr (Or.inr (Or.inr (Or.inr (Or.inr (Or.inr (Or.inr (Or.inr (Or.inr (Or.inr (Or.inr (Or.inr (Or.inr (Or.inr (Or.inr (Or.inr (Or.inr (Or.inr (Or.inr (Or.inl (Int32.toInt_inj.mp h))))))))))))))))))))))))))))))))))))
  · exact Or.inr (Or.inr (Or.inr (Or.inr (Or.inr (Or.inr (Or.inr (Or.inr (Or.inr (Or.inr (Or.inr (Or.inr (Or.inr (Or.inr (Or.inr (Or.inr (Or.inr (Or.inr (Or.inr (Or.inr (Or.inr (Or.inr (Or.inr (Or.inr (Or.inr (Or.inr (Or.inr (Or.inr (Or.inr (Or.inr (Or.inr (Or.inr (Or.inr (Or.inr (Or.inr (Or.inr (Or.inl (Int32.toInt_inj.mp h)))))))))))))))))))))))))))))))))))))
  · exact Or.inr (Or.inr (Or.inr (Or.inr (Or.inr (Or.inr (Or.inr (Or.inr (Or.inr (Or.inr (Or.inr (Or.inr (Or.inr (Or.inr (Or.inr (Or.inr (Or.inr (Or.inr (Or.inr (Or.inr (Or.inr (Or.inr (Or.inr (Or.inr (Or.inr (Or.inr (Or.inr (Or.inr (Or.inr (Or.inr (Or.inr (Or.inr (Or.inr (Or.inr (Or.inr (Or.inr (Or.inr (Or.inl (Int32.toInt_inj.mp h))))))))))))))))))))))))))))))))))))))
  · exact Or.inr (Or.inr (Or.inr (Or.inr (Or.inr (Or.inr (Or.inr (Or.inr (Or.inr (Or.inr (Or.inr (Or.inr (Or.inr (Or.inr (Or.inr (Or.inr (Or.inr (Or.inr (Or.inr (Or.inr (Or.inr (Or.inr (Or.inr (Or.inr (Or.inr (Or.inr (Or.inr (Or.inr (Or.inr (Or.inr (Or.inr (Or.inr (Or.inr (Or.inr (Or.inr (Or.inr (Or.inr (Or.inr (Or.inl (Int32.toInt_inj.mp h)))))))))))))))))))))))))))))))))))))))
  · exact Or.inr (Or.inr (Or.inr (Or.inr (Or.inr (Or.inr (Or.inr (Or.inr (Or.inr (Or.inr (Or.inr (Or.inr (Or.inr (Or.inr (Or.inr (Or.inr (Or.inr (Or.inr (Or.inr (Or.inr (Or.inr (Or.inr (Or.inr (Or.inr (Or.inr (Or.inr (Or.inr (Or.inr (Or.inr (Or.inr (Or.inr (Or.inr (Or.inr (Or.inr (Or.inr (Or.inr (Or.inr (Or.inr (Or.inr (Or.inl (Int32.toInt_inj.mp h))))))))))))))))))))))))))))))))))))))))
  · exact Or.inr (Or.inr (Or.inr (Or.inr (Or.inr (Or.inr (Or.inr (Or.inr (Or.inr (Or.inr (Or.inr (Or.inr (Or.inr (Or.inr (Or.inr (Or.inr (Or.inr (Or.inr (Or.inr (Or.inr (Or.inr (Or.inr (Or.inr (Or.inr (Or.inr (Or.inr (Or.inr (Or.inr (Or.inr (Or.inr (Or.inr (Or.inr (Or.inr (Or.inr (Or.inr (Or.inr (Or.inr (Or.inr (Or.inr (Or.inr (h))))))))))))))))))))))))))))))))))))))))
set_option maxHeartbeats 4000000 in
set_option maxRecDepth 100000 in
theorem lw_loop {p : Program} {l : Launch} {e : Env} {s : State} {m : MethodId} {below : List Frame} {meth : Method} {c : Code} {G : GE} {S : St → Prop} {b L : Nat} {xs : Nat → Int32} (hfl : l.stackTraces = false) (X : Cx G p s m #[Value.ref b] c cL_law 10 RL) (hr : meth.sig.returnType = ret) (hlk : meth.locks = false) (hX : va_X b L xs s s.heap) (hbl : b < s.heap.size) (hGs : G.2.2.2.1 = s.heap.size) (hL : L ≤ 3072) (hT : SimOK S) :
    ∀ (n i : Nat), L + 1 ≤ i + n → i ≤ 3072 → ∀ (cells slots : Nat), cells ≤ 210 + i → slots ≤ 6300 + 2 * i → ∀ (σ : St), S σ → ∀ (H : Heap) (locs : List Loc), va_P G.1 vcl (wl G σ) H → va_S (GA G) s.heap H locs → ∀ (ls : Array Slot), lv_has ls 10 [(0, .ref b), (1, .ref (G.2.1 0)), (2, .ref (G.2.1 196)), (3, .ref (G.2.1 208)), (4, .ref (G.2.1 209)), (5, .int (nI i))] → W p l e room_1 s m #[Value.ref b] below meth c H locs cells slots (lw_Z below #[Value.ref b] s) (F0 m 28 ls []) := by
  obtain ⟨t0, t1, t2, t3, t4, t5, t6, t7, t8, t9, t10, t11, t12, t13, t14, t15, t16, t17, t18, t19, t20, t21, t22, t23, t24, t25, t26, t27, t28, t29, t30, t31, t32, t33, t34, t35, t36, t37, t38, t39⟩ := hT
  obtain ⟨hx, hb, hml, hown, hts, hK, hbs, hXW, hG⟩ := id X
  have hbA : ¬ GA G b := by
    show ¬ G.2.2.2.1 ≤ b
    omega
  intro n
  induction n with
  | zero =>
    intro i h1 h2 cells slots hc hs σ hσ H locs hP hS ls hl
    refine lv_iload hx hb dL_law_28 (lv_at hl 5 rfl) ?_
    refine lv_aload_n hx hb dL_law_30 rfl (lv_at hl 0 rfl) ?_
    refine va_slen hx hb hX hbl hbA hS dL_law_31 ?_
    refine lv_bipush (v := 6) hx hb dL_law_32 (by decide) ?_
    refine lv_isub hx hb dL_law_34 ?_
    refine lv_icmp_gt (tgt := 2468) hx hb dL_law_35 (by decide) (fun _ => ?_) (fun hc2 => absurd ?_ hc2)
    · refine lv_iconst (v := 1) hx hb dL_law_2468 (by decide) ?_
      refine va_forget (fun q hq => by have := hS.2.2 q hq; show s.heap.size ≤ q.base; rw [← hGs]; exact this) ?_
      refine W.widen (k := 603072) (n := 7198826) (by omega) (by omega) ?_
      refine W.base ?_
      exact lw_ret (Drawn.sameBut.refl s.drawn lw_cs) hx hb hr hlk dL_law_2469
    · exact lw_gt hL (by omega) (by omega)
  | succ n ih =>
    intro i h1 h2 cells slots hc hs σ hσ H locs hP hS ls hl
    refine lv_iload hx hb dL_law_28 (lv_at hl 5 rfl) ?_
    refine lv_aload_n hx hb dL_law_30 rfl (lv_at hl 0 rfl) ?_
    refine va_slen hx hb hX hbl hbA hS dL_law_31 ?_
    refine lv_bipush (v := 6) hx hb dL_law_32 (by decide) ?_
    refine lv_isub hx hb dL_law_34 ?_
    refine lv_icmp_gt (tgt := 2468) hx hb dL_law_35 (by decide) (fun _ => ?_) (fun hc2 => ?_)
    · refine lv_iconst (v := 1) hx hb dL_law_2468 (by decide) ?_
      refine va_forget (fun q hq => by have := hS.2.2 q hq; show s.heap.size ≤ q.base; rw [← hGs]; exact this) ?_
      refine W.widen (k := 603072) (n := 7198826) (by omega) (by omega) ?_
      refine W.base ?_
      exact lw_ret (Drawn.sameBut.refl s.drawn lw_cs) hx hb hr hlk dL_law_2469
    · have hi : i + 6 ≤ L := by
        rcases Nat.lt_or_ge L (i + 6) with q | q
        · exact absurd (lw_gt hL q h2) hc2
        · exact q
      have kk : ∀ (σ : St), S σ → ∀ (H : Heap) (locs : List Loc), va_P G.1 vcl (wl G σ) H → va_S (GA G) s.heap H locs → ∀ (ls : Array Slot), lv_has ls 10 [(0, .ref b), (1, .ref (G.2.1 0)), (2, .ref (G.2.1 196)), (3, .ref (G.2.1 208)), (4, .ref (G.2.1 209)), (5, .int (nI i))] → W p l e room_1 s m #[Value.ref b] below meth c H locs (cells + 2) (slots + 12) (lw_Z below #[Value.ref b] s) (F0 m 2462 ls []) := fun σ hσ H locs hP hS ls hl => by
        refine lv_iinc (v := nI (i + 6)) (lv' := [(5, .int (nI (i + 6))), (0, .ref b), (1, .ref (G.2.1 0)), (2, .ref (G.2.1 196)), (3, .ref (G.2.1 208)), (4, .ref (G.2.1 209))]) hx hb dL_law_2462 hl (k := 5) rfl (nI_add i 6) (by decide) rfl (fun ls hl => ?_)
        refine lv_goto (tgt := 28) hx hb dL_law_2465 (by decide) ?_
        exact ih (i + 6) (by omega) (by omega) (cells + 2) (slots + 12) (by omega) (by omega) σ hσ H locs hP hS ls (lv_sub hl [1, 2, 3, 4, 5, 0] rfl)
      refine lv_aload_n hx hb dL_law_38 rfl (lv_at hl 0 rfl) ?_
      refine lv_iload hx hb dL_law_39 (lv_at hl 5 rfl) ?_
      refine va_sld hx hb hX hbl hbA hS (vp_in_nI (by omega) (by omega)) dL_law_41 ?_
      refine lv_bipush (v := 63) hx hb dL_law_42 (by decide) ?_
      refine lv_iand hx hb dL_law_44 ?_
      generalize xs (nI i).toNatClampNeg &&& 63 = v
      rcases lw_sel v with h | h | h | h | h | h | h | h | h | h | h | h | h | h | h | h | h | h | h | h | h | h | h | h | h | h | h | h | h | h | h | h | h | h | h | h | h | h | h | h | h
      · subst h
        refine lv_tableIn (off := 175) (tgt := 220) hx hb dL_law_45 (by decide) (by decide) rfl (by decide) ?_
        exact lw_case_0 hfl X hX hbl hbA hi hL t0 hσ (by omega) (by omega) hP hS hl kk
      · subst h
        refine lv_tableIn (off := 231) (tgt := 276) hx hb dL_law_45 (by decide) (by decide) rfl (by decide) ?_
        exact lw_case_1 hfl X hX hbl hbA hi hL t1 hσ (by omega) (by omega) hP hS hl kk
      · subst h
        refine lv_tableIn (off := 309) (tgt := 354) hx hb dL_law_45 (by decide) (by decide) rfl (by decide) ?_
        exact lw_case_2 hfl X hX hbl hbA hi hL t2 hσ (by omega) (by omega) hP hS hl kk
      · subst h
        refine lv_tableIn (off := 401) (tgt := 446) hx hb dL_law_45 (by decide) (by decide) rfl (by decide) ?_
        exact lw_case_3 hfl X hX hbl hbA hi hL t3 hσ (by omega) (by omega) hP hS hl kk
      · subst h
        refine lv_tableIn (off := 505) (tgt := 550) hx hb dL_law_45 (by decide) (by decide) rfl (by decide) ?_
        exact lw_case_4 hfl X hX hbl hbA hi hL t4 hσ (by omega) (by omega) hP hS hl kk
      · subst h
        refine lv_tableIn (off := 573) (tgt := 618) hx hb dL_law_45 (by decide) (by decide) rfl (by decide) ?_
        exact lw_case_5 hfl X hX hbl hbA hi hL t5 hσ (by omega) (by omega) hP hS hl kk
      · subst h
        refine lv_tableIn (off := 629) (tgt := 674) hx hb dL_law_45 (by decide) (by decide) rfl (by decide) ?_
        exact lw_case_6 hfl X hX hbl hbA hi hL t6 hσ (by omega) (by omega) hP hS hl kk
      · subst h
        refine lv_tableIn (off := 709) (tgt := 754) hx hb dL_law_45 (by decide) (by decide) rfl (by decide) ?_
        exact lw_case_7 hfl X hX hbl hbA hi hL t7 hσ (by omega) (by omega) hP hS hl kk
      · subst h
        refine lv_tableIn (off := 765) (tgt := 810) hx hb dL_law_45 (by decide) (by decide) rfl (by decide) ?_
        exact lw_case_8 hfl X hX hbl hbA hi hL t8 hσ (by omega) (by omega) hP hS hl kk
      · subst h
        refine lv_tableIn (off := 833) (tgt := 878) hx hb dL_law_45 (by decide) (by decide) rfl (by decide) ?_
        exact lw_case_9 hfl X hX hbl hbA hi hL t9 hσ (by omega) (by omega) hP hS hl kk
      · subst h
        refine lv_tableIn (off := 901) (tgt := 946) hx hb dL_law_45 (by decide) (by decide) rfl (by decide) ?_
        exact lw_case_10 hfl X hX hbl hbA hi hL t10 hσ (by omega) (by omega) hP hS hl kk
      · subst h
        refine lv_tableIn (off := 957) (tgt := 1002) hx hb dL_law_45 (by decide) (by decide) rfl (by decide) ?_
        exact lw_case_11 hfl X hX hbl hbA hi hL t11 hσ (by omega) (by omega) hP hS hl kk
      · subst h
        refine lv_tableIn (off := 1001) (tgt := 1046) hx hb dL_law_45 (by decide) (by decide) rfl (by decide) ?_
        exact lw_case_12 hfl X hX hbl hbA hi hL t12 hσ (by omega) (by omega) hP hS hl kk
      · subst h
        refine lv_tableIn (off := 1079) (tgt := 1124) hx hb dL_law_45 (by decide) (by decide) rfl (by decide) ?_
        exact lw_case_13 hfl X hX hbl hbA hi hL t13 hσ (by omega) (by omega) hP hS hl kk
      · subst h
        refine lv_tableIn (off := 1135) (tgt := 1180) hx hb dL_law_45 (by decide) (by decide) rfl (by decide) ?_
        exact lw_case_14 hfl X hX hbl hbA hi hL t14 hσ (by omega) (by omega) hP hS hl kk
      · subst h
        refine lv_tableIn (off := 1191) (tgt := 1236) hx hb dL_law_45 (by decide) (by decide) rfl (by decide) ?_
        exact lw_case_15 hfl X hX hbl hbA hi hL t15 hσ (by omega) (by omega) hP hS hl kk
      · subst h
        refine lv_tableIn (off := 1235) (tgt := 1280) hx hb dL_law_45 (by decide) (by decide) rfl (by decide) ?_
        exact lw_case_16 hfl X hX hbl hbA hi hL t16 hσ (by omega) (by omega) hP hS hl kk
      · subst h
        refine lv_tableIn (off := 1291) (tgt := 1336) hx hb dL_law_45 (by decide) (by decide) rfl (by decide) ?_
        exact lw_case_17 hfl X hX hbl hbA hi hL t17 hσ (by omega) (by omega) hP hS hl kk
      · subst h
        refine lv_tableIn (off := 1334) (tgt := 1379) hx hb dL_law_45 (by decide) (by decide) rfl (by decide) ?_
        exact lw_case_18 hfl X hX hbl hbA hi hL t18 hσ (by omega) (by omega) hP hS hl kk
      · subst h
        refine lv_tableIn (off := 1402) (tgt := 1447) hx hb dL_law_45 (by decide) (by decide) rfl (by decide) ?_
        exact lw_case_19 hfl X hX hbl hbA hi hL t19 hσ (by omega) (by omega) hP hS hl kk
      · subst h
        refine lv_tableIn (off := 1470) (tgt := 1515) hx hb dL_law_45 (by decide) (by decide) rfl (by decide) ?_
        exact lw_case_20 hfl X hX hbl hbA hi hL t20 hσ (by omega) (by omega) hP hS hl kk
      · subst h
        refine lv_tableIn (off := 1526) (tgt := 1571) hx hb dL_law_45 (by decide) (by decide) rfl (by decide) ?_
        exact lw_case_21 hfl X hX hbl hbA hi hL t21 hσ (by omega) (by omega) hP hS hl kk
      · subst h
        refine lv_tableIn (off := 1606) (tgt := 1651) hx hb dL_law_45 (by decide) (by decide) rfl (by decide) ?_
        exact lw_case_22 hfl X hX hbl hbA hi hL t22 hσ (by omega) (by omega) hP hS hl kk
      · subst h
        refine lv_tableIn (off := 1662) (tgt := 1707) hx hb dL_law_45 (by decide) (by decide) rfl (by decide) ?_
        exact lw_case_23 hfl X hX hbl hbA hi hL t23 hσ (by omega) (by omega) hP hS hl kk
      · subst h
        refine lv_tableIn (off := 1718) (tgt := 1763) hx hb dL_law_45 (by decide) (by decide) rfl (by decide) ?_
        exact lw_case_24 hfl X hX hbl hbA hi hL t24 hσ (by omega) (by omega) hP hS hl kk
      · subst h
        refine lv_tableIn (off := 1774) (tgt := 1819) hx hb dL_law_45 (by decide) (by decide) rfl (by decide) ?_
        exact lw_case_25 hfl X hX hbl hbA hi hL t25 hσ (by omega) (by omega) hP hS hl kk
      · subst h
        refine lv_tableIn (off := 1817) (tgt := 1862) hx hb dL_law_45 (by decide) (by decide) rfl (by decide) ?_
        exact lw_case_26 hfl X hX hbl hbA hi hL t26 hσ (by omega) (by omega) hP hS hl kk
      · subst h
        refine lv_tableIn (off := 1861) (tgt := 1906) hx hb dL_law_45 (by decide) (by decide) rfl (by decide) ?_
        exact lw_case_27 hfl X hX hbl hbA hi hL t27 hσ (by omega) (by omega) hP hS hl kk
      · subst h
        refine lv_tableIn (off := 1905) (tgt := 1950) hx hb dL_law_45 (by decide) (by decide) rfl (by decide) ?_
        exact lw_case_28 hfl X hX hbl hbA hi hL t28 hσ (by omega) (by omega) hP hS hl kk
      · subst h
        refine lv_tableIn (off := 1961) (tgt := 2006) hx hb dL_law_45 (by decide) (by decide) rfl (by decide) ?_
        exact lw_case_29 hfl X hX hbl hbA hi hL t29 hσ (by omega) (by omega) hP hS hl kk
      · subst h
        refine lv_tableIn (off := 2017) (tgt := 2062) hx hb dL_law_45 (by decide) (by decide) rfl (by decide) ?_
        exact lw_case_30 hfl X hX hbl hbA hi hL t30 hσ (by omega) (by omega) hP hS hl kk
      · subst h
        refine lv_tableIn (off := 2075) (tgt := 2120) hx hb dL_law_45 (by decide) (by decide) rfl (by decide) ?_
        exact lw_case_31 hfl X hX hbl hbA hi hL t31 hσ (by omega) (by omega) hP hS hl kk
      · subst h
        refine lv_tableIn (off := 2119) (tgt := 2164) hx hb dL_law_45 (by decide) (by decide) rfl (by decide) ?_
        exact lw_case_32 hfl X hX hbl hbA hi hL t32 hσ (by omega) (by omega) hP hS hl kk
      · subst h
        refine lv_tableIn (off := 2132) (tgt := 2177) hx hb dL_law_45 (by decide) (by decide) rfl (by decide) ?_
        exact lw_case_33 hfl X hX hbl hbA hi hL t33 hσ (by omega) (by omega) hP hS hl kk
      · subst h
        refine lv_tableIn (off := 2204) (tgt := 2249) hx hb dL_law_45 (by decide) (by decide) rfl (by decide) ?_
        exact lw_case_34 hfl X hX hbl hbA hi hL t34 hσ (by omega) (by omega) hP hS hl kk
      · subst h
        refine lv_tableIn (off := 2260) (tgt := 2305) hx hb dL_law_45 (by decide) (by decide) rfl (by decide) ?_
        exact lw_case_35 hfl X hX hbl hbA hi hL t35 hσ (by omega) (by omega) hP hS hl kk
      · subst h
        refine lv_tableIn (off := 2273) (tgt := 2318) hx hb dL_law_45 (by decide) (by decide) rfl (by decide) ?_
        exact lw_case_36 hfl X hX hbl hbA hi hL t36 hσ (by omega) (by omega) hP hS hl kk
      · subst h
        refine lv_tableIn (off := 2316) (tgt := 2361) hx hb dL_law_45 (by decide) (by decide) rfl (by decide) ?_
        exact lw_case_37 hfl X hX hbl hbA hi hL t37 hσ (by omega) (by omega) hP hS hl kk
      · subst h
        refine lv_tableIn (off := 2360) (tgt := 2405) hx hb dL_law_45 (by decide) (by decide) rfl (by decide) ?_
        exact lw_case_38 hfl X hX hbl hbA hi hL t38 hσ (by omega) (by omega) hP hS hl kk
      · subst h
        refine lv_tableIn (off := 2373) (tgt := 2418) hx hb dL_law_45 (by decide) (by decide) rfl (by decide) ?_
        exact lw_case_39 hfl X hX hbl hbA hi hL t39 hσ (by omega) (by omega) hP hS hl kk
      · refine lv_tableOut (tgt := 2462) hx hb dL_law_45 h (by decide) ?_
        refine W.widen (k := cells + 2) (n := slots + 12) (by omega) (by omega) ?_
        exact kk σ hσ H locs hP hS ls hl
set_option maxHeartbeats 4000000 in
set_option maxRecDepth 100000 in
theorem lw_start {p : Program} {e : Env} {s : State} {m : MethodId} {below : List Frame} {meth : Method} {c : Code} (l : Launch) (hflags : l.flags = flags0) {b L : Nat} {xs : Nat → Int32} (hL : L ≤ 3072) (C0 : lw_At p s m meth c b L xs) {S : St → Prop} (hT : SimOK S) (hS0 : S s0) : W p l e room_1 s m #[Value.ref b] below meth c s.heap [] 0 0 (lw_Z below #[Value.ref b] s) (entryFrame m ([Value.ref b] : List Value).toArray 10) := by
  obtain ⟨hx, hb, hr, hml, hown, htsT, hX, hbl, hlocks, hgv⟩ := C0
  have hfl : l.stackTraces = false := by
    unfold Launch.stackTraces
    rw [hflags]
    decide +kernel
  have hts : ∀ w ∈ allW, w.before #[Value.ref b] s = true := fun w h => htsT w (fm_lw h)
  obtain ⟨adK, adV, hXW⟩ := xw_ex htsT hgv
  obtain ⟨dG, cG, hK⟩ := kk_ex htsT
  obtain ⟨G, hGe⟩ : ∃ G : GE, G = (dG, fun _ => 0, cG, s.heap.size, adK, adV) := ⟨_, rfl⟩
  have hK1 : va_K G.1 vcl (tysG G) s := by rw [hGe]; exact hK _ _ _ _
  have hXW1 : XW G s s.heap := by rw [hGe]; exact hXW _ _ _
  have hGs : G.2.2.2.1 = s.heap.size := by rw [hGe]
  have hAO : va_AO "PotatoStamps$Office" s := va_AO.of (htsT _ tb_st.2.2.2.2.2.2.2)
  have X : CxN G p s m #[Value.ref b] c cL_law 10 RL := ⟨hx, hb, hml, hown, hts, hK1, Nat.le_of_eq hGs, hXW1, hAO⟩
  have hA : ∀ q, s.heap.size ≤ q → GA G q := fun q h => by show G.2.2.2.1 ≤ q; rw [hGs]; exact h
  have hS : va_S (GA G) s.heap s.heap [] := va_S.rf
  have hP : va_P G.1 vcl ([] : va_W) s.heap := fun k q h => by simp at h
  have hD : va_D (GA G) ([] : va_W) := ⟨fun i j p q h => by simp at h, fun k q h => by simp at h⟩
  have hl := lv_entry ([.ref b]) (n := 10) (Nat.le_of_ble_eq_true rfl)
  rw [lg_entry_eq]
  generalize (lg_sl ([.ref b]) ++ List.replicate (10 - (lg_sl ([.ref b])).length) Slot.unset).toArray = ls at hl ⊢
  have hl : lv_has ls 10 [(0, .ref b)] := hl
  refine n_new (ci := 8) (fs := [.null, .null, .null, .null, .null, .null, .null, .int 0]) (ty := tyX9) X in_X9 tyX9_ok nw_L_8 nj_X9 nz_X9 hP hD hS hA rfl (by decide) (Nat.le_of_ble_eq_true rfl) (Nat.le_of_ble_eq_true rfl) dL_law_0 (fun q0 H hP hD hS => ?_)
  refine lv_dup hx hb dL_law_3 rfl ?_
  refine n_call X (c_X9_init l G) ca_X9_init (Or.inr km_L_137) rfl rfl rfl ⟨Nat.le_of_ble_eq_true rfl, Nat.le_of_ble_eq_true rfl⟩ hP hD hS hA (fun _ h => h) hl.1 (Nat.le_of_ble_eq_true rfl) ⟨Nat.le_of_ble_eq_true rfl, Nat.le_of_ble_eq_true rfl⟩ dL_law_4 (fun a1 ha1 H locs hP1 hD1 hS => ?_)
  subst ha1
  have hP : va_P G.1 vcl (lw G a1 L9) H := hP1
  have hD : va_D (GA G) (lw G a1 L9) := hD1
  refine lv_astore_n (lv' := [(1, .ref (a1 0)), (0, .ref b)]) hx hb dL_law_7 rfl hl (by decide) rfl (fun ls hl => ?_)
  refine n_new (ci := 9) (fs := [.int 0, .int 0, .int 0, .int 0, .int 0, .null, .null, .null, .null, .null, .null, .null, .null, .int 0, .int 0, .int 0, .null, .null, .int 0, .int 0, .int 0, .null, .int 0, .int 0, .int 0]) (ty := tyX10) X in_X10 tyX10_ok nw_L_138 nj_X10 nz_X10 hP hD hS hA rfl (by decide) (Nat.le_of_ble_eq_true rfl) (Nat.le_of_ble_eq_true rfl) dL_law_8 (fun q1 H hP hD hS => ?_)
  refine lv_dup hx hb dL_law_11 rfl ?_
  refine n_call X (c_X10_init l G) ca_X10_init (Or.inr km_L_140) rfl rfl rfl ⟨Nat.le_of_ble_eq_true rfl, Nat.le_of_ble_eq_true rfl⟩ hP hD hS hA (fun _ h => h) hl.1 (Nat.le_of_ble_eq_true rfl) ⟨Nat.le_of_ble_eq_true rfl, Nat.le_of_ble_eq_true rfl⟩ dL_law_12 (fun a2 ha2 H locs hP1 hD1 hS => ?_)
  subst ha2
  have hP := hP1
  have hD := hD1
  refine lv_astore_n (lv' := [(2, .ref (a2 196)), (1, .ref (a1 0)), (0, .ref b)]) hx hb dL_law_15 rfl hl (by decide) rfl (fun ls hl => ?_)
  refine lv_iconst (v := 1) hx hb dL_law_16 (by decide) ?_
  refine n_newa 4 X ac_long rfl rfl (fun _ => rfl) hP hD hS hA (x := .inr (.inl (fun _ => 0))) (ty := .long) (N' := 1) (fun _ => rfl) (by decide) rfl (Nat.le_of_ble_eq_true rfl) (Nat.le_of_ble_eq_true rfl) (Nat.le_of_ble_eq_true rfl) dL_law_17 (fun q3 H hP hD hS => ?_)
  refine lv_astore_n (lv' := [(3, .ref q3), (2, .ref (a2 196)), (1, .ref (a1 0)), (0, .ref b)]) hx hb dL_law_19 rfl hl (by decide) rfl (fun ls hl => ?_)
  refine lv_iconst (v := 1) hx hb dL_law_20 (by decide) ?_
  refine n_newa 5 X ac_double rfl rfl (fun _ => rfl) hP hD hS hA (x := .inr (.inr (.inr (.inl (fun _ => 0))))) (ty := .double) (N' := 1) (fun _ => rfl) (by decide) rfl (Nat.le_of_ble_eq_true rfl) (Nat.le_of_ble_eq_true rfl) (Nat.le_of_ble_eq_true rfl) dL_law_21 (fun q4 H hP hD hS => ?_)
  refine lv_astore (lv' := [(4, .ref q4), (3, .ref q3), (2, .ref (a2 196)), (1, .ref (a1 0)), (0, .ref b)]) hx hb dL_law_23 hl (by decide) rfl (fun ls hl => ?_)
  refine lv_iconst (v := 0) hx hb dL_law_25 (by decide) ?_
  refine lv_istore (lv' := [(5, .int 0), (4, .ref q4), (3, .ref q3), (2, .ref (a2 196)), (1, .ref (a1 0)), (0, .ref b)]) hx hb dL_law_26 hl (by decide) rfl (fun ls hl => ?_)
  obtain ⟨a, ha⟩ : ∃ a : Nat → Nat, a = fun i => if i < 196 then a1 i else if i < 208 then a2 i else if i = 208 then q3 else q4 := ⟨_, rfl⟩
  have v1 : ∀ i, i < 196 → a i = a1 i := fun i h => by rw [ha]; exact if_pos h
  have v2 : ∀ i, 196 ≤ i → i < 208 → a i = a2 i := fun i h1 h2 => by
    rw [ha]; show (if i < 196 then a1 i else if i < 208 then a2 i else _) = _
    rw [if_neg (by omega), if_pos h2]
  have v3 : a 208 = q3 := by rw [ha]; rfl
  have v4 : a 209 = q4 := by rw [ha]; rfl
  have eD : (lw G a1 L9 ++ lw G a2 L10 ++ [(q3, (Sum.inl (G.2.2.1 4, 1, .inr (.inl (fun _ => 0))) : va_E))] ++ [(q4, (Sum.inl (G.2.2.1 5, 1, .inr (.inr (.inr (.inl (fun _ => 0))))) : va_E))]).map Prod.fst = (lw G a LO).map Prod.fst := by
    unfold LO
    rw [lw_app, lw_app, lw_app, List.map_append, List.map_append, List.map_append, List.map_append, List.map_append, List.map_append]
    have f1 : (lw G a1 L9).map Prod.fst = (lw G a L9).map Prod.fst := by
      unfold lw
      rw [List.map_map, List.map_map]
      exact List.map_congr_left (fun i hi => (v1 i ((by decide +kernel : ∀ i ∈ L9, i < 196) i hi)).symm)
    have f2 : (lw G a2 L10).map Prod.fst = (lw G a L10).map Prod.fst := by
      unfold lw
      rw [List.map_map, List.map_map]
      exact List.map_congr_left (fun i hi => (v2 i ((by decide +kernel : ∀ i ∈ L10, 196 ≤ i) i hi) ((by decide +kernel : ∀ i ∈ L10, i < 208) i hi)).symm)
    have f3 : (lw G a [208]).map Prod.fst = [q3] := by
      show [a 208] = _
      rw [v3]
    have f4 : (lw G a [209]).map Prod.fst = [q4] := by
      show [a 209] = _
      rw [v4]
    rw [f1, f2, f3, f4]
    rfl
  have hD := va_D_of hD eD
  have hP : va_P G.1 vcl (lw G a LO) H := by
    refine va_P_of (fun q hq => ?_)
    obtain ⟨i, hi, rfl⟩ := List.mem_map.mp hq
    have hi2 := (by decide +kernel : ∀ i ∈ LO, i < 210) i hi
    have hcase : (i < 196 ∧ i ≠ 190) ∨ i = 190 ∨ (196 ≤ i ∧ i < 208) ∨ i = 208 ∨ i = 209 := by omega
    rcases hcase with ⟨i1, i2⟩ | rfl | ⟨i1, i2⟩ | rfl | rfl
    · have hr := ((by decide +kernel : ∀ i, i < 196 → i = 190 ∨ (tyOf i ≠ 23 ∧ i ∈ L9 ∧ ∀ j ∈ refL (tyOf i) i, j < 196)) i i1).resolve_left i2
      rw [cell_refs G (a' := a1) hr.1 (fun j hj => v1 j (hr.2.2 j hj)), v1 i i1]
      exact va_at_mem hP (List.mem_append_left _ (List.mem_append_left _ (List.mem_append_left _ (lw_mem hr.2.1))))
    · rw [v1 190 (by decide)]
      refine va_ref8 (f := fun k => some (a1 (53 + 17 * k))) (fun j hj => ?_) ?_
      · show some (a1 (53 + 17 * j)) = some (a (53 + 17 * j))
        rw [v1 _ (by omega)]
      · exact va_at_mem hP (List.mem_append_left _ (List.mem_append_left _ (List.mem_append_left _ (lw_mem (by decide +kernel : 190 ∈ L9)))))
    · have hr := (by decide +kernel : ∀ i, i < 208 → 196 ≤ i → tyOf i ≠ 23 ∧ i ∈ L10 ∧ ∀ j ∈ refL (tyOf i) i, 196 ≤ j ∧ j < 208) i i2 i1
      rw [cell_refs G (a' := a2) hr.1 (fun j hj => v2 j (hr.2.2 j hj).1 (hr.2.2 j hj).2), v2 i i1 i2]
      exact va_at_mem hP (List.mem_append_left _ (List.mem_append_left _ (List.mem_append_right _ (lw_mem hr.2.1))))
    · rw [v3]
      exact va_at_mem hP (List.mem_append_left _ (List.mem_append_right _ (List.mem_cons_self : _ ∈ [(q3, (Sum.inl (G.2.2.1 4, 1, .inr (.inl (fun _ => 0))) : va_E))])))
    · rw [v4]
      exact va_at_mem hP (List.mem_append_right _ (List.mem_cons_self : _ ∈ [(q4, (Sum.inl (G.2.2.1 5, 1, .inr (.inr (.inr (.inl (fun _ => 0))))) : va_E))]))
  have hP2 := born_P hP
  have hG2 := born_G hD
  have X2 : Cx (GA' G a) p s m #[Value.ref b] c cL_law 10 RL := ⟨hx, hb, hml, hown, hts, hK1, Nat.le_of_eq hGs, hXW1, hG2⟩
  have hl : lv_has ls 10 [(5, .int 0), (4, .ref ((GA' G a).2.1 209)), (3, .ref ((GA' G a).2.1 208)), (2, .ref ((GA' G a).2.1 196)), (1, .ref ((GA' G a).2.1 0)), (0, .ref b)] := by
    show lv_has ls 10 [(5, .int 0), (4, .ref (a 209)), (3, .ref (a 208)), (2, .ref (a 196)), (1, .ref (a 0)), (0, .ref b)]
    rw [v3, v4, v2 196 (by decide) (by decide), v1 0 (by decide)]
    exact hl
  exact lw_loop hfl X2 hr hlocks hX hbl hGs hL hT (L + 1) 0 (by omega) (by omega) _ _ (Nat.le_of_ble_eq_true rfl) (Nat.le_of_ble_eq_true rfl) s0 hS0 H locs hP2 hS ls (lv_sub hl [5, 4, 3, 2, 1, 0] rfl)
