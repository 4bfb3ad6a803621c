section LLP
variable {p : Program} {l : Launch} {e : Env} {R : Room} {s : State} {m : MethodId} {args : Array Value} {below : List Frame} {meth : Method} {c : Code} {H : Heap} {locs : List Loc} {cells slots : Nat} {Q : State → Prop}
variable {G : GE} {cc : ByteArray} {nL : Nat} {own : String} {pc : Nat} {ls : Array Slot} {rest st0 : List Value} {σ u : St} {a : Array Value} {mc ms mc1 ms1 : Nat}
theorem gl_pay {y : MethodName} {bytes : ByteArray} {maxL : Nat} {hh : List (Nat × Nat × Nat × Nat)} (hts : ∀ w ∈ allW, w.before args s = true) (hc : Cond.codeWith y bytes maxL (some .int) hh ∈ allW) : ∀ w ∈ wsW y bytes maxL hh, ∀ (a' : Array Value) (U : State), s.WarmedH U.vm → w.before a' U = true := fun w hw a' U hW => by
  have h : w ∈ allW := by
    rcases List.mem_cons.mp hw with h | h
    · rw [h]; exact hc
    · exact h
  exact word_at hW (good_of_word (allW_good h)) (hts w h)
theorem gl_run {y : MethodName} {bytes : ByteArray} {maxL n index : Nat} {hh : List (Nat × Nat × Nat × Nat)} {rm : Room} {As : List Value} {Qc : Array Value → State → Outcome → State → Prop} {free : Addr → Prop} (X : Cx G p s m args c cc nL own) (hM : Met l y (wsW y bytes maxL hh) rm (va_Pc As (Wd G σ)) Qc mc ms free) (hC : CalW y bytes maxL hh n) (hl : Cond.methodLink own index y ∈ allW) (hrc : rm.cells = mc) (hrs : rm.slots = ms) (hR : rm.frames + 1 ≤ R.frames ∧ 8 + (maxL + 11) + rm.locals ≤ R.locals)
    (hP : va_P G.1 vcl (wl G σ) H) (hS : va_S (GA G) s.heap H locs) (hn : As.length = n) (hsz : ls.size = nL) (hst : st0 = As.reverse ++ rest) (hW : (rest.map fun v => v.category).sum ≤ 8) (hf : cells + mc ≤ R.cells ∧ slots + ms ≤ R.slots) (hdg : decode cc pc = .ok (.invokestatic index, 3)) :
    va_Run p l e R s m args below meth c H locs cells slots mc ms (F0 m pc ls st0) rest (Qc As.toArray) free := by
  obtain ⟨hx, hb, hml, hown, hts, hK, hbs, hXW, hG⟩ := id X
  obtain ⟨a1, a2, a3, a4, a5⟩ := hC
  exact vx_runSW (nL := nL) (Ts := allW) ⟨hx, hb, hml, hown, hts⟩ hM ⟨⟨hrc, hrs, hR.1, hR.2, gl_pay hts a1, List.mem_cons_self⟩, hts _ a1, hts _ a2, a3, g_len a4, hts _ hl, hts _ a5⟩ ⟨Wd_blind G σ _, fun U hU hW => ⟨rfl, X.wd hP hS U hU hW⟩⟩ rfl hn hsz hst (lv_room hW) hdg hf
theorem gl_ci {fv : St × Int32} (hr : va_Run p l e R s m args below meth c H locs cells slots mc ms (F0 m pc ls st0) rest (va_Qi (fun r u => (u, r) = fv) (PB G) (GA G) a) (GA G)) (hS : va_S (GA G) s.heap H locs)
    (kk : ∀ (q : St × Int32), q = fv → ∀ (H : Heap) (locs : List Loc), va_P G.1 vcl (wl G q.1) H → va_S (GA G) s.heap H locs → W p l e R s m args below meth c H locs (cells + mc) (slots + ms) Q (F0 m (pc + 3) ls (.int q.2 :: rest))) : W p l e R s m args below meth c H locs cells slots Q (F0 m pc ls st0) :=
  va_calli hr hS (fun _ _ h => h) (fun _ h => h) (fun r u t H1 locs1 ht _ hw hB _ _ hS1 => kk (u, r) hw H1 locs1 (by rw [← ht]; exact hB) hS1)
theorem g_cJ {fv : St × Int64} (hr : va_Run p l e R s m args below meth c H locs cells slots 0 0 (F0 m pc ls st0) rest (va_Ql (fun r u => (u, r) = fv) (PB G) (GA G) a) (GA G)) (hS : va_S (GA G) s.heap H locs)
    (kk : ∀ (q : St × Int64), q = fv → ∀ (H : Heap) (locs : List Loc), va_P G.1 vcl (wl G q.1) H → va_S (GA G) s.heap H locs → W p l e R s m args below meth c H locs cells slots Q (F0 m (pc + 3) ls (.long q.2 :: rest))) : W p l e R s m args below meth c H locs cells slots Q (F0 m pc ls st0) :=
  g_cl hr hS (fun r u h H1 locs1 a b => kk (u, r) h H1 locs1 a b)
theorem gl_lald {i : Nat} {x : Int32} (X : Cx G p s m args c cc nL own) (hP : va_P G.1 vcl (wl G σ) H) (ht : tyOf i = 24) (hin : vp_in x (lnOf i)) (hdg : decode cc pc = .ok (.laload, 1))
    (kk : W p l e R s m args below meth c H locs cells slots Q (F0 m (pc + 1) ls (.long (σ.2.2.1 i x.toNatClampNeg) :: rest))) : W p l e R s m args below meth c H locs cells slots Q (F0 m pc ls (.int x :: .ref (G.2.1 i) :: rest)) :=
  va_lald X.1 X.2.1 X.2.2.2.2.2.1 hP i 4 (by rw [wl_at G σ (ty_lt ht), cell_24 ht]) rfl hin hdg kk
theorem gl_dald {i : Nat} {x : Int32} (X : Cx G p s m args c cc nL own) (hP : va_P G.1 vcl (wl G σ) H) (ht : tyOf i = 25) (hin : vp_in x (lnOf i)) (hdg : decode cc pc = .ok (.daload, 1))
    (kk : W p l e R s m args below meth c H locs cells slots Q (F0 m (pc + 1) ls (.double (σ.2.2.2 i x.toNatClampNeg) :: rest))) : W p l e R s m args below meth c H locs cells slots Q (F0 m pc ls (.int x :: .ref (G.2.1 i) :: rest)) :=
  va_dald X.1 X.2.1 X.2.2.2.2.2.1 hP i 5 (by rw [wl_at G σ (ty_lt ht), cell_25 ht]) rfl hin hdg kk
/-- a number of the script -/
theorem lw_arg {b L i j : Nat} {xs : Nat → Int32} (X : Cx G p s m args c cc nL own) (hX : va_X b L xs s s.heap) (hbl : b < s.heap.size) (hbA : ¬ GA G b) (hi : i + 6 ≤ L) (hL : L ≤ 3072) (hS : va_S (GA G) s.heap H locs) (h0 : ls[0]? = some (.val (.ref b))) (h5 : ls[5]? = some (.val (.int (nI i)))) (hj : j ≤ 5)
    (d0 : decode cc pc = .ok (.aload_n 0, 1)) (d1 : decode cc (pc + 1) = .ok (.iload 5, 2)) (d2 : decode cc (pc + 3) = .ok (.iconst j, 1)) (d3 : decode cc (pc + 4) = .ok (.iadd, 1)) (d4 : decode cc (pc + 5) = .ok (.iaload, 1))
    (kk : W p l e R s m args below meth c H locs cells slots Q (F0 m (pc + 6) ls (.int (xs (i + j)) :: rest))) : W p l e R s m args below meth c H locs cells slots Q (F0 m pc ls rest) := by
  obtain ⟨hx, hb, hml, hown, hts, hK, hbs, hXW, -⟩ := id X
  have e1 : nI i + nI j = nI (i + j) := nI_add i j
  have e2 : (nI (i + j)).toNatClampNeg = i + j := nI_clamp (by omega)
  refine lv_aload_n hx hb d0 rfl h0 ?_
  refine lv_iload hx hb d1 h5 ?_
  refine lv_iconst (v := nI j) hx hb d2 (by rcases (show j = 0 ∨ j = 1 ∨ j = 2 ∨ j = 3 ∨ j = 4 ∨ j = 5 by omega) with h | h | h | h | h | h <;> subst h <;> rfl) ?_
  refine lv_iadd hx hb d3 ?_
  rw [e1]
  refine va_sld hx hb hX hbl hbA hS (vp_in_nI (by omega) (by omega)) d4 ?_
  rw [e2]
  exact kk
theorem lg_cmp_self (x : Int64) : lg_cmp x x = 0 := by
  unfold lg_cmp
  first | simp | (rw [if_neg (Int64.lt_irrefl x)]; rw [if_pos rfl])
end LLP
/-- the two sides answer alike: a call that answers an int -/
def simI (S : St → Prop) (okL : Prop) (fL : St × Int32) (okM : St → Prop) (fM : St → St × Int32) : Prop :=
  okL ∧ okM fL.1 ∧ f_X10_thrown (fM fL.1).1 = fL.2 ∧ (fL.2 = 0 → (fM fL.1).1.2.2.1 208 0 = (fM fL.1).2.toInt64) ∧ S (fM fL.1).1
/-- .. a float -/
def simF (S : St → Prop) (okL : Prop) (fL : St × Int32) (okM : St → Prop) (fM : St → St × UInt32) : Prop :=
  okL ∧ okM fL.1 ∧ f_X10_thrown (fM fL.1).1 = fL.2 ∧ (fL.2 = 0 → (fM fL.1).1.2.2.2 209 0 = FP.f2d (fM fL.1).2 ∧ vf_n64 (FP.f2d (fM fL.1).2) ∧ Op.cmpValue (FP.dcmp (FP.f2d (fM fL.1).2) (FP.f2d (fM fL.1).2)) CmpOp.l = 0) ∧ S (fM fL.1).1
/-- .. a long -/
def simJ (S : St → Prop) (okL : Prop) (fL : St × Int32) (okM : St → Prop) (fM : St → St × Int64) : Prop :=
  okL ∧ okM fL.1 ∧ f_X10_thrown (fM fL.1).1 = fL.2 ∧ (fL.2 = 0 → (fM fL.1).1.2.2.1 208 0 = (fM fL.1).2) ∧ S (fM fL.1).1
/-- a plain reading of a float -/
def simG (S : St → Prop) (f : UInt32) (g : St × UInt32) : Prop := f = g.2 ∧ vf_n64 (FP.f2d f) ∧ Op.cmpValue (FP.dcmp (FP.f2d f) (FP.f2d f)) CmpOp.l = 0 ∧ S g.1
theorem lw_i2c2 (x : Int32) : (x.toUInt32 % 65536).toInt32 = (((x.toUInt32 % 65536).toInt32).toUInt32 % 65536).toInt32 := by
  have h : ((x.toUInt32 % 65536).toInt32).toUInt32 = x.toUInt32 % 65536 := rfl
  rw [h]
  have h2 : x.toUInt32 % 65536 % 65536 = x.toUInt32 % 65536 := by
    apply UInt32.toNat_inj.mp
    rw [UInt32.toNat_mod, UInt32.toNat_mod, Nat.mod_mod]
  rw [h2]
def Sim_0 (S : St → Prop) : Prop := ∀ (σ : St) (x1 : Int32), S σ → simI S (ok_L_crayon σ x1) (f_L_crayon σ x1) (fun τ => ok_X10_crayon τ x1) (fun τ => f_X10_crayon τ x1)
def Sim_1 (S : St → Prop) : Prop := ∀ (σ : St) (x1 : Int32), S σ → simF S (ok_L_crayonOf σ x1) (f_L_crayonOf σ x1) (fun τ => ok_X10_crayonOf τ x1) (fun τ => f_X10_crayonOf τ x1)
def Sim_2 (S : St → Prop) : Prop := ∀ (σ : St) (x1 x2 x3 x4 : Int32), S σ → simI S (ok_L_letter σ x1 x2 x3 x4) (f_L_letter σ x1 x2 x3 x4) (fun τ => ok_X10_letter τ x1 x2 x3 x4) (fun τ => f_X10_letter τ x1 x2 x3 x4)
def Sim_3 (S : St → Prop) : Prop := ∀ (σ : St) (x1 x2 x3 x4 x5 : Int32), S σ → simI S (ok_L_parcel σ x1 x2 x3 x4 x5) (f_L_parcel σ x1 x2 x3 x4 x5) (fun τ => ok_X10_parcel τ x1 x2 x3 x4 x5) (fun τ => f_X10_parcel τ x1 x2 x3 x4 x5)
def Sim_4 (S : St → Prop) : Prop := ∀ (σ : St) (x1 x2 : Int32), S σ → simI S (ok_L_itemOf σ x1 x2) (f_L_itemOf σ x1 x2) (fun τ => ok_X10_itemOf τ x1 x2) (fun τ => f_X10_itemOf τ x1 x2)
def Sim_5 (S : St → Prop) : Prop := ∀ (σ : St) (x1 : Int32), S σ → simI S (ok_L_reads σ x1) (f_L_reads σ x1) (fun τ => ok_X10_reads τ x1) (fun τ => f_X10_reads τ x1)
def Sim_6 (S : St → Prop) : Prop := ∀ (σ : St) (x1 x2 x3 : Int32), S σ → simI S (ok_L_stringFor σ x1 x2 x3) (f_L_stringFor σ x1 x2 x3) (fun τ => ok_X10_stringFor τ x1 x2 x3) (fun τ => f_X10_stringFor τ x1 x2 x3)
def Sim_7 (S : St → Prop) : Prop := ∀ (σ : St) (x1 : Int32), S σ → simI S (ok_L_string σ x1) (f_L_string σ x1) (fun τ => ok_X10_string τ x1) (fun τ => f_X10_string τ x1)
def Sim_8 (S : St → Prop) : Prop := ∀ (σ : St) (x1 x2 : Int32), S σ → simI S (ok_L_lettersOf σ x1 x2) (f_L_lettersOf σ x1 x2) (fun τ => ok_X10_lettersOf τ x1 x2) (fun τ => f_X10_lettersOf τ x1 x2)
def Sim_9 (S : St → Prop) : Prop := ∀ (σ : St) (x1 x2 : Int32), S σ → simI S (ok_L_lettersAgain σ x1 x2) (f_L_lettersAgain σ x1 x2) (fun τ => ok_X10_lettersAgain τ x1 x2) (fun τ => f_X10_lettersAgain τ x1 x2)
def Sim_10 (S : St → Prop) : Prop := ∀ (σ : St) (x1 : Int32), S σ → simI S (ok_L_ranked σ x1) (f_L_ranked σ x1) (fun τ => ok_X10_ranked τ x1) (fun τ => f_X10_ranked τ x1)
def Sim_11 (S : St → Prop) : Prop := ∀ (σ : St), S σ → simI S (ok_L_potato σ) (f_L_potato σ) (fun τ => ok_X10_potato τ) (fun τ => f_X10_potato τ)
def Sim_12 (S : St → Prop) : Prop := ∀ (σ : St) (x1 : Int32), S σ → simF S (ok_L_firmness σ x1) (f_L_firmness σ x1) (fun τ => ok_X10_firmness τ x1) (fun τ => f_X10_firmness τ x1)
def Sim_13 (S : St → Prop) : Prop := ∀ (σ : St) (x1 : Int32), S σ → simI S (ok_L_print σ x1) (f_L_print σ x1) (fun τ => ok_X10_print τ x1) (fun τ => f_X10_print τ x1)
def Sim_14 (S : St → Prop) : Prop := ∀ (σ : St) (x1 : Int32), S σ → simI S (ok_L_stampsOf σ x1) (f_L_stampsOf σ x1) (fun τ => ok_X10_stampsOf τ x1) (fun τ => f_X10_stampsOf τ x1)
def Sim_15 (S : St → Prop) : Prop := ∀ (σ : St), S σ → simI S (ok_L_best σ) (f_L_best σ) (fun τ => ok_X10_best τ) (fun τ => f_X10_best τ)
def Sim_16 (S : St → Prop) : Prop := ∀ (σ : St) (x1 : Int32), S σ → simI S (ok_L_ink σ x1) (f_L_ink σ x1) (fun τ => ok_X10_ink τ x1) (fun τ => f_X10_ink τ x1)
def Sim_17 (S : St → Prop) : Prop := ∀ (σ : St), S σ → simG S (f_X9_inkNow σ) (f_X10_inkNow σ)
def Sim_18 (S : St → Prop) : Prop := ∀ (σ : St) (x1 x2 : Int32), S σ → simI S (ok_L_stamp σ x1 x2) (f_L_stamp σ x1 x2) (fun τ => ok_X10_stamp τ x1 x2) (fun τ => f_X10_stamp τ x1 x2)
def Sim_19 (S : St → Prop) : Prop := ∀ (σ : St) (x1 x2 : Int32), S σ → simI S (ok_L_shelve σ x1 x2) (f_L_shelve σ x1 x2) (fun τ => ok_X10_shelve τ x1 x2) (fun τ => f_X10_shelve τ x1 x2)
def Sim_20 (S : St → Prop) : Prop := ∀ (σ : St) (x1 : Int32), S σ → simI S (ok_L_take σ x1) (f_L_take σ x1) (fun τ => ok_X10_take τ x1) (fun τ => f_X10_take τ x1)
def Sim_21 (S : St → Prop) : Prop := ∀ (σ : St) (x1 x2 x3 : Int32), S σ → simI S (ok_L_inHole σ x1 x2 x3) (f_L_inHole σ x1 x2 x3) (fun τ => ok_X10_inHole τ x1 x2 x3) (fun τ => f_X10_inHole τ x1 x2 x3)
def Sim_22 (S : St → Prop) : Prop := ∀ (σ : St) (x1 : Int32), S σ → simI S (ok_L_read σ x1) (f_L_read σ x1) (fun τ => ok_X10_read τ x1) (fun τ => f_X10_read τ x1)
def Sim_23 (S : St → Prop) : Prop := ∀ (σ : St) (x1 : Int32), S σ → simI S (ok_L_snacks σ x1) (f_L_snacks σ x1) (fun τ => ok_X10_snacks τ x1) (fun τ => f_X10_snacks τ x1)
def Sim_24 (S : St → Prop) : Prop := ∀ (σ : St) (x1 : Int32), S σ → simI S (ok_L_feed σ x1) (f_L_feed σ x1) (fun τ => ok_X10_feed τ x1) (fun τ => f_X10_feed τ x1)
def Sim_25 (S : St → Prop) : Prop := ∀ (σ : St), S σ → simG S (f_X9_hunger σ) (f_X10_hunger σ)
def Sim_26 (S : St → Prop) : Prop := ∀ (σ : St), S σ → simI S (ok_L_prey σ) (f_L_prey σ) (fun τ => ok_X10_prey τ) (fun τ => f_X10_prey τ)
def Sim_27 (S : St → Prop) : Prop := ∀ (σ : St), S σ → simI S (ok_L_eatsIn σ) (f_L_eatsIn σ) (fun τ => ok_X10_eatsIn τ) (fun τ => f_X10_eatsIn τ)
def Sim_28 (S : St → Prop) : Prop := ∀ (σ : St) (x1 : Int32), S σ → simI S (ok_L_pass σ x1) (f_L_pass σ x1) (fun τ => ok_X10_pass τ x1) (fun τ => f_X10_pass τ x1)
def Sim_29 (S : St → Prop) : Prop := ∀ (σ : St) (x1 : Int32), S σ → simI S (ok_L_sign σ x1) (f_L_sign σ x1) (fun τ => ok_X10_sign τ x1) (fun τ => f_X10_sign τ x1)
def Sim_30 (S : St → Prop) : Prop := ∀ (σ : St) (x1 : Int32), S σ → x1 = (x1.toUInt32 % 65536).toInt32 → simI S (ok_L_append σ x1) (f_L_append σ x1) (fun τ => ok_X10_append τ x1) (fun τ => f_X10_append τ x1)
def Sim_31 (S : St → Prop) : Prop := ∀ (σ : St), S σ → simI S (ok_L_run σ) (f_L_run σ) (fun τ => ok_X10_run τ) (fun τ => f_X10_run τ)
def Sim_32 (S : St → Prop) : Prop := ∀ (σ : St), S σ → (f_X9_errorPosition σ) = (f_X10_errorPosition σ).2 ∧ S (f_X10_errorPosition σ).1
def Sim_33 (S : St → Prop) : Prop := ∀ (σ : St) (x1 : Bool), S σ → simI S (ok_L_refusal σ x1) (f_L_refusal σ x1) (fun _ => True) (fun τ => f_X10_refusal τ x1)
def Sim_34 (S : St → Prop) : Prop := ∀ (σ : St) (x1 : Int32), S σ → simI S (ok_L_account σ x1) (f_L_account σ x1) (fun τ => ok_X10_account τ x1) (fun τ => f_X10_account τ x1)
def Sim_35 (S : St → Prop) : Prop := ∀ (σ : St), S σ → ok_X9_isWell σ ∧ ok_X10_isWell σ ∧ (f_X9_isWell σ) = (f_X10_isWell σ).2 ∧ S (f_X10_isWell σ).1
def Sim_36 (S : St → Prop) : Prop := ∀ (σ : St), S σ → simJ S (ok_L_meanBits σ) (f_L_meanBits σ) (fun τ => ok_X10_meanBits τ) (fun τ => f_X10_meanBits τ)
def Sim_37 (S : St → Prop) : Prop := ∀ (σ : St), S σ → simI S (ok_L_undo σ) (f_L_undo σ) (fun τ => ok_X10_undo τ) (fun τ => f_X10_undo τ)
def Sim_38 (S : St → Prop) : Prop := ∀ (σ : St), S σ → ok_X10_save (f_X9_save σ).1 ∧ (f_X9_save σ).2 = (f_X10_save (f_X9_save σ).1).2 ∧ S (f_X10_save (f_X9_save σ).1).1
def Sim_39 (S : St → Prop) : Prop := ∀ (σ : St), S σ → simI S (ok_L_restore σ) (f_L_restore σ) (fun τ => ok_X10_restore τ) (fun τ => f_X10_restore τ)
set_option maxHeartbeats 4000000 in
set_option maxRecDepth 100000 in
theorem lw_case_0 {p : Program} {l : Launch} {e : Env} {s : State} {m : MethodId} {below : List Frame} {meth : Method} {c : Code} {H : Heap} {locs : List Loc} {cells slots : Nat} {Q : State → Prop} {G : GE} {ls : Array Slot} {σ : St} {S : St → Prop} {b L i : Nat} {xs : Nat → Int32} (hfl : l.stackTraces = false) (X : Cx G p s m #[Value.ref b] c cL_law 10 RL) (hX : va_X b L xs s s.heap) (hbl : b < s.heap.size) (hbA : ¬ GA G b) (hi : i + 6 ≤ L) (hL : L ≤ 3072) (hT : Sim_0 S) (hσ : S σ) (hc2 : cells + 2 ≤ 603072) (hs2 : slots + 12 ≤ 7198826) (hP : va_P G.1 vcl (wl G σ) H) (hS : va_S (GA G) s.heap H locs) (hl : lv_has ls 10 [(0, .ref b), (1, .ref (G.2.1 0)), (2, .ref (G.2.1 196)), (3, .ref (G.2.1 208)), (4, .ref (G.2.1 209)), (5, .int (nI i))]) (kk : ∀ (σ : St), S σ → ∀ (H : Heap) (locs : List Loc), va_P G.1 vcl (wl G σ) H → va_S (GA G) s.heap H locs → ∀ (ls : Array Slot), lv_has ls 10 [(0, .ref b), (1, .ref (G.2.1 0)), (2, .ref (G.2.1 196)), (3, .ref (G.2.1 208)), (4, .ref (G.2.1 209)), (5, .int (nI i))] → W p l e room_1 s m #[Value.ref b] below meth c H locs (cells + 2) (slots + 12) Q (F0 m 2462 ls [])) : W p l e room_1 s m #[Value.ref b] below meth c H locs cells slots Q (F0 m 220 ls []) := by
  obtain ⟨hx, hb, hml, hown, hts, hK, hbs, hXW, hG⟩ := id X
  obtain ⟨h1, h2, h3, h4, h5⟩ := hT σ (xs (i + 1)) hσ
  refine lv_aload_n hx hb dL_law_220 rfl (lv_at hl 1 rfl) ?_
  refine lw_arg (j := 1) X hX hbl hbA hi hL hS (lv_at hl 0 rfl) (lv_at hl 5 rfl) (by decide) dL_law_221 dL_law_222 dL_law_224 dL_law_225 dL_law_226 ?_
  refine lv_aload_n hx hb dL_law_227 rfl (lv_at hl 3 rfl) ?_
  refine gl_ci (mc := 1) (ms := 6) (gl_run (As := [.ref (G.2.1 0), .int (xs (i + 1)), .ref (G.2.1 208)]) (rest := []) X (c_L_crayon l hfl G hG σ (xs (i + 1)) h1) ca_L_crayon km_L_141 rfl rfl ⟨Nat.le_of_ble_eq_true rfl, Nat.le_of_ble_eq_true rfl⟩ hP hS rfl hl.1 rfl (Nat.le_of_ble_eq_true rfl) ⟨by show cells + 1 ≤ 603072; omega, by show slots + 6 ≤ 7198826; omega⟩ dL_law_228) hS (fun q hq H locs hP hS => ?_)
  rw [← hq] at h2 h3 h4 h5
  dsimp only at h3 h4 h5
  refine lv_istore (lv' := [(6, .int q.2), (0, .ref b), (1, .ref (G.2.1 0)), (2, .ref (G.2.1 196)), (3, .ref (G.2.1 208)), (4, .ref (G.2.1 209)), (5, .int (nI i))]) hx hb dL_law_231 hl (by decide) rfl (fun ls hl => ?_)
  refine lv_aload_n hx hb dL_law_233 rfl (lv_at hl 3 rfl) ?_
  refine lw_arg (j := 1) X hX hbl hbA hi hL hS (lv_at hl 1 rfl) (lv_at hl 6 rfl) (by decide) dL_law_234 dL_law_235 dL_law_237 dL_law_238 dL_law_239 ?_
  refine g_cI (g_runV (i := 196) (As := [.int (xs (i + 1))]) (rest := []) X (c_X10_crayon l G hG q.1 (xs (i + 1)) h2) ca_X10_crayon km_L_146 rfl rfl ⟨Nat.le_of_ble_eq_true rfl, Nat.le_of_ble_eq_true rfl⟩ hP hS (ty_lt ab_196) (cell_10 ab_196) rfl rfl rfl hl.1 rfl (Nat.le_of_ble_eq_true rfl) ⟨by show cells + 1 + 0 ≤ 603072; omega, by show slots + 6 + 0 ≤ 7198826; omega⟩ dL_law_240) hS (fun r hr H locs hP hS => ?_)
  rw [← hr] at h3 h4 h5
  refine lv_istore (lv' := [(7, .int r.2), (6, .int q.2), (0, .ref b), (1, .ref (G.2.1 0)), (2, .ref (G.2.1 196)), (3, .ref (G.2.1 208)), (4, .ref (G.2.1 209)), (5, .int (nI i))]) hx hb dL_law_243 hl (by decide) rfl (fun ls hl => ?_)
  refine lv_aload_n hx hb dL_law_245 rfl (lv_at hl 4 rfl) ?_
  refine g_cIp (g_runV (i := 196) (As := []) (rest := []) X (c_X10_thrown l G hG r.1) ca_X10_thrown km_L_147 rfl rfl ⟨Nat.le_of_ble_eq_true rfl, Nat.le_of_ble_eq_true rfl⟩ hP hS (ty_lt ab_196) (cell_10 ab_196) rfl rfl rfl hl.1 rfl (Nat.le_of_ble_eq_true rfl) ⟨by show cells + 1 + 0 ≤ 603072; omega, by show slots + 6 + 0 ≤ 7198826; omega⟩ dL_law_246) hS (fun H locs hP hS => ?_)
  refine lv_iload hx hb dL_law_249 (lv_at hl 1 rfl) ?_
  refine lv_icmp_eq (tgt := 256) hx hb dL_law_251 (by decide) (fun _ => ?_) (fun hc => absurd h3 hc)
  refine lv_iload hx hb dL_law_256 (lv_at hl 1 rfl) ?_
  refine lv_if_ne (tgt := 273) hx hb dL_law_258 (by decide) (fun _ => ?_) (fun hc => ?_)
  · refine lv_goto (tgt := 2462) hx hb dL_law_273 (by decide) ?_
    refine W.widen (k := cells + 2) (n := slots + 12) (by omega) (by omega) ?_
    exact kk r.1 h5 H locs hP hS ls (lv_sub hl [2, 3, 4, 5, 6, 7] rfl)
  · have h41 := h4 hc
    refine lv_aload_n hx hb dL_law_261 rfl (lv_at hl 5 rfl) ?_
    refine lv_iconst (v := 0) hx hb dL_law_262 (by decide) ?_
    refine gl_lald X hP ab_208 (by rw [al_208]; unfold vp_in; decide) dL_law_263 ?_
    refine lv_iload hx hb dL_law_264 (lv_at hl 0 rfl) ?_
    refine lv_i2l (v := (r.2).toInt64) hx hb dL_law_266 rfl ?_
    refine W.lcmp hx hb dL_law_267 ?_
    rw [show (0 : Int32).toNatClampNeg = 0 from rfl, h41, lg_cmp_self]
    refine lv_if_eq (tgt := 273) hx hb dL_law_268 (by decide) (fun _ => ?_) (fun hc => absurd rfl hc)
    refine lv_goto (tgt := 2462) hx hb dL_law_273 (by decide) ?_
    refine W.widen (k := cells + 2) (n := slots + 12) (by omega) (by omega) ?_
    exact kk r.1 h5 H locs hP hS ls (lv_sub hl [2, 3, 4, 5, 6, 7] rfl)
set_option maxHeartbeats 4000000 in
set_option maxRecDepth 100000 in
theorem lw_case_1 {p : Program} {l : Launch} {e : Env} {s : State} {m : MethodId} {below : List Frame} {meth : Method} {c : Code} {H : Heap} {locs : List Loc} {cells slots : Nat} {Q : State → Prop} {G : GE} {ls : Array Slot} {σ : St} {S : St → Prop} {b L i : Nat} {xs : Nat → Int32} (hfl : l.stackTraces = false) (X : Cx G p s m #[Value.ref b] c cL_law 10 RL) (hX : va_X b L xs s s.heap) (hbl : b < s.heap.size) (hbA : ¬ GA G b) (hi : i + 6 ≤ L) (hL : L ≤ 3072) (hT : Sim_1 S) (hσ : S σ) (hc2 : cells + 2 ≤ 603072) (hs2 : slots + 12 ≤ 7198826) (hP : va_P G.1 vcl (wl G σ) H) (hS : va_S (GA G) s.heap H locs) (hl : lv_has ls 10 [(0, .ref b), (1, .ref (G.2.1 0)), (2, .ref (G.2.1 196)), (3, .ref (G.2.1 208)), (4, .ref (G.2.1 209)), (5, .int (nI i))]) (kk : ∀ (σ : St), S σ → ∀ (H : Heap) (locs : List Loc), va_P G.1 vcl (wl G σ) H → va_S (GA G) s.heap H locs → ∀ (ls : Array Slot), lv_has ls 10 [(0, .ref b), (1, .ref (G.2.1 0)), (2, .ref (G.2.1 196)), (3, .ref (G.2.1 208)), (4, .ref (G.2.1 209)), (5, .int (nI i))] → W p l e room_1 s m #[Value.ref b] below meth c H locs (cells + 2) (slots + 12) Q (F0 m 2462 ls [])) : W p l e room_1 s m #[Value.ref b] below meth c H locs cells slots Q (F0 m 276 ls []) := by
  obtain ⟨hx, hb, hml, hown, hts, hK, hbs, hXW, hG⟩ := id X
  obtain ⟨h1, h2, h3, h4, h5⟩ := hT σ (xs (i + 1)) hσ
  refine lv_aload_n hx hb dL_law_276 rfl (lv_at hl 1 rfl) ?_
  refine lw_arg (j := 1) X hX hbl hbA hi hL hS (lv_at hl 0 rfl) (lv_at hl 5 rfl) (by decide) dL_law_277 dL_law_278 dL_law_280 dL_law_281 dL_law_282 ?_
  refine lv_aload hx hb dL_law_283 (lv_at hl 4 rfl) ?_
  refine gl_ci (mc := 1) (ms := 6) (gl_run (As := [.ref (G.2.1 0), .int (xs (i + 1)), .ref (G.2.1 209)]) (rest := []) X (c_L_crayonOf l hfl G hG σ (xs (i + 1)) h1) ca_L_crayonOf km_L_150 rfl rfl ⟨Nat.le_of_ble_eq_true rfl, Nat.le_of_ble_eq_true rfl⟩ hP hS rfl hl.1 rfl (Nat.le_of_ble_eq_true rfl) ⟨by show cells + 1 ≤ 603072; omega, by show slots + 6 ≤ 7198826; omega⟩ dL_law_285) hS (fun q hq H locs hP hS => ?_)
  rw [← hq] at h2 h3 h4 h5
  dsimp only at h3 h4 h5
  refine lv_istore (lv' := [(6, .int q.2), (0, .ref b), (1, .ref (G.2.1 0)), (2, .ref (G.2.1 196)), (3, .ref (G.2.1 208)), (4, .ref (G.2.1 209)), (5, .int (nI i))]) hx hb dL_law_288 hl (by decide) rfl (fun ls hl => ?_)
  refine lv_aload_n hx hb dL_law_290 rfl (lv_at hl 3 rfl) ?_
  refine lw_arg (j := 1) X hX hbl hbA hi hL hS (lv_at hl 1 rfl) (lv_at hl 6 rfl) (by decide) dL_law_291 dL_law_292 dL_law_294 dL_law_295 dL_law_296 ?_
  refine g_cF (g_runV (i := 196) (As := [.int (xs (i + 1))]) (rest := []) X (c_X10_crayonOf l G hG q.1 (xs (i + 1)) h2) ca_X10_crayonOf km_L_153 rfl rfl ⟨Nat.le_of_ble_eq_true rfl, Nat.le_of_ble_eq_true rfl⟩ hP hS (ty_lt ab_196) (cell_10 ab_196) rfl rfl rfl hl.1 rfl (Nat.le_of_ble_eq_true rfl) ⟨by show cells + 1 + 0 ≤ 603072; omega, by show slots + 6 + 0 ≤ 7198826; omega⟩ dL_law_297) hS (fun r hr H locs hP hS => ?_)
  rw [← hr] at h3 h4 h5
  refine lv_fstore (lv' := [(7, .float r.2), (6, .int q.2), (0, .ref b), (1, .ref (G.2.1 0)), (2, .ref (G.2.1 196)), (3, .ref (G.2.1 208)), (4, .ref (G.2.1 209)), (5, .int (nI i))]) hx hb dL_law_300 hl (by decide) rfl (fun ls hl => ?_)
  refine lv_aload_n hx hb dL_law_302 rfl (lv_at hl 4 rfl) ?_
  refine g_cIp (g_runV (i := 196) (As := []) (rest := []) X (c_X10_thrown l G hG r.1) ca_X10_thrown km_L_147 rfl rfl ⟨Nat.le_of_ble_eq_true rfl, Nat.le_of_ble_eq_true rfl⟩ hP hS (ty_lt ab_196) (cell_10 ab_196) rfl rfl rfl hl.1 rfl (Nat.le_of_ble_eq_true rfl) ⟨by show cells + 1 + 0 ≤ 603072; omega, by show slots + 6 + 0 ≤ 7198826; omega⟩ dL_law_303) hS (fun H locs hP hS => ?_)
  refine lv_iload hx hb dL_law_306 (lv_at hl 1 rfl) ?_
  refine lv_icmp_eq (tgt := 313) hx hb dL_law_308 (by decide) (fun _ => ?_) (fun hc => absurd h3 hc)
  refine lv_iload hx hb dL_law_313 (lv_at hl 1 rfl) ?_
  refine lv_if_ne (tgt := 351) hx hb dL_law_315 (by decide) (fun _ => ?_) (fun hc => ?_)
  · refine lv_goto (tgt := 2462) hx hb dL_law_351 (by decide) ?_
    refine W.widen (k := cells + 2) (n := slots + 12) (by omega) (by omega) ?_
    exact kk r.1 h5 H locs hP hS ls (lv_sub hl [2, 3, 4, 5, 6, 7] rfl)
  · obtain ⟨h41, h42, h43⟩ := h4 hc
    refine lv_aload hx hb dL_law_318 (lv_at hl 6 rfl) ?_
    refine lv_iconst (v := 0) hx hb dL_law_320 (by decide) ?_
    refine gl_dald X hP ab_209 (by rw [al_209]; unfold vp_in; decide) dL_law_321 ?_
    refine lv_fload hx hb dL_law_322 (lv_at hl 0 rfl) ?_
    refine lv_f2d hx hb dL_law_324 h42 ?_
    refine lv_dcmp hx hb dL_law_325 ?_
    rw [show (0 : Int32).toNatClampNeg = 0 from rfl, h41, h43]
    refine lv_if_eq (tgt := 351) hx hb dL_law_326 (by decide) (fun _ => ?_) (fun hc => absurd rfl hc)
    refine lv_goto (tgt := 2462) hx hb dL_law_351 (by decide) ?_
    refine W.widen (k := cells + 2) (n := slots + 12) (by omega) (by omega) ?_
    exact kk r.1 h5 H locs hP hS ls (lv_sub hl [2, 3, 4, 5, 6, 7] rfl)
set_option maxHeartbeats 4000000 in
set_option maxRecDepth 100000 in
theorem lw_case_2 {p : Program} {l : Launch} {e : Env} {s : State} {m : MethodId} {below : List Frame} {meth : Method} {c : Code} {H : Heap} {locs : List Loc} {cells slots : Nat} {Q : State → Prop} {G : GE} {ls : Array Slot} {σ : St} {S : St → Prop} {b L i : Nat} {xs : Nat → Int32} (hfl : l.stackTraces = false) (X : Cx G p s m #[Value.ref b] c cL_law 10 RL) (hX : va_X b L xs s s.heap) (hbl : b < s.heap.size) (hbA : ¬ GA G b) (hi : i + 6 ≤ L) (hL : L ≤ 3072) (hT : Sim_2 S) (hσ : S σ) (hc2 : cells + 2 ≤ 603072) (hs2 : slots + 12 ≤ 7198826) (hP : va_P G.1 vcl (wl G σ) H) (hS : va_S (GA G) s.heap H locs) (hl : lv_has ls 10 [(0, .ref b), (1, .ref (G.2.1 0)), (2, .ref (G.2.1 196)), (3, .ref (G.2.1 208)), (4, .ref (G.2.1 209)), (5, .int (nI i))]) (kk : ∀ (σ : St), S σ → ∀ (H : Heap) (locs : List Loc), va_P G.1 vcl (wl G σ) H → va_S (GA G) s.heap H locs → ∀ (ls : Array Slot), lv_has ls 10 [(0, .ref b), (1, .ref (G.2.1 0)), (2, .ref (G.2.1 196)), (3, .ref (G.2.1 208)), (4, .ref (G.2.1 209)), (5, .int (nI i))] → W p l e room_1 s m #[Value.ref b] below meth c H locs (cells + 2) (slots + 12) Q (F0 m 2462 ls [])) : W p l e room_1 s m #[Value.ref b] below meth c H locs cells slots Q (F0 m 354 ls []) := by
  obtain ⟨hx, hb, hml, hown, hts, hK, hbs, hXW, hG⟩ := id X
  obtain ⟨h1, h2, h3, h4, h5⟩ := hT σ (xs (i + 1)) (xs (i + 2)) (xs (i + 3)) (xs (i + 4)) hσ
  refine lv_aload_n hx hb dL_law_354 rfl (lv_at hl 1 rfl) ?_
  refine lw_arg (j := 1) X hX hbl hbA hi hL hS (lv_at hl 0 rfl) (lv_at hl 5 rfl) (by decide) dL_law_355 dL_law_356 dL_law_358 dL_law_359 dL_law_360 ?_
  refine lw_arg (j := 2) X hX hbl hbA hi hL hS (lv_at hl 0 rfl) (lv_at hl 5 rfl) (by decide) dL_law_361 dL_law_362 dL_law_364 dL_law_365 dL_law_366 ?_
  refine lw_arg (j := 3) X hX hbl hbA hi hL hS (lv_at hl 0 rfl) (lv_at hl 5 rfl) (by decide) dL_law_367 dL_law_368 dL_law_370 dL_law_371 dL_law_372 ?_
  refine lw_arg (j := 4) X hX hbl hbA hi hL hS (lv_at hl 0 rfl) (lv_at hl 5 rfl) (by decide) dL_law_373 dL_law_374 dL_law_376 dL_law_377 dL_law_378 ?_
  refine lv_aload_n hx hb dL_law_379 rfl (lv_at hl 3 rfl) ?_
  refine gl_ci (mc := 1) (ms := 6) (gl_run (As := [.ref (G.2.1 0), .int (xs (i + 1)), .int (xs (i + 2)), .int (xs (i + 3)), .int (xs (i + 4)), .ref (G.2.1 208)]) (rest := []) X (c_L_letter l hfl G hG σ (xs (i + 1)) (xs (i + 2)) (xs (i + 3)) (xs (i + 4)) h1) ca_L_letter km_L_154 rfl rfl ⟨Nat.le_of_ble_eq_true rfl, Nat.le_of_ble_eq_true rfl⟩ hP hS rfl hl.1 rfl (Nat.le_of_ble_eq_true rfl) ⟨by show cells + 1 ≤ 603072; omega, by show slots + 6 ≤ 7198826; omega⟩ dL_law_380) hS (fun q hq H locs hP hS => ?_)
  rw [← hq] at h2 h3 h4 h5
  dsimp only at h3 h4 h5
  refine lv_istore (lv' := [(6, .int q.2), (0, .ref b), (1, .ref (G.2.1 0)), (2, .ref (G.2.1 196)), (3, .ref (G.2.1 208)), (4, .ref (G.2.1 209)), (5, .int (nI i))]) hx hb dL_law_383 hl (by decide) rfl (fun ls hl => ?_)
  refine lv_aload_n hx hb dL_law_385 rfl (lv_at hl 3 rfl) ?_
  refine lw_arg (j := 1) X hX hbl hbA hi hL hS (lv_at hl 1 rfl) (lv_at hl 6 rfl) (by decide) dL_law_386 dL_law_387 dL_law_389 dL_law_390 dL_law_391 ?_
  refine lw_arg (j := 2) X hX hbl hbA hi hL hS (lv_at hl 1 rfl) (lv_at hl 6 rfl) (by decide) dL_law_392 dL_law_393 dL_law_395 dL_law_396 dL_law_397 ?_
  refine lw_arg (j := 3) X hX hbl hbA hi hL hS (lv_at hl 1 rfl) (lv_at hl 6 rfl) (by decide) dL_law_398 dL_law_399 dL_law_401 dL_law_402 dL_law_403 ?_
  refine lw_arg (j := 4) X hX hbl hbA hi hL hS (lv_at hl 1 rfl) (lv_at hl 6 rfl) (by decide) dL_law_404 dL_law_405 dL_law_407 dL_law_408 dL_law_409 ?_
  refine g_cI (g_runV (i := 196) (As := [.int (xs (i + 1)), .int (xs (i + 2)), .int (xs (i + 3)), .int (xs (i + 4))]) (rest := []) X (c_X10_letter l G hG q.1 (xs (i + 1)) (xs (i + 2)) (xs (i + 3)) (xs (i + 4)) h2) ca_X10_letter km_L_157 rfl rfl ⟨Nat.le_of_ble_eq_true rfl, Nat.le_of_ble_eq_true rfl⟩ hP hS (ty_lt ab_196) (cell_10 ab_196) rfl rfl rfl hl.1 rfl (Nat.le_of_ble_eq_true rfl) ⟨by show cells + 1 + 0 ≤ 603072; omega, by show slots + 6 + 0 ≤ 7198826; omega⟩ dL_law_410) hS (fun r hr H locs hP hS => ?_)
  rw [← hr] at h3 h4 h5
  refine lv_istore (lv' := [(7, .int r.2), (6, .int q.2), (0, .ref b), (1, .ref (G.2.1 0)), (2, .ref (G.2.1 196)), (3, .ref (G.2.1 208)), (4, .ref (G.2.1 209)), (5, .int (nI i))]) hx hb dL_law_413 hl (by decide) rfl (fun ls hl => ?_)
  refine lv_aload_n hx hb dL_law_415 rfl (lv_at hl 4 rfl) ?_
  refine g_cIp (g_runV (i := 196) (As := []) (rest := []) X (c_X10_thrown l G hG r.1) ca_X10_thrown km_L_147 rfl rfl ⟨Nat.le_of_ble_eq_true rfl, Nat.le_of_ble_eq_true rfl⟩ hP hS (ty_lt ab_196) (cell_10 ab_196) rfl rfl rfl hl.1 rfl (Nat.le_of_ble_eq_true rfl) ⟨by show cells + 1 + 0 ≤ 603072; omega, by show slots + 6 + 0 ≤ 7198826; omega⟩ dL_law_416) hS (fun H locs hP hS => ?_)
  refine lv_iload hx hb dL_law_419 (lv_at hl 1 rfl) ?_
  refine lv_icmp_eq (tgt := 426) hx hb dL_law_421 (by decide) (fun _ => ?_) (fun hc => absurd h3 hc)
  refine lv_iload hx hb dL_law_426 (lv_at hl 1 rfl) ?_
  refine lv_if_ne (tgt := 443) hx hb dL_law_428 (by decide) (fun _ => ?_) (fun hc => ?_)
  · refine lv_goto (tgt := 2462) hx hb dL_law_443 (by decide) ?_
    refine W.widen (k := cells + 2) (n := slots + 12) (by omega) (by omega) ?_
    exact kk r.1 h5 H locs hP hS ls (lv_sub hl [2, 3, 4, 5, 6, 7] rfl)
  · have h41 := h4 hc
    refine lv_aload_n hx hb dL_law_431 rfl (lv_at hl 5 rfl) ?_
    refine lv_iconst (v := 0) hx hb dL_law_432 (by decide) ?_
    refine gl_lald X hP ab_208 (by rw [al_208]; unfold vp_in; decide) dL_law_433 ?_
    refine lv_iload hx hb dL_law_434 (lv_at hl 0 rfl) ?_
    refine lv_i2l (v := (r.2).toInt64) hx hb dL_law_436 rfl ?_
    refine W.lcmp hx hb dL_law_437 ?_
    rw [show (0 : Int32).toNatClampNeg = 0 from rfl, h41, lg_cmp_self]
    refine lv_if_eq (tgt := 443) hx hb dL_law_438 (by decide) (fun _ => ?_) (fun hc => absurd rfl hc)
    refine lv_goto (tgt := 2462) hx hb dL_law_443 (by decide) ?_
    refine W.widen (k := cells + 2) (n := slots + 12) (by omega) (by omega) ?_
    exact kk r.1 h5 H locs hP hS ls (lv_sub hl [2, 3, 4, 5, 6, 7] rfl)
set_option maxHeartbeats 4000000 in
set_option maxRecDepth 100000 in
theorem lw_case_3 {p : Program} {l : Launch} {e : Env} {s : State} {m : MethodId} {below : List Frame} {meth : Method} {c : Code} {H : Heap} {locs : List Loc} {cells slots : Nat} {Q : State → Prop} {G : GE} {ls : Array Slot} {σ : St} {S : St → Prop} {b L i : Nat} {xs : Nat → Int32} (hfl : l.stackTraces = false) (X : Cx G p s m #[Value.ref b] c cL_law 10 RL) (hX : va_X b L xs s s.heap) (hbl : b < s.heap.size) (hbA : ¬ GA G b) (hi : i + 6 ≤ L) (hL : L ≤ 3072) (hT : Sim_3 S) (hσ : S σ) (hc2 : cells + 2 ≤ 603072) (hs2 : slots + 12 ≤ 7198826) (hP : va_P G.1 vcl (wl G σ) H) (hS : va_S (GA G) s.heap H locs) (hl : lv_has ls 10 [(0, .ref b), (1, .ref (G.2.1 0)), (2, .ref (G.2.1 196)), (3, .ref (G.2.1 208)), (4, .ref (G.2.1 209)), (5, .int (nI i))]) (kk : ∀ (σ : St), S σ → ∀ (H : Heap) (locs : List Loc), va_P G.1 vcl (wl G σ) H → va_S (GA G) s.heap H locs → ∀ (ls : Array Slot), lv_has ls 10 [(0, .ref b), (1, .ref (G.2.1 0)), (2, .ref (G.2.1 196)), (3, .ref (G.2.1 208)), (4, .ref (G.2.1 209)), (5, .int (nI i))] → W p l e room_1 s m #[Value.ref b] below meth c H locs (cells + 2) (slots + 12) Q (F0 m 2462 ls [])) : W p l e room_1 s m #[Value.ref b] below meth c H locs cells slots Q (F0 m 446 ls []) := by
  obtain ⟨hx, hb, hml, hown, hts, hK, hbs, hXW, hG⟩ := id X
  obtain ⟨h1, h2, h3, h4, h5⟩ := hT σ (xs (i + 1)) (xs (i + 2)) (xs (i + 3)) (xs (i + 4)) (xs (i + 5)) hσ
  refine lv_aload_n hx hb dL_law_446 rfl (lv_at hl 1 rfl) ?_
  refine lw_arg (j := 1) X hX hbl hbA hi hL hS (lv_at hl 0 rfl) (lv_at hl 5 rfl) (by decide) dL_law_447 dL_law_448 dL_law_450 dL_law_451 dL_law_452 ?_
  refine lw_arg (j := 2) X hX hbl hbA hi hL hS (lv_at hl 0 rfl) (lv_at hl 5 rfl) (by decide) dL_law_453 dL_law_454 dL_law_456 dL_law_457 dL_law_458 ?_
  refine lw_arg (j := 3) X hX hbl hbA hi hL hS (lv_at hl 0 rfl) (lv_at hl 5 rfl) (by decide) dL_law_459 dL_law_460 dL_law_462 dL_law_463 dL_law_464 ?_
  refine lw_arg (j := 4) X hX hbl hbA hi hL hS (lv_at hl 0 rfl) (lv_at hl 5 rfl) (by decide) dL_law_465 dL_law_466 dL_law_468 dL_law_469 dL_law_470 ?_
  refine lw_arg (j := 5) X hX hbl hbA hi hL hS (lv_at hl 0 rfl) (lv_at hl 5 rfl) (by decide) dL_law_471 dL_law_472 dL_law_474 dL_law_475 dL_law_476 ?_
  refine lv_aload_n hx hb dL_law_477 rfl (lv_at hl 3 rfl) ?_
  refine gl_ci (mc := 1) (ms := 6) (gl_run (As := [.ref (G.2.1 0), .int (xs (i + 1)), .int (xs (i + 2)), .int (xs (i + 3)), .int (xs (i + 4)), .int (xs (i + 5)), .ref (G.2.1 208)]) (rest := []) X (c_L_parcel l hfl G hG σ (xs (i + 1)) (xs (i + 2)) (xs (i + 3)) (xs (i + 4)) (xs (i + 5)) h1) ca_L_parcel km_L_158 rfl rfl ⟨Nat.le_of_ble_eq_true rfl, Nat.le_of_ble_eq_true rfl⟩ hP hS rfl hl.1 rfl (Nat.le_of_ble_eq_true rfl) ⟨by show cells + 1 ≤ 603072; omega, by show slots + 6 ≤ 7198826; omega⟩ dL_law_478) hS (fun q hq H locs hP hS => ?_)
  rw [← hq] at h2 h3 h4 h5
  dsimp only at h3 h4 h5
  refine lv_istore (lv' := [(6, .int q.2), (0, .ref b), (1, .ref (G.2.1 0)), (2, .ref (G.2.1 196)), (3, .ref (G.2.1 208)), (4, .ref (G.2.1 209)), (5, .int (nI i))]) hx hb dL_law_481 hl (by decide) rfl (fun ls hl => ?_)
  refine lv_aload_n hx hb dL_law_483 rfl (lv_at hl 3 rfl) ?_
  refine lw_arg (j := 1) X hX hbl hbA hi hL hS (lv_at hl 1 rfl) (lv_at hl 6 rfl) (by decide) dL_law_484 dL_law_485 dL_law_487 dL_law_488 dL_law_489 ?_
  refine lw_arg (j := 2) X hX hbl hbA hi hL hS (lv_at hl 1 rfl) (lv_at hl 6 rfl) (by decide) dL_law_490 dL_law_491 dL_law_493 dL_law_494 dL_law_495 ?_
  refine lw_arg (j := 3) X hX hbl hbA hi hL hS (lv_at hl 1 rfl) (lv_at hl 6 rfl) (by decide) dL_law_496 dL_law_497 dL_law_499 dL_law_500 dL_law_501 ?_
  refine lw_arg (j := 4) X hX hbl hbA hi hL hS (lv_at hl 1 rfl) (lv_at hl 6 rfl) (by decide) dL_law_502 dL_law_503 dL_law_505 dL_law_506 dL_law_507 ?_
  refine lw_arg (j := 5) X hX hbl hbA hi hL hS (lv_at hl 1 rfl) (lv_at hl 6 rfl) (by decide) dL_law_508 dL_law_509 dL_law_511 dL_law_512 dL_law_513 ?_
  refine g_cI (g_runV (i := 196) (As := [.int (xs (i + 1)), .int (xs (i + 2)), .int (xs (i + 3)), .int (xs (i + 4)), .int (xs (i + 5))]) (rest := []) X (c_X10_parcel l G hG q.1 (xs (i + 1)) (xs (i + 2)) (xs (i + 3)) (xs (i + 4)) (xs (i + 5)) h2) ca_X10_parcel km_L_161 rfl rfl ⟨Nat.le_of_ble_eq_true rfl, Nat.le_of_ble_eq_true rfl⟩ hP hS (ty_lt ab_196) (cell_10 ab_196) rfl rfl rfl hl.1 rfl (Nat.le_of_ble_eq_true rfl) ⟨by show cells + 1 + 0 ≤ 603072; omega, by show slots + 6 + 0 ≤ 7198826; omega⟩ dL_law_514) hS (fun r hr H locs hP hS => ?_)
  rw [← hr] at h3 h4 h5
  refine lv_istore (lv' := [(7, .int r.2), (6, .int q.2), (0, .ref b), (1, .ref (G.2.1 0)), (2, .ref (G.2.1 196)), (3, .ref (G.2.1 208)), (4, .ref (G.2.1 209)), (5, .int (nI i))]) hx hb dL_law_517 hl (by decide) rfl (fun ls hl => ?_)
  refine lv_aload_n hx hb dL_law_519 rfl (lv_at hl 4 rfl) ?_
  refine g_cIp (g_runV (i := 196) (As := []) (rest := []) X (c_X10_thrown l G hG r.1) ca_X10_thrown km_L_147 rfl rfl ⟨Nat.le_of_ble_eq_true rfl, Nat.le_of_ble_eq_true rfl⟩ hP hS (ty_lt ab_196) (cell_10 ab_196) rfl rfl rfl hl.1 rfl (Nat.le_of_ble_eq_true rfl) ⟨by show cells + 1 + 0 ≤ 603072; omega, by show slots + 6 + 0 ≤ 7198826; omega⟩ dL_law_520) hS (fun H locs hP hS => ?_)
  refine lv_iload hx hb dL_law_523 (lv_at hl 1 rfl) ?_
  refine lv_icmp_eq (tgt := 530) hx hb dL_law_525 (by decide) (fun _ => ?_) (fun hc => absurd h3 hc)
  refine lv_iload hx hb dL_law_530 (lv_at hl 1 rfl) ?_
  refine lv_if_ne (tgt := 547) hx hb dL_law_532 (by decide) (fun _ => ?_) (fun hc => ?_)
  · refine lv_goto (tgt := 2462) hx hb dL_law_547 (by decide) ?_
    refine W.widen (k := cells + 2) (n := slots + 12) (by omega) (by omega) ?_
    exact kk r.1 h5 H locs hP hS ls (lv_sub hl [2, 3, 4, 5, 6, 7] rfl)
  · have h41 := h4 hc
    refine lv_aload_n hx hb dL_law_535 rfl (lv_at hl 5 rfl) ?_
    refine lv_iconst (v := 0) hx hb dL_law_536 (by decide) ?_
    refine gl_lald X hP ab_208 (by rw [al_208]; unfold vp_in; decide) dL_law_537 ?_
    refine lv_iload hx hb dL_law_538 (lv_at hl 0 rfl) ?_
    refine lv_i2l (v := (r.2).toInt64) hx hb dL_law_540 rfl ?_
    refine W.lcmp hx hb dL_law_541 ?_
    rw [show (0 : Int32).toNatClampNeg = 0 from rfl, h41, lg_cmp_self]
    refine lv_if_eq (tgt := 547) hx hb dL_law_542 (by decide) (fun _ => ?_) (fun hc => absurd rfl hc)
    refine lv_goto (tgt := 2462) hx hb dL_law_547 (by decide) ?_
    refine W.widen (k := cells + 2) (n := slots + 12) (by omega) (by omega) ?_
    exact kk r.1 h5 H locs hP hS ls (lv_sub hl [2, 3, 4, 5, 6, 7] rfl)
set_option maxHeartbeats 4000000 in
set_option maxRecDepth 100000 in
theorem lw_case_4 {p : Program} {l : Launch} {e : Env} {s : State} {m : MethodId} {below : List Frame} {meth : Method} {c : Code} {H : Heap} {locs : List Loc} {cells slots : Nat} {Q : State → Prop} {G : GE} {ls : Array Slot} {σ : St} {S : St → Prop} {b L i : Nat} {xs : Nat → Int32} (hfl : l.stackTraces = false) (X : Cx G p s m #[Value.ref b] c cL_law 10 RL) (hX : va_X b L xs s s.heap) (hbl : b < s.heap.size) (hbA : ¬ GA G b) (hi : i + 6 ≤ L) (hL : L ≤ 3072) (hT : Sim_4 S) (hσ : S σ) (hc2 : cells + 2 ≤ 603072) (hs2 : slots + 12 ≤ 7198826) (hP : va_P G.1 vcl (wl G σ) H) (hS : va_S (GA G) s.heap H locs) (hl : lv_has ls 10 [(0, .ref b), (1, .ref (G.2.1 0)), (2, .ref (G.2.1 196)), (3, .ref (G.2.1 208)), (4, .ref (G.2.1 209)), (5, .int (nI i))]) (kk : ∀ (σ : St), S σ → ∀ (H : Heap) (locs : List Loc), va_P G.1 vcl (wl G σ) H → va_S (GA G) s.heap H locs → ∀ (ls : Array Slot), lv_has ls 10 [(0, .ref b), (1, .ref (G.2.1 0)), (2, .ref (G.2.1 196)), (3, .ref (G.2.1 208)), (4, .ref (G.2.1 209)), (5, .int (nI i))] → W p l e room_1 s m #[Value.ref b] below meth c H locs (cells + 2) (slots + 12) Q (F0 m 2462 ls [])) : W p l e room_1 s m #[Value.ref b] below meth c H locs cells slots Q (F0 m 550 ls []) := by
  obtain ⟨hx, hb, hml, hown, hts, hK, hbs, hXW, hG⟩ := id X
  obtain ⟨h1, h2, h3, h4, h5⟩ := hT σ (xs (i + 1)) (xs (i + 2)) hσ
  refine lv_aload_n hx hb dL_law_550 rfl (lv_at hl 1 rfl) ?_
  refine lw_arg (j := 1) X hX hbl hbA hi hL hS (lv_at hl 0 rfl) (lv_at hl 5 rfl) (by decide) dL_law_551 dL_law_552 dL_law_554 dL_law_555 dL_law_556 ?_
  refine lw_arg (j := 2) X hX hbl hbA hi hL hS (lv_at hl 0 rfl) (lv_at hl 5 rfl) (by decide) dL_law_557 dL_law_558 dL_law_560 dL_law_561 dL_law_562 ?_
  refine lv_aload_n hx hb dL_law_563 rfl (lv_at hl 3 rfl) ?_
  refine gl_ci (mc := 2) (ms := 12) (gl_run (As := [.ref (G.2.1 0), .int (xs (i + 1)), .int (xs (i + 2)), .ref (G.2.1 208)]) (rest := []) X (c_L_itemOf l hfl G hG σ (xs (i + 1)) (xs (i + 2)) h1) ca_L_itemOf km_L_162 rfl rfl ⟨Nat.le_of_ble_eq_true rfl, Nat.le_of_ble_eq_true rfl⟩ hP hS rfl hl.1 rfl (Nat.le_of_ble_eq_true rfl) ⟨by show cells + 2 ≤ 603072; omega, by show slots + 12 ≤ 7198826; omega⟩ dL_law_564) hS (fun q hq H locs hP hS => ?_)
  rw [← hq] at h2 h3 h4 h5
  dsimp only at h3 h4 h5
  refine lv_istore (lv' := [(6, .int q.2), (0, .ref b), (1, .ref (G.2.1 0)), (2, .ref (G.2.1 196)), (3, .ref (G.2.1 208)), (4, .ref (G.2.1 209)), (5, .int (nI i))]) hx hb dL_law_567 hl (by decide) rfl (fun ls hl => ?_)
  refine lv_aload_n hx hb dL_law_569 rfl (lv_at hl 3 rfl) ?_
  refine lw_arg (j := 1) X hX hbl hbA hi hL hS (lv_at hl 1 rfl) (lv_at hl 6 rfl) (by decide) dL_law_570 dL_law_571 dL_law_573 dL_law_574 dL_law_575 ?_
  refine lw_arg (j := 2) X hX hbl hbA hi hL hS (lv_at hl 1 rfl) (lv_at hl 6 rfl) (by decide) dL_law_576 dL_law_577 dL_law_579 dL_law_580 dL_law_581 ?_
  refine g_cI (g_runV (i := 196) (As := [.int (xs (i + 1)), .int (xs (i + 2))]) (rest := []) X (c_X10_itemOf l G hG q.1 (xs (i + 1)) (xs (i + 2)) h2) ca_X10_itemOf km_L_165 rfl rfl ⟨Nat.le_of_ble_eq_true rfl, Nat.le_of_ble_eq_true rfl⟩ hP hS (ty_lt ab_196) (cell_10 ab_196) rfl rfl rfl hl.1 rfl (Nat.le_of_ble_eq_true rfl) ⟨by show cells + 2 + 0 ≤ 603072; omega, by show slots + 12 + 0 ≤ 7198826; omega⟩ dL_law_582) hS (fun r hr H locs hP hS => ?_)
  rw [← hr] at h3 h4 h5
  refine lv_istore (lv' := [(7, .int r.2), (6, .int q.2), (0, .ref b), (1, .ref (G.2.1 0)), (2, .ref (G.2.1 196)), (3, .ref (G.2.1 208)), (4, .ref (G.2.1 209)), (5, .int (nI i))]) hx hb dL_law_585 hl (by decide) rfl (fun ls hl => ?_)
  refine lv_aload_n hx hb dL_law_587 rfl (lv_at hl 4 rfl) ?_
  refine g_cIp (g_runV (i := 196) (As := []) (rest := []) X (c_X10_thrown l G hG r.1) ca_X10_thrown km_L_147 rfl rfl ⟨Nat.le_of_ble_eq_true rfl, Nat.le_of_ble_eq_true rfl⟩ hP hS (ty_lt ab_196) (cell_10 ab_196) rfl rfl rfl hl.1 rfl (Nat.le_of_ble_eq_true rfl) ⟨by show cells + 2 + 0 ≤ 603072; omega, by show slots + 12 + 0 ≤ 7198826; omega⟩ dL_law_588) hS (fun H locs hP hS => ?_)
  refine lv_iload hx hb dL_law_591 (lv_at hl 1 rfl) ?_
  refine lv_icmp_eq (tgt := 598) hx hb dL_law_593 (by decide) (fun _ => ?_) (fun hc => absurd h3 hc)
  refine lv_iload hx hb dL_law_598 (lv_at hl 1 rfl) ?_
  refine lv_if_ne (tgt := 615) hx hb dL_law_600 (by decide) (fun _ => ?_) (fun hc => ?_)
  · refine lv_goto (tgt := 2462) hx hb dL_law_615 (by decide) ?_
    refine W.widen (k := cells + 2) (n := slots + 12) (by omega) (by omega) ?_
    exact kk r.1 h5 H locs hP hS ls (lv_sub hl [2, 3, 4, 5, 6, 7] rfl)
  · have h41 := h4 hc
    refine lv_aload_n hx hb dL_law_603 rfl (lv_at hl 5 rfl) ?_
    refine lv_iconst (v := 0) hx hb dL_law_604 (by decide) ?_
    refine gl_lald X hP ab_208 (by rw [al_208]; unfold vp_in; decide) dL_law_605 ?_
    refine lv_iload hx hb dL_law_606 (lv_at hl 0 rfl) ?_
    refine lv_i2l (v := (r.2).toInt64) hx hb dL_law_608 rfl ?_
    refine W.lcmp hx hb dL_law_609 ?_
    rw [show (0 : Int32).toNatClampNeg = 0 from rfl, h41, lg_cmp_self]
    refine lv_if_eq (tgt := 615) hx hb dL_law_610 (by decide) (fun _ => ?_) (fun hc => absurd rfl hc)
    refine lv_goto (tgt := 2462) hx hb dL_law_615 (by decide) ?_
    refine W.widen (k := cells + 2) (n := slots + 12) (by omega) (by omega) ?_
    exact kk r.1 h5 H locs hP hS ls (lv_sub hl [2, 3, 4, 5, 6, 7] rfl)
set_option maxHeartbeats 4000000 in
set_option maxRecDepth 100000 in
theorem lw_case_5 {p : Program} {l : Launch} {e : Env} {s : State} {m : MethodId} {below : List Frame} {meth : Method} {c : Code} {H : Heap} {locs : List Loc} {cells slots : Nat} {Q : State → Prop} {G : GE} {ls : Array Slot} {σ : St} {S : St → Prop} {b L i : Nat} {xs : Nat → Int32} (hfl : l.stackTraces = false) (X : Cx G p s m #[Value.ref b] c cL_law 10 RL) (hX : va_X b L xs s s.heap) (hbl : b < s.heap.size) (hbA : ¬ GA G b) (hi : i + 6 ≤ L) (hL : L ≤ 3072) (hT : Sim_5 S) (hσ : S σ) (hc2 : cells + 2 ≤ 603072) (hs2 : slots + 12 ≤ 7198826) (hP : va_P G.1 vcl (wl G σ) H) (hS : va_S (GA G) s.heap H locs) (hl : lv_has ls 10 [(0, .ref b), (1, .ref (G.2.1 0)), (2, .ref (G.2.1 196)), (3, .ref (G.2.1 208)), (4, .ref (G.2.1 209)), (5, .int (nI i))]) (kk : ∀ (σ : St), S σ → ∀ (H : Heap) (locs : List Loc), va_P G.1 vcl (wl G σ) H → va_S (GA G) s.heap H locs → ∀ (ls : Array Slot), lv_has ls 10 [(0, .ref b), (1, .ref (G.2.1 0)), (2, .ref (G.2.1 196)), (3, .ref (G.2.1 208)), (4, .ref (G.2.1 209)), (5, .int (nI i))] → W p l e room_1 s m #[Value.ref b] below meth c H locs (cells + 2) (slots + 12) Q (F0 m 2462 ls [])) : W p l e room_1 s m #[Value.ref b] below meth c H locs cells slots Q (F0 m 618 ls []) := by
  obtain ⟨hx, hb, hml, hown, hts, hK, hbs, hXW, hG⟩ := id X
  obtain ⟨h1, h2, h3, h4, h5⟩ := hT σ (xs (i + 1)) hσ
  refine lv_aload_n hx hb dL_law_618 rfl (lv_at hl 1 rfl) ?_
  refine lw_arg (j := 1) X hX hbl hbA hi hL hS (lv_at hl 0 rfl) (lv_at hl 5 rfl) (by decide) dL_law_619 dL_law_620 dL_law_622 dL_law_623 dL_law_624 ?_
  refine lv_aload_n hx hb dL_law_625 rfl (lv_at hl 3 rfl) ?_
  refine gl_ci (mc := 2) (ms := 12) (gl_run (As := [.ref (G.2.1 0), .int (xs (i + 1)), .ref (G.2.1 208)]) (rest := []) X (c_L_reads l hfl G hG σ (xs (i + 1)) h1) ca_L_reads km_L_166 rfl rfl ⟨Nat.le_of_ble_eq_true rfl, Nat.le_of_ble_eq_true rfl⟩ hP hS rfl hl.1 rfl (Nat.le_of_ble_eq_true rfl) ⟨by show cells + 2 ≤ 603072; omega, by show slots + 12 ≤ 7198826; omega⟩ dL_law_626) hS (fun q hq H locs hP hS => ?_)
  rw [← hq] at h2 h3 h4 h5
  dsimp only at h3 h4 h5
  refine lv_istore (lv' := [(6, .int q.2), (0, .ref b), (1, .ref (G.2.1 0)), (2, .ref (G.2.1 196)), (3, .ref (G.2.1 208)), (4, .ref (G.2.1 209)), (5, .int (nI i))]) hx hb dL_law_629 hl (by decide) rfl (fun ls hl => ?_)
  refine lv_aload_n hx hb dL_law_631 rfl (lv_at hl 3 rfl) ?_
  refine lw_arg (j := 1) X hX hbl hbA hi hL hS (lv_at hl 1 rfl) (lv_at hl 6 rfl) (by decide) dL_law_632 dL_law_633 dL_law_635 dL_law_636 dL_law_637 ?_
  refine g_cI (g_runV (i := 196) (As := [.int (xs (i + 1))]) (rest := []) X (c_X10_reads l G hG q.1 (xs (i + 1)) h2) ca_X10_reads km_L_168 rfl rfl ⟨Nat.le_of_ble_eq_true rfl, Nat.le_of_ble_eq_true rfl⟩ hP hS (ty_lt ab_196) (cell_10 ab_196) rfl rfl rfl hl.1 rfl (Nat.le_of_ble_eq_true rfl) ⟨by show cells + 2 + 0 ≤ 603072; omega, by show slots + 12 + 0 ≤ 7198826; omega⟩ dL_law_638) hS (fun r hr H locs hP hS => ?_)
  rw [← hr] at h3 h4 h5
  refine lv_istore (lv' := [(7, .int r.2), (6, .int q.2), (0, .ref b), (1, .ref (G.2.1 0)), (2, .ref (G.2.1 196)), (3, .ref (G.2.1 208)), (4, .ref (G.2.1 209)), (5, .int (nI i))]) hx hb dL_law_641 hl (by decide) rfl (fun ls hl => ?_)
  refine lv_aload_n hx hb dL_law_643 rfl (lv_at hl 4 rfl) ?_
  refine g_cIp (g_runV (i := 196) (As := []) (rest := []) X (c_X10_thrown l G hG r.1) ca_X10_thrown km_L_147 rfl rfl ⟨Nat.le_of_ble_eq_true rfl, Nat.le_of_ble_eq_true rfl⟩ hP hS (ty_lt ab_196) (cell_10 ab_196) rfl rfl rfl hl.1 rfl (Nat.le_of_ble_eq_true rfl) ⟨by show cells + 2 + 0 ≤ 603072; omega, by show slots + 12 + 0 ≤ 7198826; omega⟩ dL_law_644) hS (fun H locs hP hS => ?_)
  refine lv_iload hx hb dL_law_647 (lv_at hl 1 rfl) ?_
  refine lv_icmp_eq (tgt := 654) hx hb dL_law_649 (by decide) (fun _ => ?_) (fun hc => absurd h3 hc)
  refine lv_iload hx hb dL_law_654 (lv_at hl 1 rfl) ?_
  refine lv_if_ne (tgt := 671) hx hb dL_law_656 (by decide) (fun _ => ?_) (fun hc => ?_)
  · refine lv_goto (tgt := 2462) hx hb dL_law_671 (by decide) ?_
    refine W.widen (k := cells + 2) (n := slots + 12) (by omega) (by omega) ?_
    exact kk r.1 h5 H locs hP hS ls (lv_sub hl [2, 3, 4, 5, 6, 7] rfl)
  · have h41 := h4 hc
    refine lv_aload_n hx hb dL_law_659 rfl (lv_at hl 5 rfl) ?_
    refine lv_iconst (v := 0) hx hb dL_law_660 (by decide) ?_
    refine gl_lald X hP ab_208 (by rw [al_208]; unfold vp_in; decide) dL_law_661 ?_
    refine lv_iload hx hb dL_law_662 (lv_at hl 0 rfl) ?_
    refine lv_i2l (v := (r.2).toInt64) hx hb dL_law_664 rfl ?_
    refine W.lcmp hx hb dL_law_665 ?_
    rw [show (0 : Int32).toNatClampNeg = 0 from rfl, h41, lg_cmp_self]
    refine lv_if_eq (tgt := 671) hx hb dL_law_666 (by decide) (fun _ => ?_) (fun hc => absurd rfl hc)
    refine lv_goto (tgt := 2462) hx hb dL_law_671 (by decide) ?_
    refine W.widen (k := cells + 2) (n := slots + 12) (by omega) (by omega) ?_
    exact kk r.1 h5 H locs hP hS ls (lv_sub hl [2, 3, 4, 5, 6, 7] rfl)
set_option maxHeartbeats 4000000 in
set_option maxRecDepth 100000 in
theorem lw_case_6 {p : Program} {l : Launch} {e : Env} {s : State} {m : MethodId} {below : List Frame} {meth : Method} {c : Code} {H : Heap} {locs : List Loc} {cells slots : Nat} {Q : State → Prop} {G : GE} {ls : Array Slot} {σ : St} {S : St → Prop} {b L i : Nat} {xs : Nat → Int32} (hfl : l.stackTraces = false) (X : Cx G p s m #[Value.ref b] c cL_law 10 RL) (hX : va_X b L xs s s.heap) (hbl : b < s.heap.size) (hbA : ¬ GA G b) (hi : i + 6 ≤ L) (hL : L ≤ 3072) (hT : Sim_6 S) (hσ : S σ) (hc2 : cells + 2 ≤ 603072) (hs2 : slots + 12 ≤ 7198826) (hP : va_P G.1 vcl (wl G σ) H) (hS : va_S (GA G) s.heap H locs) (hl : lv_has ls 10 [(0, .ref b), (1, .ref (G.2.1 0)), (2, .ref (G.2.1 196)), (3, .ref (G.2.1 208)), (4, .ref (G.2.1 209)), (5, .int (nI i))]) (kk : ∀ (σ : St), S σ → ∀ (H : Heap) (locs : List Loc), va_P G.1 vcl (wl G σ) H → va_S (GA G) s.heap H locs → ∀ (ls : Array Slot), lv_has ls 10 [(0, .ref b), (1, .ref (G.2.1 0)), (2, .ref (G.2.1 196)), (3, .ref (G.2.1 208)), (4, .ref (G.2.1 209)), (5, .int (nI i))] → W p l e room_1 s m #[Value.ref b] below meth c H locs (cells + 2) (slots + 12) Q (F0 m 2462 ls [])) : W p l e room_1 s m #[Value.ref b] below meth c H locs cells slots Q (F0 m 674 ls []) := by
  obtain ⟨hx, hb, hml, hown, hts, hK, hbs, hXW, hG⟩ := id X
  obtain ⟨h1, h2, h3, h4, h5⟩ := hT σ (xs (i + 1)) (xs (i + 2)) (xs (i + 3)) hσ
  refine lv_aload_n hx hb dL_law_674 rfl (lv_at hl 1 rfl) ?_
  refine lw_arg (j := 1) X hX hbl hbA hi hL hS (lv_at hl 0 rfl) (lv_at hl 5 rfl) (by decide) dL_law_675 dL_law_676 dL_law_678 dL_law_679 dL_law_680 ?_
  refine lw_arg (j := 2) X hX hbl hbA hi hL hS (lv_at hl 0 rfl) (lv_at hl 5 rfl) (by decide) dL_law_681 dL_law_682 dL_law_684 dL_law_685 dL_law_686 ?_
  refine lw_arg (j := 3) X hX hbl hbA hi hL hS (lv_at hl 0 rfl) (lv_at hl 5 rfl) (by decide) dL_law_687 dL_law_688 dL_law_690 dL_law_691 dL_law_692 ?_
  refine lv_aload_n hx hb dL_law_693 rfl (lv_at hl 3 rfl) ?_
  refine gl_ci (mc := 1) (ms := 6) (gl_run (As := [.ref (G.2.1 0), .int (xs (i + 1)), .int (xs (i + 2)), .int (xs (i + 3)), .ref (G.2.1 208)]) (rest := []) X (c_L_stringFor l hfl G hG σ (xs (i + 1)) (xs (i + 2)) (xs (i + 3)) h1) ca_L_stringFor km_L_169 rfl rfl ⟨Nat.le_of_ble_eq_true rfl, Nat.le_of_ble_eq_true rfl⟩ hP hS rfl hl.1 rfl (Nat.le_of_ble_eq_true rfl) ⟨by show cells + 1 ≤ 603072; omega, by show slots + 6 ≤ 7198826; omega⟩ dL_law_694) hS (fun q hq H locs hP hS => ?_)
  rw [← hq] at h2 h3 h4 h5
  dsimp only at h3 h4 h5
  refine lv_istore (lv' := [(6, .int q.2), (0, .ref b), (1, .ref (G.2.1 0)), (2, .ref (G.2.1 196)), (3, .ref (G.2.1 208)), (4, .ref (G.2.1 209)), (5, .int (nI i))]) hx hb dL_law_697 hl (by decide) rfl (fun ls hl => ?_)
  refine lv_aload_n hx hb dL_law_699 rfl (lv_at hl 3 rfl) ?_
  refine lw_arg (j := 1) X hX hbl hbA hi hL hS (lv_at hl 1 rfl) (lv_at hl 6 rfl) (by decide) dL_law_700 dL_law_701 dL_law_703 dL_law_704 dL_law_705 ?_
  refine lw_arg (j := 2) X hX hbl hbA hi hL hS (lv_at hl 1 rfl) (lv_at hl 6 rfl) (by decide) dL_law_706 dL_law_707 dL_law_709 dL_law_710 dL_law_711 ?_
  refine lw_arg (j := 3) X hX hbl hbA hi hL hS (lv_at hl 1 rfl) (lv_at hl 6 rfl) (by decide) dL_law_712 dL_law_713 dL_law_715 dL_law_716 dL_law_717 ?_
  refine g_cI (g_runV (i := 196) (As := [.int (xs (i + 1)), .int (xs (i + 2)), .int (xs (i + 3))]) (rest := []) X (c_X10_stringFor l G hG q.1 (xs (i + 1)) (xs (i + 2)) (xs (i + 3)) h2) ca_X10_stringFor km_L_172 rfl rfl ⟨Nat.le_of_ble_eq_true rfl, Nat.le_of_ble_eq_true rfl⟩ hP hS (ty_lt ab_196) (cell_10 ab_196) rfl rfl rfl hl.1 rfl (Nat.le_of_ble_eq_true rfl) ⟨by show cells + 1 + 0 ≤ 603072; omega, by show slots + 6 + 0 ≤ 7198826; omega⟩ dL_law_718) hS (fun r hr H locs hP hS => ?_)
  rw [← hr] at h3 h4 h5
  refine lv_istore (lv' := [(7, .int r.2), (6, .int q.2), (0, .ref b), (1, .ref (G.2.1 0)), (2, .ref (G.2.1 196)), (3, .ref (G.2.1 208)), (4, .ref (G.2.1 209)), (5, .int (nI i))]) hx hb dL_law_721 hl (by decide) rfl (fun ls hl => ?_)
  refine lv_aload_n hx hb dL_law_723 rfl (lv_at hl 4 rfl) ?_
  refine g_cIp (g_runV (i := 196) (As := []) (rest := []) X (c_X10_thrown l G hG r.1) ca_X10_thrown km_L_147 rfl rfl ⟨Nat.le_of_ble_eq_true rfl, Nat.le_of_ble_eq_true rfl⟩ hP hS (ty_lt ab_196) (cell_10 ab_196) rfl rfl rfl hl.1 rfl (Nat.le_of_ble_eq_true rfl) ⟨by show cells + 1 + 0 ≤ 603072; omega, by show slots + 6 + 0 ≤ 7198826; omega⟩ dL_law_724) hS (fun H locs hP hS => ?_)
  refine lv_iload hx hb dL_law_727 (lv_at hl 1 rfl) ?_
  refine lv_icmp_eq (tgt := 734) hx hb dL_law_729 (by decide) (fun _ => ?_) (fun hc => absurd h3 hc)
  refine lv_iload hx hb dL_law_734 (lv_at hl 1 rfl) ?_
  refine lv_if_ne (tgt := 751) hx hb dL_law_736 (by decide) (fun _ => ?_) (fun hc => ?_)
  · refine lv_goto (tgt := 2462) hx hb dL_law_751 (by decide) ?_
    refine W.widen (k := cells + 2) (n := slots + 12) (by omega) (by omega) ?_
    exact kk r.1 h5 H locs hP hS ls (lv_sub hl [2, 3, 4, 5, 6, 7] rfl)
  · have h41 := h4 hc
    refine lv_aload_n hx hb dL_law_739 rfl (lv_at hl 5 rfl) ?_
    refine lv_iconst (v := 0) hx hb dL_law_740 (by decide) ?_
    refine gl_lald X hP ab_208 (by rw [al_208]; unfold vp_in; decide) dL_law_741 ?_
    refine lv_iload hx hb dL_law_742 (lv_at hl 0 rfl) ?_
    refine lv_i2l (v := (r.2).toInt64) hx hb dL_law_744 rfl ?_
    refine W.lcmp hx hb dL_law_745 ?_
    rw [show (0 : Int32).toNatClampNeg = 0 from rfl, h41, lg_cmp_self]
    refine lv_if_eq (tgt := 751) hx hb dL_law_746 (by decide) (fun _ => ?_) (fun hc => absurd rfl hc)
    refine lv_goto (tgt := 2462) hx hb dL_law_751 (by decide) ?_
    refine W.widen (k := cells + 2) (n := slots + 12) (by omega) (by omega) ?_
    exact kk r.1 h5 H locs hP hS ls (lv_sub hl [2, 3, 4, 5, 6, 7] rfl)
set_option maxHeartbeats 4000000 in
set_option maxRecDepth 100000 in
theorem lw_case_7 {p : Program} {l : Launch} {e : Env} {s : State} {m : MethodId} {below : List Frame} {meth : Method} {c : Code} {H : Heap} {locs : List Loc} {cells slots : Nat} {Q : State → Prop} {G : GE} {ls : Array Slot} {σ : St} {S : St → Prop} {b L i : Nat} {xs : Nat → Int32} (hfl : l.stackTraces = false) (X : Cx G p s m #[Value.ref b] c cL_law 10 RL) (hX : va_X b L xs s s.heap) (hbl : b < s.heap.size) (hbA : ¬ GA G b) (hi : i + 6 ≤ L) (hL : L ≤ 3072) (hT : Sim_7 S) (hσ : S σ) (hc2 : cells + 2 ≤ 603072) (hs2 : slots + 12 ≤ 7198826) (hP : va_P G.1 vcl (wl G σ) H) (hS : va_S (GA G) s.heap H locs) (hl : lv_has ls 10 [(0, .ref b), (1, .ref (G.2.1 0)), (2, .ref (G.2.1 196)), (3, .ref (G.2.1 208)), (4, .ref (G.2.1 209)), (5, .int (nI i))]) (kk : ∀ (σ : St), S σ → ∀ (H : Heap) (locs : List Loc), va_P G.1 vcl (wl G σ) H → va_S (GA G) s.heap H locs → ∀ (ls : Array Slot), lv_has ls 10 [(0, .ref b), (1, .ref (G.2.1 0)), (2, .ref (G.2.1 196)), (3, .ref (G.2.1 208)), (4, .ref (G.2.1 209)), (5, .int (nI i))] → W p l e room_1 s m #[Value.ref b] below meth c H locs (cells + 2) (slots + 12) Q (F0 m 2462 ls [])) : W p l e room_1 s m #[Value.ref b] below meth c H locs cells slots Q (F0 m 754 ls []) := by
  obtain ⟨hx, hb, hml, hown, hts, hK, hbs, hXW, hG⟩ := id X
  obtain ⟨h1, h2, h3, h4, h5⟩ := hT σ (xs (i + 1)) hσ
  refine lv_aload_n hx hb dL_law_754 rfl (lv_at hl 1 rfl) ?_
  refine lw_arg (j := 1) X hX hbl hbA hi hL hS (lv_at hl 0 rfl) (lv_at hl 5 rfl) (by decide) dL_law_755 dL_law_756 dL_law_758 dL_law_759 dL_law_760 ?_
  refine lv_aload_n hx hb dL_law_761 rfl (lv_at hl 3 rfl) ?_
  refine gl_ci (mc := 1) (ms := 6) (gl_run (As := [.ref (G.2.1 0), .int (xs (i + 1)), .ref (G.2.1 208)]) (rest := []) X (c_L_string l hfl G hG σ (xs (i + 1)) h1) ca_L_string km_L_173 rfl rfl ⟨Nat.le_of_ble_eq_true rfl, Nat.le_of_ble_eq_true rfl⟩ hP hS rfl hl.1 rfl (Nat.le_of_ble_eq_true rfl) ⟨by show cells + 1 ≤ 603072; omega, by show slots + 6 ≤ 7198826; omega⟩ dL_law_762) hS (fun q hq H locs hP hS => ?_)
  rw [← hq] at h2 h3 h4 h5
  dsimp only at h3 h4 h5
  refine lv_istore (lv' := [(6, .int q.2), (0, .ref b), (1, .ref (G.2.1 0)), (2, .ref (G.2.1 196)), (3, .ref (G.2.1 208)), (4, .ref (G.2.1 209)), (5, .int (nI i))]) hx hb dL_law_765 hl (by decide) rfl (fun ls hl => ?_)
  refine lv_aload_n hx hb dL_law_767 rfl (lv_at hl 3 rfl) ?_
  refine lw_arg (j := 1) X hX hbl hbA hi hL hS (lv_at hl 1 rfl) (lv_at hl 6 rfl) (by decide) dL_law_768 dL_law_769 dL_law_771 dL_law_772 dL_law_773 ?_
  refine g_cI (g_runV (i := 196) (As := [.int (xs (i + 1))]) (rest := []) X (c_X10_string l G hG q.1 (xs (i + 1)) h2) ca_X10_string km_L_175 rfl rfl ⟨Nat.le_of_ble_eq_true rfl, Nat.le_of_ble_eq_true rfl⟩ hP hS (ty_lt ab_196) (cell_10 ab_196) rfl rfl rfl hl.1 rfl (Nat.le_of_ble_eq_true rfl) ⟨by show cells + 1 + 0 ≤ 603072; omega, by show slots + 6 + 0 ≤ 7198826; omega⟩ dL_law_774) hS (fun r hr H locs hP hS => ?_)
  rw [← hr] at h3 h4 h5
  refine lv_istore (lv' := [(7, .int r.2), (6, .int q.2), (0, .ref b), (1, .ref (G.2.1 0)), (2, .ref (G.2.1 196)), (3, .ref (G.2.1 208)), (4, .ref (G.2.1 209)), (5, .int (nI i))]) hx hb dL_law_777 hl (by decide) rfl (fun ls hl => ?_)
  refine lv_aload_n hx hb dL_law_779 rfl (lv_at hl 4 rfl) ?_
  refine g_cIp (g_runV (i := 196) (As := []) (rest := []) X (c_X10_thrown l G hG r.1) ca_X10_thrown km_L_147 rfl rfl ⟨Nat.le_of_ble_eq_true rfl, Nat.le_of_ble_eq_true rfl⟩ hP hS (ty_lt ab_196) (cell_10 ab_196) rfl rfl rfl hl.1 rfl (Nat.le_of_ble_eq_true rfl) ⟨by show cells + 1 + 0 ≤ 603072; omega, by show slots + 6 + 0 ≤ 7198826; omega⟩ dL_law_780) hS (fun H locs hP hS => ?_)
  refine lv_iload hx hb dL_law_783 (lv_at hl 1 rfl) ?_
  refine lv_icmp_eq (tgt := 790) hx hb dL_law_785 (by decide) (fun _ => ?_) (fun hc => absurd h3 hc)
  refine lv_iload hx hb dL_law_790 (lv_at hl 1 rfl) ?_
  refine lv_if_ne (tgt := 807) hx hb dL_law_792 (by decide) (fun _ => ?_) (fun hc => ?_)
  · refine lv_goto (tgt := 2462) hx hb dL_law_807 (by decide) ?_
    refine W.widen (k := cells + 2) (n := slots + 12) (by omega) (by omega) ?_
    exact kk r.1 h5 H locs hP hS ls (lv_sub hl [2, 3, 4, 5, 6, 7] rfl)
  · have h41 := h4 hc
    refine lv_aload_n hx hb dL_law_795 rfl (lv_at hl 5 rfl) ?_
    refine lv_iconst (v := 0) hx hb dL_law_796 (by decide) ?_
    refine gl_lald X hP ab_208 (by rw [al_208]; unfold vp_in; decide) dL_law_797 ?_
    refine lv_iload hx hb dL_law_798 (lv_at hl 0 rfl) ?_
    refine lv_i2l (v := (r.2).toInt64) hx hb dL_law_800 rfl ?_
    refine W.lcmp hx hb dL_law_801 ?_
    rw [show (0 : Int32).toNatClampNeg = 0 from rfl, h41, lg_cmp_self]
    refine lv_if_eq (tgt := 807) hx hb dL_law_802 (by decide) (fun _ => ?_) (fun hc => absurd rfl hc)
    refine lv_goto (tgt := 2462) hx hb dL_law_807 (by decide) ?_
    refine W.widen (k := cells + 2) (n := slots + 12) (by omega) (by omega) ?_
    exact kk r.1 h5 H locs hP hS ls (lv_sub hl [2, 3, 4, 5, 6, 7] rfl)
set_option maxHeartbeats 4000000 in
set_option maxRecDepth 100000 in
theorem lw_case_8 {p : Program} {l : Launch} {e : Env} {s : State} {m : MethodId} {below : List Frame} {meth : Method} {c : Code} {H : Heap} {locs : List Loc} {cells slots : Nat} {Q : State → Prop} {G : GE} {ls : Array Slot} {σ : St} {S : St → Prop} {b L i : Nat} {xs : Nat → Int32} (hfl : l.stackTraces = false) (X : Cx G p s m #[Value.ref b] c cL_law 10 RL) (hX : va_X b L xs s s.heap) (hbl : b < s.heap.size) (hbA : ¬ GA G b) (hi : i + 6 ≤ L) (hL : L ≤ 3072) (hT : Sim_8 S) (hσ : S σ) (hc2 : cells + 2 ≤ 603072) (hs2 : slots + 12 ≤ 7198826) (hP : va_P G.1 vcl (wl G σ) H) (hS : va_S (GA G) s.heap H locs) (hl : lv_has ls 10 [(0, .ref b), (1, .ref (G.2.1 0)), (2, .ref (G.2.1 196)), (3, .ref (G.2.1 208)), (4, .ref (G.2.1 209)), (5, .int (nI i))]) (kk : ∀ (σ : St), S σ → ∀ (H : Heap) (locs : List Loc), va_P G.1 vcl (wl G σ) H → va_S (GA G) s.heap H locs → ∀ (ls : Array Slot), lv_has ls 10 [(0, .ref b), (1, .ref (G.2.1 0)), (2, .ref (G.2.1 196)), (3, .ref (G.2.1 208)), (4, .ref (G.2.1 209)), (5, .int (nI i))] → W p l e room_1 s m #[Value.ref b] below meth c H locs (cells + 2) (slots + 12) Q (F0 m 2462 ls [])) : W p l e room_1 s m #[Value.ref b] below meth c H locs cells slots Q (F0 m 810 ls []) := by
  obtain ⟨hx, hb, hml, hown, hts, hK, hbs, hXW, hG⟩ := id X
  obtain ⟨h1, h2, h3, h4, h5⟩ := hT σ (xs (i + 1)) (xs (i + 2)) hσ
  refine lv_aload_n hx hb dL_law_810 rfl (lv_at hl 1 rfl) ?_
  refine lw_arg (j := 1) X hX hbl hbA hi hL hS (lv_at hl 0 rfl) (lv_at hl 5 rfl) (by decide) dL_law_811 dL_law_812 dL_law_814 dL_law_815 dL_law_816 ?_
  refine lw_arg (j := 2) X hX hbl hbA hi hL hS (lv_at hl 0 rfl) (lv_at hl 5 rfl) (by decide) dL_law_817 dL_law_818 dL_law_820 dL_law_821 dL_law_822 ?_
  refine lv_aload_n hx hb dL_law_823 rfl (lv_at hl 3 rfl) ?_
  refine gl_ci (mc := 2) (ms := 12) (gl_run (As := [.ref (G.2.1 0), .int (xs (i + 1)), .int (xs (i + 2)), .ref (G.2.1 208)]) (rest := []) X (c_L_lettersOf l hfl G hG σ (xs (i + 1)) (xs (i + 2)) h1) ca_L_lettersOf km_L_176 rfl rfl ⟨Nat.le_of_ble_eq_true rfl, Nat.le_of_ble_eq_true rfl⟩ hP hS rfl hl.1 rfl (Nat.le_of_ble_eq_true rfl) ⟨by show cells + 2 ≤ 603072; omega, by show slots + 12 ≤ 7198826; omega⟩ dL_law_824) hS (fun q hq H locs hP hS => ?_)
  rw [← hq] at h2 h3 h4 h5
  dsimp only at h3 h4 h5
  refine lv_istore (lv' := [(6, .int q.2), (0, .ref b), (1, .ref (G.2.1 0)), (2, .ref (G.2.1 196)), (3, .ref (G.2.1 208)), (4, .ref (G.2.1 209)), (5, .int (nI i))]) hx hb dL_law_827 hl (by decide) rfl (fun ls hl => ?_)
  refine lv_aload_n hx hb dL_law_829 rfl (lv_at hl 3 rfl) ?_
  refine lw_arg (j := 1) X hX hbl hbA hi hL hS (lv_at hl 1 rfl) (lv_at hl 6 rfl) (by decide) dL_law_830 dL_law_831 dL_law_833 dL_law_834 dL_law_835 ?_
  refine lw_arg (j := 2) X hX hbl hbA hi hL hS (lv_at hl 1 rfl) (lv_at hl 6 rfl) (by decide) dL_law_836 dL_law_837 dL_law_839 dL_law_840 dL_law_841 ?_
  refine g_cI (g_runV (i := 196) (As := [.int (xs (i + 1)), .int (xs (i + 2))]) (rest := []) X (c_X10_lettersOf l G hG q.1 (xs (i + 1)) (xs (i + 2)) h2) ca_X10_lettersOf km_L_178 rfl rfl ⟨Nat.le_of_ble_eq_true rfl, Nat.le_of_ble_eq_true rfl⟩ hP hS (ty_lt ab_196) (cell_10 ab_196) rfl rfl rfl hl.1 rfl (Nat.le_of_ble_eq_true rfl) ⟨by show cells + 2 + 0 ≤ 603072; omega, by show slots + 12 + 0 ≤ 7198826; omega⟩ dL_law_842) hS (fun r hr H locs hP hS => ?_)
  rw [← hr] at h3 h4 h5
  refine lv_istore (lv' := [(7, .int r.2), (6, .int q.2), (0, .ref b), (1, .ref (G.2.1 0)), (2, .ref (G.2.1 196)), (3, .ref (G.2.1 208)), (4, .ref (G.2.1 209)), (5, .int (nI i))]) hx hb dL_law_845 hl (by decide) rfl (fun ls hl => ?_)
  refine lv_aload_n hx hb dL_law_847 rfl (lv_at hl 4 rfl) ?_
  refine g_cIp (g_runV (i := 196) (As := []) (rest := []) X (c_X10_thrown l G hG r.1) ca_X10_thrown km_L_147 rfl rfl ⟨Nat.le_of_ble_eq_true rfl, Nat.le_of_ble_eq_true rfl⟩ hP hS (ty_lt ab_196) (cell_10 ab_196) rfl rfl rfl hl.1 rfl (Nat.le_of_ble_eq_true rfl) ⟨by show cells + 2 + 0 ≤ 603072; omega, by show slots + 12 + 0 ≤ 7198826; omega⟩ dL_law_848) hS (fun H locs hP hS => ?_)
  refine lv_iload hx hb dL_law_851 (lv_at hl 1 rfl) ?_
  refine lv_icmp_eq (tgt := 858) hx hb dL_law_853 (by decide) (fun _ => ?_) (fun hc => absurd h3 hc)
  refine lv_iload hx hb dL_law_858 (lv_at hl 1 rfl) ?_
  refine lv_if_ne (tgt := 875) hx hb dL_law_860 (by decide) (fun _ => ?_) (fun hc => ?_)
  · refine lv_goto (tgt := 2462) hx hb dL_law_875 (by decide) ?_
    refine W.widen (k := cells + 2) (n := slots + 12) (by omega) (by omega) ?_
    exact kk r.1 h5 H locs hP hS ls (lv_sub hl [2, 3, 4, 5, 6, 7] rfl)
  · have h41 := h4 hc
    refine lv_aload_n hx hb dL_law_863 rfl (lv_at hl 5 rfl) ?_
    refine lv_iconst (v := 0) hx hb dL_law_864 (by decide) ?_
    refine gl_lald X hP ab_208 (by rw [al_208]; unfold vp_in; decide) dL_law_865 ?_
    refine lv_iload hx hb dL_law_866 (lv_at hl 0 rfl) ?_
    refine lv_i2l (v := (r.2).toInt64) hx hb dL_law_868 rfl ?_
    refine W.lcmp hx hb dL_law_869 ?_
    rw [show (0 : Int32).toNatClampNeg = 0 from rfl, h41, lg_cmp_self]
    refine lv_if_eq (tgt := 875) hx hb dL_law_870 (by decide) (fun _ => ?_) (fun hc => absurd rfl hc)
    refine lv_goto (tgt := 2462) hx hb dL_law_875 (by decide) ?_
    refine W.widen (k := cells + 2) (n := slots + 12) (by omega) (by omega) ?_
    exact kk r.1 h5 H locs hP hS ls (lv_sub hl [2, 3, 4, 5, 6, 7] rfl)
set_option maxHeartbeats 4000000 in
set_option maxRecDepth 100000 in
theorem lw_case_9 {p : Program} {l : Launch} {e : Env} {s : State} {m : MethodId} {below : List Frame} {meth : Method} {c : Code} {H : Heap} {locs : List Loc} {cells slots : Nat} {Q : State → Prop} {G : GE} {ls : Array Slot} {σ : St} {S : St → Prop} {b L i : Nat} {xs : Nat → Int32} (hfl : l.stackTraces = false) (X : Cx G p s m #[Value.ref b] c cL_law 10 RL) (hX : va_X b L xs s s.heap) (hbl : b < s.heap.size) (hbA : ¬ GA G b) (hi : i + 6 ≤ L) (hL : L ≤ 3072) (hT : Sim_9 S) (hσ : S σ) (hc2 : cells + 2 ≤ 603072) (hs2 : slots + 12 ≤ 7198826) (hP : va_P G.1 vcl (wl G σ) H) (hS : va_S (GA G) s.heap H locs) (hl : lv_has ls 10 [(0, .ref b), (1, .ref (G.2.1 0)), (2, .ref (G.2.1 196)), (3, .ref (G.2.1 208)), (4, .ref (G.2.1 209)), (5, .int (nI i))]) (kk : ∀ (σ : St), S σ → ∀ (H : Heap) (locs : List Loc), va_P G.1 vcl (wl G σ) H → va_S (GA G) s.heap H locs → ∀ (ls : Array Slot), lv_has ls 10 [(0, .ref b), (1, .ref (G.2.1 0)), (2, .ref (G.2.1 196)), (3, .ref (G.2.1 208)), (4, .ref (G.2.1 209)), (5, .int (nI i))] → W p l e room_1 s m #[Value.ref b] below meth c H locs (cells + 2) (slots + 12) Q (F0 m 2462 ls [])) : W p l e room_1 s m #[Value.ref b] below meth c H locs cells slots Q (F0 m 878 ls []) := by
  obtain ⟨hx, hb, hml, hown, hts, hK, hbs, hXW, hG⟩ := id X
  obtain ⟨h1, h2, h3, h4, h5⟩ := hT σ (xs (i + 1)) (xs (i + 2)) hσ
  refine lv_aload_n hx hb dL_law_878 rfl (lv_at hl 1 rfl) ?_
  refine lw_arg (j := 1) X hX hbl hbA hi hL hS (lv_at hl 0 rfl) (lv_at hl 5 rfl) (by decide) dL_law_879 dL_law_880 dL_law_882 dL_law_883 dL_law_884 ?_
  refine lw_arg (j := 2) X hX hbl hbA hi hL hS (lv_at hl 0 rfl) (lv_at hl 5 rfl) (by decide) dL_law_885 dL_law_886 dL_law_888 dL_law_889 dL_law_890 ?_
  refine lv_aload_n hx hb dL_law_891 rfl (lv_at hl 3 rfl) ?_
  refine gl_ci (mc := 2) (ms := 12) (gl_run (As := [.ref (G.2.1 0), .int (xs (i + 1)), .int (xs (i + 2)), .ref (G.2.1 208)]) (rest := []) X (c_L_lettersAgain l hfl G hG σ (xs (i + 1)) (xs (i + 2)) h1) ca_L_lettersAgain km_L_179 rfl rfl ⟨Nat.le_of_ble_eq_true rfl, Nat.le_of_ble_eq_true rfl⟩ hP hS rfl hl.1 rfl (Nat.le_of_ble_eq_true rfl) ⟨by show cells + 2 ≤ 603072; omega, by show slots + 12 ≤ 7198826; omega⟩ dL_law_892) hS (fun q hq H locs hP hS => ?_)
  rw [← hq] at h2 h3 h4 h5
  dsimp only at h3 h4 h5
  refine lv_istore (lv' := [(6, .int q.2), (0, .ref b), (1, .ref (G.2.1 0)), (2, .ref (G.2.1 196)), (3, .ref (G.2.1 208)), (4, .ref (G.2.1 209)), (5, .int (nI i))]) hx hb dL_law_895 hl (by decide) rfl (fun ls hl => ?_)
  refine lv_aload_n hx hb dL_law_897 rfl (lv_at hl 3 rfl) ?_
  refine lw_arg (j := 1) X hX hbl hbA hi hL hS (lv_at hl 1 rfl) (lv_at hl 6 rfl) (by decide) dL_law_898 dL_law_899 dL_law_901 dL_law_902 dL_law_903 ?_
  refine lw_arg (j := 2) X hX hbl hbA hi hL hS (lv_at hl 1 rfl) (lv_at hl 6 rfl) (by decide) dL_law_904 dL_law_905 dL_law_907 dL_law_908 dL_law_909 ?_
  refine g_cI (g_runV (i := 196) (As := [.int (xs (i + 1)), .int (xs (i + 2))]) (rest := []) X (c_X10_lettersAgain l G hG q.1 (xs (i + 1)) (xs (i + 2)) h2) ca_X10_lettersAgain km_L_181 rfl rfl ⟨Nat.le_of_ble_eq_true rfl, Nat.le_of_ble_eq_true rfl⟩ hP hS (ty_lt ab_196) (cell_10 ab_196) rfl rfl rfl hl.1 rfl (Nat.le_of_ble_eq_true rfl) ⟨by show cells + 2 + 0 ≤ 603072; omega, by show slots + 12 + 0 ≤ 7198826; omega⟩ dL_law_910) hS (fun r hr H locs hP hS => ?_)
  rw [← hr] at h3 h4 h5
  refine lv_istore (lv' := [(7, .int r.2), (6, .int q.2), (0, .ref b), (1, .ref (G.2.1 0)), (2, .ref (G.2.1 196)), (3, .ref (G.2.1 208)), (4, .ref (G.2.1 209)), (5, .int (nI i))]) hx hb dL_law_913 hl (by decide) rfl (fun ls hl => ?_)
  refine lv_aload_n hx hb dL_law_915 rfl (lv_at hl 4 rfl) ?_
  refine g_cIp (g_runV (i := 196) (As := []) (rest := []) X (c_X10_thrown l G hG r.1) ca_X10_thrown km_L_147 rfl rfl ⟨Nat.le_of_ble_eq_true rfl, Nat.le_of_ble_eq_true rfl⟩ hP hS (ty_lt ab_196) (cell_10 ab_196) rfl rfl rfl hl.1 rfl (Nat.le_of_ble_eq_true rfl) ⟨by show cells + 2 + 0 ≤ 603072; omega, by show slots + 12 + 0 ≤ 7198826; omega⟩ dL_law_916) hS (fun H locs hP hS => ?_)
  refine lv_iload hx hb dL_law_919 (lv_at hl 1 rfl) ?_
  refine lv_icmp_eq (tgt := 926) hx hb dL_law_921 (by decide) (fun _ => ?_) (fun hc => absurd h3 hc)
  refine lv_iload hx hb dL_law_926 (lv_at hl 1 rfl) ?_
  refine lv_if_ne (tgt := 943) hx hb dL_law_928 (by decide) (fun _ => ?_) (fun hc => ?_)
  · refine lv_goto (tgt := 2462) hx hb dL_law_943 (by decide) ?_
    refine W.widen (k := cells + 2) (n := slots + 12) (by omega) (by omega) ?_
    exact kk r.1 h5 H locs hP hS ls (lv_sub hl [2, 3, 4, 5, 6, 7] rfl)
  · have h41 := h4 hc
    refine lv_aload_n hx hb dL_law_931 rfl (lv_at hl 5 rfl) ?_
    refine lv_iconst (v := 0) hx hb dL_law_932 (by decide) ?_
    refine gl_lald X hP ab_208 (by rw [al_208]; unfold vp_in; decide) dL_law_933 ?_
    refine lv_iload hx hb dL_law_934 (lv_at hl 0 rfl) ?_
    refine lv_i2l (v := (r.2).toInt64) hx hb dL_law_936 rfl ?_
    refine W.lcmp hx hb dL_law_937 ?_
    rw [show (0 : Int32).toNatClampNeg = 0 from rfl, h41, lg_cmp_self]
    refine lv_if_eq (tgt := 943) hx hb dL_law_938 (by decide) (fun _ => ?_) (fun hc => absurd rfl hc)
    refine lv_goto (tgt := 2462) hx hb dL_law_943 (by decide) ?_
    refine W.widen (k := cells + 2) (n := slots + 12) (by omega) (by omega) ?_
    exact kk r.1 h5 H locs hP hS ls (lv_sub hl [2, 3, 4, 5, 6, 7] rfl)
set_option maxHeartbeats 4000000 in
set_option maxRecDepth 100000 in
theorem lw_case_10 {p : Program} {l : Launch} {e : Env} {s : State} {m : MethodId} {below : List Frame} {meth : Method} {c : Code} {H : Heap} {locs : List Loc} {cells slots : Nat} {Q : State → Prop} {G : GE} {ls : Array Slot} {σ : St} {S : St → Prop} {b L i : Nat} {xs : Nat → Int32} (hfl : l.stackTraces = false) (X : Cx G p s m #[Value.ref b] c cL_law 10 RL) (hX : va_X b L xs s s.heap) (hbl : b < s.heap.size) (hbA : ¬ GA G b) (hi : i + 6 ≤ L) (hL : L ≤ 3072) (hT : Sim_10 S) (hσ : S σ) (hc2 : cells + 2 ≤ 603072) (hs2 : slots + 12 ≤ 7198826) (hP : va_P G.1 vcl (wl G σ) H) (hS : va_S (GA G) s.heap H locs) (hl : lv_has ls 10 [(0, .ref b), (1, .ref (G.2.1 0)), (2, .ref (G.2.1 196)), (3, .ref (G.2.1 208)), (4, .ref (G.2.1 209)), (5, .int (nI i))]) (kk : ∀ (σ : St), S σ → ∀ (H : Heap) (locs : List Loc), va_P G.1 vcl (wl G σ) H → va_S (GA G) s.heap H locs → ∀ (ls : Array Slot), lv_has ls 10 [(0, .ref b), (1, .ref (G.2.1 0)), (2, .ref (G.2.1 196)), (3, .ref (G.2.1 208)), (4, .ref (G.2.1 209)), (5, .int (nI i))] → W p l e room_1 s m #[Value.ref b] below meth c H locs (cells + 2) (slots + 12) Q (F0 m 2462 ls [])) : W p l e room_1 s m #[Value.ref b] below meth c H locs cells slots Q (F0 m 946 ls []) := by
  obtain ⟨hx, hb, hml, hown, hts, hK, hbs, hXW, hG⟩ := id X
  obtain ⟨h1, h2, h3, h4, h5⟩ := hT σ (xs (i + 1)) hσ
  refine lv_aload_n hx hb dL_law_946 rfl (lv_at hl 1 rfl) ?_
  refine lw_arg (j := 1) X hX hbl hbA hi hL hS (lv_at hl 0 rfl) (lv_at hl 5 rfl) (by decide) dL_law_947 dL_law_948 dL_law_950 dL_law_951 dL_law_952 ?_
  refine lv_aload_n hx hb dL_law_953 rfl (lv_at hl 3 rfl) ?_
  refine gl_ci (mc := 1) (ms := 6) (gl_run (As := [.ref (G.2.1 0), .int (xs (i + 1)), .ref (G.2.1 208)]) (rest := []) X (c_L_ranked l hfl G hG σ (xs (i + 1)) h1) ca_L_ranked km_L_182 rfl rfl ⟨Nat.le_of_ble_eq_true rfl, Nat.le_of_ble_eq_true rfl⟩ hP hS rfl hl.1 rfl (Nat.le_of_ble_eq_true rfl) ⟨by show cells + 1 ≤ 603072; omega, by show slots + 6 ≤ 7198826; omega⟩ dL_law_954) hS (fun q hq H locs hP hS => ?_)
  rw [← hq] at h2 h3 h4 h5
  dsimp only at h3 h4 h5
  refine lv_istore (lv' := [(6, .int q.2), (0, .ref b), (1, .ref (G.2.1 0)), (2, .ref (G.2.1 196)), (3, .ref (G.2.1 208)), (4, .ref (G.2.1 209)), (5, .int (nI i))]) hx hb dL_law_957 hl (by decide) rfl (fun ls hl => ?_)
  refine lv_aload_n hx hb dL_law_959 rfl (lv_at hl 3 rfl) ?_
  refine lw_arg (j := 1) X hX hbl hbA hi hL hS (lv_at hl 1 rfl) (lv_at hl 6 rfl) (by decide) dL_law_960 dL_law_961 dL_law_963 dL_law_964 dL_law_965 ?_
  refine g_cI (g_runV (i := 196) (As := [.int (xs (i + 1))]) (rest := []) X (c_X10_ranked l G hG q.1 (xs (i + 1)) h2) ca_X10_ranked km_L_184 rfl rfl ⟨Nat.le_of_ble_eq_true rfl, Nat.le_of_ble_eq_true rfl⟩ hP hS (ty_lt ab_196) (cell_10 ab_196) rfl rfl rfl hl.1 rfl (Nat.le_of_ble_eq_true rfl) ⟨by show cells + 1 + 0 ≤ 603072; omega, by show slots + 6 + 0 ≤ 7198826; omega⟩ dL_law_966) hS (fun r hr H locs hP hS => ?_)
  rw [← hr] at h3 h4 h5
  refine lv_istore (lv' := [(7, .int r.2), (6, .int q.2), (0, .ref b), (1, .ref (G.2.1 0)), (2, .ref (G.2.1 196)), (3, .ref (G.2.1 208)), (4, .ref (G.2.1 209)), (5, .int (nI i))]) hx hb dL_law_969 hl (by decide) rfl (fun ls hl => ?_)
  refine lv_aload_n hx hb dL_law_971 rfl (lv_at hl 4 rfl) ?_
  refine g_cIp (g_runV (i := 196) (As := []) (rest := []) X (c_X10_thrown l G hG r.1) ca_X10_thrown km_L_147 rfl rfl ⟨Nat.le_of_ble_eq_true rfl, Nat.le_of_ble_eq_true rfl⟩ hP hS (ty_lt ab_196) (cell_10 ab_196) rfl rfl rfl hl.1 rfl (Nat.le_of_ble_eq_true rfl) ⟨by show cells + 1 + 0 ≤ 603072; omega, by show slots + 6 + 0 ≤ 7198826; omega⟩ dL_law_972) hS (fun H locs hP hS => ?_)
  refine lv_iload hx hb dL_law_975 (lv_at hl 1 rfl) ?_
  refine lv_icmp_eq (tgt := 982) hx hb dL_law_977 (by decide) (fun _ => ?_) (fun hc => absurd h3 hc)
  refine lv_iload hx hb dL_law_982 (lv_at hl 1 rfl) ?_
  refine lv_if_ne (tgt := 999) hx hb dL_law_984 (by decide) (fun _ => ?_) (fun hc => ?_)
  · refine lv_goto (tgt := 2462) hx hb dL_law_999 (by decide) ?_
    refine W.widen (k := cells + 2) (n := slots + 12) (by omega) (by omega) ?_
    exact kk r.1 h5 H locs hP hS ls (lv_sub hl [2, 3, 4, 5, 6, 7] rfl)
  · have h41 := h4 hc
    refine lv_aload_n hx hb dL_law_987 rfl (lv_at hl 5 rfl) ?_
    refine lv_iconst (v := 0) hx hb dL_law_988 (by decide) ?_
    refine gl_lald X hP ab_208 (by rw [al_208]; unfold vp_in; decide) dL_law_989 ?_
    refine lv_iload hx hb dL_law_990 (lv_at hl 0 rfl) ?_
    refine lv_i2l (v := (r.2).toInt64) hx hb dL_law_992 rfl ?_
    refine W.lcmp hx hb dL_law_993 ?_
    rw [show (0 : Int32).toNatClampNeg = 0 from rfl, h41, lg_cmp_self]
    refine lv_if_eq (tgt := 999) hx hb dL_law_994 (by decide) (fun _ => ?_) (fun hc => absurd rfl hc)
    refine lv_goto (tgt := 2462) hx hb dL_law_999 (by decide) ?_
    refine W.widen (k := cells + 2) (n := slots + 12) (by omega) (by omega) ?_
    exact kk r.1 h5 H locs hP hS ls (lv_sub hl [2, 3, 4, 5, 6, 7] rfl)
set_option maxHeartbeats 4000000 in
set_option maxRecDepth 100000 in
theorem lw_case_11 {p : Program} {l : Launch} {e : Env} {s : State} {m : MethodId} {below : List Frame} {meth : Method} {c : Code} {H : Heap} {locs : List Loc} {cells slots : Nat} {Q : State → Prop} {G : GE} {ls : Array Slot} {σ : St} {S : St → Prop} {b L i : Nat} {xs : Nat → Int32} (hfl : l.stackTraces = false) (X : Cx G p s m #[Value.ref b] c cL_law 10 RL) (hX : va_X b L xs s s.heap) (hbl : b < s.heap.size) (hbA : ¬ GA G b) (hi : i + 6 ≤ L) (hL : L ≤ 3072) (hT : Sim_11 S) (hσ : S σ) (hc2 : cells + 2 ≤ 603072) (hs2 : slots + 12 ≤ 7198826) (hP : va_P G.1 vcl (wl G σ) H) (hS : va_S (GA G) s.heap H locs) (hl : lv_has ls 10 [(0, .ref b), (1, .ref (G.2.1 0)), (2, .ref (G.2.1 196)), (3, .ref (G.2.1 208)), (4, .ref (G.2.1 209)), (5, .int (nI i))]) (kk : ∀ (σ : St), S σ → ∀ (H : Heap) (locs : List Loc), va_P G.1 vcl (wl G σ) H → va_S (GA G) s.heap H locs → ∀ (ls : Array Slot), lv_has ls 10 [(0, .ref b), (1, .ref (G.2.1 0)), (2, .ref (G.2.1 196)), (3, .ref (G.2.1 208)), (4, .ref (G.2.1 209)), (5, .int (nI i))] → W p l e room_1 s m #[Value.ref b] below meth c H locs (cells + 2) (slots + 12) Q (F0 m 2462 ls [])) : W p l e room_1 s m #[Value.ref b] below meth c H locs cells slots Q (F0 m 1002 ls []) := by
  obtain ⟨hx, hb, hml, hown, hts, hK, hbs, hXW, hG⟩ := id X
  obtain ⟨h1, h2, h3, h4, h5⟩ := hT σ hσ
  refine lv_aload_n hx hb dL_law_1002 rfl (lv_at hl 1 rfl) ?_
  refine lv_aload_n hx hb dL_law_1003 rfl (lv_at hl 3 rfl) ?_
  refine gl_ci (mc := 1) (ms := 6) (gl_run (As := [.ref (G.2.1 0), .ref (G.2.1 208)]) (rest := []) X (c_L_potato l hfl G hG σ h1) ca_L_potato km_L_185 rfl rfl ⟨Nat.le_of_ble_eq_true rfl, Nat.le_of_ble_eq_true rfl⟩ hP hS rfl hl.1 rfl (Nat.le_of_ble_eq_true rfl) ⟨by show cells + 1 ≤ 603072; omega, by show slots + 6 ≤ 7198826; omega⟩ dL_law_1004) hS (fun q hq H locs hP hS => ?_)
  rw [← hq] at h2 h3 h4 h5
  dsimp only at h3 h4 h5
  refine lv_istore (lv' := [(6, .int q.2), (0, .ref b), (1, .ref (G.2.1 0)), (2, .ref (G.2.1 196)), (3, .ref (G.2.1 208)), (4, .ref (G.2.1 209)), (5, .int (nI i))]) hx hb dL_law_1007 hl (by decide) rfl (fun ls hl => ?_)
  refine lv_aload_n hx hb dL_law_1009 rfl (lv_at hl 3 rfl) ?_
  refine g_cI (g_runV (i := 196) (As := []) (rest := []) X (c_X10_potato l G hG q.1 h2) ca_X10_potato km_L_188 rfl rfl ⟨Nat.le_of_ble_eq_true rfl, Nat.le_of_ble_eq_true rfl⟩ hP hS (ty_lt ab_196) (cell_10 ab_196) rfl rfl rfl hl.1 rfl (Nat.le_of_ble_eq_true rfl) ⟨by show cells + 1 + 0 ≤ 603072; omega, by show slots + 6 + 0 ≤ 7198826; omega⟩ dL_law_1010) hS (fun r hr H locs hP hS => ?_)
  rw [← hr] at h3 h4 h5
  refine lv_istore (lv' := [(7, .int r.2), (6, .int q.2), (0, .ref b), (1, .ref (G.2.1 0)), (2, .ref (G.2.1 196)), (3, .ref (G.2.1 208)), (4, .ref (G.2.1 209)), (5, .int (nI i))]) hx hb dL_law_1013 hl (by decide) rfl (fun ls hl => ?_)
  refine lv_aload_n hx hb dL_law_1015 rfl (lv_at hl 4 rfl) ?_
  refine g_cIp (g_runV (i := 196) (As := []) (rest := []) X (c_X10_thrown l G hG r.1) ca_X10_thrown km_L_147 rfl rfl ⟨Nat.le_of_ble_eq_true rfl, Nat.le_of_ble_eq_true rfl⟩ hP hS (ty_lt ab_196) (cell_10 ab_196) rfl rfl rfl hl.1 rfl (Nat.le_of_ble_eq_true rfl) ⟨by show cells + 1 + 0 ≤ 603072; omega, by show slots + 6 + 0 ≤ 7198826; omega⟩ dL_law_1016) hS (fun H locs hP hS => ?_)
  refine lv_iload hx hb dL_law_1019 (lv_at hl 1 rfl) ?_
  refine lv_icmp_eq (tgt := 1026) hx hb dL_law_1021 (by decide) (fun _ => ?_) (fun hc => absurd h3 hc)
  refine lv_iload hx hb dL_law_1026 (lv_at hl 1 rfl) ?_
  refine lv_if_ne (tgt := 1043) hx hb dL_law_1028 (by decide) (fun _ => ?_) (fun hc => ?_)
  · refine lv_goto (tgt := 2462) hx hb dL_law_1043 (by decide) ?_
    refine W.widen (k := cells + 2) (n := slots + 12) (by omega) (by omega) ?_
    exact kk r.1 h5 H locs hP hS ls (lv_sub hl [2, 3, 4, 5, 6, 7] rfl)
  · have h41 := h4 hc
    refine lv_aload_n hx hb dL_law_1031 rfl (lv_at hl 5 rfl) ?_
    refine lv_iconst (v := 0) hx hb dL_law_1032 (by decide) ?_
    refine gl_lald X hP ab_208 (by rw [al_208]; unfold vp_in; decide) dL_law_1033 ?_
    refine lv_iload hx hb dL_law_1034 (lv_at hl 0 rfl) ?_
    refine lv_i2l (v := (r.2).toInt64) hx hb dL_law_1036 rfl ?_
    refine W.lcmp hx hb dL_law_1037 ?_
    rw [show (0 : Int32).toNatClampNeg = 0 from rfl, h41, lg_cmp_self]
    refine lv_if_eq (tgt := 1043) hx hb dL_law_1038 (by decide) (fun _ => ?_) (fun hc => absurd rfl hc)
    refine lv_goto (tgt := 2462) hx hb dL_law_1043 (by decide) ?_
    refine W.widen (k := cells + 2) (n := slots + 12) (by omega) (by omega) ?_
    exact kk r.1 h5 H locs hP hS ls (lv_sub hl [2, 3, 4, 5, 6, 7] rfl)
set_option maxHeartbeats 4000000 in
set_option maxRecDepth 100000 in
theorem lw_case_12 {p : Program} {l : Launch} {e : Env} {s : State} {m : MethodId} {below : List Frame} {meth : Method} {c : Code} {H : Heap} {locs : List Loc} {cells slots : Nat} {Q : State → Prop} {G : GE} {ls : Array Slot} {σ : St} {S : St → Prop} {b L i : Nat} {xs : Nat → Int32} (hfl : l.stackTraces = false) (X : Cx G p s m #[Value.ref b] c cL_law 10 RL) (hX : va_X b L xs s s.heap) (hbl : b < s.heap.size) (hbA : ¬ GA G b) (hi : i + 6 ≤ L) (hL : L ≤ 3072) (hT : Sim_12 S) (hσ : S σ) (hc2 : cells + 2 ≤ 603072) (hs2 : slots + 12 ≤ 7198826) (hP : va_P G.1 vcl (wl G σ) H) (hS : va_S (GA G) s.heap H locs) (hl : lv_has ls 10 [(0, .ref b), (1, .ref (G.2.1 0)), (2, .ref (G.2.1 196)), (3, .ref (G.2.1 208)), (4, .ref (G.2.1 209)), (5, .int (nI i))]) (kk : ∀ (σ : St), S σ → ∀ (H : Heap) (locs : List Loc), va_P G.1 vcl (wl G σ) H → va_S (GA G) s.heap H locs → ∀ (ls : Array Slot), lv_has ls 10 [(0, .ref b), (1, .ref (G.2.1 0)), (2, .ref (G.2.1 196)), (3, .ref (G.2.1 208)), (4, .ref (G.2.1 209)), (5, .int (nI i))] → W p l e room_1 s m #[Value.ref b] below meth c H locs (cells + 2) (slots + 12) Q (F0 m 2462 ls [])) : W p l e room_1 s m #[Value.ref b] below meth c H locs cells slots Q (F0 m 1046 ls []) := by
  obtain ⟨hx, hb, hml, hown, hts, hK, hbs, hXW, hG⟩ := id X
  obtain ⟨h1, h2, h3, h4, h5⟩ := hT σ (xs (i + 1)) hσ
  refine lv_aload_n hx hb dL_law_1046 rfl (lv_at hl 1 rfl) ?_
  refine lw_arg (j := 1) X hX hbl hbA hi hL hS (lv_at hl 0 rfl) (lv_at hl 5 rfl) (by decide) dL_law_1047 dL_law_1048 dL_law_1050 dL_law_1051 dL_law_1052 ?_
  refine lv_aload hx hb dL_law_1053 (lv_at hl 4 rfl) ?_
  refine gl_ci (mc := 1) (ms := 6) (gl_run (As := [.ref (G.2.1 0), .int (xs (i + 1)), .ref (G.2.1 209)]) (rest := []) X (c_L_firmness l hfl G hG σ (xs (i + 1)) h1) ca_L_firmness km_L_189 rfl rfl ⟨Nat.le_of_ble_eq_true rfl, Nat.le_of_ble_eq_true rfl⟩ hP hS rfl hl.1 rfl (Nat.le_of_ble_eq_true rfl) ⟨by show cells + 1 ≤ 603072; omega, by show slots + 6 ≤ 7198826; omega⟩ dL_law_1055) hS (fun q hq H locs hP hS => ?_)
  rw [← hq] at h2 h3 h4 h5
  dsimp only at h3 h4 h5
  refine lv_istore (lv' := [(6, .int q.2), (0, .ref b), (1, .ref (G.2.1 0)), (2, .ref (G.2.1 196)), (3, .ref (G.2.1 208)), (4, .ref (G.2.1 209)), (5, .int (nI i))]) hx hb dL_law_1058 hl (by decide) rfl (fun ls hl => ?_)
  refine lv_aload_n hx hb dL_law_1060 rfl (lv_at hl 3 rfl) ?_
  refine lw_arg (j := 1) X hX hbl hbA hi hL hS (lv_at hl 1 rfl) (lv_at hl 6 rfl) (by decide) dL_law_1061 dL_law_1062 dL_law_1064 dL_law_1065 dL_law_1066 ?_
  refine g_cF (g_runV (i := 196) (As := [.int (xs (i + 1))]) (rest := []) X (c_X10_firmness l G hG q.1 (xs (i + 1)) h2) ca_X10_firmness km_L_191 rfl rfl ⟨Nat.le_of_ble_eq_true rfl, Nat.le_of_ble_eq_true rfl⟩ hP hS (ty_lt ab_196) (cell_10 ab_196) rfl rfl rfl hl.1 rfl (Nat.le_of_ble_eq_true rfl) ⟨by show cells + 1 + 0 ≤ 603072; omega, by show slots + 6 + 0 ≤ 7198826; omega⟩ dL_law_1067) hS (fun r hr H locs hP hS => ?_)
  rw [← hr] at h3 h4 h5
  refine lv_fstore (lv' := [(7, .float r.2), (6, .int q.2), (0, .ref b), (1, .ref (G.2.1 0)), (2, .ref (G.2.1 196)), (3, .ref (G.2.1 208)), (4, .ref (G.2.1 209)), (5, .int (nI i))]) hx hb dL_law_1070 hl (by decide) rfl (fun ls hl => ?_)
  refine lv_aload_n hx hb dL_law_1072 rfl (lv_at hl 4 rfl) ?_
  refine g_cIp (g_runV (i := 196) (As := []) (rest := []) X (c_X10_thrown l G hG r.1) ca_X10_thrown km_L_147 rfl rfl ⟨Nat.le_of_ble_eq_true rfl, Nat.le_of_ble_eq_true rfl⟩ hP hS (ty_lt ab_196) (cell_10 ab_196) rfl rfl rfl hl.1 rfl (Nat.le_of_ble_eq_true rfl) ⟨by show cells + 1 + 0 ≤ 603072; omega, by show slots + 6 + 0 ≤ 7198826; omega⟩ dL_law_1073) hS (fun H locs hP hS => ?_)
  refine lv_iload hx hb dL_law_1076 (lv_at hl 1 rfl) ?_
  refine lv_icmp_eq (tgt := 1083) hx hb dL_law_1078 (by decide) (fun _ => ?_) (fun hc => absurd h3 hc)
  refine lv_iload hx hb dL_law_1083 (lv_at hl 1 rfl) ?_
  refine lv_if_ne (tgt := 1121) hx hb dL_law_1085 (by decide) (fun _ => ?_) (fun hc => ?_)
  · refine lv_goto (tgt := 2462) hx hb dL_law_1121 (by decide) ?_
    refine W.widen (k := cells + 2) (n := slots + 12) (by omega) (by omega) ?_
    exact kk r.1 h5 H locs hP hS ls (lv_sub hl [2, 3, 4, 5, 6, 7] rfl)
  · obtain ⟨h41, h42, h43⟩ := h4 hc
    refine lv_aload hx hb dL_law_1088 (lv_at hl 6 rfl) ?_
    refine lv_iconst (v := 0) hx hb dL_law_1090 (by decide) ?_
    refine gl_dald X hP ab_209 (by rw [al_209]; unfold vp_in; decide) dL_law_1091 ?_
    refine lv_fload hx hb dL_law_1092 (lv_at hl 0 rfl) ?_
    refine lv_f2d hx hb dL_law_1094 h42 ?_
    refine lv_dcmp hx hb dL_law_1095 ?_
    rw [show (0 : Int32).toNatClampNeg = 0 from rfl, h41, h43]
    refine lv_if_eq (tgt := 1121) hx hb dL_law_1096 (by decide) (fun _ => ?_) (fun hc => absurd rfl hc)
    refine lv_goto (tgt := 2462) hx hb dL_law_1121 (by decide) ?_
    refine W.widen (k := cells + 2) (n := slots + 12) (by omega) (by omega) ?_
    exact kk r.1 h5 H locs hP hS ls (lv_sub hl [2, 3, 4, 5, 6, 7] rfl)
set_option maxHeartbeats 4000000 in
set_option maxRecDepth 100000 in
theorem lw_case_13 {p : Program} {l : Launch} {e : Env} {s : State} {m : MethodId} {below : List Frame} {meth : Method} {c : Code} {H : Heap} {locs : List Loc} {cells slots : Nat} {Q : State → Prop} {G : GE} {ls : Array Slot} {σ : St} {S : St → Prop} {b L i : Nat} {xs : Nat → Int32} (hfl : l.stackTraces = false) (X : Cx G p s m #[Value.ref b] c cL_law 10 RL) (hX : va_X b L xs s s.heap) (hbl : b < s.heap.size) (hbA : ¬ GA G b) (hi : i + 6 ≤ L) (hL : L ≤ 3072) (hT : Sim_13 S) (hσ : S σ) (hc2 : cells + 2 ≤ 603072) (hs2 : slots + 12 ≤ 7198826) (hP : va_P G.1 vcl (wl G σ) H) (hS : va_S (GA G) s.heap H locs) (hl : lv_has ls 10 [(0, .ref b), (1, .ref (G.2.1 0)), (2, .ref (G.2.1 196)), (3, .ref (G.2.1 208)), (4, .ref (G.2.1 209)), (5, .int (nI i))]) (kk : ∀ (σ : St), S σ → ∀ (H : Heap) (locs : List Loc), va_P G.1 vcl (wl G σ) H → va_S (GA G) s.heap H locs → ∀ (ls : Array Slot), lv_has ls 10 [(0, .ref b), (1, .ref (G.2.1 0)), (2, .ref (G.2.1 196)), (3, .ref (G.2.1 208)), (4, .ref (G.2.1 209)), (5, .int (nI i))] → W p l e room_1 s m #[Value.ref b] below meth c H locs (cells + 2) (slots + 12) Q (F0 m 2462 ls [])) : W p l e room_1 s m #[Value.ref b] below meth c H locs cells slots Q (F0 m 1124 ls []) := by
  obtain ⟨hx, hb, hml, hown, hts, hK, hbs, hXW, hG⟩ := id X
  obtain ⟨h1, h2, h3, h4, h5⟩ := hT σ (xs (i + 1)) hσ
  refine lv_aload_n hx hb dL_law_1124 rfl (lv_at hl 1 rfl) ?_
  refine lw_arg (j := 1) X hX hbl hbA hi hL hS (lv_at hl 0 rfl) (lv_at hl 5 rfl) (by decide) dL_law_1125 dL_law_1126 dL_law_1128 dL_law_1129 dL_law_1130 ?_
  refine lv_aload_n hx hb dL_law_1131 rfl (lv_at hl 3 rfl) ?_
  refine gl_ci (mc := 1) (ms := 6) (gl_run (As := [.ref (G.2.1 0), .int (xs (i + 1)), .ref (G.2.1 208)]) (rest := []) X (c_L_print l hfl G hG σ (xs (i + 1)) h1) ca_L_print km_L_192 rfl rfl ⟨Nat.le_of_ble_eq_true rfl, Nat.le_of_ble_eq_true rfl⟩ hP hS rfl hl.1 rfl (Nat.le_of_ble_eq_true rfl) ⟨by show cells + 1 ≤ 603072; omega, by show slots + 6 ≤ 7198826; omega⟩ dL_law_1132) hS (fun q hq H locs hP hS => ?_)
  rw [← hq] at h2 h3 h4 h5
  dsimp only at h3 h4 h5
  refine lv_istore (lv' := [(6, .int q.2), (0, .ref b), (1, .ref (G.2.1 0)), (2, .ref (G.2.1 196)), (3, .ref (G.2.1 208)), (4, .ref (G.2.1 209)), (5, .int (nI i))]) hx hb dL_law_1135 hl (by decide) rfl (fun ls hl => ?_)
  refine lv_aload_n hx hb dL_law_1137 rfl (lv_at hl 3 rfl) ?_
  refine lw_arg (j := 1) X hX hbl hbA hi hL hS (lv_at hl 1 rfl) (lv_at hl 6 rfl) (by decide) dL_law_1138 dL_law_1139 dL_law_1141 dL_law_1142 dL_law_1143 ?_
  refine g_cI (g_runV (i := 196) (As := [.int (xs (i + 1))]) (rest := []) X (c_X10_print l G hG q.1 (xs (i + 1)) h2) ca_X10_print km_L_194 rfl rfl ⟨Nat.le_of_ble_eq_true rfl, Nat.le_of_ble_eq_true rfl⟩ hP hS (ty_lt ab_196) (cell_10 ab_196) rfl rfl rfl hl.1 rfl (Nat.le_of_ble_eq_true rfl) ⟨by show cells + 1 + 0 ≤ 603072; omega, by show slots + 6 + 0 ≤ 7198826; omega⟩ dL_law_1144) hS (fun r hr H locs hP hS => ?_)
  rw [← hr] at h3 h4 h5
  refine lv_istore (lv' := [(7, .int r.2), (6, .int q.2), (0, .ref b), (1, .ref (G.2.1 0)), (2, .ref (G.2.1 196)), (3, .ref (G.2.1 208)), (4, .ref (G.2.1 209)), (5, .int (nI i))]) hx hb dL_law_1147 hl (by decide) rfl (fun ls hl => ?_)
  refine lv_aload_n hx hb dL_law_1149 rfl (lv_at hl 4 rfl) ?_
  refine g_cIp (g_runV (i := 196) (As := []) (rest := []) X (c_X10_thrown l G hG r.1) ca_X10_thrown km_L_147 rfl rfl ⟨Nat.le_of_ble_eq_true rfl, Nat.le_of_ble_eq_true rfl⟩ hP hS (ty_lt ab_196) (cell_10 ab_196) rfl rfl rfl hl.1 rfl (Nat.le_of_ble_eq_true rfl) ⟨by show cells + 1 + 0 ≤ 603072; omega, by show slots + 6 + 0 ≤ 7198826; omega⟩ dL_law_1150) hS (fun H locs hP hS => ?_)
  refine lv_iload hx hb dL_law_1153 (lv_at hl 1 rfl) ?_
  refine lv_icmp_eq (tgt := 1160) hx hb dL_law_1155 (by decide) (fun _ => ?_) (fun hc => absurd h3 hc)
  refine lv_iload hx hb dL_law_1160 (lv_at hl 1 rfl) ?_
  refine lv_if_ne (tgt := 1177) hx hb dL_law_1162 (by decide) (fun _ => ?_) (fun hc => ?_)
  · refine lv_goto (tgt := 2462) hx hb dL_law_1177 (by decide) ?_
    refine W.widen (k := cells + 2) (n := slots + 12) (by omega) (by omega) ?_
    exact kk r.1 h5 H locs hP hS ls (lv_sub hl [2, 3, 4, 5, 6, 7] rfl)
  · have h41 := h4 hc
    refine lv_aload_n hx hb dL_law_1165 rfl (lv_at hl 5 rfl) ?_
    refine lv_iconst (v := 0) hx hb dL_law_1166 (by decide) ?_
    refine gl_lald X hP ab_208 (by rw [al_208]; unfold vp_in; decide) dL_law_1167 ?_
    refine lv_iload hx hb dL_law_1168 (lv_at hl 0 rfl) ?_
    refine lv_i2l (v := (r.2).toInt64) hx hb dL_law_1170 rfl ?_
    refine W.lcmp hx hb dL_law_1171 ?_
    rw [show (0 : Int32).toNatClampNeg = 0 from rfl, h41, lg_cmp_self]
    refine lv_if_eq (tgt := 1177) hx hb dL_law_1172 (by decide) (fun _ => ?_) (fun hc => absurd rfl hc)
    refine lv_goto (tgt := 2462) hx hb dL_law_1177 (by decide) ?_
    refine W.widen (k := cells + 2) (n := slots + 12) (by omega) (by omega) ?_
    exact kk r.1 h5 H locs hP hS ls (lv_sub hl [2, 3, 4, 5, 6, 7] rfl)
set_option maxHeartbeats 4000000 in
set_option maxRecDepth 100000 in
theorem lw_case_14 {p : Program} {l : Launch} {e : Env} {s : State} {m : MethodId} {below : List Frame} {meth : Method} {c : Code} {H : Heap} {locs : List Loc} {cells slots : Nat} {Q : State → Prop} {G : GE} {ls : Array Slot} {σ : St} {S : St → Prop} {b L i : Nat} {xs : Nat → Int32} (hfl : l.stackTraces = false) (X : Cx G p s m #[Value.ref b] c cL_law 10 RL) (hX : va_X b L xs s s.heap) (hbl : b < s.heap.size) (hbA : ¬ GA G b) (hi : i + 6 ≤ L) (hL : L ≤ 3072) (hT : Sim_14 S) (hσ : S σ) (hc2 : cells + 2 ≤ 603072) (hs2 : slots + 12 ≤ 7198826) (hP : va_P G.1 vcl (wl G σ) H) (hS : va_S (GA G) s.heap H locs) (hl : lv_has ls 10 [(0, .ref b), (1, .ref (G.2.1 0)), (2, .ref (G.2.1 196)), (3, .ref (G.2.1 208)), (4, .ref (G.2.1 209)), (5, .int (nI i))]) (kk : ∀ (σ : St), S σ → ∀ (H : Heap) (locs : List Loc), va_P G.1 vcl (wl G σ) H → va_S (GA G) s.heap H locs → ∀ (ls : Array Slot), lv_has ls 10 [(0, .ref b), (1, .ref (G.2.1 0)), (2, .ref (G.2.1 196)), (3, .ref (G.2.1 208)), (4, .ref (G.2.1 209)), (5, .int (nI i))] → W p l e room_1 s m #[Value.ref b] below meth c H locs (cells + 2) (slots + 12) Q (F0 m 2462 ls [])) : W p l e room_1 s m #[Value.ref b] below meth c H locs cells slots Q (F0 m 1180 ls []) := by
  obtain ⟨hx, hb, hml, hown, hts, hK, hbs, hXW, hG⟩ := id X
  obtain ⟨h1, h2, h3, h4, h5⟩ := hT σ (xs (i + 1)) hσ
  refine lv_aload_n hx hb dL_law_1180 rfl (lv_at hl 1 rfl) ?_
  refine lw_arg (j := 1) X hX hbl hbA hi hL hS (lv_at hl 0 rfl) (lv_at hl 5 rfl) (by decide) dL_law_1181 dL_law_1182 dL_law_1184 dL_law_1185 dL_law_1186 ?_
  refine lv_aload_n hx hb dL_law_1187 rfl (lv_at hl 3 rfl) ?_
  refine gl_ci (mc := 1) (ms := 6) (gl_run (As := [.ref (G.2.1 0), .int (xs (i + 1)), .ref (G.2.1 208)]) (rest := []) X (c_L_stampsOf l hfl G hG σ (xs (i + 1)) h1) ca_L_stampsOf km_L_195 rfl rfl ⟨Nat.le_of_ble_eq_true rfl, Nat.le_of_ble_eq_true rfl⟩ hP hS rfl hl.1 rfl (Nat.le_of_ble_eq_true rfl) ⟨by show cells + 1 ≤ 603072; omega, by show slots + 6 ≤ 7198826; omega⟩ dL_law_1188) hS (fun q hq H locs hP hS => ?_)
  rw [← hq] at h2 h3 h4 h5
  dsimp only at h3 h4 h5
  refine lv_istore (lv' := [(6, .int q.2), (0, .ref b), (1, .ref (G.2.1 0)), (2, .ref (G.2.1 196)), (3, .ref (G.2.1 208)), (4, .ref (G.2.1 209)), (5, .int (nI i))]) hx hb dL_law_1191 hl (by decide) rfl (fun ls hl => ?_)
  refine lv_aload_n hx hb dL_law_1193 rfl (lv_at hl 3 rfl) ?_
  refine lw_arg (j := 1) X hX hbl hbA hi hL hS (lv_at hl 1 rfl) (lv_at hl 6 rfl) (by decide) dL_law_1194 dL_law_1195 dL_law_1197 dL_law_1198 dL_law_1199 ?_
  refine g_cI (g_runV (i := 196) (As := [.int (xs (i + 1))]) (rest := []) X (c_X10_stampsOf l G hG q.1 (xs (i + 1)) h2) ca_X10_stampsOf km_L_197 rfl rfl ⟨Nat.le_of_ble_eq_true rfl, Nat.le_of_ble_eq_true rfl⟩ hP hS (ty_lt ab_196) (cell_10 ab_196) rfl rfl rfl hl.1 rfl (Nat.le_of_ble_eq_true rfl) ⟨by show cells + 1 + 0 ≤ 603072; omega, by show slots + 6 + 0 ≤ 7198826; omega⟩ dL_law_1200) hS (fun r hr H locs hP hS => ?_)
  rw [← hr] at h3 h4 h5
  refine lv_istore (lv' := [(7, .int r.2), (6, .int q.2), (0, .ref b), (1, .ref (G.2.1 0)), (2, .ref (G.2.1 196)), (3, .ref (G.2.1 208)), (4, .ref (G.2.1 209)), (5, .int (nI i))]) hx hb dL_law_1203 hl (by decide) rfl (fun ls hl => ?_)
  refine lv_aload_n hx hb dL_law_1205 rfl (lv_at hl 4 rfl) ?_
  refine g_cIp (g_runV (i := 196) (As := []) (rest := []) X (c_X10_thrown l G hG r.1) ca_X10_thrown km_L_147 rfl rfl ⟨Nat.le_of_ble_eq_true rfl, Nat.le_of_ble_eq_true rfl⟩ hP hS (ty_lt ab_196) (cell_10 ab_196) rfl rfl rfl hl.1 rfl (Nat.le_of_ble_eq_true rfl) ⟨by show cells + 1 + 0 ≤ 603072; omega, by show slots + 6 + 0 ≤ 7198826; omega⟩ dL_law_1206) hS (fun H locs hP hS => ?_)
  refine lv_iload hx hb dL_law_1209 (lv_at hl 1 rfl) ?_
  refine lv_icmp_eq (tgt := 1216) hx hb dL_law_1211 (by decide) (fun _ => ?_) (fun hc => absurd h3 hc)
  refine lv_iload hx hb dL_law_1216 (lv_at hl 1 rfl) ?_
  refine lv_if_ne (tgt := 1233) hx hb dL_law_1218 (by decide) (fun _ => ?_) (fun hc => ?_)
  · refine lv_goto (tgt := 2462) hx hb dL_law_1233 (by decide) ?_
    refine W.widen (k := cells + 2) (n := slots + 12) (by omega) (by omega) ?_
    exact kk r.1 h5 H locs hP hS ls (lv_sub hl [2, 3, 4, 5, 6, 7] rfl)
  · have h41 := h4 hc
    refine lv_aload_n hx hb dL_law_1221 rfl (lv_at hl 5 rfl) ?_
    refine lv_iconst (v := 0) hx hb dL_law_1222 (by decide) ?_
    refine gl_lald X hP ab_208 (by rw [al_208]; unfold vp_in; decide) dL_law_1223 ?_
    refine lv_iload hx hb dL_law_1224 (lv_at hl 0 rfl) ?_
    refine lv_i2l (v := (r.2).toInt64) hx hb dL_law_1226 rfl ?_
    refine W.lcmp hx hb dL_law_1227 ?_
    rw [show (0 : Int32).toNatClampNeg = 0 from rfl, h41, lg_cmp_self]
    refine lv_if_eq (tgt := 1233) hx hb dL_law_1228 (by decide) (fun _ => ?_) (fun hc => absurd rfl hc)
    refine lv_goto (tgt := 2462) hx hb dL_law_1233 (by decide) ?_
    refine W.widen (k := cells + 2) (n := slots + 12) (by omega) (by omega) ?_
    exact kk r.1 h5 H locs hP hS ls (lv_sub hl [2, 3, 4, 5, 6, 7] rfl)
set_option maxHeartbeats 4000000 in
set_option maxRecDepth 100000 in
theorem lw_case_15 {p : Program} {l : Launch} {e : Env} {s : State} {m : MethodId} {below : List Frame} {meth : Method} {c : Code} {H : Heap} {locs : List Loc} {cells slots : Nat} {Q : State → Prop} {G : GE} {ls : Array Slot} {σ : St} {S : St → Prop} {b L i : Nat} {xs : Nat → Int32} (hfl : l.stackTraces = false) (X : Cx G p s m #[Value.ref b] c cL_law 10 RL) (hX : va_X b L xs s s.heap) (hbl : b < s.heap.size) (hbA : ¬ GA G b) (hi : i + 6 ≤ L) (hL : L ≤ 3072) (hT : Sim_15 S) (hσ : S σ) (hc2 : cells + 2 ≤ 603072) (hs2 : slots + 12 ≤ 7198826) (hP : va_P G.1 vcl (wl G σ) H) (hS : va_S (GA G) s.heap H locs) (hl : lv_has ls 10 [(0, .ref b), (1, .ref (G.2.1 0)), (2, .ref (G.2.1 196)), (3, .ref (G.2.1 208)), (4, .ref (G.2.1 209)), (5, .int (nI i))]) (kk : ∀ (σ : St), S σ → ∀ (H : Heap) (locs : List Loc), va_P G.1 vcl (wl G σ) H → va_S (GA G) s.heap H locs → ∀ (ls : Array Slot), lv_has ls 10 [(0, .ref b), (1, .ref (G.2.1 0)), (2, .ref (G.2.1 196)), (3, .ref (G.2.1 208)), (4, .ref (G.2.1 209)), (5, .int (nI i))] → W p l e room_1 s m #[Value.ref b] below meth c H locs (cells + 2) (slots + 12) Q (F0 m 2462 ls [])) : W p l e room_1 s m #[Value.ref b] below meth c H locs cells slots Q (F0 m 1236 ls []) := by
  obtain ⟨hx, hb, hml, hown, hts, hK, hbs, hXW, hG⟩ := id X
  obtain ⟨h1, h2, h3, h4, h5⟩ := hT σ hσ
  refine lv_aload_n hx hb dL_law_1236 rfl (lv_at hl 1 rfl) ?_
  refine lv_aload_n hx hb dL_law_1237 rfl (lv_at hl 3 rfl) ?_
  refine gl_ci (mc := 1) (ms := 6) (gl_run (As := [.ref (G.2.1 0), .ref (G.2.1 208)]) (rest := []) X (c_L_best l hfl G hG σ h1) ca_L_best km_L_198 rfl rfl ⟨Nat.le_of_ble_eq_true rfl, Nat.le_of_ble_eq_true rfl⟩ hP hS rfl hl.1 rfl (Nat.le_of_ble_eq_true rfl) ⟨by show cells + 1 ≤ 603072; omega, by show slots + 6 ≤ 7198826; omega⟩ dL_law_1238) hS (fun q hq H locs hP hS => ?_)
  rw [← hq] at h2 h3 h4 h5
  dsimp only at h3 h4 h5
  refine lv_istore (lv' := [(6, .int q.2), (0, .ref b), (1, .ref (G.2.1 0)), (2, .ref (G.2.1 196)), (3, .ref (G.2.1 208)), (4, .ref (G.2.1 209)), (5, .int (nI i))]) hx hb dL_law_1241 hl (by decide) rfl (fun ls hl => ?_)
  refine lv_aload_n hx hb dL_law_1243 rfl (lv_at hl 3 rfl) ?_
  refine g_cI (g_runV (i := 196) (As := []) (rest := []) X (c_X10_best l G hG q.1 h2) ca_X10_best km_L_200 rfl rfl ⟨Nat.le_of_ble_eq_true rfl, Nat.le_of_ble_eq_true rfl⟩ hP hS (ty_lt ab_196) (cell_10 ab_196) rfl rfl rfl hl.1 rfl (Nat.le_of_ble_eq_true rfl) ⟨by show cells + 1 + 0 ≤ 603072; omega, by show slots + 6 + 0 ≤ 7198826; omega⟩ dL_law_1244) hS (fun r hr H locs hP hS => ?_)
  rw [← hr] at h3 h4 h5
  refine lv_istore (lv' := [(7, .int r.2), (6, .int q.2), (0, .ref b), (1, .ref (G.2.1 0)), (2, .ref (G.2.1 196)), (3, .ref (G.2.1 208)), (4, .ref (G.2.1 209)), (5, .int (nI i))]) hx hb dL_law_1247 hl (by decide) rfl (fun ls hl => ?_)
  refine lv_aload_n hx hb dL_law_1249 rfl (lv_at hl 4 rfl) ?_
  refine g_cIp (g_runV (i := 196) (As := []) (rest := []) X (c_X10_thrown l G hG r.1) ca_X10_thrown km_L_147 rfl rfl ⟨Nat.le_of_ble_eq_true rfl, Nat.le_of_ble_eq_true rfl⟩ hP hS (ty_lt ab_196) (cell_10 ab_196) rfl rfl rfl hl.1 rfl (Nat.le_of_ble_eq_true rfl) ⟨by show cells + 1 + 0 ≤ 603072; omega, by show slots + 6 + 0 ≤ 7198826; omega⟩ dL_law_1250) hS (fun H locs hP hS => ?_)
  refine lv_iload hx hb dL_law_1253 (lv_at hl 1 rfl) ?_
  refine lv_icmp_eq (tgt := 1260) hx hb dL_law_1255 (by decide) (fun _ => ?_) (fun hc => absurd h3 hc)
  refine lv_iload hx hb dL_law_1260 (lv_at hl 1 rfl) ?_
  refine lv_if_ne (tgt := 1277) hx hb dL_law_1262 (by decide) (fun _ => ?_) (fun hc => ?_)
  · refine lv_goto (tgt := 2462) hx hb dL_law_1277 (by decide) ?_
    refine W.widen (k := cells + 2) (n := slots + 12) (by omega) (by omega) ?_
    exact kk r.1 h5 H locs hP hS ls (lv_sub hl [2, 3, 4, 5, 6, 7] rfl)
  · have h41 := h4 hc
    refine lv_aload_n hx hb dL_law_1265 rfl (lv_at hl 5 rfl) ?_
    refine lv_iconst (v := 0) hx hb dL_law_1266 (by decide) ?_
    refine gl_lald X hP ab_208 (by rw [al_208]; unfold vp_in; decide) dL_law_1267 ?_
    refine lv_iload hx hb dL_law_1268 (lv_at hl 0 rfl) ?_
    refine lv_i2l (v := (r.2).toInt64) hx hb dL_law_1270 rfl ?_
    refine W.lcmp hx hb dL_law_1271 ?_
    rw [show (0 : Int32).toNatClampNeg = 0 from rfl, h41, lg_cmp_self]
    refine lv_if_eq (tgt := 1277) hx hb dL_law_1272 (by decide) (fun _ => ?_) (fun hc => absurd rfl hc)
    refine lv_goto (tgt := 2462) hx hb dL_law_1277 (by decide) ?_
    refine W.widen (k := cells + 2) (n := slots + 12) (by omega) (by omega) ?_
    exact kk r.1 h5 H locs hP hS ls (lv_sub hl [2, 3, 4, 5, 6, 7] rfl)
set_option maxHeartbeats 4000000 in
set_option maxRecDepth 100000 in
theorem lw_case_16 {p : Program} {l : Launch} {e : Env} {s : State} {m : MethodId} {below : List Frame} {meth : Method} {c : Code} {H : Heap} {locs : List Loc} {cells slots : Nat} {Q : State → Prop} {G : GE} {ls : Array Slot} {σ : St} {S : St → Prop} {b L i : Nat} {xs : Nat → Int32} (hfl : l.stackTraces = false) (X : Cx G p s m #[Value.ref b] c cL_law 10 RL) (hX : va_X b L xs s s.heap) (hbl : b < s.heap.size) (hbA : ¬ GA G b) (hi : i + 6 ≤ L) (hL : L ≤ 3072) (hT : Sim_16 S) (hσ : S σ) (hc2 : cells + 2 ≤ 603072) (hs2 : slots + 12 ≤ 7198826) (hP : va_P G.1 vcl (wl G σ) H) (hS : va_S (GA G) s.heap H locs) (hl : lv_has ls 10 [(0, .ref b), (1, .ref (G.2.1 0)), (2, .ref (G.2.1 196)), (3, .ref (G.2.1 208)), (4, .ref (G.2.1 209)), (5, .int (nI i))]) (kk : ∀ (σ : St), S σ → ∀ (H : Heap) (locs : List Loc), va_P G.1 vcl (wl G σ) H → va_S (GA G) s.heap H locs → ∀ (ls : Array Slot), lv_has ls 10 [(0, .ref b), (1, .ref (G.2.1 0)), (2, .ref (G.2.1 196)), (3, .ref (G.2.1 208)), (4, .ref (G.2.1 209)), (5, .int (nI i))] → W p l e room_1 s m #[Value.ref b] below meth c H locs (cells + 2) (slots + 12) Q (F0 m 2462 ls [])) : W p l e room_1 s m #[Value.ref b] below meth c H locs cells slots Q (F0 m 1280 ls []) := by
  obtain ⟨hx, hb, hml, hown, hts, hK, hbs, hXW, hG⟩ := id X
  obtain ⟨h1, h2, h3, h4, h5⟩ := hT σ (xs (i + 1)) hσ
  refine lv_aload_n hx hb dL_law_1280 rfl (lv_at hl 1 rfl) ?_
  refine lw_arg (j := 1) X hX hbl hbA hi hL hS (lv_at hl 0 rfl) (lv_at hl 5 rfl) (by decide) dL_law_1281 dL_law_1282 dL_law_1284 dL_law_1285 dL_law_1286 ?_
  refine lv_aload_n hx hb dL_law_1287 rfl (lv_at hl 3 rfl) ?_
  refine gl_ci (mc := 1) (ms := 6) (gl_run (As := [.ref (G.2.1 0), .int (xs (i + 1)), .ref (G.2.1 208)]) (rest := []) X (c_L_ink l hfl G hG σ (xs (i + 1)) h1) ca_L_ink km_L_201 rfl rfl ⟨Nat.le_of_ble_eq_true rfl, Nat.le_of_ble_eq_true rfl⟩ hP hS rfl hl.1 rfl (Nat.le_of_ble_eq_true rfl) ⟨by show cells + 1 ≤ 603072; omega, by show slots + 6 ≤ 7198826; omega⟩ dL_law_1288) hS (fun q hq H locs hP hS => ?_)
  rw [← hq] at h2 h3 h4 h5
  dsimp only at h3 h4 h5
  refine lv_istore (lv' := [(6, .int q.2), (0, .ref b), (1, .ref (G.2.1 0)), (2, .ref (G.2.1 196)), (3, .ref (G.2.1 208)), (4, .ref (G.2.1 209)), (5, .int (nI i))]) hx hb dL_law_1291 hl (by decide) rfl (fun ls hl => ?_)
  refine lv_aload_n hx hb dL_law_1293 rfl (lv_at hl 3 rfl) ?_
  refine lw_arg (j := 1) X hX hbl hbA hi hL hS (lv_at hl 1 rfl) (lv_at hl 6 rfl) (by decide) dL_law_1294 dL_law_1295 dL_law_1297 dL_law_1298 dL_law_1299 ?_
  refine g_cI (g_runV (i := 196) (As := [.int (xs (i + 1))]) (rest := []) X (c_X10_ink l G hG q.1 (xs (i + 1)) h2) ca_X10_ink km_L_203 rfl rfl ⟨Nat.le_of_ble_eq_true rfl, Nat.le_of_ble_eq_true rfl⟩ hP hS (ty_lt ab_196) (cell_10 ab_196) rfl rfl rfl hl.1 rfl (Nat.le_of_ble_eq_true rfl) ⟨by show cells + 1 + 0 ≤ 603072; omega, by show slots + 6 + 0 ≤ 7198826; omega⟩ dL_law_1300) hS (fun r hr H locs hP hS => ?_)
  rw [← hr] at h3 h4 h5
  refine lv_istore (lv' := [(7, .int r.2), (6, .int q.2), (0, .ref b), (1, .ref (G.2.1 0)), (2, .ref (G.2.1 196)), (3, .ref (G.2.1 208)), (4, .ref (G.2.1 209)), (5, .int (nI i))]) hx hb dL_law_1303 hl (by decide) rfl (fun ls hl => ?_)
  refine lv_aload_n hx hb dL_law_1305 rfl (lv_at hl 4 rfl) ?_
  refine g_cIp (g_runV (i := 196) (As := []) (rest := []) X (c_X10_thrown l G hG r.1) ca_X10_thrown km_L_147 rfl rfl ⟨Nat.le_of_ble_eq_true rfl, Nat.le_of_ble_eq_true rfl⟩ hP hS (ty_lt ab_196) (cell_10 ab_196) rfl rfl rfl hl.1 rfl (Nat.le_of_ble_eq_true rfl) ⟨by show cells + 1 + 0 ≤ 603072; omega, by show slots + 6 + 0 ≤ 7198826; omega⟩ dL_law_1306) hS (fun H locs hP hS => ?_)
  refine lv_iload hx hb dL_law_1309 (lv_at hl 1 rfl) ?_
  refine lv_icmp_eq (tgt := 1316) hx hb dL_law_1311 (by decide) (fun _ => ?_) (fun hc => absurd h3 hc)
  refine lv_iload hx hb dL_law_1316 (lv_at hl 1 rfl) ?_
  refine lv_if_ne (tgt := 1333) hx hb dL_law_1318 (by decide) (fun _ => ?_) (fun hc => ?_)
  · refine lv_goto (tgt := 2462) hx hb dL_law_1333 (by decide) ?_
    refine W.widen (k := cells + 2) (n := slots + 12) (by omega) (by omega) ?_
    exact kk r.1 h5 H locs hP hS ls (lv_sub hl [2, 3, 4, 5, 6, 7] rfl)
  · have h41 := h4 hc
    refine lv_aload_n hx hb dL_law_1321 rfl (lv_at hl 5 rfl) ?_
    refine lv_iconst (v := 0) hx hb dL_law_1322 (by decide) ?_
    refine gl_lald X hP ab_208 (by rw [al_208]; unfold vp_in; decide) dL_law_1323 ?_
    refine lv_iload hx hb dL_law_1324 (lv_at hl 0 rfl) ?_
    refine lv_i2l (v := (r.2).toInt64) hx hb dL_law_1326 rfl ?_
    refine W.lcmp hx hb dL_law_1327 ?_
    rw [show (0 : Int32).toNatClampNeg = 0 from rfl, h41, lg_cmp_self]
    refine lv_if_eq (tgt := 1333) hx hb dL_law_1328 (by decide) (fun _ => ?_) (fun hc => absurd rfl hc)
    refine lv_goto (tgt := 2462) hx hb dL_law_1333 (by decide) ?_
    refine W.widen (k := cells + 2) (n := slots + 12) (by omega) (by omega) ?_
    exact kk r.1 h5 H locs hP hS ls (lv_sub hl [2, 3, 4, 5, 6, 7] rfl)
set_option maxHeartbeats 4000000 in
set_option maxRecDepth 100000 in
theorem lw_case_17 {p : Program} {l : Launch} {e : Env} {s : State} {m : MethodId} {below : List Frame} {meth : Method} {c : Code} {H : Heap} {locs : List Loc} {cells slots : Nat} {Q : State → Prop} {G : GE} {ls : Array Slot} {σ : St} {S : St → Prop} {b L i : Nat} {xs : Nat → Int32} (hfl : l.stackTraces = false) (X : Cx G p s m #[Value.ref b] c cL_law 10 RL) (hX : va_X b L xs s s.heap) (hbl : b < s.heap.size) (hbA : ¬ GA G b) (hi : i + 6 ≤ L) (hL : L ≤ 3072) (hT : Sim_17 S) (hσ : S σ) (hc2 : cells + 2 ≤ 603072) (hs2 : slots + 12 ≤ 7198826) (hP : va_P G.1 vcl (wl G σ) H) (hS : va_S (GA G) s.heap H locs) (hl : lv_has ls 10 [(0, .ref b), (1, .ref (G.2.1 0)), (2, .ref (G.2.1 196)), (3, .ref (G.2.1 208)), (4, .ref (G.2.1 209)), (5, .int (nI i))]) (kk : ∀ (σ : St), S σ → ∀ (H : Heap) (locs : List Loc), va_P G.1 vcl (wl G σ) H → va_S (GA G) s.heap H locs → ∀ (ls : Array Slot), lv_has ls 10 [(0, .ref b), (1, .ref (G.2.1 0)), (2, .ref (G.2.1 196)), (3, .ref (G.2.1 208)), (4, .ref (G.2.1 209)), (5, .int (nI i))] → W p l e room_1 s m #[Value.ref b] below meth c H locs (cells + 2) (slots + 12) Q (F0 m 2462 ls [])) : W p l e room_1 s m #[Value.ref b] below meth c H locs cells slots Q (F0 m 1336 ls []) := by
  obtain ⟨hx, hb, hml, hown, hts, hK, hbs, hXW, hG⟩ := id X
  refine lv_aload_n hx hb dL_law_1336 rfl (lv_at hl 1 rfl) ?_
  obtain ⟨h1, h2, h3, h4⟩ := hT σ hσ
  refine g_cFp (g_runV (i := 0) (As := []) (rest := []) X (c_X9_inkNow l G hG σ) ca_X9_inkNow km_L_204 rfl rfl ⟨Nat.le_of_ble_eq_true rfl, Nat.le_of_ble_eq_true rfl⟩ hP hS (ty_lt ab_0) (cell_9 ab_0) rfl rfl rfl hl.1 rfl (Nat.le_of_ble_eq_true rfl) ⟨by show cells + 0 ≤ 603072; omega, by show slots + 0 ≤ 7198826; omega⟩ dL_law_1337) hS (fun H locs hP hS => ?_)
  refine lv_f2d hx hb dL_law_1340 h2 ?_
  refine lv_dstore (lv' := [(6, .double (FP.f2d (f_X9_inkNow σ))), (0, .ref b), (1, .ref (G.2.1 0)), (2, .ref (G.2.1 196)), (3, .ref (G.2.1 208)), (4, .ref (G.2.1 209)), (5, .int (nI i))]) hx hb dL_law_1341 hl (by decide) rfl (fun ls hl => ?_)
  refine lv_aload_n hx hb dL_law_1343 rfl (lv_at hl 3 rfl) ?_
  refine g_cF (g_runV (i := 196) (As := []) (rest := []) X (c_X10_inkNow l G hG σ) ca_X10_inkNow km_L_208 rfl rfl ⟨Nat.le_of_ble_eq_true rfl, Nat.le_of_ble_eq_true rfl⟩ hP hS (ty_lt ab_196) (cell_10 ab_196) rfl rfl rfl hl.1 rfl (Nat.le_of_ble_eq_true rfl) ⟨by show cells + 0 ≤ 603072; omega, by show slots + 0 ≤ 7198826; omega⟩ dL_law_1344) hS (fun r hr H locs hP hS => ?_)
  rw [← hr] at h1 h4
  rw [h1] at h2 h3 hl
  refine lv_f2d hx hb dL_law_1347 h2 ?_
  have hl : lv_has ls 10 [(6, .double (FP.f2d (r.2))), (0, .ref b), (1, .ref (G.2.1 0)), (2, .ref (G.2.1 196)), (3, .ref (G.2.1 208)), (4, .ref (G.2.1 209)), (5, .int (nI i))] := hl
  refine lv_dstore (lv' := [(8, .double (FP.f2d r.2)), (6, .double (FP.f2d (r.2))), (0, .ref b), (1, .ref (G.2.1 0)), (2, .ref (G.2.1 196)), (3, .ref (G.2.1 208)), (4, .ref (G.2.1 209)), (5, .int (nI i))]) hx hb dL_law_1348 hl (by decide) rfl (fun ls hl => ?_)
  refine lv_dload hx hb dL_law_1350 (lv_at hl 1 rfl) ?_
  refine lv_dload hx hb dL_law_1352 (lv_at hl 0 rfl) ?_
  refine lv_dcmp hx hb dL_law_1354 ?_
  rw [h3]
  refine lv_if_eq (tgt := 1376) hx hb dL_law_1355 (by decide) (fun _ => ?_) (fun hc => absurd rfl hc)
  refine lv_goto (tgt := 2462) hx hb dL_law_1376 (by decide) ?_
  refine W.widen (k := cells + 2) (n := slots + 12) (by omega) (by omega) ?_
  exact kk r.1 h4 H locs hP hS ls (lv_sub hl [2, 3, 4, 5, 6, 7] rfl)
set_option maxHeartbeats 4000000 in
set_option maxRecDepth 100000 in
theorem lw_case_18 {p : Program} {l : Launch} {e : Env} {s : State} {m : MethodId} {below : List Frame} {meth : Method} {c : Code} {H : Heap} {locs : List Loc} {cells slots : Nat} {Q : State → Prop} {G : GE} {ls : Array Slot} {σ : St} {S : St → Prop} {b L i : Nat} {xs : Nat → Int32} (hfl : l.stackTraces = false) (X : Cx G p s m #[Value.ref b] c cL_law 10 RL) (hX : va_X b L xs s s.heap) (hbl : b < s.heap.size) (hbA : ¬ GA G b) (hi : i + 6 ≤ L) (hL : L ≤ 3072) (hT : Sim_18 S) (hσ : S σ) (hc2 : cells + 2 ≤ 603072) (hs2 : slots + 12 ≤ 7198826) (hP : va_P G.1 vcl (wl G σ) H) (hS : va_S (GA G) s.heap H locs) (hl : lv_has ls 10 [(0, .ref b), (1, .ref (G.2.1 0)), (2, .ref (G.2.1 196)), (3, .ref (G.2.1 208)), (4, .ref (G.2.1 209)), (5, .int (nI i))]) (kk : ∀ (σ : St), S σ → ∀ (H : Heap) (locs : List Loc), va_P G.1 vcl (wl G σ) H → va_S (GA G) s.heap H locs → ∀ (ls : Array Slot), lv_has ls 10 [(0, .ref b), (1, .ref (G.2.1 0)), (2, .ref (G.2.1 196)), (3, .ref (G.2.1 208)), (4, .ref (G.2.1 209)), (5, .int (nI i))] → W p l e room_1 s m #[Value.ref b] below meth c H locs (cells + 2) (slots + 12) Q (F0 m 2462 ls [])) : W p l e room_1 s m #[Value.ref b] below meth c H locs cells slots Q (F0 m 1379 ls []) := by
  obtain ⟨hx, hb, hml, hown, hts, hK, hbs, hXW, hG⟩ := id X
  obtain ⟨h1, h2, h3, h4, h5⟩ := hT σ (xs (i + 1)) (xs (i + 2)) hσ
  refine lv_aload_n hx hb dL_law_1379 rfl (lv_at hl 1 rfl) ?_
  refine lw_arg (j := 1) X hX hbl hbA hi hL hS (lv_at hl 0 rfl) (lv_at hl 5 rfl) (by decide) dL_law_1380 dL_law_1381 dL_law_1383 dL_law_1384 dL_law_1385 ?_
  refine lw_arg (j := 2) X hX hbl hbA hi hL hS (lv_at hl 0 rfl) (lv_at hl 5 rfl) (by decide) dL_law_1386 dL_law_1387 dL_law_1389 dL_law_1390 dL_law_1391 ?_
  refine lv_aload_n hx hb dL_law_1392 rfl (lv_at hl 3 rfl) ?_
  refine gl_ci (mc := 1) (ms := 6) (gl_run (As := [.ref (G.2.1 0), .int (xs (i + 1)), .int (xs (i + 2)), .ref (G.2.1 208)]) (rest := []) X (c_L_stamp l hfl G hG σ (xs (i + 1)) (xs (i + 2)) h1) ca_L_stamp km_L_209 rfl rfl ⟨Nat.le_of_ble_eq_true rfl, Nat.le_of_ble_eq_true rfl⟩ hP hS rfl hl.1 rfl (Nat.le_of_ble_eq_true rfl) ⟨by show cells + 1 ≤ 603072; omega, by show slots + 6 ≤ 7198826; omega⟩ dL_law_1393) hS (fun q hq H locs hP hS => ?_)
  rw [← hq] at h2 h3 h4 h5
  dsimp only at h3 h4 h5
  refine lv_istore (lv' := [(6, .int q.2), (0, .ref b), (1, .ref (G.2.1 0)), (2, .ref (G.2.1 196)), (3, .ref (G.2.1 208)), (4, .ref (G.2.1 209)), (5, .int (nI i))]) hx hb dL_law_1396 hl (by decide) rfl (fun ls hl => ?_)
  refine lv_aload_n hx hb dL_law_1398 rfl (lv_at hl 3 rfl) ?_
  refine lw_arg (j := 1) X hX hbl hbA hi hL hS (lv_at hl 1 rfl) (lv_at hl 6 rfl) (by decide) dL_law_1399 dL_law_1400 dL_law_1402 dL_law_1403 dL_law_1404 ?_
  refine lw_arg (j := 2) X hX hbl hbA hi hL hS (lv_at hl 1 rfl) (lv_at hl 6 rfl) (by decide) dL_law_1405 dL_law_1406 dL_law_1408 dL_law_1409 dL_law_1410 ?_
  refine g_cI (g_runV (i := 196) (As := [.int (xs (i + 1)), .int (xs (i + 2))]) (rest := []) X (c_X10_stamp l G hG q.1 (xs (i + 1)) (xs (i + 2)) h2) ca_X10_stamp km_L_211 rfl rfl ⟨Nat.le_of_ble_eq_true rfl, Nat.le_of_ble_eq_true rfl⟩ hP hS (ty_lt ab_196) (cell_10 ab_196) rfl rfl rfl hl.1 rfl (Nat.le_of_ble_eq_true rfl) ⟨by show cells + 1 + 0 ≤ 603072; omega, by show slots + 6 + 0 ≤ 7198826; omega⟩ dL_law_1411) hS (fun r hr H locs hP hS => ?_)
  rw [← hr] at h3 h4 h5
  refine lv_istore (lv' := [(7, .int r.2), (6, .int q.2), (0, .ref b), (1, .ref (G.2.1 0)), (2, .ref (G.2.1 196)), (3, .ref (G.2.1 208)), (4, .ref (G.2.1 209)), (5, .int (nI i))]) hx hb dL_law_1414 hl (by decide) rfl (fun ls hl => ?_)
  refine lv_aload_n hx hb dL_law_1416 rfl (lv_at hl 4 rfl) ?_
  refine g_cIp (g_runV (i := 196) (As := []) (rest := []) X (c_X10_thrown l G hG r.1) ca_X10_thrown km_L_147 rfl rfl ⟨Nat.le_of_ble_eq_true rfl, Nat.le_of_ble_eq_true rfl⟩ hP hS (ty_lt ab_196) (cell_10 ab_196) rfl rfl rfl hl.1 rfl (Nat.le_of_ble_eq_true rfl) ⟨by show cells + 1 + 0 ≤ 603072; omega, by show slots + 6 + 0 ≤ 7198826; omega⟩ dL_law_1417) hS (fun H locs hP hS => ?_)
  refine lv_iload hx hb dL_law_1420 (lv_at hl 1 rfl) ?_
  refine lv_icmp_eq (tgt := 1427) hx hb dL_law_1422 (by decide) (fun _ => ?_) (fun hc => absurd h3 hc)
  refine lv_iload hx hb dL_law_1427 (lv_at hl 1 rfl) ?_
  refine lv_if_ne (tgt := 1444) hx hb dL_law_1429 (by decide) (fun _ => ?_) (fun hc => ?_)
  · refine lv_goto (tgt := 2462) hx hb dL_law_1444 (by decide) ?_
    refine W.widen (k := cells + 2) (n := slots + 12) (by omega) (by omega) ?_
    exact kk r.1 h5 H locs hP hS ls (lv_sub hl [2, 3, 4, 5, 6, 7] rfl)
  · have h41 := h4 hc
    refine lv_aload_n hx hb dL_law_1432 rfl (lv_at hl 5 rfl) ?_
    refine lv_iconst (v := 0) hx hb dL_law_1433 (by decide) ?_
    refine gl_lald X hP ab_208 (by rw [al_208]; unfold vp_in; decide) dL_law_1434 ?_
    refine lv_iload hx hb dL_law_1435 (lv_at hl 0 rfl) ?_
    refine lv_i2l (v := (r.2).toInt64) hx hb dL_law_1437 rfl ?_
    refine W.lcmp hx hb dL_law_1438 ?_
    rw [show (0 : Int32).toNatClampNeg = 0 from rfl, h41, lg_cmp_self]
    refine lv_if_eq (tgt := 1444) hx hb dL_law_1439 (by decide) (fun _ => ?_) (fun hc => absurd rfl hc)
    refine lv_goto (tgt := 2462) hx hb dL_law_1444 (by decide) ?_
    refine W.widen (k := cells + 2) (n := slots + 12) (by omega) (by omega) ?_
    exact kk r.1 h5 H locs hP hS ls (lv_sub hl [2, 3, 4, 5, 6, 7] rfl)
set_option maxHeartbeats 4000000 in
set_option maxRecDepth 100000 in
theorem lw_case_19 {p : Program} {l : Launch} {e : Env} {s : State} {m : MethodId} {below : List Frame} {meth : Method} {c : Code} {H : Heap} {locs : List Loc} {cells slots : Nat} {Q : State → Prop} {G : GE} {ls : Array Slot} {σ : St} {S : St → Prop} {b L i : Nat} {xs : Nat → Int32} (hfl : l.stackTraces = false) (X : Cx G p s m #[Value.ref b] c cL_law 10 RL) (hX : va_X b L xs s s.heap) (hbl : b < s.heap.size) (hbA : ¬ GA G b) (hi : i + 6 ≤ L) (hL : L ≤ 3072) (hT : Sim_19 S) (hσ : S σ) (hc2 : cells + 2 ≤ 603072) (hs2 : slots + 12 ≤ 7198826) (hP : va_P G.1 vcl (wl G σ) H) (hS : va_S (GA G) s.heap H locs) (hl : lv_has ls 10 [(0, .ref b), (1, .ref (G.2.1 0)), (2, .ref (G.2.1 196)), (3, .ref (G.2.1 208)), (4, .ref (G.2.1 209)), (5, .int (nI i))]) (kk : ∀ (σ : St), S σ → ∀ (H : Heap) (locs : List Loc), va_P G.1 vcl (wl G σ) H → va_S (GA G) s.heap H locs → ∀ (ls : Array Slot), lv_has ls 10 [(0, .ref b), (1, .ref (G.2.1 0)), (2, .ref (G.2.1 196)), (3, .ref (G.2.1 208)), (4, .ref (G.2.1 209)), (5, .int (nI i))] → W p l e room_1 s m #[Value.ref b] below meth c H locs (cells + 2) (slots + 12) Q (F0 m 2462 ls [])) : W p l e room_1 s m #[Value.ref b] below meth c H locs cells slots Q (F0 m 1447 ls []) := by
  obtain ⟨hx, hb, hml, hown, hts, hK, hbs, hXW, hG⟩ := id X
  obtain ⟨h1, h2, h3, h4, h5⟩ := hT σ (xs (i + 1)) (xs (i + 2)) hσ
  refine lv_aload_n hx hb dL_law_1447 rfl (lv_at hl 1 rfl) ?_
  refine lw_arg (j := 1) X hX hbl hbA hi hL hS (lv_at hl 0 rfl) (lv_at hl 5 rfl) (by decide) dL_law_1448 dL_law_1449 dL_law_1451 dL_law_1452 dL_law_1453 ?_
  refine lw_arg (j := 2) X hX hbl hbA hi hL hS (lv_at hl 0 rfl) (lv_at hl 5 rfl) (by decide) dL_law_1454 dL_law_1455 dL_law_1457 dL_law_1458 dL_law_1459 ?_
  refine lv_aload_n hx hb dL_law_1460 rfl (lv_at hl 3 rfl) ?_
  refine gl_ci (mc := 1) (ms := 6) (gl_run (As := [.ref (G.2.1 0), .int (xs (i + 1)), .int (xs (i + 2)), .ref (G.2.1 208)]) (rest := []) X (c_L_shelve l hfl G hG σ (xs (i + 1)) (xs (i + 2)) h1) ca_L_shelve km_L_212 rfl rfl ⟨Nat.le_of_ble_eq_true rfl, Nat.le_of_ble_eq_true rfl⟩ hP hS rfl hl.1 rfl (Nat.le_of_ble_eq_true rfl) ⟨by show cells + 1 ≤ 603072; omega, by show slots + 6 ≤ 7198826; omega⟩ dL_law_1461) hS (fun q hq H locs hP hS => ?_)
  rw [← hq] at h2 h3 h4 h5
  dsimp only at h3 h4 h5
  refine lv_istore (lv' := [(6, .int q.2), (0, .ref b), (1, .ref (G.2.1 0)), (2, .ref (G.2.1 196)), (3, .ref (G.2.1 208)), (4, .ref (G.2.1 209)), (5, .int (nI i))]) hx hb dL_law_1464 hl (by decide) rfl (fun ls hl => ?_)
  refine lv_aload_n hx hb dL_law_1466 rfl (lv_at hl 3 rfl) ?_
  refine lw_arg (j := 1) X hX hbl hbA hi hL hS (lv_at hl 1 rfl) (lv_at hl 6 rfl) (by decide) dL_law_1467 dL_law_1468 dL_law_1470 dL_law_1471 dL_law_1472 ?_
  refine lw_arg (j := 2) X hX hbl hbA hi hL hS (lv_at hl 1 rfl) (lv_at hl 6 rfl) (by decide) dL_law_1473 dL_law_1474 dL_law_1476 dL_law_1477 dL_law_1478 ?_
  refine g_cI (g_runV (i := 196) (As := [.int (xs (i + 1)), .int (xs (i + 2))]) (rest := []) X (c_X10_shelve l G hG q.1 (xs (i + 1)) (xs (i + 2)) h2) ca_X10_shelve km_L_214 rfl rfl ⟨Nat.le_of_ble_eq_true rfl, Nat.le_of_ble_eq_true rfl⟩ hP hS (ty_lt ab_196) (cell_10 ab_196) rfl rfl rfl hl.1 rfl (Nat.le_of_ble_eq_true rfl) ⟨by show cells + 1 + 0 ≤ 603072; omega, by show slots + 6 + 0 ≤ 7198826; omega⟩ dL_law_1479) hS (fun r hr H locs hP hS => ?_)
  rw [← hr] at h3 h4 h5
  refine lv_istore (lv' := [(7, .int r.2), (6, .int q.2), (0, .ref b), (1, .ref (G.2.1 0)), (2, .ref (G.2.1 196)), (3, .ref (G.2.1 208)), (4, .ref (G.2.1 209)), (5, .int (nI i))]) hx hb dL_law_1482 hl (by decide) rfl (fun ls hl => ?_)
  refine lv_aload_n hx hb dL_law_1484 rfl (lv_at hl 4 rfl) ?_
  refine g_cIp (g_runV (i := 196) (As := []) (rest := []) X (c_X10_thrown l G hG r.1) ca_X10_thrown km_L_147 rfl rfl ⟨Nat.le_of_ble_eq_true rfl, Nat.le_of_ble_eq_true rfl⟩ hP hS (ty_lt ab_196) (cell_10 ab_196) rfl rfl rfl hl.1 rfl (Nat.le_of_ble_eq_true rfl) ⟨by show cells + 1 + 0 ≤ 603072; omega, by show slots + 6 + 0 ≤ 7198826; omega⟩ dL_law_1485) hS (fun H locs hP hS => ?_)
  refine lv_iload hx hb dL_law_1488 (lv_at hl 1 rfl) ?_
  refine lv_icmp_eq (tgt := 1495) hx hb dL_law_1490 (by decide) (fun _ => ?_) (fun hc => absurd h3 hc)
  refine lv_iload hx hb dL_law_1495 (lv_at hl 1 rfl) ?_
  refine lv_if_ne (tgt := 1512) hx hb dL_law_1497 (by decide) (fun _ => ?_) (fun hc => ?_)
  · refine lv_goto (tgt := 2462) hx hb dL_law_1512 (by decide) ?_
    refine W.widen (k := cells + 2) (n := slots + 12) (by omega) (by omega) ?_
    exact kk r.1 h5 H locs hP hS ls (lv_sub hl [2, 3, 4, 5, 6, 7] rfl)
  · have h41 := h4 hc
    refine lv_aload_n hx hb dL_law_1500 rfl (lv_at hl 5 rfl) ?_
    refine lv_iconst (v := 0) hx hb dL_law_1501 (by decide) ?_
    refine gl_lald X hP ab_208 (by rw [al_208]; unfold vp_in; decide) dL_law_1502 ?_
    refine lv_iload hx hb dL_law_1503 (lv_at hl 0 rfl) ?_
    refine lv_i2l (v := (r.2).toInt64) hx hb dL_law_1505 rfl ?_
    refine W.lcmp hx hb dL_law_1506 ?_
    rw [show (0 : Int32).toNatClampNeg = 0 from rfl, h41, lg_cmp_self]
    refine lv_if_eq (tgt := 1512) hx hb dL_law_1507 (by decide) (fun _ => ?_) (fun hc => absurd rfl hc)
    refine lv_goto (tgt := 2462) hx hb dL_law_1512 (by decide) ?_
    refine W.widen (k := cells + 2) (n := slots + 12) (by omega) (by omega) ?_
    exact kk r.1 h5 H locs hP hS ls (lv_sub hl [2, 3, 4, 5, 6, 7] rfl)
set_option maxHeartbeats 4000000 in
set_option maxRecDepth 100000 in
theorem lw_case_20 {p : Program} {l : Launch} {e : Env} {s : State} {m : MethodId} {below : List Frame} {meth : Method} {c : Code} {H : Heap} {locs : List Loc} {cells slots : Nat} {Q : State → Prop} {G : GE} {ls : Array Slot} {σ : St} {S : St → Prop} {b L i : Nat} {xs : Nat → Int32} (hfl : l.stackTraces = false) (X : Cx G p s m #[Value.ref b] c cL_law 10 RL) (hX : va_X b L xs s s.heap) (hbl : b < s.heap.size) (hbA : ¬ GA G b) (hi : i + 6 ≤ L) (hL : L ≤ 3072) (hT : Sim_20 S) (hσ : S σ) (hc2 : cells + 2 ≤ 603072) (hs2 : slots + 12 ≤ 7198826) (hP : va_P G.1 vcl (wl G σ) H) (hS : va_S (GA G) s.heap H locs) (hl : lv_has ls 10 [(0, .ref b), (1, .ref (G.2.1 0)), (2, .ref (G.2.1 196)), (3, .ref (G.2.1 208)), (4, .ref (G.2.1 209)), (5, .int (nI i))]) (kk : ∀ (σ : St), S σ → ∀ (H : Heap) (locs : List Loc), va_P G.1 vcl (wl G σ) H → va_S (GA G) s.heap H locs → ∀ (ls : Array Slot), lv_has ls 10 [(0, .ref b), (1, .ref (G.2.1 0)), (2, .ref (G.2.1 196)), (3, .ref (G.2.1 208)), (4, .ref (G.2.1 209)), (5, .int (nI i))] → W p l e room_1 s m #[Value.ref b] below meth c H locs (cells + 2) (slots + 12) Q (F0 m 2462 ls [])) : W p l e room_1 s m #[Value.ref b] below meth c H locs cells slots Q (F0 m 1515 ls []) := by
  obtain ⟨hx, hb, hml, hown, hts, hK, hbs, hXW, hG⟩ := id X
  obtain ⟨h1, h2, h3, h4, h5⟩ := hT σ (xs (i + 1)) hσ
  refine lv_aload_n hx hb dL_law_1515 rfl (lv_at hl 1 rfl) ?_
  refine lw_arg (j := 1) X hX hbl hbA hi hL hS (lv_at hl 0 rfl) (lv_at hl 5 rfl) (by decide) dL_law_1516 dL_law_1517 dL_law_1519 dL_law_1520 dL_law_1521 ?_
  refine lv_aload_n hx hb dL_law_1522 rfl (lv_at hl 3 rfl) ?_
  refine gl_ci (mc := 1) (ms := 6) (gl_run (As := [.ref (G.2.1 0), .int (xs (i + 1)), .ref (G.2.1 208)]) (rest := []) X (c_L_take l hfl G hG σ (xs (i + 1)) h1) ca_L_take km_L_215 rfl rfl ⟨Nat.le_of_ble_eq_true rfl, Nat.le_of_ble_eq_true rfl⟩ hP hS rfl hl.1 rfl (Nat.le_of_ble_eq_true rfl) ⟨by show cells + 1 ≤ 603072; omega, by show slots + 6 ≤ 7198826; omega⟩ dL_law_1523) hS (fun q hq H locs hP hS => ?_)
  rw [← hq] at h2 h3 h4 h5
  dsimp only at h3 h4 h5
  refine lv_istore (lv' := [(6, .int q.2), (0, .ref b), (1, .ref (G.2.1 0)), (2, .ref (G.2.1 196)), (3, .ref (G.2.1 208)), (4, .ref (G.2.1 209)), (5, .int (nI i))]) hx hb dL_law_1526 hl (by decide) rfl (fun ls hl => ?_)
  refine lv_aload_n hx hb dL_law_1528 rfl (lv_at hl 3 rfl) ?_
  refine lw_arg (j := 1) X hX hbl hbA hi hL hS (lv_at hl 1 rfl) (lv_at hl 6 rfl) (by decide) dL_law_1529 dL_law_1530 dL_law_1532 dL_law_1533 dL_law_1534 ?_
  refine g_cI (g_runV (i := 196) (As := [.int (xs (i + 1))]) (rest := []) X (c_X10_take l G hG q.1 (xs (i + 1)) h2) ca_X10_take km_L_217 rfl rfl ⟨Nat.le_of_ble_eq_true rfl, Nat.le_of_ble_eq_true rfl⟩ hP hS (ty_lt ab_196) (cell_10 ab_196) rfl rfl rfl hl.1 rfl (Nat.le_of_ble_eq_true rfl) ⟨by show cells + 1 + 0 ≤ 603072; omega, by show slots + 6 + 0 ≤ 7198826; omega⟩ dL_law_1535) hS (fun r hr H locs hP hS => ?_)
  rw [← hr] at h3 h4 h5
  refine lv_istore (lv' := [(7, .int r.2), (6, .int q.2), (0, .ref b), (1, .ref (G.2.1 0)), (2, .ref (G.2.1 196)), (3, .ref (G.2.1 208)), (4, .ref (G.2.1 209)), (5, .int (nI i))]) hx hb dL_law_1538 hl (by decide) rfl (fun ls hl => ?_)
  refine lv_aload_n hx hb dL_law_1540 rfl (lv_at hl 4 rfl) ?_
  refine g_cIp (g_runV (i := 196) (As := []) (rest := []) X (c_X10_thrown l G hG r.1) ca_X10_thrown km_L_147 rfl rfl ⟨Nat.le_of_ble_eq_true rfl, Nat.le_of_ble_eq_true rfl⟩ hP hS (ty_lt ab_196) (cell_10 ab_196) rfl rfl rfl hl.1 rfl (Nat.le_of_ble_eq_true rfl) ⟨by show cells + 1 + 0 ≤ 603072; omega, by show slots + 6 + 0 ≤ 7198826; omega⟩ dL_law_1541) hS (fun H locs hP hS => ?_)
  refine lv_iload hx hb dL_law_1544 (lv_at hl 1 rfl) ?_
  refine lv_icmp_eq (tgt := 1551) hx hb dL_law_1546 (by decide) (fun _ => ?_) (fun hc => absurd h3 hc)
  refine lv_iload hx hb dL_law_1551 (lv_at hl 1 rfl) ?_
  refine lv_if_ne (tgt := 1568) hx hb dL_law_1553 (by decide) (fun _ => ?_) (fun hc => ?_)
  · refine lv_goto (tgt := 2462) hx hb dL_law_1568 (by decide) ?_
    refine W.widen (k := cells + 2) (n := slots + 12) (by omega) (by omega) ?_
    exact kk r.1 h5 H locs hP hS ls (lv_sub hl [2, 3, 4, 5, 6, 7] rfl)
  · have h41 := h4 hc
    refine lv_aload_n hx hb dL_law_1556 rfl (lv_at hl 5 rfl) ?_
    refine lv_iconst (v := 0) hx hb dL_law_1557 (by decide) ?_
    refine gl_lald X hP ab_208 (by rw [al_208]; unfold vp_in; decide) dL_law_1558 ?_
    refine lv_iload hx hb dL_law_1559 (lv_at hl 0 rfl) ?_
    refine lv_i2l (v := (r.2).toInt64) hx hb dL_law_1561 rfl ?_
    refine W.lcmp hx hb dL_law_1562 ?_
    rw [show (0 : Int32).toNatClampNeg = 0 from rfl, h41, lg_cmp_self]
    refine lv_if_eq (tgt := 1568) hx hb dL_law_1563 (by decide) (fun _ => ?_) (fun hc => absurd rfl hc)
    refine lv_goto (tgt := 2462) hx hb dL_law_1568 (by decide) ?_
    refine W.widen (k := cells + 2) (n := slots + 12) (by omega) (by omega) ?_
    exact kk r.1 h5 H locs hP hS ls (lv_sub hl [2, 3, 4, 5, 6, 7] rfl)
set_option maxHeartbeats 4000000 in
set_option maxRecDepth 100000 in
theorem lw_case_21 {p : Program} {l : Launch} {e : Env} {s : State} {m : MethodId} {below : List Frame} {meth : Method} {c : Code} {H : Heap} {locs : List Loc} {cells slots : Nat} {Q : State → Prop} {G : GE} {ls : Array Slot} {σ : St} {S : St → Prop} {b L i : Nat} {xs : Nat → Int32} (hfl : l.stackTraces = false) (X : Cx G p s m #[Value.ref b] c cL_law 10 RL) (hX : va_X b L xs s s.heap) (hbl : b < s.heap.size) (hbA : ¬ GA G b) (hi : i + 6 ≤ L) (hL : L ≤ 3072) (hT : Sim_21 S) (hσ : S σ) (hc2 : cells + 2 ≤ 603072) (hs2 : slots + 12 ≤ 7198826) (hP : va_P G.1 vcl (wl G σ) H) (hS : va_S (GA G) s.heap H locs) (hl : lv_has ls 10 [(0, .ref b), (1, .ref (G.2.1 0)), (2, .ref (G.2.1 196)), (3, .ref (G.2.1 208)), (4, .ref (G.2.1 209)), (5, .int (nI i))]) (kk : ∀ (σ : St), S σ → ∀ (H : Heap) (locs : List Loc), va_P G.1 vcl (wl G σ) H → va_S (GA G) s.heap H locs → ∀ (ls : Array Slot), lv_has ls 10 [(0, .ref b), (1, .ref (G.2.1 0)), (2, .ref (G.2.1 196)), (3, .ref (G.2.1 208)), (4, .ref (G.2.1 209)), (5, .int (nI i))] → W p l e room_1 s m #[Value.ref b] below meth c H locs (cells + 2) (slots + 12) Q (F0 m 2462 ls [])) : W p l e room_1 s m #[Value.ref b] below meth c H locs cells slots Q (F0 m 1571 ls []) := by
  obtain ⟨hx, hb, hml, hown, hts, hK, hbs, hXW, hG⟩ := id X
  obtain ⟨h1, h2, h3, h4, h5⟩ := hT σ (xs (i + 1)) (xs (i + 2)) (xs (i + 3)) hσ
  refine lv_aload_n hx hb dL_law_1571 rfl (lv_at hl 1 rfl) ?_
  refine lw_arg (j := 1) X hX hbl hbA hi hL hS (lv_at hl 0 rfl) (lv_at hl 5 rfl) (by decide) dL_law_1572 dL_law_1573 dL_law_1575 dL_law_1576 dL_law_1577 ?_
  refine lw_arg (j := 2) X hX hbl hbA hi hL hS (lv_at hl 0 rfl) (lv_at hl 5 rfl) (by decide) dL_law_1578 dL_law_1579 dL_law_1581 dL_law_1582 dL_law_1583 ?_
  refine lw_arg (j := 3) X hX hbl hbA hi hL hS (lv_at hl 0 rfl) (lv_at hl 5 rfl) (by decide) dL_law_1584 dL_law_1585 dL_law_1587 dL_law_1588 dL_law_1589 ?_
  refine lv_aload_n hx hb dL_law_1590 rfl (lv_at hl 3 rfl) ?_
  refine gl_ci (mc := 2) (ms := 12) (gl_run (As := [.ref (G.2.1 0), .int (xs (i + 1)), .int (xs (i + 2)), .int (xs (i + 3)), .ref (G.2.1 208)]) (rest := []) X (c_L_inHole l hfl G hG σ (xs (i + 1)) (xs (i + 2)) (xs (i + 3)) h1) ca_L_inHole km_L_218 rfl rfl ⟨Nat.le_of_ble_eq_true rfl, Nat.le_of_ble_eq_true rfl⟩ hP hS rfl hl.1 rfl (Nat.le_of_ble_eq_true rfl) ⟨by show cells + 2 ≤ 603072; omega, by show slots + 12 ≤ 7198826; omega⟩ dL_law_1591) hS (fun q hq H locs hP hS => ?_)
  rw [← hq] at h2 h3 h4 h5
  dsimp only at h3 h4 h5
  refine lv_istore (lv' := [(6, .int q.2), (0, .ref b), (1, .ref (G.2.1 0)), (2, .ref (G.2.1 196)), (3, .ref (G.2.1 208)), (4, .ref (G.2.1 209)), (5, .int (nI i))]) hx hb dL_law_1594 hl (by decide) rfl (fun ls hl => ?_)
  refine lv_aload_n hx hb dL_law_1596 rfl (lv_at hl 3 rfl) ?_
  refine lw_arg (j := 1) X hX hbl hbA hi hL hS (lv_at hl 1 rfl) (lv_at hl 6 rfl) (by decide) dL_law_1597 dL_law_1598 dL_law_1600 dL_law_1601 dL_law_1602 ?_
  refine lw_arg (j := 2) X hX hbl hbA hi hL hS (lv_at hl 1 rfl) (lv_at hl 6 rfl) (by decide) dL_law_1603 dL_law_1604 dL_law_1606 dL_law_1607 dL_law_1608 ?_
  refine lw_arg (j := 3) X hX hbl hbA hi hL hS (lv_at hl 1 rfl) (lv_at hl 6 rfl) (by decide) dL_law_1609 dL_law_1610 dL_law_1612 dL_law_1613 dL_law_1614 ?_
  refine g_cI (g_runV (i := 196) (As := [.int (xs (i + 1)), .int (xs (i + 2)), .int (xs (i + 3))]) (rest := []) X (c_X10_inHole l G hG q.1 (xs (i + 1)) (xs (i + 2)) (xs (i + 3)) h2) ca_X10_inHole km_L_220 rfl rfl ⟨Nat.le_of_ble_eq_true rfl, Nat.le_of_ble_eq_true rfl⟩ hP hS (ty_lt ab_196) (cell_10 ab_196) rfl rfl rfl hl.1 rfl (Nat.le_of_ble_eq_true rfl) ⟨by show cells + 2 + 0 ≤ 603072; omega, by show slots + 12 + 0 ≤ 7198826; omega⟩ dL_law_1615) hS (fun r hr H locs hP hS => ?_)
  rw [← hr] at h3 h4 h5
  refine lv_istore (lv' := [(7, .int r.2), (6, .int q.2), (0, .ref b), (1, .ref (G.2.1 0)), (2, .ref (G.2.1 196)), (3, .ref (G.2.1 208)), (4, .ref (G.2.1 209)), (5, .int (nI i))]) hx hb dL_law_1618 hl (by decide) rfl (fun ls hl => ?_)
  refine lv_aload_n hx hb dL_law_1620 rfl (lv_at hl 4 rfl) ?_
  refine g_cIp (g_runV (i := 196) (As := []) (rest := []) X (c_X10_thrown l G hG r.1) ca_X10_thrown km_L_147 rfl rfl ⟨Nat.le_of_ble_eq_true rfl, Nat.le_of_ble_eq_true rfl⟩ hP hS (ty_lt ab_196) (cell_10 ab_196) rfl rfl rfl hl.1 rfl (Nat.le_of_ble_eq_true rfl) ⟨by show cells + 2 + 0 ≤ 603072; omega, by show slots + 12 + 0 ≤ 7198826; omega⟩ dL_law_1621) hS (fun H locs hP hS => ?_)
  refine lv_iload hx hb dL_law_1624 (lv_at hl 1 rfl) ?_
  refine lv_icmp_eq (tgt := 1631) hx hb dL_law_1626 (by decide) (fun _ => ?_) (fun hc => absurd h3 hc)
  refine lv_iload hx hb dL_law_1631 (lv_at hl 1 rfl) ?_
  refine lv_if_ne (tgt := 1648) hx hb dL_law_1633 (by decide) (fun _ => ?_) (fun hc => ?_)
  · refine lv_goto (tgt := 2462) hx hb dL_law_1648 (by decide) ?_
    refine W.widen (k := cells + 2) (n := slots + 12) (by omega) (by omega) ?_
    exact kk r.1 h5 H locs hP hS ls (lv_sub hl [2, 3, 4, 5, 6, 7] rfl)
  · have h41 := h4 hc
    refine lv_aload_n hx hb dL_law_1636 rfl (lv_at hl 5 rfl) ?_
    refine lv_iconst (v := 0) hx hb dL_law_1637 (by decide) ?_
    refine gl_lald X hP ab_208 (by rw [al_208]; unfold vp_in; decide) dL_law_1638 ?_
    refine lv_iload hx hb dL_law_1639 (lv_at hl 0 rfl) ?_
    refine lv_i2l (v := (r.2).toInt64) hx hb dL_law_1641 rfl ?_
    refine W.lcmp hx hb dL_law_1642 ?_
    rw [show (0 : Int32).toNatClampNeg = 0 from rfl, h41, lg_cmp_self]
    refine lv_if_eq (tgt := 1648) hx hb dL_law_1643 (by decide) (fun _ => ?_) (fun hc => absurd rfl hc)
    refine lv_goto (tgt := 2462) hx hb dL_law_1648 (by decide) ?_
    refine W.widen (k := cells + 2) (n := slots + 12) (by omega) (by omega) ?_
    exact kk r.1 h5 H locs hP hS ls (lv_sub hl [2, 3, 4, 5, 6, 7] rfl)
set_option maxHeartbeats 4000000 in
set_option maxRecDepth 100000 in
theorem lw_case_22 {p : Program} {l : Launch} {e : Env} {s : State} {m : MethodId} {below : List Frame} {meth : Method} {c : Code} {H : Heap} {locs : List Loc} {cells slots : Nat} {Q : State → Prop} {G : GE} {ls : Array Slot} {σ : St} {S : St → Prop} {b L i : Nat} {xs : Nat → Int32} (hfl : l.stackTraces = false) (X : Cx G p s m #[Value.ref b] c cL_law 10 RL) (hX : va_X b L xs s s.heap) (hbl : b < s.heap.size) (hbA : ¬ GA G b) (hi : i + 6 ≤ L) (hL : L ≤ 3072) (hT : Sim_22 S) (hσ : S σ) (hc2 : cells + 2 ≤ 603072) (hs2 : slots + 12 ≤ 7198826) (hP : va_P G.1 vcl (wl G σ) H) (hS : va_S (GA G) s.heap H locs) (hl : lv_has ls 10 [(0, .ref b), (1, .ref (G.2.1 0)), (2, .ref (G.2.1 196)), (3, .ref (G.2.1 208)), (4, .ref (G.2.1 209)), (5, .int (nI i))]) (kk : ∀ (σ : St), S σ → ∀ (H : Heap) (locs : List Loc), va_P G.1 vcl (wl G σ) H → va_S (GA G) s.heap H locs → ∀ (ls : Array Slot), lv_has ls 10 [(0, .ref b), (1, .ref (G.2.1 0)), (2, .ref (G.2.1 196)), (3, .ref (G.2.1 208)), (4, .ref (G.2.1 209)), (5, .int (nI i))] → W p l e room_1 s m #[Value.ref b] below meth c H locs (cells + 2) (slots + 12) Q (F0 m 2462 ls [])) : W p l e room_1 s m #[Value.ref b] below meth c H locs cells slots Q (F0 m 1651 ls []) := by
  obtain ⟨hx, hb, hml, hown, hts, hK, hbs, hXW, hG⟩ := id X
  obtain ⟨h1, h2, h3, h4, h5⟩ := hT σ (xs (i + 1)) hσ
  refine lv_aload_n hx hb dL_law_1651 rfl (lv_at hl 1 rfl) ?_
  refine lw_arg (j := 1) X hX hbl hbA hi hL hS (lv_at hl 0 rfl) (lv_at hl 5 rfl) (by decide) dL_law_1652 dL_law_1653 dL_law_1655 dL_law_1656 dL_law_1657 ?_
  refine lv_aload_n hx hb dL_law_1658 rfl (lv_at hl 3 rfl) ?_
  refine gl_ci (mc := 1) (ms := 6) (gl_run (As := [.ref (G.2.1 0), .int (xs (i + 1)), .ref (G.2.1 208)]) (rest := []) X (c_L_read l hfl G hG σ (xs (i + 1)) h1) ca_L_read km_L_221 rfl rfl ⟨Nat.le_of_ble_eq_true rfl, Nat.le_of_ble_eq_true rfl⟩ hP hS rfl hl.1 rfl (Nat.le_of_ble_eq_true rfl) ⟨by show cells + 1 ≤ 603072; omega, by show slots + 6 ≤ 7198826; omega⟩ dL_law_1659) hS (fun q hq H locs hP hS => ?_)
  rw [← hq] at h2 h3 h4 h5
  dsimp only at h3 h4 h5
  refine lv_istore (lv' := [(6, .int q.2), (0, .ref b), (1, .ref (G.2.1 0)), (2, .ref (G.2.1 196)), (3, .ref (G.2.1 208)), (4, .ref (G.2.1 209)), (5, .int (nI i))]) hx hb dL_law_1662 hl (by decide) rfl (fun ls hl => ?_)
  refine lv_aload_n hx hb dL_law_1664 rfl (lv_at hl 3 rfl) ?_
  refine lw_arg (j := 1) X hX hbl hbA hi hL hS (lv_at hl 1 rfl) (lv_at hl 6 rfl) (by decide) dL_law_1665 dL_law_1666 dL_law_1668 dL_law_1669 dL_law_1670 ?_
  refine g_cI (g_runV (i := 196) (As := [.int (xs (i + 1))]) (rest := []) X (c_X10_read l G hG q.1 (xs (i + 1)) h2) ca_X10_read km_L_223 rfl rfl ⟨Nat.le_of_ble_eq_true rfl, Nat.le_of_ble_eq_true rfl⟩ hP hS (ty_lt ab_196) (cell_10 ab_196) rfl rfl rfl hl.1 rfl (Nat.le_of_ble_eq_true rfl) ⟨by show cells + 1 + 0 ≤ 603072; omega, by show slots + 6 + 0 ≤ 7198826; omega⟩ dL_law_1671) hS (fun r hr H locs hP hS => ?_)
  rw [← hr] at h3 h4 h5
  refine lv_istore (lv' := [(7, .int r.2), (6, .int q.2), (0, .ref b), (1, .ref (G.2.1 0)), (2, .ref (G.2.1 196)), (3, .ref (G.2.1 208)), (4, .ref (G.2.1 209)), (5, .int (nI i))]) hx hb dL_law_1674 hl (by decide) rfl (fun ls hl => ?_)
  refine lv_aload_n hx hb dL_law_1676 rfl (lv_at hl 4 rfl) ?_
  refine g_cIp (g_runV (i := 196) (As := []) (rest := []) X (c_X10_thrown l G hG r.1) ca_X10_thrown km_L_147 rfl rfl ⟨Nat.le_of_ble_eq_true rfl, Nat.le_of_ble_eq_true rfl⟩ hP hS (ty_lt ab_196) (cell_10 ab_196) rfl rfl rfl hl.1 rfl (Nat.le_of_ble_eq_true rfl) ⟨by show cells + 1 + 0 ≤ 603072; omega, by show slots + 6 + 0 ≤ 7198826; omega⟩ dL_law_1677) hS (fun H locs hP hS => ?_)
  refine lv_iload hx hb dL_law_1680 (lv_at hl 1 rfl) ?_
  refine lv_icmp_eq (tgt := 1687) hx hb dL_law_1682 (by decide) (fun _ => ?_) (fun hc => absurd h3 hc)
  refine lv_iload hx hb dL_law_1687 (lv_at hl 1 rfl) ?_
  refine lv_if_ne (tgt := 1704) hx hb dL_law_1689 (by decide) (fun _ => ?_) (fun hc => ?_)
  · refine lv_goto (tgt := 2462) hx hb dL_law_1704 (by decide) ?_
    refine W.widen (k := cells + 2) (n := slots + 12) (by omega) (by omega) ?_
    exact kk r.1 h5 H locs hP hS ls (lv_sub hl [2, 3, 4, 5, 6, 7] rfl)
  · have h41 := h4 hc
    refine lv_aload_n hx hb dL_law_1692 rfl (lv_at hl 5 rfl) ?_
    refine lv_iconst (v := 0) hx hb dL_law_1693 (by decide) ?_
    refine gl_lald X hP ab_208 (by rw [al_208]; unfold vp_in; decide) dL_law_1694 ?_
    refine lv_iload hx hb dL_law_1695 (lv_at hl 0 rfl) ?_
    refine lv_i2l (v := (r.2).toInt64) hx hb dL_law_1697 rfl ?_
    refine W.lcmp hx hb dL_law_1698 ?_
    rw [show (0 : Int32).toNatClampNeg = 0 from rfl, h41, lg_cmp_self]
    refine lv_if_eq (tgt := 1704) hx hb dL_law_1699 (by decide) (fun _ => ?_) (fun hc => absurd rfl hc)
    refine lv_goto (tgt := 2462) hx hb dL_law_1704 (by decide) ?_
    refine W.widen (k := cells + 2) (n := slots + 12) (by omega) (by omega) ?_
    exact kk r.1 h5 H locs hP hS ls (lv_sub hl [2, 3, 4, 5, 6, 7] rfl)
set_option maxHeartbeats 4000000 in
set_option maxRecDepth 100000 in
theorem lw_case_23 {p : Program} {l : Launch} {e : Env} {s : State} {m : MethodId} {below : List Frame} {meth : Method} {c : Code} {H : Heap} {locs : List Loc} {cells slots : Nat} {Q : State → Prop} {G : GE} {ls : Array Slot} {σ : St} {S : St → Prop} {b L i : Nat} {xs : Nat → Int32} (hfl : l.stackTraces = false) (X : Cx G p s m #[Value.ref b] c cL_law 10 RL) (hX : va_X b L xs s s.heap) (hbl : b < s.heap.size) (hbA : ¬ GA G b) (hi : i + 6 ≤ L) (hL : L ≤ 3072) (hT : Sim_23 S) (hσ : S σ) (hc2 : cells + 2 ≤ 603072) (hs2 : slots + 12 ≤ 7198826) (hP : va_P G.1 vcl (wl G σ) H) (hS : va_S (GA G) s.heap H locs) (hl : lv_has ls 10 [(0, .ref b), (1, .ref (G.2.1 0)), (2, .ref (G.2.1 196)), (3, .ref (G.2.1 208)), (4, .ref (G.2.1 209)), (5, .int (nI i))]) (kk : ∀ (σ : St), S σ → ∀ (H : Heap) (locs : List Loc), va_P G.1 vcl (wl G σ) H → va_S (GA G) s.heap H locs → ∀ (ls : Array Slot), lv_has ls 10 [(0, .ref b), (1, .ref (G.2.1 0)), (2, .ref (G.2.1 196)), (3, .ref (G.2.1 208)), (4, .ref (G.2.1 209)), (5, .int (nI i))] → W p l e room_1 s m #[Value.ref b] below meth c H locs (cells + 2) (slots + 12) Q (F0 m 2462 ls [])) : W p l e room_1 s m #[Value.ref b] below meth c H locs cells slots Q (F0 m 1707 ls []) := by
  obtain ⟨hx, hb, hml, hown, hts, hK, hbs, hXW, hG⟩ := id X
  obtain ⟨h1, h2, h3, h4, h5⟩ := hT σ (xs (i + 1)) hσ
  refine lv_aload_n hx hb dL_law_1707 rfl (lv_at hl 1 rfl) ?_
  refine lw_arg (j := 1) X hX hbl hbA hi hL hS (lv_at hl 0 rfl) (lv_at hl 5 rfl) (by decide) dL_law_1708 dL_law_1709 dL_law_1711 dL_law_1712 dL_law_1713 ?_
  refine lv_aload_n hx hb dL_law_1714 rfl (lv_at hl 3 rfl) ?_
  refine gl_ci (mc := 1) (ms := 6) (gl_run (As := [.ref (G.2.1 0), .int (xs (i + 1)), .ref (G.2.1 208)]) (rest := []) X (c_L_snacks l hfl G hG σ (xs (i + 1)) h1) ca_L_snacks km_L_224 rfl rfl ⟨Nat.le_of_ble_eq_true rfl, Nat.le_of_ble_eq_true rfl⟩ hP hS rfl hl.1 rfl (Nat.le_of_ble_eq_true rfl) ⟨by show cells + 1 ≤ 603072; omega, by show slots + 6 ≤ 7198826; omega⟩ dL_law_1715) hS (fun q hq H locs hP hS => ?_)
  rw [← hq] at h2 h3 h4 h5
  dsimp only at h3 h4 h5
  refine lv_istore (lv' := [(6, .int q.2), (0, .ref b), (1, .ref (G.2.1 0)), (2, .ref (G.2.1 196)), (3, .ref (G.2.1 208)), (4, .ref (G.2.1 209)), (5, .int (nI i))]) hx hb dL_law_1718 hl (by decide) rfl (fun ls hl => ?_)
  refine lv_aload_n hx hb dL_law_1720 rfl (lv_at hl 3 rfl) ?_
  refine lw_arg (j := 1) X hX hbl hbA hi hL hS (lv_at hl 1 rfl) (lv_at hl 6 rfl) (by decide) dL_law_1721 dL_law_1722 dL_law_1724 dL_law_1725 dL_law_1726 ?_
  refine g_cI (g_runV (i := 196) (As := [.int (xs (i + 1))]) (rest := []) X (c_X10_snacks l G hG q.1 (xs (i + 1)) h2) ca_X10_snacks km_L_226 rfl rfl ⟨Nat.le_of_ble_eq_true rfl, Nat.le_of_ble_eq_true rfl⟩ hP hS (ty_lt ab_196) (cell_10 ab_196) rfl rfl rfl hl.1 rfl (Nat.le_of_ble_eq_true rfl) ⟨by show cells + 1 + 0 ≤ 603072; omega, by show slots + 6 + 0 ≤ 7198826; omega⟩ dL_law_1727) hS (fun r hr H locs hP hS => ?_)
  rw [← hr] at h3 h4 h5
  refine lv_istore (lv' := [(7, .int r.2), (6, .int q.2), (0, .ref b), (1, .ref (G.2.1 0)), (2, .ref (G.2.1 196)), (3, .ref (G.2.1 208)), (4, .ref (G.2.1 209)), (5, .int (nI i))]) hx hb dL_law_1730 hl (by decide) rfl (fun ls hl => ?_)
  refine lv_aload_n hx hb dL_law_1732 rfl (lv_at hl 4 rfl) ?_
  refine g_cIp (g_runV (i := 196) (As := []) (rest := []) X (c_X10_thrown l G hG r.1) ca_X10_thrown km_L_147 rfl rfl ⟨Nat.le_of_ble_eq_true rfl, Nat.le_of_ble_eq_true rfl⟩ hP hS (ty_lt ab_196) (cell_10 ab_196) rfl rfl rfl hl.1 rfl (Nat.le_of_ble_eq_true rfl) ⟨by show cells + 1 + 0 ≤ 603072; omega, by show slots + 6 + 0 ≤ 7198826; omega⟩ dL_law_1733) hS (fun H locs hP hS => ?_)
  refine lv_iload hx hb dL_law_1736 (lv_at hl 1 rfl) ?_
  refine lv_icmp_eq (tgt := 1743) hx hb dL_law_1738 (by decide) (fun _ => ?_) (fun hc => absurd h3 hc)
  refine lv_iload hx hb dL_law_1743 (lv_at hl 1 rfl) ?_
  refine lv_if_ne (tgt := 1760) hx hb dL_law_1745 (by decide) (fun _ => ?_) (fun hc => ?_)
  · refine lv_goto (tgt := 2462) hx hb dL_law_1760 (by decide) ?_
    refine W.widen (k := cells + 2) (n := slots + 12) (by omega) (by omega) ?_
    exact kk r.1 h5 H locs hP hS ls (lv_sub hl [2, 3, 4, 5, 6, 7] rfl)
  · have h41 := h4 hc
    refine lv_aload_n hx hb dL_law_1748 rfl (lv_at hl 5 rfl) ?_
    refine lv_iconst (v := 0) hx hb dL_law_1749 (by decide) ?_
    refine gl_lald X hP ab_208 (by rw [al_208]; unfold vp_in; decide) dL_law_1750 ?_
    refine lv_iload hx hb dL_law_1751 (lv_at hl 0 rfl) ?_
    refine lv_i2l (v := (r.2).toInt64) hx hb dL_law_1753 rfl ?_
    refine W.lcmp hx hb dL_law_1754 ?_
    rw [show (0 : Int32).toNatClampNeg = 0 from rfl, h41, lg_cmp_self]
    refine lv_if_eq (tgt := 1760) hx hb dL_law_1755 (by decide) (fun _ => ?_) (fun hc => absurd rfl hc)
    refine lv_goto (tgt := 2462) hx hb dL_law_1760 (by decide) ?_
    refine W.widen (k := cells + 2) (n := slots + 12) (by omega) (by omega) ?_
    exact kk r.1 h5 H locs hP hS ls (lv_sub hl [2, 3, 4, 5, 6, 7] rfl)
set_option maxHeartbeats 4000000 in
set_option maxRecDepth 100000 in
theorem lw_case_24 {p : Program} {l : Launch} {e : Env} {s : State} {m : MethodId} {below : List Frame} {meth : Method} {c : Code} {H : Heap} {locs : List Loc} {cells slots : Nat} {Q : State → Prop} {G : GE} {ls : Array Slot} {σ : St} {S : St → Prop} {b L i : Nat} {xs : Nat → Int32} (hfl : l.stackTraces = false) (X : Cx G p s m #[Value.ref b] c cL_law 10 RL) (hX : va_X b L xs s s.heap) (hbl : b < s.heap.size) (hbA : ¬ GA G b) (hi : i + 6 ≤ L) (hL : L ≤ 3072) (hT : Sim_24 S) (hσ : S σ) (hc2 : cells + 2 ≤ 603072) (hs2 : slots + 12 ≤ 7198826) (hP : va_P G.1 vcl (wl G σ) H) (hS : va_S (GA G) s.heap H locs) (hl : lv_has ls 10 [(0, .ref b), (1, .ref (G.2.1 0)), (2, .ref (G.2.1 196)), (3, .ref (G.2.1 208)), (4, .ref (G.2.1 209)), (5, .int (nI i))]) (kk : ∀ (σ : St), S σ → ∀ (H : Heap) (locs : List Loc), va_P G.1 vcl (wl G σ) H → va_S (GA G) s.heap H locs → ∀ (ls : Array Slot), lv_has ls 10 [(0, .ref b), (1, .ref (G.2.1 0)), (2, .ref (G.2.1 196)), (3, .ref (G.2.1 208)), (4, .ref (G.2.1 209)), (5, .int (nI i))] → W p l e room_1 s m #[Value.ref b] below meth c H locs (cells + 2) (slots + 12) Q (F0 m 2462 ls [])) : W p l e room_1 s m #[Value.ref b] below meth c H locs cells slots Q (F0 m 1763 ls []) := by
  obtain ⟨hx, hb, hml, hown, hts, hK, hbs, hXW, hG⟩ := id X
  obtain ⟨h1, h2, h3, h4, h5⟩ := hT σ (xs (i + 1)) hσ
  refine lv_aload_n hx hb dL_law_1763 rfl (lv_at hl 1 rfl) ?_
  refine lw_arg (j := 1) X hX hbl hbA hi hL hS (lv_at hl 0 rfl) (lv_at hl 5 rfl) (by decide) dL_law_1764 dL_law_1765 dL_law_1767 dL_law_1768 dL_law_1769 ?_
  refine lv_aload_n hx hb dL_law_1770 rfl (lv_at hl 3 rfl) ?_
  refine gl_ci (mc := 1) (ms := 6) (gl_run (As := [.ref (G.2.1 0), .int (xs (i + 1)), .ref (G.2.1 208)]) (rest := []) X (c_L_feed l hfl G hG σ (xs (i + 1)) h1) ca_L_feed km_L_227 rfl rfl ⟨Nat.le_of_ble_eq_true rfl, Nat.le_of_ble_eq_true rfl⟩ hP hS rfl hl.1 rfl (Nat.le_of_ble_eq_true rfl) ⟨by show cells + 1 ≤ 603072; omega, by show slots + 6 ≤ 7198826; omega⟩ dL_law_1771) hS (fun q hq H locs hP hS => ?_)
  rw [← hq] at h2 h3 h4 h5
  dsimp only at h3 h4 h5
  refine lv_istore (lv' := [(6, .int q.2), (0, .ref b), (1, .ref (G.2.1 0)), (2, .ref (G.2.1 196)), (3, .ref (G.2.1 208)), (4, .ref (G.2.1 209)), (5, .int (nI i))]) hx hb dL_law_1774 hl (by decide) rfl (fun ls hl => ?_)
  refine lv_aload_n hx hb dL_law_1776 rfl (lv_at hl 3 rfl) ?_
  refine lw_arg (j := 1) X hX hbl hbA hi hL hS (lv_at hl 1 rfl) (lv_at hl 6 rfl) (by decide) dL_law_1777 dL_law_1778 dL_law_1780 dL_law_1781 dL_law_1782 ?_
  refine g_cI (g_runV (i := 196) (As := [.int (xs (i + 1))]) (rest := []) X (c_X10_feed l G hG q.1 (xs (i + 1)) h2) ca_X10_feed km_L_229 rfl rfl ⟨Nat.le_of_ble_eq_true rfl, Nat.le_of_ble_eq_true rfl⟩ hP hS (ty_lt ab_196) (cell_10 ab_196) rfl rfl rfl hl.1 rfl (Nat.le_of_ble_eq_true rfl) ⟨by show cells + 1 + 0 ≤ 603072; omega, by show slots + 6 + 0 ≤ 7198826; omega⟩ dL_law_1783) hS (fun r hr H locs hP hS => ?_)
  rw [← hr] at h3 h4 h5
  refine lv_istore (lv' := [(7, .int r.2), (6, .int q.2), (0, .ref b), (1, .ref (G.2.1 0)), (2, .ref (G.2.1 196)), (3, .ref (G.2.1 208)), (4, .ref (G.2.1 209)), (5, .int (nI i))]) hx hb dL_law_1786 hl (by decide) rfl (fun ls hl => ?_)
  refine lv_aload_n hx hb dL_law_1788 rfl (lv_at hl 4 rfl) ?_
  refine g_cIp (g_runV (i := 196) (As := []) (rest := []) X (c_X10_thrown l G hG r.1) ca_X10_thrown km_L_147 rfl rfl ⟨Nat.le_of_ble_eq_true rfl, Nat.le_of_ble_eq_true rfl⟩ hP hS (ty_lt ab_196) (cell_10 ab_196) rfl rfl rfl hl.1 rfl (Nat.le_of_ble_eq_true rfl) ⟨by show cells + 1 + 0 ≤ 603072; omega, by show slots + 6 + 0 ≤ 7198826; omega⟩ dL_law_1789) hS (fun H locs hP hS => ?_)
  refine lv_iload hx hb dL_law_1792 (lv_at hl 1 rfl) ?_
  refine lv_icmp_eq (tgt := 1799) hx hb dL_law_1794 (by decide) (fun _ => ?_) (fun hc => absurd h3 hc)
  refine lv_iload hx hb dL_law_1799 (lv_at hl 1 rfl) ?_
  refine lv_if_ne (tgt := 1816) hx hb dL_law_1801 (by decide) (fun _ => ?_) (fun hc => ?_)
  · refine lv_goto (tgt := 2462) hx hb dL_law_1816 (by decide) ?_
    refine W.widen (k := cells + 2) (n := slots + 12) (by omega) (by omega) ?_
    exact kk r.1 h5 H locs hP hS ls (lv_sub hl [2, 3, 4, 5, 6, 7] rfl)
  · have h41 := h4 hc
    refine lv_aload_n hx hb dL_law_1804 rfl (lv_at hl 5 rfl) ?_
    refine lv_iconst (v := 0) hx hb dL_law_1805 (by decide) ?_
    refine gl_lald X hP ab_208 (by rw [al_208]; unfold vp_in; decide) dL_law_1806 ?_
    refine lv_iload hx hb dL_law_1807 (lv_at hl 0 rfl) ?_
    refine lv_i2l (v := (r.2).toInt64) hx hb dL_law_1809 rfl ?_
    refine W.lcmp hx hb dL_law_1810 ?_
    rw [show (0 : Int32).toNatClampNeg = 0 from rfl, h41, lg_cmp_self]
    refine lv_if_eq (tgt := 1816) hx hb dL_law_1811 (by decide) (fun _ => ?_) (fun hc => absurd rfl hc)
    refine lv_goto (tgt := 2462) hx hb dL_law_1816 (by decide) ?_
    refine W.widen (k := cells + 2) (n := slots + 12) (by omega) (by omega) ?_
    exact kk r.1 h5 H locs hP hS ls (lv_sub hl [2, 3, 4, 5, 6, 7] rfl)
set_option maxHeartbeats 4000000 in
set_option maxRecDepth 100000 in
theorem lw_case_25 {p : Program} {l : Launch} {e : Env} {s : State} {m : MethodId} {below : List Frame} {meth : Method} {c : Code} {H : Heap} {locs : List Loc} {cells slots : Nat} {Q : State → Prop} {G : GE} {ls : Array Slot} {σ : St} {S : St → Prop} {b L i : Nat} {xs : Nat → Int32} (hfl : l.stackTraces = false) (X : Cx G p s m #[Value.ref b] c cL_law 10 RL) (hX : va_X b L xs s s.heap) (hbl : b < s.heap.size) (hbA : ¬ GA G b) (hi : i + 6 ≤ L) (hL : L ≤ 3072) (hT : Sim_25 S) (hσ : S σ) (hc2 : cells + 2 ≤ 603072) (hs2 : slots + 12 ≤ 7198826) (hP : va_P G.1 vcl (wl G σ) H) (hS : va_S (GA G) s.heap H locs) (hl : lv_has ls 10 [(0, .ref b), (1, .ref (G.2.1 0)), (2, .ref (G.2.1 196)), (3, .ref (G.2.1 208)), (4, .ref (G.2.1 209)), (5, .int (nI i))]) (kk : ∀ (σ : St), S σ → ∀ (H : Heap) (locs : List Loc), va_P G.1 vcl (wl G σ) H → va_S (GA G) s.heap H locs → ∀ (ls : Array Slot), lv_has ls 10 [(0, .ref b), (1, .ref (G.2.1 0)), (2, .ref (G.2.1 196)), (3, .ref (G.2.1 208)), (4, .ref (G.2.1 209)), (5, .int (nI i))] → W p l e room_1 s m #[Value.ref b] below meth c H locs (cells + 2) (slots + 12) Q (F0 m 2462 ls [])) : W p l e room_1 s m #[Value.ref b] below meth c H locs cells slots Q (F0 m 1819 ls []) := by
  obtain ⟨hx, hb, hml, hown, hts, hK, hbs, hXW, hG⟩ := id X
  refine lv_aload_n hx hb dL_law_1819 rfl (lv_at hl 1 rfl) ?_
  obtain ⟨h1, h2, h3, h4⟩ := hT σ hσ
  refine g_cFp (g_runV (i := 0) (As := []) (rest := []) X (c_X9_hunger l G hG σ) ca_X9_hunger km_L_230 rfl rfl ⟨Nat.le_of_ble_eq_true rfl, Nat.le_of_ble_eq_true rfl⟩ hP hS (ty_lt ab_0) (cell_9 ab_0) rfl rfl rfl hl.1 rfl (Nat.le_of_ble_eq_true rfl) ⟨by show cells + 0 ≤ 603072; omega, by show slots + 0 ≤ 7198826; omega⟩ dL_law_1820) hS (fun H locs hP hS => ?_)
  refine lv_f2d hx hb dL_law_1823 h2 ?_
  refine lv_dstore (lv' := [(6, .double (FP.f2d (f_X9_hunger σ))), (0, .ref b), (1, .ref (G.2.1 0)), (2, .ref (G.2.1 196)), (3, .ref (G.2.1 208)), (4, .ref (G.2.1 209)), (5, .int (nI i))]) hx hb dL_law_1824 hl (by decide) rfl (fun ls hl => ?_)
  refine lv_aload_n hx hb dL_law_1826 rfl (lv_at hl 3 rfl) ?_
  refine g_cF (g_runV (i := 196) (As := []) (rest := []) X (c_X10_hunger l G hG σ) ca_X10_hunger km_L_233 rfl rfl ⟨Nat.le_of_ble_eq_true rfl, Nat.le_of_ble_eq_true rfl⟩ hP hS (ty_lt ab_196) (cell_10 ab_196) rfl rfl rfl hl.1 rfl (Nat.le_of_ble_eq_true rfl) ⟨by show cells + 0 ≤ 603072; omega, by show slots + 0 ≤ 7198826; omega⟩ dL_law_1827) hS (fun r hr H locs hP hS => ?_)
  rw [← hr] at h1 h4
  rw [h1] at h2 h3 hl
  refine lv_f2d hx hb dL_law_1830 h2 ?_
  have hl : lv_has ls 10 [(6, .double (FP.f2d (r.2))), (0, .ref b), (1, .ref (G.2.1 0)), (2, .ref (G.2.1 196)), (3, .ref (G.2.1 208)), (4, .ref (G.2.1 209)), (5, .int (nI i))] := hl
  refine lv_dstore (lv' := [(8, .double (FP.f2d r.2)), (6, .double (FP.f2d (r.2))), (0, .ref b), (1, .ref (G.2.1 0)), (2, .ref (G.2.1 196)), (3, .ref (G.2.1 208)), (4, .ref (G.2.1 209)), (5, .int (nI i))]) hx hb dL_law_1831 hl (by decide) rfl (fun ls hl => ?_)
  refine lv_dload hx hb dL_law_1833 (lv_at hl 1 rfl) ?_
  refine lv_dload hx hb dL_law_1835 (lv_at hl 0 rfl) ?_
  refine lv_dcmp hx hb dL_law_1837 ?_
  rw [h3]
  refine lv_if_eq (tgt := 1859) hx hb dL_law_1838 (by decide) (fun _ => ?_) (fun hc => absurd rfl hc)
  refine lv_goto (tgt := 2462) hx hb dL_law_1859 (by decide) ?_
  refine W.widen (k := cells + 2) (n := slots + 12) (by omega) (by omega) ?_
  exact kk r.1 h4 H locs hP hS ls (lv_sub hl [2, 3, 4, 5, 6, 7] rfl)
set_option maxHeartbeats 4000000 in
set_option maxRecDepth 100000 in
theorem lw_case_26 {p : Program} {l : Launch} {e : Env} {s : State} {m : MethodId} {below : List Frame} {meth : Method} {c : Code} {H : Heap} {locs : List Loc} {cells slots : Nat} {Q : State → Prop} {G : GE} {ls : Array Slot} {σ : St} {S : St → Prop} {b L i : Nat} {xs : Nat → Int32} (hfl : l.stackTraces = false) (X : Cx G p s m #[Value.ref b] c cL_law 10 RL) (hX : va_X b L xs s s.heap) (hbl : b < s.heap.size) (hbA : ¬ GA G b) (hi : i + 6 ≤ L) (hL : L ≤ 3072) (hT : Sim_26 S) (hσ : S σ) (hc2 : cells + 2 ≤ 603072) (hs2 : slots + 12 ≤ 7198826) (hP : va_P G.1 vcl (wl G σ) H) (hS : va_S (GA G) s.heap H locs) (hl : lv_has ls 10 [(0, .ref b), (1, .ref (G.2.1 0)), (2, .ref (G.2.1 196)), (3, .ref (G.2.1 208)), (4, .ref (G.2.1 209)), (5, .int (nI i))]) (kk : ∀ (σ : St), S σ → ∀ (H : Heap) (locs : List Loc), va_P G.1 vcl (wl G σ) H → va_S (GA G) s.heap H locs → ∀ (ls : Array Slot), lv_has ls 10 [(0, .ref b), (1, .ref (G.2.1 0)), (2, .ref (G.2.1 196)), (3, .ref (G.2.1 208)), (4, .ref (G.2.1 209)), (5, .int (nI i))] → W p l e room_1 s m #[Value.ref b] below meth c H locs (cells + 2) (slots + 12) Q (F0 m 2462 ls [])) : W p l e room_1 s m #[Value.ref b] below meth c H locs cells slots Q (F0 m 1862 ls []) := by
  obtain ⟨hx, hb, hml, hown, hts, hK, hbs, hXW, hG⟩ := id X
  obtain ⟨h1, h2, h3, h4, h5⟩ := hT σ hσ
  refine lv_aload_n hx hb dL_law_1862 rfl (lv_at hl 1 rfl) ?_
  refine lv_aload_n hx hb dL_law_1863 rfl (lv_at hl 3 rfl) ?_
  refine gl_ci (mc := 1) (ms := 6) (gl_run (As := [.ref (G.2.1 0), .ref (G.2.1 208)]) (rest := []) X (c_L_prey l hfl G hG σ h1) ca_L_prey km_L_234 rfl rfl ⟨Nat.le_of_ble_eq_true rfl, Nat.le_of_ble_eq_true rfl⟩ hP hS rfl hl.1 rfl (Nat.le_of_ble_eq_true rfl) ⟨by show cells + 1 ≤ 603072; omega, by show slots + 6 ≤ 7198826; omega⟩ dL_law_1864) hS (fun q hq H locs hP hS => ?_)
  rw [← hq] at h2 h3 h4 h5
  dsimp only at h3 h4 h5
  refine lv_istore (lv' := [(6, .int q.2), (0, .ref b), (1, .ref (G.2.1 0)), (2, .ref (G.2.1 196)), (3, .ref (G.2.1 208)), (4, .ref (G.2.1 209)), (5, .int (nI i))]) hx hb dL_law_1867 hl (by decide) rfl (fun ls hl => ?_)
  refine lv_aload_n hx hb dL_law_1869 rfl (lv_at hl 3 rfl) ?_
  refine g_cI (g_runV (i := 196) (As := []) (rest := []) X (c_X10_prey l G hG q.1 h2) ca_X10_prey km_L_236 rfl rfl ⟨Nat.le_of_ble_eq_true rfl, Nat.le_of_ble_eq_true rfl⟩ hP hS (ty_lt ab_196) (cell_10 ab_196) rfl rfl rfl hl.1 rfl (Nat.le_of_ble_eq_true rfl) ⟨by show cells + 1 + 0 ≤ 603072; omega, by show slots + 6 + 0 ≤ 7198826; omega⟩ dL_law_1870) hS (fun r hr H locs hP hS => ?_)
  rw [← hr] at h3 h4 h5
  refine lv_istore (lv' := [(7, .int r.2), (6, .int q.2), (0, .ref b), (1, .ref (G.2.1 0)), (2, .ref (G.2.1 196)), (3, .ref (G.2.1 208)), (4, .ref (G.2.1 209)), (5, .int (nI i))]) hx hb dL_law_1873 hl (by decide) rfl (fun ls hl => ?_)
  refine lv_aload_n hx hb dL_law_1875 rfl (lv_at hl 4 rfl) ?_
  refine g_cIp (g_runV (i := 196) (As := []) (rest := []) X (c_X10_thrown l G hG r.1) ca_X10_thrown km_L_147 rfl rfl ⟨Nat.le_of_ble_eq_true rfl, Nat.le_of_ble_eq_true rfl⟩ hP hS (ty_lt ab_196) (cell_10 ab_196) rfl rfl rfl hl.1 rfl (Nat.le_of_ble_eq_true rfl) ⟨by show cells + 1 + 0 ≤ 603072; omega, by show slots + 6 + 0 ≤ 7198826; omega⟩ dL_law_1876) hS (fun H locs hP hS => ?_)
  refine lv_iload hx hb dL_law_1879 (lv_at hl 1 rfl) ?_
  refine lv_icmp_eq (tgt := 1886) hx hb dL_law_1881 (by decide) (fun _ => ?_) (fun hc => absurd h3 hc)
  refine lv_iload hx hb dL_law_1886 (lv_at hl 1 rfl) ?_
  refine lv_if_ne (tgt := 1903) hx hb dL_law_1888 (by decide) (fun _ => ?_) (fun hc => ?_)
  · refine lv_goto (tgt := 2462) hx hb dL_law_1903 (by decide) ?_
    refine W.widen (k := cells + 2) (n := slots + 12) (by omega) (by omega) ?_
    exact kk r.1 h5 H locs hP hS ls (lv_sub hl [2, 3, 4, 5, 6, 7] rfl)
  · have h41 := h4 hc
    refine lv_aload_n hx hb dL_law_1891 rfl (lv_at hl 5 rfl) ?_
    refine lv_iconst (v := 0) hx hb dL_law_1892 (by decide) ?_
    refine gl_lald X hP ab_208 (by rw [al_208]; unfold vp_in; decide) dL_law_1893 ?_
    refine lv_iload hx hb dL_law_1894 (lv_at hl 0 rfl) ?_
    refine lv_i2l (v := (r.2).toInt64) hx hb dL_law_1896 rfl ?_
    refine W.lcmp hx hb dL_law_1897 ?_
    rw [show (0 : Int32).toNatClampNeg = 0 from rfl, h41, lg_cmp_self]
    refine lv_if_eq (tgt := 1903) hx hb dL_law_1898 (by decide) (fun _ => ?_) (fun hc => absurd rfl hc)
    refine lv_goto (tgt := 2462) hx hb dL_law_1903 (by decide) ?_
    refine W.widen (k := cells + 2) (n := slots + 12) (by omega) (by omega) ?_
    exact kk r.1 h5 H locs hP hS ls (lv_sub hl [2, 3, 4, 5, 6, 7] rfl)
set_option maxHeartbeats 4000000 in
set_option maxRecDepth 100000 in
theorem lw_case_27 {p : Program} {l : Launch} {e : Env} {s : State} {m : MethodId} {below : List Frame} {meth : Method} {c : Code} {H : Heap} {locs : List Loc} {cells slots : Nat} {Q : State → Prop} {G : GE} {ls : Array Slot} {σ : St} {S : St → Prop} {b L i : Nat} {xs : Nat → Int32} (hfl : l.stackTraces = false) (X : Cx G p s m #[Value.ref b] c cL_law 10 RL) (hX : va_X b L xs s s.heap) (hbl : b < s.heap.size) (hbA : ¬ GA G b) (hi : i + 6 ≤ L) (hL : L ≤ 3072) (hT : Sim_27 S) (hσ : S σ) (hc2 : cells + 2 ≤ 603072) (hs2 : slots + 12 ≤ 7198826) (hP : va_P G.1 vcl (wl G σ) H) (hS : va_S (GA G) s.heap H locs) (hl : lv_has ls 10 [(0, .ref b), (1, .ref (G.2.1 0)), (2, .ref (G.2.1 196)), (3, .ref (G.2.1 208)), (4, .ref (G.2.1 209)), (5, .int (nI i))]) (kk : ∀ (σ : St), S σ → ∀ (H : Heap) (locs : List Loc), va_P G.1 vcl (wl G σ) H → va_S (GA G) s.heap H locs → ∀ (ls : Array Slot), lv_has ls 10 [(0, .ref b), (1, .ref (G.2.1 0)), (2, .ref (G.2.1 196)), (3, .ref (G.2.1 208)), (4, .ref (G.2.1 209)), (5, .int (nI i))] → W p l e room_1 s m #[Value.ref b] below meth c H locs (cells + 2) (slots + 12) Q (F0 m 2462 ls [])) : W p l e room_1 s m #[Value.ref b] below meth c H locs cells slots Q (F0 m 1906 ls []) := by
  obtain ⟨hx, hb, hml, hown, hts, hK, hbs, hXW, hG⟩ := id X
  obtain ⟨h1, h2, h3, h4, h5⟩ := hT σ hσ
  refine lv_aload_n hx hb dL_law_1906 rfl (lv_at hl 1 rfl) ?_
  refine lv_aload_n hx hb dL_law_1907 rfl (lv_at hl 3 rfl) ?_
  refine gl_ci (mc := 1) (ms := 6) (gl_run (As := [.ref (G.2.1 0), .ref (G.2.1 208)]) (rest := []) X (c_L_eatsIn l hfl G hG σ h1) ca_L_eatsIn km_L_237 rfl rfl ⟨Nat.le_of_ble_eq_true rfl, Nat.le_of_ble_eq_true rfl⟩ hP hS rfl hl.1 rfl (Nat.le_of_ble_eq_true rfl) ⟨by show cells + 1 ≤ 603072; omega, by show slots + 6 ≤ 7198826; omega⟩ dL_law_1908) hS (fun q hq H locs hP hS => ?_)
  rw [← hq] at h2 h3 h4 h5
  dsimp only at h3 h4 h5
  refine lv_istore (lv' := [(6, .int q.2), (0, .ref b), (1, .ref (G.2.1 0)), (2, .ref (G.2.1 196)), (3, .ref (G.2.1 208)), (4, .ref (G.2.1 209)), (5, .int (nI i))]) hx hb dL_law_1911 hl (by decide) rfl (fun ls hl => ?_)
  refine lv_aload_n hx hb dL_law_1913 rfl (lv_at hl 3 rfl) ?_
  refine g_cI (g_runV (i := 196) (As := []) (rest := []) X (c_X10_eatsIn l G hG q.1 h2) ca_X10_eatsIn km_L_239 rfl rfl ⟨Nat.le_of_ble_eq_true rfl, Nat.le_of_ble_eq_true rfl⟩ hP hS (ty_lt ab_196) (cell_10 ab_196) rfl rfl rfl hl.1 rfl (Nat.le_of_ble_eq_true rfl) ⟨by show cells + 1 + 0 ≤ 603072; omega, by show slots + 6 + 0 ≤ 7198826; omega⟩ dL_law_1914) hS (fun r hr H locs hP hS => ?_)
  rw [← hr] at h3 h4 h5
  refine lv_istore (lv' := [(7, .int r.2), (6, .int q.2), (0, .ref b), (1, .ref (G.2.1 0)), (2, .ref (G.2.1 196)), (3, .ref (G.2.1 208)), (4, .ref (G.2.1 209)), (5, .int (nI i))]) hx hb dL_law_1917 hl (by decide) rfl (fun ls hl => ?_)
  refine lv_aload_n hx hb dL_law_1919 rfl (lv_at hl 4 rfl) ?_
  refine g_cIp (g_runV (i := 196) (As := []) (rest := []) X (c_X10_thrown l G hG r.1) ca_X10_thrown km_L_147 rfl rfl ⟨Nat.le_of_ble_eq_true rfl, Nat.le_of_ble_eq_true rfl⟩ hP hS (ty_lt ab_196) (cell_10 ab_196) rfl rfl rfl hl.1 rfl (Nat.le_of_ble_eq_true rfl) ⟨by show cells + 1 + 0 ≤ 603072; omega, by show slots + 6 + 0 ≤ 7198826; omega⟩ dL_law_1920) hS (fun H locs hP hS => ?_)
  refine lv_iload hx hb dL_law_1923 (lv_at hl 1 rfl) ?_
  refine lv_icmp_eq (tgt := 1930) hx hb dL_law_1925 (by decide) (fun _ => ?_) (fun hc => absurd h3 hc)
  refine lv_iload hx hb dL_law_1930 (lv_at hl 1 rfl) ?_
  refine lv_if_ne (tgt := 1947) hx hb dL_law_1932 (by decide) (fun _ => ?_) (fun hc => ?_)
  · refine lv_goto (tgt := 2462) hx hb dL_law_1947 (by decide) ?_
    refine W.widen (k := cells + 2) (n := slots + 12) (by omega) (by omega) ?_
    exact kk r.1 h5 H locs hP hS ls (lv_sub hl [2, 3, 4, 5, 6, 7] rfl)
  · have h41 := h4 hc
    refine lv_aload_n hx hb dL_law_1935 rfl (lv_at hl 5 rfl) ?_
    refine lv_iconst (v := 0) hx hb dL_law_1936 (by decide) ?_
    refine gl_lald X hP ab_208 (by rw [al_208]; unfold vp_in; decide) dL_law_1937 ?_
    refine lv_iload hx hb dL_law_1938 (lv_at hl 0 rfl) ?_
    refine lv_i2l (v := (r.2).toInt64) hx hb dL_law_1940 rfl ?_
    refine W.lcmp hx hb dL_law_1941 ?_
    rw [show (0 : Int32).toNatClampNeg = 0 from rfl, h41, lg_cmp_self]
    refine lv_if_eq (tgt := 1947) hx hb dL_law_1942 (by decide) (fun _ => ?_) (fun hc => absurd rfl hc)
    refine lv_goto (tgt := 2462) hx hb dL_law_1947 (by decide) ?_
    refine W.widen (k := cells + 2) (n := slots + 12) (by omega) (by omega) ?_
    exact kk r.1 h5 H locs hP hS ls (lv_sub hl [2, 3, 4, 5, 6, 7] rfl)
set_option maxHeartbeats 4000000 in
set_option maxRecDepth 100000 in
theorem lw_case_28 {p : Program} {l : Launch} {e : Env} {s : State} {m : MethodId} {below : List Frame} {meth : Method} {c : Code} {H : Heap} {locs : List Loc} {cells slots : Nat} {Q : State → Prop} {G : GE} {ls : Array Slot} {σ : St} {S : St → Prop} {b L i : Nat} {xs : Nat → Int32} (hfl : l.stackTraces = false) (X : Cx G p s m #[Value.ref b] c cL_law 10 RL) (hX : va_X b L xs s s.heap) (hbl : b < s.heap.size) (hbA : ¬ GA G b) (hi : i + 6 ≤ L) (hL : L ≤ 3072) (hT : Sim_28 S) (hσ : S σ) (hc2 : cells + 2 ≤ 603072) (hs2 : slots + 12 ≤ 7198826) (hP : va_P G.1 vcl (wl G σ) H) (hS : va_S (GA G) s.heap H locs) (hl : lv_has ls 10 [(0, .ref b), (1, .ref (G.2.1 0)), (2, .ref (G.2.1 196)), (3, .ref (G.2.1 208)), (4, .ref (G.2.1 209)), (5, .int (nI i))]) (kk : ∀ (σ : St), S σ → ∀ (H : Heap) (locs : List Loc), va_P G.1 vcl (wl G σ) H → va_S (GA G) s.heap H locs → ∀ (ls : Array Slot), lv_has ls 10 [(0, .ref b), (1, .ref (G.2.1 0)), (2, .ref (G.2.1 196)), (3, .ref (G.2.1 208)), (4, .ref (G.2.1 209)), (5, .int (nI i))] → W p l e room_1 s m #[Value.ref b] below meth c H locs (cells + 2) (slots + 12) Q (F0 m 2462 ls [])) : W p l e room_1 s m #[Value.ref b] below meth c H locs cells slots Q (F0 m 1950 ls []) := by
  obtain ⟨hx, hb, hml, hown, hts, hK, hbs, hXW, hG⟩ := id X
  obtain ⟨h1, h2, h3, h4, h5⟩ := hT σ (xs (i + 1)) hσ
  refine lv_aload_n hx hb dL_law_1950 rfl (lv_at hl 1 rfl) ?_
  refine lw_arg (j := 1) X hX hbl hbA hi hL hS (lv_at hl 0 rfl) (lv_at hl 5 rfl) (by decide) dL_law_1951 dL_law_1952 dL_law_1954 dL_law_1955 dL_law_1956 ?_
  refine lv_aload_n hx hb dL_law_1957 rfl (lv_at hl 3 rfl) ?_
  refine gl_ci (mc := 1) (ms := 6) (gl_run (As := [.ref (G.2.1 0), .int (xs (i + 1)), .ref (G.2.1 208)]) (rest := []) X (c_L_pass l hfl G hG σ (xs (i + 1)) h1) ca_L_pass km_L_240 rfl rfl ⟨Nat.le_of_ble_eq_true rfl, Nat.le_of_ble_eq_true rfl⟩ hP hS rfl hl.1 rfl (Nat.le_of_ble_eq_true rfl) ⟨by show cells + 1 ≤ 603072; omega, by show slots + 6 ≤ 7198826; omega⟩ dL_law_1958) hS (fun q hq H locs hP hS => ?_)
  rw [← hq] at h2 h3 h4 h5
  dsimp only at h3 h4 h5
  refine lv_istore (lv' := [(6, .int q.2), (0, .ref b), (1, .ref (G.2.1 0)), (2, .ref (G.2.1 196)), (3, .ref (G.2.1 208)), (4, .ref (G.2.1 209)), (5, .int (nI i))]) hx hb dL_law_1961 hl (by decide) rfl (fun ls hl => ?_)
  refine lv_aload_n hx hb dL_law_1963 rfl (lv_at hl 3 rfl) ?_
  refine lw_arg (j := 1) X hX hbl hbA hi hL hS (lv_at hl 1 rfl) (lv_at hl 6 rfl) (by decide) dL_law_1964 dL_law_1965 dL_law_1967 dL_law_1968 dL_law_1969 ?_
  refine g_cI (g_runV (i := 196) (As := [.int (xs (i + 1))]) (rest := []) X (c_X10_pass l G hG q.1 (xs (i + 1)) h2) ca_X10_pass km_L_242 rfl rfl ⟨Nat.le_of_ble_eq_true rfl, Nat.le_of_ble_eq_true rfl⟩ hP hS (ty_lt ab_196) (cell_10 ab_196) rfl rfl rfl hl.1 rfl (Nat.le_of_ble_eq_true rfl) ⟨by show cells + 1 + 0 ≤ 603072; omega, by show slots + 6 + 0 ≤ 7198826; omega⟩ dL_law_1970) hS (fun r hr H locs hP hS => ?_)
  rw [← hr] at h3 h4 h5
  refine lv_istore (lv' := [(7, .int r.2), (6, .int q.2), (0, .ref b), (1, .ref (G.2.1 0)), (2, .ref (G.2.1 196)), (3, .ref (G.2.1 208)), (4, .ref (G.2.1 209)), (5, .int (nI i))]) hx hb dL_law_1973 hl (by decide) rfl (fun ls hl => ?_)
  refine lv_aload_n hx hb dL_law_1975 rfl (lv_at hl 4 rfl) ?_
  refine g_cIp (g_runV (i := 196) (As := []) (rest := []) X (c_X10_thrown l G hG r.1) ca_X10_thrown km_L_147 rfl rfl ⟨Nat.le_of_ble_eq_true rfl, Nat.le_of_ble_eq_true rfl⟩ hP hS (ty_lt ab_196) (cell_10 ab_196) rfl rfl rfl hl.1 rfl (Nat.le_of_ble_eq_true rfl) ⟨by show cells + 1 + 0 ≤ 603072; omega, by show slots + 6 + 0 ≤ 7198826; omega⟩ dL_law_1976) hS (fun H locs hP hS => ?_)
  refine lv_iload hx hb dL_law_1979 (lv_at hl 1 rfl) ?_
  refine lv_icmp_eq (tgt := 1986) hx hb dL_law_1981 (by decide) (fun _ => ?_) (fun hc => absurd h3 hc)
  refine lv_iload hx hb dL_law_1986 (lv_at hl 1 rfl) ?_
  refine lv_if_ne (tgt := 2003) hx hb dL_law_1988 (by decide) (fun _ => ?_) (fun hc => ?_)
  · refine lv_goto (tgt := 2462) hx hb dL_law_2003 (by decide) ?_
    refine W.widen (k := cells + 2) (n := slots + 12) (by omega) (by omega) ?_
    exact kk r.1 h5 H locs hP hS ls (lv_sub hl [2, 3, 4, 5, 6, 7] rfl)
  · have h41 := h4 hc
    refine lv_aload_n hx hb dL_law_1991 rfl (lv_at hl 5 rfl) ?_
    refine lv_iconst (v := 0) hx hb dL_law_1992 (by decide) ?_
    refine gl_lald X hP ab_208 (by rw [al_208]; unfold vp_in; decide) dL_law_1993 ?_
    refine lv_iload hx hb dL_law_1994 (lv_at hl 0 rfl) ?_
    refine lv_i2l (v := (r.2).toInt64) hx hb dL_law_1996 rfl ?_
    refine W.lcmp hx hb dL_law_1997 ?_
    rw [show (0 : Int32).toNatClampNeg = 0 from rfl, h41, lg_cmp_self]
    refine lv_if_eq (tgt := 2003) hx hb dL_law_1998 (by decide) (fun _ => ?_) (fun hc => absurd rfl hc)
    refine lv_goto (tgt := 2462) hx hb dL_law_2003 (by decide) ?_
    refine W.widen (k := cells + 2) (n := slots + 12) (by omega) (by omega) ?_
    exact kk r.1 h5 H locs hP hS ls (lv_sub hl [2, 3, 4, 5, 6, 7] rfl)
set_option maxHeartbeats 4000000 in
set_option maxRecDepth 100000 in
theorem lw_case_29 {p : Program} {l : Launch} {e : Env} {s : State} {m : MethodId} {below : List Frame} {meth : Method} {c : Code} {H : Heap} {locs : List Loc} {cells slots : Nat} {Q : State → Prop} {G : GE} {ls : Array Slot} {σ : St} {S : St → Prop} {b L i : Nat} {xs : Nat → Int32} (hfl : l.stackTraces = false) (X : Cx G p s m #[Value.ref b] c cL_law 10 RL) (hX : va_X b L xs s s.heap) (hbl : b < s.heap.size) (hbA : ¬ GA G b) (hi : i + 6 ≤ L) (hL : L ≤ 3072) (hT : Sim_29 S) (hσ : S σ) (hc2 : cells + 2 ≤ 603072) (hs2 : slots + 12 ≤ 7198826) (hP : va_P G.1 vcl (wl G σ) H) (hS : va_S (GA G) s.heap H locs) (hl : lv_has ls 10 [(0, .ref b), (1, .ref (G.2.1 0)), (2, .ref (G.2.1 196)), (3, .ref (G.2.1 208)), (4, .ref (G.2.1 209)), (5, .int (nI i))]) (kk : ∀ (σ : St), S σ → ∀ (H : Heap) (locs : List Loc), va_P G.1 vcl (wl G σ) H → va_S (GA G) s.heap H locs → ∀ (ls : Array Slot), lv_has ls 10 [(0, .ref b), (1, .ref (G.2.1 0)), (2, .ref (G.2.1 196)), (3, .ref (G.2.1 208)), (4, .ref (G.2.1 209)), (5, .int (nI i))] → W p l e room_1 s m #[Value.ref b] below meth c H locs (cells + 2) (slots + 12) Q (F0 m 2462 ls [])) : W p l e room_1 s m #[Value.ref b] below meth c H locs cells slots Q (F0 m 2006 ls []) := by
  obtain ⟨hx, hb, hml, hown, hts, hK, hbs, hXW, hG⟩ := id X
  obtain ⟨h1, h2, h3, h4, h5⟩ := hT σ (xs (i + 1)) hσ
  refine lv_aload_n hx hb dL_law_2006 rfl (lv_at hl 1 rfl) ?_
  refine lw_arg (j := 1) X hX hbl hbA hi hL hS (lv_at hl 0 rfl) (lv_at hl 5 rfl) (by decide) dL_law_2007 dL_law_2008 dL_law_2010 dL_law_2011 dL_law_2012 ?_
  refine lv_aload_n hx hb dL_law_2013 rfl (lv_at hl 3 rfl) ?_
  refine gl_ci (mc := 1) (ms := 6) (gl_run (As := [.ref (G.2.1 0), .int (xs (i + 1)), .ref (G.2.1 208)]) (rest := []) X (c_L_sign l hfl G hG σ (xs (i + 1)) h1) ca_L_sign km_L_243 rfl rfl ⟨Nat.le_of_ble_eq_true rfl, Nat.le_of_ble_eq_true rfl⟩ hP hS rfl hl.1 rfl (Nat.le_of_ble_eq_true rfl) ⟨by show cells + 1 ≤ 603072; omega, by show slots + 6 ≤ 7198826; omega⟩ dL_law_2014) hS (fun q hq H locs hP hS => ?_)
  rw [← hq] at h2 h3 h4 h5
  dsimp only at h3 h4 h5
  refine lv_istore (lv' := [(6, .int q.2), (0, .ref b), (1, .ref (G.2.1 0)), (2, .ref (G.2.1 196)), (3, .ref (G.2.1 208)), (4, .ref (G.2.1 209)), (5, .int (nI i))]) hx hb dL_law_2017 hl (by decide) rfl (fun ls hl => ?_)
  refine lv_aload_n hx hb dL_law_2019 rfl (lv_at hl 3 rfl) ?_
  refine lw_arg (j := 1) X hX hbl hbA hi hL hS (lv_at hl 1 rfl) (lv_at hl 6 rfl) (by decide) dL_law_2020 dL_law_2021 dL_law_2023 dL_law_2024 dL_law_2025 ?_
  refine g_cI (g_runV (i := 196) (As := [.int (xs (i + 1))]) (rest := []) X (c_X10_sign l G hG q.1 (xs (i + 1)) h2) ca_X10_sign km_L_245 rfl rfl ⟨Nat.le_of_ble_eq_true rfl, Nat.le_of_ble_eq_true rfl⟩ hP hS (ty_lt ab_196) (cell_10 ab_196) rfl rfl rfl hl.1 rfl (Nat.le_of_ble_eq_true rfl) ⟨by show cells + 1 + 0 ≤ 603072; omega, by show slots + 6 + 0 ≤ 7198826; omega⟩ dL_law_2026) hS (fun r hr H locs hP hS => ?_)
  rw [← hr] at h3 h4 h5
  refine lv_istore (lv' := [(7, .int r.2), (6, .int q.2), (0, .ref b), (1, .ref (G.2.1 0)), (2, .ref (G.2.1 196)), (3, .ref (G.2.1 208)), (4, .ref (G.2.1 209)), (5, .int (nI i))]) hx hb dL_law_2029 hl (by decide) rfl (fun ls hl => ?_)
  refine lv_aload_n hx hb dL_law_2031 rfl (lv_at hl 4 rfl) ?_
  refine g_cIp (g_runV (i := 196) (As := []) (rest := []) X (c_X10_thrown l G hG r.1) ca_X10_thrown km_L_147 rfl rfl ⟨Nat.le_of_ble_eq_true rfl, Nat.le_of_ble_eq_true rfl⟩ hP hS (ty_lt ab_196) (cell_10 ab_196) rfl rfl rfl hl.1 rfl (Nat.le_of_ble_eq_true rfl) ⟨by show cells + 1 + 0 ≤ 603072; omega, by show slots + 6 + 0 ≤ 7198826; omega⟩ dL_law_2032) hS (fun H locs hP hS => ?_)
  refine lv_iload hx hb dL_law_2035 (lv_at hl 1 rfl) ?_
  refine lv_icmp_eq (tgt := 2042) hx hb dL_law_2037 (by decide) (fun _ => ?_) (fun hc => absurd h3 hc)
  refine lv_iload hx hb dL_law_2042 (lv_at hl 1 rfl) ?_
  refine lv_if_ne (tgt := 2059) hx hb dL_law_2044 (by decide) (fun _ => ?_) (fun hc => ?_)
  · refine lv_goto (tgt := 2462) hx hb dL_law_2059 (by decide) ?_
    refine W.widen (k := cells + 2) (n := slots + 12) (by omega) (by omega) ?_
    exact kk r.1 h5 H locs hP hS ls (lv_sub hl [2, 3, 4, 5, 6, 7] rfl)
  · have h41 := h4 hc
    refine lv_aload_n hx hb dL_law_2047 rfl (lv_at hl 5 rfl) ?_
    refine lv_iconst (v := 0) hx hb dL_law_2048 (by decide) ?_
    refine gl_lald X hP ab_208 (by rw [al_208]; unfold vp_in; decide) dL_law_2049 ?_
    refine lv_iload hx hb dL_law_2050 (lv_at hl 0 rfl) ?_
    refine lv_i2l (v := (r.2).toInt64) hx hb dL_law_2052 rfl ?_
    refine W.lcmp hx hb dL_law_2053 ?_
    rw [show (0 : Int32).toNatClampNeg = 0 from rfl, h41, lg_cmp_self]
    refine lv_if_eq (tgt := 2059) hx hb dL_law_2054 (by decide) (fun _ => ?_) (fun hc => absurd rfl hc)
    refine lv_goto (tgt := 2462) hx hb dL_law_2059 (by decide) ?_
    refine W.widen (k := cells + 2) (n := slots + 12) (by omega) (by omega) ?_
    exact kk r.1 h5 H locs hP hS ls (lv_sub hl [2, 3, 4, 5, 6, 7] rfl)
set_option maxHeartbeats 4000000 in
set_option maxRecDepth 100000 in
theorem lw_case_30 {p : Program} {l : Launch} {e : Env} {s : State} {m : MethodId} {below : List Frame} {meth : Method} {c : Code} {H : Heap} {locs : List Loc} {cells slots : Nat} {Q : State → Prop} {G : GE} {ls : Array Slot} {σ : St} {S : St → Prop} {b L i : Nat} {xs : Nat → Int32} (hfl : l.stackTraces = false) (X : Cx G p s m #[Value.ref b] c cL_law 10 RL) (hX : va_X b L xs s s.heap) (hbl : b < s.heap.size) (hbA : ¬ GA G b) (hi : i + 6 ≤ L) (hL : L ≤ 3072) (hT : Sim_30 S) (hσ : S σ) (hc2 : cells + 2 ≤ 603072) (hs2 : slots + 12 ≤ 7198826) (hP : va_P G.1 vcl (wl G σ) H) (hS : va_S (GA G) s.heap H locs) (hl : lv_has ls 10 [(0, .ref b), (1, .ref (G.2.1 0)), (2, .ref (G.2.1 196)), (3, .ref (G.2.1 208)), (4, .ref (G.2.1 209)), (5, .int (nI i))]) (kk : ∀ (σ : St), S σ → ∀ (H : Heap) (locs : List Loc), va_P G.1 vcl (wl G σ) H → va_S (GA G) s.heap H locs → ∀ (ls : Array Slot), lv_has ls 10 [(0, .ref b), (1, .ref (G.2.1 0)), (2, .ref (G.2.1 196)), (3, .ref (G.2.1 208)), (4, .ref (G.2.1 209)), (5, .int (nI i))] → W p l e room_1 s m #[Value.ref b] below meth c H locs (cells + 2) (slots + 12) Q (F0 m 2462 ls [])) : W p l e room_1 s m #[Value.ref b] below meth c H locs cells slots Q (F0 m 2062 ls []) := by
  obtain ⟨hx, hb, hml, hown, hts, hK, hbs, hXW, hG⟩ := id X
  obtain ⟨h1, h2, h3, h4, h5⟩ := hT σ ((((xs (i + 1))).toUInt32 % 65536).toInt32) hσ (lw_i2c2 _)
  refine lv_aload_n hx hb dL_law_2062 rfl (lv_at hl 1 rfl) ?_
  refine lw_arg (j := 1) X hX hbl hbA hi hL hS (lv_at hl 0 rfl) (lv_at hl 5 rfl) (by decide) dL_law_2063 dL_law_2064 dL_law_2066 dL_law_2067 dL_law_2068 ?_
  refine lv_i2c (v := (((xs (i + 1))).toUInt32 % 65536).toInt32) hx hb dL_law_2069 rfl ?_
  refine lv_aload_n hx hb dL_law_2070 rfl (lv_at hl 3 rfl) ?_
  refine gl_ci (mc := 1) (ms := 6) (gl_run (As := [.ref (G.2.1 0), .int ((((xs (i + 1))).toUInt32 % 65536).toInt32), .ref (G.2.1 208)]) (rest := []) X (c_L_append l hfl G hG σ ((((xs (i + 1))).toUInt32 % 65536).toInt32) h1) ca_L_append km_L_246 rfl rfl ⟨Nat.le_of_ble_eq_true rfl, Nat.le_of_ble_eq_true rfl⟩ hP hS rfl hl.1 rfl (Nat.le_of_ble_eq_true rfl) ⟨by show cells + 1 ≤ 603072; omega, by show slots + 6 ≤ 7198826; omega⟩ dL_law_2071) hS (fun q hq H locs hP hS => ?_)
  rw [← hq] at h2 h3 h4 h5
  dsimp only at h3 h4 h5
  refine lv_istore (lv' := [(6, .int q.2), (0, .ref b), (1, .ref (G.2.1 0)), (2, .ref (G.2.1 196)), (3, .ref (G.2.1 208)), (4, .ref (G.2.1 209)), (5, .int (nI i))]) hx hb dL_law_2074 hl (by decide) rfl (fun ls hl => ?_)
  refine lv_aload_n hx hb dL_law_2076 rfl (lv_at hl 3 rfl) ?_
  refine lw_arg (j := 1) X hX hbl hbA hi hL hS (lv_at hl 1 rfl) (lv_at hl 6 rfl) (by decide) dL_law_2077 dL_law_2078 dL_law_2080 dL_law_2081 dL_law_2082 ?_
  refine lv_i2c (v := (((xs (i + 1))).toUInt32 % 65536).toInt32) hx hb dL_law_2083 rfl ?_
  refine g_cI (g_runV (i := 196) (As := [.int ((((xs (i + 1))).toUInt32 % 65536).toInt32)]) (rest := []) X (c_X10_append l G hG q.1 ((((xs (i + 1))).toUInt32 % 65536).toInt32) h2) ca_X10_append km_L_249 rfl rfl ⟨Nat.le_of_ble_eq_true rfl, Nat.le_of_ble_eq_true rfl⟩ hP hS (ty_lt ab_196) (cell_10 ab_196) rfl rfl rfl hl.1 rfl (Nat.le_of_ble_eq_true rfl) ⟨by show cells + 1 + 0 ≤ 603072; omega, by show slots + 6 + 0 ≤ 7198826; omega⟩ dL_law_2084) hS (fun r hr H locs hP hS => ?_)
  rw [← hr] at h3 h4 h5
  refine lv_istore (lv' := [(7, .int r.2), (6, .int q.2), (0, .ref b), (1, .ref (G.2.1 0)), (2, .ref (G.2.1 196)), (3, .ref (G.2.1 208)), (4, .ref (G.2.1 209)), (5, .int (nI i))]) hx hb dL_law_2087 hl (by decide) rfl (fun ls hl => ?_)
  refine lv_aload_n hx hb dL_law_2089 rfl (lv_at hl 4 rfl) ?_
  refine g_cIp (g_runV (i := 196) (As := []) (rest := []) X (c_X10_thrown l G hG r.1) ca_X10_thrown km_L_147 rfl rfl ⟨Nat.le_of_ble_eq_true rfl, Nat.le_of_ble_eq_true rfl⟩ hP hS (ty_lt ab_196) (cell_10 ab_196) rfl rfl rfl hl.1 rfl (Nat.le_of_ble_eq_true rfl) ⟨by show cells + 1 + 0 ≤ 603072; omega, by show slots + 6 + 0 ≤ 7198826; omega⟩ dL_law_2090) hS (fun H locs hP hS => ?_)
  refine lv_iload hx hb dL_law_2093 (lv_at hl 1 rfl) ?_
  refine lv_icmp_eq (tgt := 2100) hx hb dL_law_2095 (by decide) (fun _ => ?_) (fun hc => absurd h3 hc)
  refine lv_iload hx hb dL_law_2100 (lv_at hl 1 rfl) ?_
  refine lv_if_ne (tgt := 2117) hx hb dL_law_2102 (by decide) (fun _ => ?_) (fun hc => ?_)
  · refine lv_goto (tgt := 2462) hx hb dL_law_2117 (by decide) ?_
    refine W.widen (k := cells + 2) (n := slots + 12) (by omega) (by omega) ?_
    exact kk r.1 h5 H locs hP hS ls (lv_sub hl [2, 3, 4, 5, 6, 7] rfl)
  · have h41 := h4 hc
    refine lv_aload_n hx hb dL_law_2105 rfl (lv_at hl 5 rfl) ?_
    refine lv_iconst (v := 0) hx hb dL_law_2106 (by decide) ?_
    refine gl_lald X hP ab_208 (by rw [al_208]; unfold vp_in; decide) dL_law_2107 ?_
    refine lv_iload hx hb dL_law_2108 (lv_at hl 0 rfl) ?_
    refine lv_i2l (v := (r.2).toInt64) hx hb dL_law_2110 rfl ?_
    refine W.lcmp hx hb dL_law_2111 ?_
    rw [show (0 : Int32).toNatClampNeg = 0 from rfl, h41, lg_cmp_self]
    refine lv_if_eq (tgt := 2117) hx hb dL_law_2112 (by decide) (fun _ => ?_) (fun hc => absurd rfl hc)
    refine lv_goto (tgt := 2462) hx hb dL_law_2117 (by decide) ?_
    refine W.widen (k := cells + 2) (n := slots + 12) (by omega) (by omega) ?_
    exact kk r.1 h5 H locs hP hS ls (lv_sub hl [2, 3, 4, 5, 6, 7] rfl)
set_option maxHeartbeats 4000000 in
set_option maxRecDepth 100000 in
theorem lw_case_31 {p : Program} {l : Launch} {e : Env} {s : State} {m : MethodId} {below : List Frame} {meth : Method} {c : Code} {H : Heap} {locs : List Loc} {cells slots : Nat} {Q : State → Prop} {G : GE} {ls : Array Slot} {σ : St} {S : St → Prop} {b L i : Nat} {xs : Nat → Int32} (hfl : l.stackTraces = false) (X : Cx G p s m #[Value.ref b] c cL_law 10 RL) (hX : va_X b L xs s s.heap) (hbl : b < s.heap.size) (hbA : ¬ GA G b) (hi : i + 6 ≤ L) (hL : L ≤ 3072) (hT : Sim_31 S) (hσ : S σ) (hc2 : cells + 2 ≤ 603072) (hs2 : slots + 12 ≤ 7198826) (hP : va_P G.1 vcl (wl G σ) H) (hS : va_S (GA G) s.heap H locs) (hl : lv_has ls 10 [(0, .ref b), (1, .ref (G.2.1 0)), (2, .ref (G.2.1 196)), (3, .ref (G.2.1 208)), (4, .ref (G.2.1 209)), (5, .int (nI i))]) (kk : ∀ (σ : St), S σ → ∀ (H : Heap) (locs : List Loc), va_P G.1 vcl (wl G σ) H → va_S (GA G) s.heap H locs → ∀ (ls : Array Slot), lv_has ls 10 [(0, .ref b), (1, .ref (G.2.1 0)), (2, .ref (G.2.1 196)), (3, .ref (G.2.1 208)), (4, .ref (G.2.1 209)), (5, .int (nI i))] → W p l e room_1 s m #[Value.ref b] below meth c H locs (cells + 2) (slots + 12) Q (F0 m 2462 ls [])) : W p l e room_1 s m #[Value.ref b] below meth c H locs cells slots Q (F0 m 2120 ls []) := by
  obtain ⟨hx, hb, hml, hown, hts, hK, hbs, hXW, hG⟩ := id X
  obtain ⟨h1, h2, h3, h4, h5⟩ := hT σ hσ
  refine lv_aload_n hx hb dL_law_2120 rfl (lv_at hl 1 rfl) ?_
  refine lv_aload_n hx hb dL_law_2121 rfl (lv_at hl 3 rfl) ?_
  refine gl_ci (mc := 2) (ms := 12) (gl_run (As := [.ref (G.2.1 0), .ref (G.2.1 208)]) (rest := []) X (c_L_run l hfl G hG σ h1) ca_L_run km_L_250 rfl rfl ⟨Nat.le_of_ble_eq_true rfl, Nat.le_of_ble_eq_true rfl⟩ hP hS rfl hl.1 rfl (Nat.le_of_ble_eq_true rfl) ⟨by show cells + 2 ≤ 603072; omega, by show slots + 12 ≤ 7198826; omega⟩ dL_law_2122) hS (fun q hq H locs hP hS => ?_)
  rw [← hq] at h2 h3 h4 h5
  dsimp only at h3 h4 h5
  refine lv_istore (lv' := [(6, .int q.2), (0, .ref b), (1, .ref (G.2.1 0)), (2, .ref (G.2.1 196)), (3, .ref (G.2.1 208)), (4, .ref (G.2.1 209)), (5, .int (nI i))]) hx hb dL_law_2125 hl (by decide) rfl (fun ls hl => ?_)
  refine lv_aload_n hx hb dL_law_2127 rfl (lv_at hl 3 rfl) ?_
  refine g_cI (g_runV (i := 196) (As := []) (rest := []) X (c_X10_run l G hG q.1 h2) ca_X10_run km_L_252 rfl rfl ⟨Nat.le_of_ble_eq_true rfl, Nat.le_of_ble_eq_true rfl⟩ hP hS (ty_lt ab_196) (cell_10 ab_196) rfl rfl rfl hl.1 rfl (Nat.le_of_ble_eq_true rfl) ⟨by show cells + 2 + 0 ≤ 603072; omega, by show slots + 12 + 0 ≤ 7198826; omega⟩ dL_law_2128) hS (fun r hr H locs hP hS => ?_)
  rw [← hr] at h3 h4 h5
  refine lv_istore (lv' := [(7, .int r.2), (6, .int q.2), (0, .ref b), (1, .ref (G.2.1 0)), (2, .ref (G.2.1 196)), (3, .ref (G.2.1 208)), (4, .ref (G.2.1 209)), (5, .int (nI i))]) hx hb dL_law_2131 hl (by decide) rfl (fun ls hl => ?_)
  refine lv_aload_n hx hb dL_law_2133 rfl (lv_at hl 4 rfl) ?_
  refine g_cIp (g_runV (i := 196) (As := []) (rest := []) X (c_X10_thrown l G hG r.1) ca_X10_thrown km_L_147 rfl rfl ⟨Nat.le_of_ble_eq_true rfl, Nat.le_of_ble_eq_true rfl⟩ hP hS (ty_lt ab_196) (cell_10 ab_196) rfl rfl rfl hl.1 rfl (Nat.le_of_ble_eq_true rfl) ⟨by show cells + 2 + 0 ≤ 603072; omega, by show slots + 12 + 0 ≤ 7198826; omega⟩ dL_law_2134) hS (fun H locs hP hS => ?_)
  refine lv_iload hx hb dL_law_2137 (lv_at hl 1 rfl) ?_
  refine lv_icmp_eq (tgt := 2144) hx hb dL_law_2139 (by decide) (fun _ => ?_) (fun hc => absurd h3 hc)
  refine lv_iload hx hb dL_law_2144 (lv_at hl 1 rfl) ?_
  refine lv_if_ne (tgt := 2161) hx hb dL_law_2146 (by decide) (fun _ => ?_) (fun hc => ?_)
  · refine lv_goto (tgt := 2462) hx hb dL_law_2161 (by decide) ?_
    refine W.widen (k := cells + 2) (n := slots + 12) (by omega) (by omega) ?_
    exact kk r.1 h5 H locs hP hS ls (lv_sub hl [2, 3, 4, 5, 6, 7] rfl)
  · have h41 := h4 hc
    refine lv_aload_n hx hb dL_law_2149 rfl (lv_at hl 5 rfl) ?_
    refine lv_iconst (v := 0) hx hb dL_law_2150 (by decide) ?_
    refine gl_lald X hP ab_208 (by rw [al_208]; unfold vp_in; decide) dL_law_2151 ?_
    refine lv_iload hx hb dL_law_2152 (lv_at hl 0 rfl) ?_
    refine lv_i2l (v := (r.2).toInt64) hx hb dL_law_2154 rfl ?_
    refine W.lcmp hx hb dL_law_2155 ?_
    rw [show (0 : Int32).toNatClampNeg = 0 from rfl, h41, lg_cmp_self]
    refine lv_if_eq (tgt := 2161) hx hb dL_law_2156 (by decide) (fun _ => ?_) (fun hc => absurd rfl hc)
    refine lv_goto (tgt := 2462) hx hb dL_law_2161 (by decide) ?_
    refine W.widen (k := cells + 2) (n := slots + 12) (by omega) (by omega) ?_
    exact kk r.1 h5 H locs hP hS ls (lv_sub hl [2, 3, 4, 5, 6, 7] rfl)
set_option maxHeartbeats 4000000 in
set_option maxRecDepth 100000 in
theorem lw_case_32 {p : Program} {l : Launch} {e : Env} {s : State} {m : MethodId} {below : List Frame} {meth : Method} {c : Code} {H : Heap} {locs : List Loc} {cells slots : Nat} {Q : State → Prop} {G : GE} {ls : Array Slot} {σ : St} {S : St → Prop} {b L i : Nat} {xs : Nat → Int32} (hfl : l.stackTraces = false) (X : Cx G p s m #[Value.ref b] c cL_law 10 RL) (hX : va_X b L xs s s.heap) (hbl : b < s.heap.size) (hbA : ¬ GA G b) (hi : i + 6 ≤ L) (hL : L ≤ 3072) (hT : Sim_32 S) (hσ : S σ) (hc2 : cells + 2 ≤ 603072) (hs2 : slots + 12 ≤ 7198826) (hP : va_P G.1 vcl (wl G σ) H) (hS : va_S (GA G) s.heap H locs) (hl : lv_has ls 10 [(0, .ref b), (1, .ref (G.2.1 0)), (2, .ref (G.2.1 196)), (3, .ref (G.2.1 208)), (4, .ref (G.2.1 209)), (5, .int (nI i))]) (kk : ∀ (σ : St), S σ → ∀ (H : Heap) (locs : List Loc), va_P G.1 vcl (wl G σ) H → va_S (GA G) s.heap H locs → ∀ (ls : Array Slot), lv_has ls 10 [(0, .ref b), (1, .ref (G.2.1 0)), (2, .ref (G.2.1 196)), (3, .ref (G.2.1 208)), (4, .ref (G.2.1 209)), (5, .int (nI i))] → W p l e room_1 s m #[Value.ref b] below meth c H locs (cells + 2) (slots + 12) Q (F0 m 2462 ls [])) : W p l e room_1 s m #[Value.ref b] below meth c H locs cells slots Q (F0 m 2164 ls []) := by
  obtain ⟨hx, hb, hml, hown, hts, hK, hbs, hXW, hG⟩ := id X
  refine lv_aload_n hx hb dL_law_2164 rfl (lv_at hl 1 rfl) ?_
  obtain ⟨h3, h5⟩ := hT σ hσ
  refine g_cIp (g_runV (i := 0) (As := []) (rest := []) X (c_X9_errorPosition l G hG σ) ca_X9_errorPosition km_L_253 rfl rfl ⟨Nat.le_of_ble_eq_true rfl, Nat.le_of_ble_eq_true rfl⟩ hP hS (ty_lt ab_0) (cell_9 ab_0) rfl rfl rfl hl.1 rfl (Nat.le_of_ble_eq_true rfl) ⟨by show cells + 0 ≤ 603072; omega, by show slots + 0 ≤ 7198826; omega⟩ dL_law_2165) hS (fun H locs hP hS => ?_)
  refine lv_aload_n hx hb dL_law_2168 rfl (lv_at hl 2 rfl) ?_
  refine g_cI (g_runV (i := 196) (As := []) (rest := [.int (f_X9_errorPosition σ)]) X (c_X10_errorPosition l G hG σ) ca_X10_errorPosition km_L_256 rfl rfl ⟨Nat.le_of_ble_eq_true rfl, Nat.le_of_ble_eq_true rfl⟩ hP hS (ty_lt ab_196) (cell_10 ab_196) rfl rfl rfl hl.1 rfl (Nat.le_of_ble_eq_true rfl) ⟨by show cells + 0 ≤ 603072; omega, by show slots + 0 ≤ 7198826; omega⟩ dL_law_2169) hS (fun r hr H locs hP hS => ?_)
  rw [← hr] at h3 h5
  refine lv_icmp_eq (tgt := 2462) hx hb dL_law_2172 (by decide) (fun _ => ?_) (fun hc => absurd h3 hc)
  refine W.widen (k := cells + 2) (n := slots + 12) (by omega) (by omega) ?_
  exact kk r.1 h5 H locs hP hS ls (lv_sub hl [0, 1, 2, 3, 4, 5] rfl)
set_option maxHeartbeats 4000000 in
set_option maxRecDepth 100000 in
theorem lw_case_33 {p : Program} {l : Launch} {e : Env} {s : State} {m : MethodId} {below : List Frame} {meth : Method} {c : Code} {H : Heap} {locs : List Loc} {cells slots : Nat} {Q : State → Prop} {G : GE} {ls : Array Slot} {σ : St} {S : St → Prop} {b L i : Nat} {xs : Nat → Int32} (hfl : l.stackTraces = false) (X : Cx G p s m #[Value.ref b] c cL_law 10 RL) (hX : va_X b L xs s s.heap) (hbl : b < s.heap.size) (hbA : ¬ GA G b) (hi : i + 6 ≤ L) (hL : L ≤ 3072) (hT : Sim_33 S) (hσ : S σ) (hc2 : cells + 2 ≤ 603072) (hs2 : slots + 12 ≤ 7198826) (hP : va_P G.1 vcl (wl G σ) H) (hS : va_S (GA G) s.heap H locs) (hl : lv_has ls 10 [(0, .ref b), (1, .ref (G.2.1 0)), (2, .ref (G.2.1 196)), (3, .ref (G.2.1 208)), (4, .ref (G.2.1 209)), (5, .int (nI i))]) (kk : ∀ (σ : St), S σ → ∀ (H : Heap) (locs : List Loc), va_P G.1 vcl (wl G σ) H → va_S (GA G) s.heap H locs → ∀ (ls : Array Slot), lv_has ls 10 [(0, .ref b), (1, .ref (G.2.1 0)), (2, .ref (G.2.1 196)), (3, .ref (G.2.1 208)), (4, .ref (G.2.1 209)), (5, .int (nI i))] → W p l e room_1 s m #[Value.ref b] below meth c H locs (cells + 2) (slots + 12) Q (F0 m 2462 ls [])) : W p l e room_1 s m #[Value.ref b] below meth c H locs cells slots Q (F0 m 2177 ls []) := by
  obtain ⟨hx, hb, hml, hown, hts, hK, hbs, hXW, hG⟩ := id X
  refine lv_aload_n hx hb dL_law_2177 rfl (lv_at hl 1 rfl) ?_
  refine lw_arg (j := 1) X hX hbl hbA hi hL hS (lv_at hl 0 rfl) (lv_at hl 5 rfl) (by decide) dL_law_2178 dL_law_2179 dL_law_2181 dL_law_2182 dL_law_2183 ?_
  by_cases hz : (xs (i + 1)) = 0
  · obtain ⟨h1, h2, h3, h4, h5⟩ := hT σ false hσ
    refine lv_if_eq (tgt := 2191) hx hb dL_law_2184 (by decide) (fun _ => ?_) (fun hc => absurd hz hc)
    refine lv_iconst (v := 0) hx hb dL_law_2191 (by decide) ?_
    refine lv_aload_n hx hb dL_law_2192 rfl (lv_at hl 3 rfl) ?_
    refine gl_ci (mc := 1) (ms := 6) (gl_run (As := [.ref (G.2.1 0), .int (bI false), .ref (G.2.1 208)]) (rest := []) X (c_L_refusal l hfl G hG σ false h1) ca_L_refusal km_L_257 rfl rfl ⟨Nat.le_of_ble_eq_true rfl, Nat.le_of_ble_eq_true rfl⟩ hP hS rfl hl.1 rfl (Nat.le_of_ble_eq_true rfl) ⟨by show cells + 1 ≤ 603072; omega, by show slots + 6 ≤ 7198826; omega⟩ dL_law_2193) hS (fun q hq H locs hP hS => ?_)
    rw [← hq] at h3 h4 h5
    dsimp only at h3 h4 h5
    refine lv_istore (lv' := [(6, .int q.2), (0, .ref b), (1, .ref (G.2.1 0)), (2, .ref (G.2.1 196)), (3, .ref (G.2.1 208)), (4, .ref (G.2.1 209)), (5, .int (nI i))]) hx hb dL_law_2196 hl (by decide) rfl (fun ls hl => ?_)
    refine lv_aload_n hx hb dL_law_2198 rfl (lv_at hl 3 rfl) ?_
    refine lw_arg (j := 1) X hX hbl hbA hi hL hS (lv_at hl 1 rfl) (lv_at hl 6 rfl) (by decide) dL_law_2199 dL_law_2200 dL_law_2202 dL_law_2203 dL_law_2204 ?_
    refine lv_if_eq (tgt := 2212) hx hb dL_law_2205 (by decide) (fun _ => ?_) (fun hc => absurd hz hc)
    refine lv_iconst (v := 0) hx hb dL_law_2212 (by decide) ?_
    refine g_cI (g_runV (i := 196) (As := [.int (bI false)]) (rest := []) X (c_X10_refusal l G hG q.1 false) ca_X10_refusal km_L_260 rfl rfl ⟨Nat.le_of_ble_eq_true rfl, Nat.le_of_ble_eq_true rfl⟩ hP hS (ty_lt ab_196) (cell_10 ab_196) rfl rfl rfl hl.1 rfl (Nat.le_of_ble_eq_true rfl) ⟨by show cells + 1 + 0 ≤ 603072; omega, by show slots + 6 + 0 ≤ 7198826; omega⟩ dL_law_2213) hS (fun r hr H locs hP hS => ?_)
    rw [← hr] at h3 h4 h5
    refine lv_istore (lv' := [(7, .int r.2), (6, .int q.2), (0, .ref b), (1, .ref (G.2.1 0)), (2, .ref (G.2.1 196)), (3, .ref (G.2.1 208)), (4, .ref (G.2.1 209)), (5, .int (nI i))]) hx hb dL_law_2216 hl (by decide) rfl (fun ls hl => ?_)
    refine lv_aload_n hx hb dL_law_2218 rfl (lv_at hl 4 rfl) ?_
    refine g_cIp (g_runV (i := 196) (As := []) (rest := []) X (c_X10_thrown l G hG r.1) ca_X10_thrown km_L_147 rfl rfl ⟨Nat.le_of_ble_eq_true rfl, Nat.le_of_ble_eq_true rfl⟩ hP hS (ty_lt ab_196) (cell_10 ab_196) rfl rfl rfl hl.1 rfl (Nat.le_of_ble_eq_true rfl) ⟨by show cells + 1 + 0 ≤ 603072; omega, by show slots + 6 + 0 ≤ 7198826; omega⟩ dL_law_2219) hS (fun H locs hP hS => ?_)
    refine lv_iload hx hb dL_law_2222 (lv_at hl 1 rfl) ?_
    refine lv_icmp_eq (tgt := 2229) hx hb dL_law_2224 (by decide) (fun _ => ?_) (fun hc => absurd h3 hc)
    refine lv_iload hx hb dL_law_2229 (lv_at hl 1 rfl) ?_
    refine lv_if_ne (tgt := 2246) hx hb dL_law_2231 (by decide) (fun _ => ?_) (fun hc => ?_)
    · refine lv_goto (tgt := 2462) hx hb dL_law_2246 (by decide) ?_
      refine W.widen (k := cells + 2) (n := slots + 12) (by omega) (by omega) ?_
      exact kk r.1 h5 H locs hP hS ls (lv_sub hl [2, 3, 4, 5, 6, 7] rfl)
    · have h41 := h4 hc
      refine lv_aload_n hx hb dL_law_2234 rfl (lv_at hl 5 rfl) ?_
      refine lv_iconst (v := 0) hx hb dL_law_2235 (by decide) ?_
      refine gl_lald X hP ab_208 (by rw [al_208]; unfold vp_in; decide) dL_law_2236 ?_
      refine lv_iload hx hb dL_law_2237 (lv_at hl 0 rfl) ?_
      refine lv_i2l (v := (r.2).toInt64) hx hb dL_law_2239 rfl ?_
      refine W.lcmp hx hb dL_law_2240 ?_
      rw [show (0 : Int32).toNatClampNeg = 0 from rfl, h41, lg_cmp_self]
      refine lv_if_eq (tgt := 2246) hx hb dL_law_2241 (by decide) (fun _ => ?_) (fun hc => absurd rfl hc)
      refine lv_goto (tgt := 2462) hx hb dL_law_2246 (by decide) ?_
      refine W.widen (k := cells + 2) (n := slots + 12) (by omega) (by omega) ?_
      exact kk r.1 h5 H locs hP hS ls (lv_sub hl [2, 3, 4, 5, 6, 7] rfl)
  · obtain ⟨h1, h2, h3, h4, h5⟩ := hT σ true hσ
    refine lv_if_eq (tgt := 2191) hx hb dL_law_2184 (by decide) (fun hc => absurd hc hz) (fun _ => ?_)
    refine lv_iconst (v := 1) hx hb dL_law_2187 (by decide) ?_
    refine lv_goto (tgt := 2192) hx hb dL_law_2188 (by decide) ?_
    refine lv_aload_n hx hb dL_law_2192 rfl (lv_at hl 3 rfl) ?_
    refine gl_ci (mc := 1) (ms := 6) (gl_run (As := [.ref (G.2.1 0), .int (bI true), .ref (G.2.1 208)]) (rest := []) X (c_L_refusal l hfl G hG σ true h1) ca_L_refusal km_L_257 rfl rfl ⟨Nat.le_of_ble_eq_true rfl, Nat.le_of_ble_eq_true rfl⟩ hP hS rfl hl.1 rfl (Nat.le_of_ble_eq_true rfl) ⟨by show cells + 1 ≤ 603072; omega, by show slots + 6 ≤ 7198826; omega⟩ dL_law_2193) hS (fun q hq H locs hP hS => ?_)
    rw [← hq] at h3 h4 h5
    dsimp only at h3 h4 h5
    refine lv_istore (lv' := [(6, .int q.2), (0, .ref b), (1, .ref (G.2.1 0)), (2, .ref (G.2.1 196)), (3, .ref (G.2.1 208)), (4, .ref (G.2.1 209)), (5, .int (nI i))]) hx hb dL_law_2196 hl (by decide) rfl (fun ls hl => ?_)
    refine lv_aload_n hx hb dL_law_2198 rfl (lv_at hl 3 rfl) ?_
    refine lw_arg (j := 1) X hX hbl hbA hi hL hS (lv_at hl 1 rfl) (lv_at hl 6 rfl) (by decide) dL_law_2199 dL_law_2200 dL_law_2202 dL_law_2203 dL_law_2204 ?_
    refine lv_if_eq (tgt := 2212) hx hb dL_law_2205 (by decide) (fun hc => absurd hc hz) (fun _ => ?_)
    refine lv_iconst (v := 1) hx hb dL_law_2208 (by decide) ?_
    refine lv_goto (tgt := 2213) hx hb dL_law_2209 (by decide) ?_
    refine g_cI (g_runV (i := 196) (As := [.int (bI true)]) (rest := []) X (c_X10_refusal l G hG q.1 true) ca_X10_refusal km_L_260 rfl rfl ⟨Nat.le_of_ble_eq_true rfl, Nat.le_of_ble_eq_true rfl⟩ hP hS (ty_lt ab_196) (cell_10 ab_196) rfl rfl rfl hl.1 rfl (Nat.le_of_ble_eq_true rfl) ⟨by show cells + 1 + 0 ≤ 603072; omega, by show slots + 6 + 0 ≤ 7198826; omega⟩ dL_law_2213) hS (fun r hr H locs hP hS => ?_)
    rw [← hr] at h3 h4 h5
    refine lv_istore (lv' := [(7, .int r.2), (6, .int q.2), (0, .ref b), (1, .ref (G.2.1 0)), (2, .ref (G.2.1 196)), (3, .ref (G.2.1 208)), (4, .ref (G.2.1 209)), (5, .int (nI i))]) hx hb dL_law_2216 hl (by decide) rfl (fun ls hl => ?_)
    refine lv_aload_n hx hb dL_law_2218 rfl (lv_at hl 4 rfl) ?_
    refine g_cIp (g_runV (i := 196) (As := []) (rest := []) X (c_X10_thrown l G hG r.1) ca_X10_thrown km_L_147 rfl rfl ⟨Nat.le_of_ble_eq_true rfl, Nat.le_of_ble_eq_true rfl⟩ hP hS (ty_lt ab_196) (cell_10 ab_196) rfl rfl rfl hl.1 rfl (Nat.le_of_ble_eq_true rfl) ⟨by show cells + 1 + 0 ≤ 603072; omega, by show slots + 6 + 0 ≤ 7198826; omega⟩ dL_law_2219) hS (fun H locs hP hS => ?_)
    refine lv_iload hx hb dL_law_2222 (lv_at hl 1 rfl) ?_
    refine lv_icmp_eq (tgt := 2229) hx hb dL_law_2224 (by decide) (fun _ => ?_) (fun hc => absurd h3 hc)
    refine lv_iload hx hb dL_law_2229 (lv_at hl 1 rfl) ?_
    refine lv_if_ne (tgt := 2246) hx hb dL_law_2231 (by decide) (fun _ => ?_) (fun hc => ?_)
    · refine lv_goto (tgt := 2462) hx hb dL_law_2246 (by decide) ?_
      refine W.widen (k := cells + 2) (n := slots + 12) (by omega) (by omega) ?_
      exact kk r.1 h5 H locs hP hS ls (lv_sub hl [2, 3, 4, 5, 6, 7] rfl)
    · have h41 := h4 hc
      refine lv_aload_n hx hb dL_law_2234 rfl (lv_at hl 5 rfl) ?_
      refine lv_iconst (v := 0) hx hb dL_law_2235 (by decide) ?_
      refine gl_lald X hP ab_208 (by rw [al_208]; unfold vp_in; decide) dL_law_2236 ?_
      refine lv_iload hx hb dL_law_2237 (lv_at hl 0 rfl) ?_
      refine lv_i2l (v := (r.2).toInt64) hx hb dL_law_2239 rfl ?_
      refine W.lcmp hx hb dL_law_2240 ?_
      rw [show (0 : Int32).toNatClampNeg = 0 from rfl, h41, lg_cmp_self]
      refine lv_if_eq (tgt := 2246) hx hb dL_law_2241 (by decide) (fun _ => ?_) (fun hc => absurd rfl hc)
      refine lv_goto (tgt := 2462) hx hb dL_law_2246 (by decide) ?_
      refine W.widen (k := cells + 2) (n := slots + 12) (by omega) (by omega) ?_
      exact kk r.1 h5 H locs hP hS ls (lv_sub hl [2, 3, 4, 5, 6, 7] rfl)
set_option maxHeartbeats 4000000 in
set_option maxRecDepth 100000 in
theorem lw_case_34 {p : Program} {l : Launch} {e : Env} {s : State} {m : MethodId} {below : List Frame} {meth : Method} {c : Code} {H : Heap} {locs : List Loc} {cells slots : Nat} {Q : State → Prop} {G : GE} {ls : Array Slot} {σ : St} {S : St → Prop} {b L i : Nat} {xs : Nat → Int32} (hfl : l.stackTraces = false) (X : Cx G p s m #[Value.ref b] c cL_law 10 RL) (hX : va_X b L xs s s.heap) (hbl : b < s.heap.size) (hbA : ¬ GA G b) (hi : i + 6 ≤ L) (hL : L ≤ 3072) (hT : Sim_34 S) (hσ : S σ) (hc2 : cells + 2 ≤ 603072) (hs2 : slots + 12 ≤ 7198826) (hP : va_P G.1 vcl (wl G σ) H) (hS : va_S (GA G) s.heap H locs) (hl : lv_has ls 10 [(0, .ref b), (1, .ref (G.2.1 0)), (2, .ref (G.2.1 196)), (3, .ref (G.2.1 208)), (4, .ref (G.2.1 209)), (5, .int (nI i))]) (kk : ∀ (σ : St), S σ → ∀ (H : Heap) (locs : List Loc), va_P G.1 vcl (wl G σ) H → va_S (GA G) s.heap H locs → ∀ (ls : Array Slot), lv_has ls 10 [(0, .ref b), (1, .ref (G.2.1 0)), (2, .ref (G.2.1 196)), (3, .ref (G.2.1 208)), (4, .ref (G.2.1 209)), (5, .int (nI i))] → W p l e room_1 s m #[Value.ref b] below meth c H locs (cells + 2) (slots + 12) Q (F0 m 2462 ls [])) : W p l e room_1 s m #[Value.ref b] below meth c H locs cells slots Q (F0 m 2249 ls []) := by
  obtain ⟨hx, hb, hml, hown, hts, hK, hbs, hXW, hG⟩ := id X
  obtain ⟨h1, h2, h3, h4, h5⟩ := hT σ (xs (i + 1)) hσ
  refine lv_aload_n hx hb dL_law_2249 rfl (lv_at hl 1 rfl) ?_
  refine lw_arg (j := 1) X hX hbl hbA hi hL hS (lv_at hl 0 rfl) (lv_at hl 5 rfl) (by decide) dL_law_2250 dL_law_2251 dL_law_2253 dL_law_2254 dL_law_2255 ?_
  refine lv_aload_n hx hb dL_law_2256 rfl (lv_at hl 3 rfl) ?_
  refine gl_ci (mc := 1) (ms := 6) (gl_run (As := [.ref (G.2.1 0), .int (xs (i + 1)), .ref (G.2.1 208)]) (rest := []) X (c_L_account l hfl G hG σ (xs (i + 1)) h1) ca_L_account km_L_261 rfl rfl ⟨Nat.le_of_ble_eq_true rfl, Nat.le_of_ble_eq_true rfl⟩ hP hS rfl hl.1 rfl (Nat.le_of_ble_eq_true rfl) ⟨by show cells + 1 ≤ 603072; omega, by show slots + 6 ≤ 7198826; omega⟩ dL_law_2257) hS (fun q hq H locs hP hS => ?_)
  rw [← hq] at h2 h3 h4 h5
  dsimp only at h3 h4 h5
  refine lv_istore (lv' := [(6, .int q.2), (0, .ref b), (1, .ref (G.2.1 0)), (2, .ref (G.2.1 196)), (3, .ref (G.2.1 208)), (4, .ref (G.2.1 209)), (5, .int (nI i))]) hx hb dL_law_2260 hl (by decide) rfl (fun ls hl => ?_)
  refine lv_aload_n hx hb dL_law_2262 rfl (lv_at hl 3 rfl) ?_
  refine lw_arg (j := 1) X hX hbl hbA hi hL hS (lv_at hl 1 rfl) (lv_at hl 6 rfl) (by decide) dL_law_2263 dL_law_2264 dL_law_2266 dL_law_2267 dL_law_2268 ?_
  refine g_cI (g_runV (i := 196) (As := [.int (xs (i + 1))]) (rest := []) X (c_X10_account l G hG q.1 (xs (i + 1)) h2) ca_X10_account km_L_263 rfl rfl ⟨Nat.le_of_ble_eq_true rfl, Nat.le_of_ble_eq_true rfl⟩ hP hS (ty_lt ab_196) (cell_10 ab_196) rfl rfl rfl hl.1 rfl (Nat.le_of_ble_eq_true rfl) ⟨by show cells + 1 + 0 ≤ 603072; omega, by show slots + 6 + 0 ≤ 7198826; omega⟩ dL_law_2269) hS (fun r hr H locs hP hS => ?_)
  rw [← hr] at h3 h4 h5
  refine lv_istore (lv' := [(7, .int r.2), (6, .int q.2), (0, .ref b), (1, .ref (G.2.1 0)), (2, .ref (G.2.1 196)), (3, .ref (G.2.1 208)), (4, .ref (G.2.1 209)), (5, .int (nI i))]) hx hb dL_law_2272 hl (by decide) rfl (fun ls hl => ?_)
  refine lv_aload_n hx hb dL_law_2274 rfl (lv_at hl 4 rfl) ?_
  refine g_cIp (g_runV (i := 196) (As := []) (rest := []) X (c_X10_thrown l G hG r.1) ca_X10_thrown km_L_147 rfl rfl ⟨Nat.le_of_ble_eq_true rfl, Nat.le_of_ble_eq_true rfl⟩ hP hS (ty_lt ab_196) (cell_10 ab_196) rfl rfl rfl hl.1 rfl (Nat.le_of_ble_eq_true rfl) ⟨by show cells + 1 + 0 ≤ 603072; omega, by show slots + 6 + 0 ≤ 7198826; omega⟩ dL_law_2275) hS (fun H locs hP hS => ?_)
  refine lv_iload hx hb dL_law_2278 (lv_at hl 1 rfl) ?_
  refine lv_icmp_eq (tgt := 2285) hx hb dL_law_2280 (by decide) (fun _ => ?_) (fun hc => absurd h3 hc)
  refine lv_iload hx hb dL_law_2285 (lv_at hl 1 rfl) ?_
  refine lv_if_ne (tgt := 2302) hx hb dL_law_2287 (by decide) (fun _ => ?_) (fun hc => ?_)
  · refine lv_goto (tgt := 2462) hx hb dL_law_2302 (by decide) ?_
    refine W.widen (k := cells + 2) (n := slots + 12) (by omega) (by omega) ?_
    exact kk r.1 h5 H locs hP hS ls (lv_sub hl [2, 3, 4, 5, 6, 7] rfl)
  · have h41 := h4 hc
    refine lv_aload_n hx hb dL_law_2290 rfl (lv_at hl 5 rfl) ?_
    refine lv_iconst (v := 0) hx hb dL_law_2291 (by decide) ?_
    refine gl_lald X hP ab_208 (by rw [al_208]; unfold vp_in; decide) dL_law_2292 ?_
    refine lv_iload hx hb dL_law_2293 (lv_at hl 0 rfl) ?_
    refine lv_i2l (v := (r.2).toInt64) hx hb dL_law_2295 rfl ?_
    refine W.lcmp hx hb dL_law_2296 ?_
    rw [show (0 : Int32).toNatClampNeg = 0 from rfl, h41, lg_cmp_self]
    refine lv_if_eq (tgt := 2302) hx hb dL_law_2297 (by decide) (fun _ => ?_) (fun hc => absurd rfl hc)
    refine lv_goto (tgt := 2462) hx hb dL_law_2302 (by decide) ?_
    refine W.widen (k := cells + 2) (n := slots + 12) (by omega) (by omega) ?_
    exact kk r.1 h5 H locs hP hS ls (lv_sub hl [2, 3, 4, 5, 6, 7] rfl)
set_option maxHeartbeats 4000000 in
set_option maxRecDepth 100000 in
theorem lw_case_35 {p : Program} {l : Launch} {e : Env} {s : State} {m : MethodId} {below : List Frame} {meth : Method} {c : Code} {H : Heap} {locs : List Loc} {cells slots : Nat} {Q : State → Prop} {G : GE} {ls : Array Slot} {σ : St} {S : St → Prop} {b L i : Nat} {xs : Nat → Int32} (hfl : l.stackTraces = false) (X : Cx G p s m #[Value.ref b] c cL_law 10 RL) (hX : va_X b L xs s s.heap) (hbl : b < s.heap.size) (hbA : ¬ GA G b) (hi : i + 6 ≤ L) (hL : L ≤ 3072) (hT : Sim_35 S) (hσ : S σ) (hc2 : cells + 2 ≤ 603072) (hs2 : slots + 12 ≤ 7198826) (hP : va_P G.1 vcl (wl G σ) H) (hS : va_S (GA G) s.heap H locs) (hl : lv_has ls 10 [(0, .ref b), (1, .ref (G.2.1 0)), (2, .ref (G.2.1 196)), (3, .ref (G.2.1 208)), (4, .ref (G.2.1 209)), (5, .int (nI i))]) (kk : ∀ (σ : St), S σ → ∀ (H : Heap) (locs : List Loc), va_P G.1 vcl (wl G σ) H → va_S (GA G) s.heap H locs → ∀ (ls : Array Slot), lv_has ls 10 [(0, .ref b), (1, .ref (G.2.1 0)), (2, .ref (G.2.1 196)), (3, .ref (G.2.1 208)), (4, .ref (G.2.1 209)), (5, .int (nI i))] → W p l e room_1 s m #[Value.ref b] below meth c H locs (cells + 2) (slots + 12) Q (F0 m 2462 ls [])) : W p l e room_1 s m #[Value.ref b] below meth c H locs cells slots Q (F0 m 2305 ls []) := by
  obtain ⟨hx, hb, hml, hown, hts, hK, hbs, hXW, hG⟩ := id X
  refine lv_aload_n hx hb dL_law_2305 rfl (lv_at hl 1 rfl) ?_
  obtain ⟨h1, h2, h3, h5⟩ := hT σ hσ
  refine g_cZp (g_runV (i := 0) (As := []) (rest := []) X (c_X9_isWell l G hG σ h1) ca_X9_isWell km_L_264 rfl rfl ⟨Nat.le_of_ble_eq_true rfl, Nat.le_of_ble_eq_true rfl⟩ hP hS (ty_lt ab_0) (cell_9 ab_0) rfl rfl rfl hl.1 rfl (Nat.le_of_ble_eq_true rfl) ⟨by show cells + 0 ≤ 603072; omega, by show slots + 0 ≤ 7198826; omega⟩ dL_law_2306) hS (fun H locs hP hS => ?_)
  refine lv_aload_n hx hb dL_law_2309 rfl (lv_at hl 2 rfl) ?_
  refine g_cZ (g_runV (i := 196) (As := []) (rest := [.int (bI (f_X9_isWell σ))]) X (c_X10_isWell l G hG σ h2) ca_X10_isWell km_L_268 rfl rfl ⟨Nat.le_of_ble_eq_true rfl, Nat.le_of_ble_eq_true rfl⟩ hP hS (ty_lt ab_196) (cell_10 ab_196) rfl rfl rfl hl.1 rfl (Nat.le_of_ble_eq_true rfl) ⟨by show cells + 0 ≤ 603072; omega, by show slots + 0 ≤ 7198826; omega⟩ dL_law_2310) hS (fun r hr H locs hP hS => ?_)
  rw [← hr] at h3 h5
  refine lv_icmp_eq (tgt := 2462) hx hb dL_law_2313 (by decide) (fun _ => ?_) (fun hc => absurd (congrArg bI h3) hc)
  refine W.widen (k := cells + 2) (n := slots + 12) (by omega) (by omega) ?_
  exact kk r.1 h5 H locs hP hS ls (lv_sub hl [0, 1, 2, 3, 4, 5] rfl)
set_option maxHeartbeats 4000000 in
set_option maxRecDepth 100000 in
theorem lw_case_36 {p : Program} {l : Launch} {e : Env} {s : State} {m : MethodId} {below : List Frame} {meth : Method} {c : Code} {H : Heap} {locs : List Loc} {cells slots : Nat} {Q : State → Prop} {G : GE} {ls : Array Slot} {σ : St} {S : St → Prop} {b L i : Nat} {xs : Nat → Int32} (hfl : l.stackTraces = false) (X : Cx G p s m #[Value.ref b] c cL_law 10 RL) (hX : va_X b L xs s s.heap) (hbl : b < s.heap.size) (hbA : ¬ GA G b) (hi : i + 6 ≤ L) (hL : L ≤ 3072) (hT : Sim_36 S) (hσ : S σ) (hc2 : cells + 2 ≤ 603072) (hs2 : slots + 12 ≤ 7198826) (hP : va_P G.1 vcl (wl G σ) H) (hS : va_S (GA G) s.heap H locs) (hl : lv_has ls 10 [(0, .ref b), (1, .ref (G.2.1 0)), (2, .ref (G.2.1 196)), (3, .ref (G.2.1 208)), (4, .ref (G.2.1 209)), (5, .int (nI i))]) (kk : ∀ (σ : St), S σ → ∀ (H : Heap) (locs : List Loc), va_P G.1 vcl (wl G σ) H → va_S (GA G) s.heap H locs → ∀ (ls : Array Slot), lv_has ls 10 [(0, .ref b), (1, .ref (G.2.1 0)), (2, .ref (G.2.1 196)), (3, .ref (G.2.1 208)), (4, .ref (G.2.1 209)), (5, .int (nI i))] → W p l e room_1 s m #[Value.ref b] below meth c H locs (cells + 2) (slots + 12) Q (F0 m 2462 ls [])) : W p l e room_1 s m #[Value.ref b] below meth c H locs cells slots Q (F0 m 2318 ls []) := by
  obtain ⟨hx, hb, hml, hown, hts, hK, hbs, hXW, hG⟩ := id X
  obtain ⟨h1, h2, h3, h4, h5⟩ := hT σ hσ
  refine lv_aload_n hx hb dL_law_2318 rfl (lv_at hl 1 rfl) ?_
  refine lv_aload_n hx hb dL_law_2319 rfl (lv_at hl 3 rfl) ?_
  refine gl_ci (mc := 1) (ms := 6) (gl_run (As := [.ref (G.2.1 0), .ref (G.2.1 208)]) (rest := []) X (c_L_meanBits l hfl G hG σ h1) ca_L_meanBits km_L_269 rfl rfl ⟨Nat.le_of_ble_eq_true rfl, Nat.le_of_ble_eq_true rfl⟩ hP hS rfl hl.1 rfl (Nat.le_of_ble_eq_true rfl) ⟨by show cells + 1 ≤ 603072; omega, by show slots + 6 ≤ 7198826; omega⟩ dL_law_2320) hS (fun q hq H locs hP hS => ?_)
  rw [← hq] at h2 h3 h4 h5
  dsimp only at h3 h4 h5
  refine lv_istore (lv' := [(6, .int q.2), (0, .ref b), (1, .ref (G.2.1 0)), (2, .ref (G.2.1 196)), (3, .ref (G.2.1 208)), (4, .ref (G.2.1 209)), (5, .int (nI i))]) hx hb dL_law_2323 hl (by decide) rfl (fun ls hl => ?_)
  refine lv_aload_n hx hb dL_law_2325 rfl (lv_at hl 3 rfl) ?_
  refine g_cJ (g_runV (i := 196) (As := []) (rest := []) X (c_X10_meanBits l G hG q.1 h2) ca_X10_meanBits km_L_271 rfl rfl ⟨Nat.le_of_ble_eq_true rfl, Nat.le_of_ble_eq_true rfl⟩ hP hS (ty_lt ab_196) (cell_10 ab_196) rfl rfl rfl hl.1 rfl (Nat.le_of_ble_eq_true rfl) ⟨by show cells + 1 + 0 ≤ 603072; omega, by show slots + 6 + 0 ≤ 7198826; omega⟩ dL_law_2326) hS (fun r hr H locs hP hS => ?_)
  rw [← hr] at h3 h4 h5
  refine lv_lstore (lv' := [(7, .long r.2), (6, .int q.2), (0, .ref b), (1, .ref (G.2.1 0)), (2, .ref (G.2.1 196)), (3, .ref (G.2.1 208)), (4, .ref (G.2.1 209)), (5, .int (nI i))]) hx hb dL_law_2329 hl (by decide) rfl (fun ls hl => ?_)
  refine lv_aload_n hx hb dL_law_2331 rfl (lv_at hl 4 rfl) ?_
  refine g_cIp (g_runV (i := 196) (As := []) (rest := []) X (c_X10_thrown l G hG r.1) ca_X10_thrown km_L_147 rfl rfl ⟨Nat.le_of_ble_eq_true rfl, Nat.le_of_ble_eq_true rfl⟩ hP hS (ty_lt ab_196) (cell_10 ab_196) rfl rfl rfl hl.1 rfl (Nat.le_of_ble_eq_true rfl) ⟨by show cells + 1 + 0 ≤ 603072; omega, by show slots + 6 + 0 ≤ 7198826; omega⟩ dL_law_2332) hS (fun H locs hP hS => ?_)
  refine lv_iload hx hb dL_law_2335 (lv_at hl 1 rfl) ?_
  refine lv_icmp_eq (tgt := 2342) hx hb dL_law_2337 (by decide) (fun _ => ?_) (fun hc => absurd h3 hc)
  refine lv_iload hx hb dL_law_2342 (lv_at hl 1 rfl) ?_
  refine lv_if_ne (tgt := 2358) hx hb dL_law_2344 (by decide) (fun _ => ?_) (fun hc => ?_)
  · refine lv_goto (tgt := 2462) hx hb dL_law_2358 (by decide) ?_
    refine W.widen (k := cells + 2) (n := slots + 12) (by omega) (by omega) ?_
    exact kk r.1 h5 H locs hP hS ls (lv_sub hl [2, 3, 4, 5, 6, 7] rfl)
  · have h41 := h4 hc
    refine lv_aload_n hx hb dL_law_2347 rfl (lv_at hl 5 rfl) ?_
    refine lv_iconst (v := 0) hx hb dL_law_2348 (by decide) ?_
    refine gl_lald X hP ab_208 (by rw [al_208]; unfold vp_in; decide) dL_law_2349 ?_
    refine lv_lload hx hb dL_law_2350 (lv_at hl 0 rfl) ?_
    refine W.lcmp hx hb dL_law_2352 ?_
    rw [show (0 : Int32).toNatClampNeg = 0 from rfl, h41, lg_cmp_self]
    refine lv_if_eq (tgt := 2358) hx hb dL_law_2353 (by decide) (fun _ => ?_) (fun hc => absurd rfl hc)
    refine lv_goto (tgt := 2462) hx hb dL_law_2358 (by decide) ?_
    refine W.widen (k := cells + 2) (n := slots + 12) (by omega) (by omega) ?_
    exact kk r.1 h5 H locs hP hS ls (lv_sub hl [2, 3, 4, 5, 6, 7] rfl)
set_option maxHeartbeats 4000000 in
set_option maxRecDepth 100000 in
theorem lw_case_37 {p : Program} {l : Launch} {e : Env} {s : State} {m : MethodId} {below : List Frame} {meth : Method} {c : Code} {H : Heap} {locs : List Loc} {cells slots : Nat} {Q : State → Prop} {G : GE} {ls : Array Slot} {σ : St} {S : St → Prop} {b L i : Nat} {xs : Nat → Int32} (hfl : l.stackTraces = false) (X : Cx G p s m #[Value.ref b] c cL_law 10 RL) (hX : va_X b L xs s s.heap) (hbl : b < s.heap.size) (hbA : ¬ GA G b) (hi : i + 6 ≤ L) (hL : L ≤ 3072) (hT : Sim_37 S) (hσ : S σ) (hc2 : cells + 2 ≤ 603072) (hs2 : slots + 12 ≤ 7198826) (hP : va_P G.1 vcl (wl G σ) H) (hS : va_S (GA G) s.heap H locs) (hl : lv_has ls 10 [(0, .ref b), (1, .ref (G.2.1 0)), (2, .ref (G.2.1 196)), (3, .ref (G.2.1 208)), (4, .ref (G.2.1 209)), (5, .int (nI i))]) (kk : ∀ (σ : St), S σ → ∀ (H : Heap) (locs : List Loc), va_P G.1 vcl (wl G σ) H → va_S (GA G) s.heap H locs → ∀ (ls : Array Slot), lv_has ls 10 [(0, .ref b), (1, .ref (G.2.1 0)), (2, .ref (G.2.1 196)), (3, .ref (G.2.1 208)), (4, .ref (G.2.1 209)), (5, .int (nI i))] → W p l e room_1 s m #[Value.ref b] below meth c H locs (cells + 2) (slots + 12) Q (F0 m 2462 ls [])) : W p l e room_1 s m #[Value.ref b] below meth c H locs cells slots Q (F0 m 2361 ls []) := by
  obtain ⟨hx, hb, hml, hown, hts, hK, hbs, hXW, hG⟩ := id X
  obtain ⟨h1, h2, h3, h4, h5⟩ := hT σ hσ
  refine lv_aload_n hx hb dL_law_2361 rfl (lv_at hl 1 rfl) ?_
  refine lv_aload_n hx hb dL_law_2362 rfl (lv_at hl 3 rfl) ?_
  refine gl_ci (mc := 1) (ms := 6) (gl_run (As := [.ref (G.2.1 0), .ref (G.2.1 208)]) (rest := []) X (c_L_undo l hfl G hG σ h1) ca_L_undo km_L_272 rfl rfl ⟨Nat.le_of_ble_eq_true rfl, Nat.le_of_ble_eq_true rfl⟩ hP hS rfl hl.1 rfl (Nat.le_of_ble_eq_true rfl) ⟨by show cells + 1 ≤ 603072; omega, by show slots + 6 ≤ 7198826; omega⟩ dL_law_2363) hS (fun q hq H locs hP hS => ?_)
  rw [← hq] at h2 h3 h4 h5
  dsimp only at h3 h4 h5
  refine lv_istore (lv' := [(6, .int q.2), (0, .ref b), (1, .ref (G.2.1 0)), (2, .ref (G.2.1 196)), (3, .ref (G.2.1 208)), (4, .ref (G.2.1 209)), (5, .int (nI i))]) hx hb dL_law_2366 hl (by decide) rfl (fun ls hl => ?_)
  refine lv_aload_n hx hb dL_law_2368 rfl (lv_at hl 3 rfl) ?_
  refine g_cI (g_runV (i := 196) (As := []) (rest := []) X (c_X10_undo l G hG q.1 h2) ca_X10_undo km_L_274 rfl rfl ⟨Nat.le_of_ble_eq_true rfl, Nat.le_of_ble_eq_true rfl⟩ hP hS (ty_lt ab_196) (cell_10 ab_196) rfl rfl rfl hl.1 rfl (Nat.le_of_ble_eq_true rfl) ⟨by show cells + 1 + 0 ≤ 603072; omega, by show slots + 6 + 0 ≤ 7198826; omega⟩ dL_law_2369) hS (fun r hr H locs hP hS => ?_)
  rw [← hr] at h3 h4 h5
  refine lv_istore (lv' := [(7, .int r.2), (6, .int q.2), (0, .ref b), (1, .ref (G.2.1 0)), (2, .ref (G.2.1 196)), (3, .ref (G.2.1 208)), (4, .ref (G.2.1 209)), (5, .int (nI i))]) hx hb dL_law_2372 hl (by decide) rfl (fun ls hl => ?_)
  refine lv_aload_n hx hb dL_law_2374 rfl (lv_at hl 4 rfl) ?_
  refine g_cIp (g_runV (i := 196) (As := []) (rest := []) X (c_X10_thrown l G hG r.1) ca_X10_thrown km_L_147 rfl rfl ⟨Nat.le_of_ble_eq_true rfl, Nat.le_of_ble_eq_true rfl⟩ hP hS (ty_lt ab_196) (cell_10 ab_196) rfl rfl rfl hl.1 rfl (Nat.le_of_ble_eq_true rfl) ⟨by show cells + 1 + 0 ≤ 603072; omega, by show slots + 6 + 0 ≤ 7198826; omega⟩ dL_law_2375) hS (fun H locs hP hS => ?_)
  refine lv_iload hx hb dL_law_2378 (lv_at hl 1 rfl) ?_
  refine lv_icmp_eq (tgt := 2385) hx hb dL_law_2380 (by decide) (fun _ => ?_) (fun hc => absurd h3 hc)
  refine lv_iload hx hb dL_law_2385 (lv_at hl 1 rfl) ?_
  refine lv_if_ne (tgt := 2402) hx hb dL_law_2387 (by decide) (fun _ => ?_) (fun hc => ?_)
  · refine lv_goto (tgt := 2462) hx hb dL_law_2402 (by decide) ?_
    refine W.widen (k := cells + 2) (n := slots + 12) (by omega) (by omega) ?_
    exact kk r.1 h5 H locs hP hS ls (lv_sub hl [2, 3, 4, 5, 6, 7] rfl)
  · have h41 := h4 hc
    refine lv_aload_n hx hb dL_law_2390 rfl (lv_at hl 5 rfl) ?_
    refine lv_iconst (v := 0) hx hb dL_law_2391 (by decide) ?_
    refine gl_lald X hP ab_208 (by rw [al_208]; unfold vp_in; decide) dL_law_2392 ?_
    refine lv_iload hx hb dL_law_2393 (lv_at hl 0 rfl) ?_
    refine lv_i2l (v := (r.2).toInt64) hx hb dL_law_2395 rfl ?_
    refine W.lcmp hx hb dL_law_2396 ?_
    rw [show (0 : Int32).toNatClampNeg = 0 from rfl, h41, lg_cmp_self]
    refine lv_if_eq (tgt := 2402) hx hb dL_law_2397 (by decide) (fun _ => ?_) (fun hc => absurd rfl hc)
    refine lv_goto (tgt := 2462) hx hb dL_law_2402 (by decide) ?_
    refine W.widen (k := cells + 2) (n := slots + 12) (by omega) (by omega) ?_
    exact kk r.1 h5 H locs hP hS ls (lv_sub hl [2, 3, 4, 5, 6, 7] rfl)
set_option maxHeartbeats 4000000 in
set_option maxRecDepth 100000 in
theorem lw_case_38 {p : Program} {l : Launch} {e : Env} {s : State} {m : MethodId} {below : List Frame} {meth : Method} {c : Code} {H : Heap} {locs : List Loc} {cells slots : Nat} {Q : State → Prop} {G : GE} {ls : Array Slot} {σ : St} {S : St → Prop} {b L i : Nat} {xs : Nat → Int32} (hfl : l.stackTraces = false) (X : Cx G p s m #[Value.ref b] c cL_law 10 RL) (hX : va_X b L xs s s.heap) (hbl : b < s.heap.size) (hbA : ¬ GA G b) (hi : i + 6 ≤ L) (hL : L ≤ 3072) (hT : Sim_38 S) (hσ : S σ) (hc2 : cells + 2 ≤ 603072) (hs2 : slots + 12 ≤ 7198826) (hP : va_P G.1 vcl (wl G σ) H) (hS : va_S (GA G) s.heap H locs) (hl : lv_has ls 10 [(0, .ref b), (1, .ref (G.2.1 0)), (2, .ref (G.2.1 196)), (3, .ref (G.2.1 208)), (4, .ref (G.2.1 209)), (5, .int (nI i))]) (kk : ∀ (σ : St), S σ → ∀ (H : Heap) (locs : List Loc), va_P G.1 vcl (wl G σ) H → va_S (GA G) s.heap H locs → ∀ (ls : Array Slot), lv_has ls 10 [(0, .ref b), (1, .ref (G.2.1 0)), (2, .ref (G.2.1 196)), (3, .ref (G.2.1 208)), (4, .ref (G.2.1 209)), (5, .int (nI i))] → W p l e room_1 s m #[Value.ref b] below meth c H locs (cells + 2) (slots + 12) Q (F0 m 2462 ls [])) : W p l e room_1 s m #[Value.ref b] below meth c H locs cells slots Q (F0 m 2405 ls []) := by
  obtain ⟨hx, hb, hml, hown, hts, hK, hbs, hXW, hG⟩ := id X
  refine lv_aload_n hx hb dL_law_2405 rfl (lv_at hl 1 rfl) ?_
  obtain ⟨h2, h3, h5⟩ := hT σ hσ
  refine g_cI (g_runV (i := 0) (As := []) (rest := []) X (c_X9_save l G hG σ) ca_X9_save km_L_275 rfl rfl ⟨Nat.le_of_ble_eq_true rfl, Nat.le_of_ble_eq_true rfl⟩ hP hS (ty_lt ab_0) (cell_9 ab_0) rfl rfl rfl hl.1 rfl (Nat.le_of_ble_eq_true rfl) ⟨by show cells + 0 ≤ 603072; omega, by show slots + 0 ≤ 7198826; omega⟩ dL_law_2406) hS (fun q hq H locs hP hS => ?_)
  rw [← hq] at h2 h3 h5
  refine lv_aload_n hx hb dL_law_2409 rfl (lv_at hl 2 rfl) ?_
  refine g_cI (g_runV (i := 196) (As := []) (rest := [.int q.2]) X (c_X10_save l G hG q.1 h2) ca_X10_save km_L_278 rfl rfl ⟨Nat.le_of_ble_eq_true rfl, Nat.le_of_ble_eq_true rfl⟩ hP hS (ty_lt ab_196) (cell_10 ab_196) rfl rfl rfl hl.1 rfl (Nat.le_of_ble_eq_true rfl) ⟨by show cells + 0 ≤ 603072; omega, by show slots + 0 ≤ 7198826; omega⟩ dL_law_2410) hS (fun r hr H locs hP hS => ?_)
  rw [← hr] at h3 h5
  refine lv_icmp_eq (tgt := 2462) hx hb dL_law_2413 (by decide) (fun _ => ?_) (fun hc => absurd h3 hc)
  refine W.widen (k := cells + 2) (n := slots + 12) (by omega) (by omega) ?_
  exact kk r.1 h5 H locs hP hS ls (lv_sub hl [0, 1, 2, 3, 4, 5] rfl)
set_option maxHeartbeats 4000000 in
set_option maxRecDepth 100000 in
theorem lw_case_39 {p : Program} {l : Launch} {e : Env} {s : State} {m : MethodId} {below : List Frame} {meth : Method} {c : Code} {H : Heap} {locs : List Loc} {cells slots : Nat} {Q : State → Prop} {G : GE} {ls : Array Slot} {σ : St} {S : St → Prop} {b L i : Nat} {xs : Nat → Int32} (hfl : l.stackTraces = false) (X : Cx G p s m #[Value.ref b] c cL_law 10 RL) (hX : va_X b L xs s s.heap) (hbl : b < s.heap.size) (hbA : ¬ GA G b) (hi : i + 6 ≤ L) (hL : L ≤ 3072) (hT : Sim_39 S) (hσ : S σ) (hc2 : cells + 2 ≤ 603072) (hs2 : slots + 12 ≤ 7198826) (hP : va_P G.1 vcl (wl G σ) H) (hS : va_S (GA G) s.heap H locs) (hl : lv_has ls 10 [(0, .ref b), (1, .ref (G.2.1 0)), (2, .ref (G.2.1 196)), (3, .ref (G.2.1 208)), (4, .ref (G.2.1 209)), (5, .int (nI i))]) (kk : ∀ (σ : St), S σ → ∀ (H : Heap) (locs : List Loc), va_P G.1 vcl (wl G σ) H → va_S (GA G) s.heap H locs → ∀ (ls : Array Slot), lv_has ls 10 [(0, .ref b), (1, .ref (G.2.1 0)), (2, .ref (G.2.1 196)), (3, .ref (G.2.1 208)), (4, .ref (G.2.1 209)), (5, .int (nI i))] → W p l e room_1 s m #[Value.ref b] below meth c H locs (cells + 2) (slots + 12) Q (F0 m 2462 ls [])) : W p l e room_1 s m #[Value.ref b] below meth c H locs cells slots Q (F0 m 2418 ls []) := by
  obtain ⟨hx, hb, hml, hown, hts, hK, hbs, hXW, hG⟩ := id X
  obtain ⟨h1, h2, h3, h4, h5⟩ := hT σ hσ
  refine lv_aload_n hx hb dL_law_2418 rfl (lv_at hl 1 rfl) ?_
  refine lv_aload_n hx hb dL_law_2419 rfl (lv_at hl 3 rfl) ?_
  refine gl_ci (mc := 1) (ms := 6) (gl_run (As := [.ref (G.2.1 0), .ref (G.2.1 208)]) (rest := []) X (c_L_restore l hfl G hG σ h1) ca_L_restore km_L_279 rfl rfl ⟨Nat.le_of_ble_eq_true rfl, Nat.le_of_ble_eq_true rfl⟩ hP hS rfl hl.1 rfl (Nat.le_of_ble_eq_true rfl) ⟨by show cells + 1 ≤ 603072; omega, by show slots + 6 ≤ 7198826; omega⟩ dL_law_2420) hS (fun q hq H locs hP hS => ?_)
  rw [← hq] at h2 h3 h4 h5
  dsimp only at h3 h4 h5
  refine lv_istore (lv' := [(6, .int q.2), (0, .ref b), (1, .ref (G.2.1 0)), (2, .ref (G.2.1 196)), (3, .ref (G.2.1 208)), (4, .ref (G.2.1 209)), (5, .int (nI i))]) hx hb dL_law_2423 hl (by decide) rfl (fun ls hl => ?_)
  refine lv_aload_n hx hb dL_law_2425 rfl (lv_at hl 3 rfl) ?_
  refine g_cI (g_runV (i := 196) (As := []) (rest := []) X (c_X10_restore l G hG q.1 h2) ca_X10_restore km_L_281 rfl rfl ⟨Nat.le_of_ble_eq_true rfl, Nat.le_of_ble_eq_true rfl⟩ hP hS (ty_lt ab_196) (cell_10 ab_196) rfl rfl rfl hl.1 rfl (Nat.le_of_ble_eq_true rfl) ⟨by show cells + 1 + 0 ≤ 603072; omega, by show slots + 6 + 0 ≤ 7198826; omega⟩ dL_law_2426) hS (fun r hr H locs hP hS => ?_)
  rw [← hr] at h3 h4 h5
  refine lv_istore (lv' := [(7, .int r.2), (6, .int q.2), (0, .ref b), (1, .ref (G.2.1 0)), (2, .ref (G.2.1 196)), (3, .ref (G.2.1 208)), (4, .ref (G.2.1 209)), (5, .int (nI i))]) hx hb dL_law_2429 hl (by decide) rfl (fun ls hl => ?_)
  refine lv_aload_n hx hb dL_law_2431 rfl (lv_at hl 4 rfl) ?_
  refine g_cIp (g_runV (i := 196) (As := []) (rest := []) X (c_X10_thrown l G hG r.1) ca_X10_thrown km_L_147 rfl rfl ⟨Nat.le_of_ble_eq_true rfl, Nat.le_of_ble_eq_true rfl⟩ hP hS (ty_lt ab_196) (cell_10 ab_196) rfl rfl rfl hl.1 rfl (Nat.le_of_ble_eq_true rfl) ⟨by show cells + 1 + 0 ≤ 603072; omega, by show slots + 6 + 0 ≤ 7198826; omega⟩ dL_law_2432) hS (fun H locs hP hS => ?_)
  refine lv_iload hx hb dL_law_2435 (lv_at hl 1 rfl) ?_
  refine lv_icmp_eq (tgt := 2442) hx hb dL_law_2437 (by decide) (fun _ => ?_) (fun hc => absurd h3 hc)
  refine lv_iload hx hb dL_law_2442 (lv_at hl 1 rfl) ?_
  refine lv_if_ne (tgt := 2459) hx hb dL_law_2444 (by decide) (fun _ => ?_) (fun hc => ?_)
  · refine lv_goto (tgt := 2462) hx hb dL_law_2459 (by decide) ?_
    refine W.widen (k := cells + 2) (n := slots + 12) (by omega) (by omega) ?_
    exact kk r.1 h5 H locs hP hS ls (lv_sub hl [2, 3, 4, 5, 6, 7] rfl)
  · have h41 := h4 hc
    refine lv_aload_n hx hb dL_law_2447 rfl (lv_at hl 5 rfl) ?_
    refine lv_iconst (v := 0) hx hb dL_law_2448 (by decide) ?_
    refine gl_lald X hP ab_208 (by rw [al_208]; unfold vp_in; decide) dL_law_2449 ?_
    refine lv_iload hx hb dL_law_2450 (lv_at hl 0 rfl) ?_
    refine lv_i2l (v := (r.2).toInt64) hx hb dL_law_2452 rfl ?_
    refine W.lcmp hx hb dL_law_2453 ?_
    rw [show (0 : Int32).toNatClampNeg = 0 from rfl, h41, lg_cmp_self]
    refine lv_if_eq (tgt := 2459) hx hb dL_law_2454 (by decide) (fun _ => ?_) (fun hc => absurd rfl hc)
    refine lv_goto (tgt := 2462) hx hb dL_law_2459 (by decide) ?_
    refine W.widen (k := cells + 2) (n := slots + 12) (by omega) (by omega) ?_
    exact kk r.1 h5 H locs hP hS ls (lv_sub hl [2, 3, 4, 5, 6, 7] rfl)
