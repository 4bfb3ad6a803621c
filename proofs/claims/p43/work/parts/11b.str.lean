def chS (k : Nat) (x : Int32) : Int32 := (((bytS.getD k []).getD x.toNatClampNeg 0 &&& 255).toUInt32 % 65536).toInt32
def lenV (k : Nat) : Int32 := Int32.ofNat (lenS.getD k 0)
abbrev MtB (l : Launch) (G : GE) (y : MethodName) (cc : ByteArray) (maxL : Nat) (rm : Room) (av : List Value) (σ : St) (fv : St × Int32) : Prop := Met l y (wsA y cc maxL (some .byte)) rm (va_Pc av (Wd G σ)) (va_Qi (fun r u => (u, r) = fv) (PB G) (GA G)) 0 0 (GA G)
abbrev MtS (l : Launch) (G : GE) (y : MethodName) (cc : ByteArray) (maxL : Nat) (rm : Room) (av : List Value) (σ : St) (fv : Nat) : Prop := Met l y (wsA y cc maxL (some (.object "java/lang/String"))) rm (va_Pc av (Wd G σ)) (va_Qr (fun (k : Nat) => k = fv) (fun k a t => a = G.2.2.2.2.1 k ∧ va_P G.1 vcl (wl G σ) t.heap) (GA G)) 0 0 (GA G)
theorem lenS_lt : ∀ k, k < 19 → lenS.getD k 0 < 2 ^ 31 := by decide +kernel
theorem lenV_shr : ∀ k, k < 19 → Int32.ofNat (lenS.getD k 0) >>> ((0 : Int32) &&& 31) = lenV k := by decide +kernel
section GST
variable {p : Program} {l : Launch} {e : Env} {R : Room} {s : State} {m : MethodId} {args : Array Value} {below : List Frame} {meth : Method} {c : Code} {H : Heap} {locs : List Loc} {cells slots : Nat} {Q : State → Prop}
variable {G : GE} {cc : ByteArray} {nL : Nat} {own : String} {pc : Nat} {ls : Array Slot} {rest : List Value} {σ u : St} {st0 : List Value} {a : Array Value}
theorem g_runVS {y : MethodName} {bytes : ByteArray} {maxL n index k : Nat} {ret : Option FieldType} {rm : Room} {As : List Value} {Qc : Array Value → State → Outcome → State → Prop} {mc ms : Nat} {free : Addr → Prop} (X : Cx G p s m args c cc nL own) (hM : Met l y (wsA y bytes maxL ret) rm (va_Pc (.ref (G.2.2.2.2.1 k) :: As) (Wd G σ)) Qc mc ms free) (hC : CalV y bytes maxL ret n) (hl : Cond.methodLink own index y ∈ allW) (hrc : rm.cells = mc) (hrs : rm.slots = ms) (hR : rm.frames + 1 ≤ R.frames ∧ 8 + (maxL + 11) + rm.locals ≤ R.locals)
    (hP : va_P G.1 vcl (wl G σ) H) (hS : va_S (GA G) s.heap H locs) (hk : k < 19) (hq : "java/lang/String" = y.cls) (hn : As.length = n) (hsz : ls.size = nL) (hst : st0 = As.reverse ++ .ref (G.2.2.2.2.1 k) :: rest) (hW : (rest.map fun v => v.category).sum ≤ 8) (hf : cells + mc ≤ R.cells ∧ slots + ms ≤ R.slots) (hdg : decode cc pc = .ok (.invokevirtual index, 3)) :
    va_Run p l e R s m args below meth c H locs cells slots mc ms (F0 m pc ls st0) rest (Qc (Value.ref (G.2.2.2.2.1 k) :: As).toArray) free := by
  obtain ⟨hx, hb, hml, hown, hts, hK, hbs, hXW, hG⟩ := id X
  obtain ⟨⟨a1, a2, a3, a4⟩, a5, a6⟩ := hC
  have hrv := vk_recv hXW.1 hk hS
  rw [hq] at hrv
  exact va_runV (C := y.cls) (nL := nL) (Ts := allW) ⟨hx, hb, hml, hown, hts⟩ hM ⟨⟨hrc, hrs, hR.1, hR.2, g_pay hts a1, List.mem_cons_self, hts _ a1, hts _ a2, a3, g_len a4, hts _ hl⟩, hts _ a5, hts _ a6⟩ ⟨Wd_blind G σ _, hrv, fun U hU hW => ⟨rfl, X.wd hP hS U hU hW⟩⟩ rfl hn hsz hst (lv_room hW) hdg hf
theorem g_bret {fv : St × Int32} {v : Int32} (X : Cx G p s m args c cc nL own) (hr : meth.sig.returnType = some .byte) (hlk : meth.locks = false) (hn : narrow .byte (.int v) = .int v) (hP : va_P G.1 vcl (wl G u) H) (hS : va_S (GA G) s.heap H locs) (hq : (u, v) = fv) (hdg : decode cc pc = .ok (.ireturn, 1)) :
    W p l e R s m args below meth c H locs 0 0 (MQ below (va_Qi (fun r u => (u, r) = fv) (PB G) (GA G)) args s 0 0 (GA G)) (F0 m pc ls [.int v]) :=
  W.zret X.1 X.2.1 hr hn (fun t ht _ => ⟨⟨v, u, rfl, hq, by show va_P _ _ _ _; rw [ht]; exact hP⟩, hS.F ht⟩) hS.2.2 hdg hlk
theorem g_sret {fv k : Nat} (X : Cx G p s m args c cc nL own) (hr : meth.sig.returnType = some (.object "java/lang/String")) (hlk : meth.locks = false) (hP : va_P G.1 vcl (wl G σ) H) (hS : va_S (GA G) s.heap H locs) (hq : k = fv) (hdg : decode cc pc = .ok (.areturn, 1)) :
    W p l e R s m args below meth c H locs 0 0 (MQ below (va_Qr (fun (k : Nat) => k = fv) (fun k a t => a = G.2.2.2.2.1 k ∧ va_P G.1 vcl (wl G σ) t.heap) (GA G)) args s 0 0 (GA G)) (F0 m pc ls [.ref (G.2.2.2.2.1 k)]) :=
  W.aret X.1 X.2.1 hr (Or.inl ⟨_, rfl⟩) (Or.inr ⟨_, rfl⟩) (fun t ht _ => ⟨⟨k, G.2.2.2.2.1 k, rfl, hq, rfl, by rw [ht]; exact hP⟩, hS.F ht⟩) hS.2.2 hdg hlk
theorem g_cS {fv : Nat} (hr : va_Run p l e R s m args below meth c H locs cells slots 0 0 (F0 m pc ls st0) rest (va_Qr (fun (k : Nat) => k = fv) (fun k a t => a = G.2.2.2.2.1 k ∧ va_P G.1 vcl (wl G σ) t.heap) (GA G) a) (GA G)) (hS : va_S (GA G) s.heap H locs)
    (kk : ∀ (H : Heap) (locs : List Loc), va_P G.1 vcl (wl G σ) H → va_S (GA G) s.heap H locs → W p l e R s m args below meth c H locs cells slots Q (F0 m (pc + 3) ls (.ref (G.2.2.2.2.1 fv) :: rest))) : W p l e R s m args below meth c H locs cells slots Q (F0 m pc ls st0) :=
  va_callr hr hS (fun _ _ h => h) (fun _ h => h) (fun u ra t H1 locs1 ht _ hw hB _ _ hS1 => by
    obtain ⟨h1, h2⟩ := hB
    subst hw
    rw [h1]
    exact kk H1 locs1 (by rw [← ht]; exact h2) hS1)
end GST
set_option maxHeartbeats 4000000 in
set_option maxRecDepth 100000 in
theorem c_J0_isLatin1 (l : Launch) (G : GE) (hG : Gok G) (σ : St) (k : Nat) (hk : k < 19) : MtZ l G yJ0_isLatin1_aae02 cJ0_isLatin1_aae02 1 ({ frames := 0, cells := 0, slots := 0, locals := 0 }) [.ref (G.2.2.2.2.1 k)] σ (σ, true) := by
  refine g_start hG (by decide +kernel) (Nat.le_of_ble_eq_true rfl) ?_
  intro p e s m args below meth c X hr hlk ls hl H locs hP hS
  have X : Cx G p s m args c cJ0_isLatin1_aae02 1 RJ0 := X
  obtain ⟨hx, hb, hml, hown, hts, hK, hbs, hXW, -⟩ := id X
  have hl : lv_has ls 1 [(0, .ref (G.2.2.2.2.1 k))] := hl
  refine va_gets hx hb hXW.2.2.1 hS hown (hts _ kf_J0_38) (fun _ h => h) dJ0_isLatin1_aae02_0 ?_
  refine lv_if_eq (tgt := 17) hx hb dJ0_isLatin1_aae02_3 (by decide) (fun hc => absurd hc (by decide)) (fun hc => ?_)
  refine lv_aload_n hx hb dJ0_isLatin1_aae02_6 rfl (lv_at hl 0 rfl) ?_
  refine vk_getf hx hb (hXW.1.1 k hk).2.1 hS hown (hts _ kf_J0_15) (fun _ h => h) dJ0_isLatin1_aae02_7 ?_
  refine lv_if_ne (tgt := 17) hx hb dJ0_isLatin1_aae02_10 (by decide) (fun hc => absurd rfl hc) (fun hc => ?_)
  refine lv_iconst (v := 1) hx hb dJ0_isLatin1_aae02_13 (by decide) ?_
  refine lv_goto (tgt := 18) hx hb dJ0_isLatin1_aae02_14 (by decide) ?_
  exact g_zret (b := true) X hr hlk rfl hP hS rfl dJ0_isLatin1_aae02_18
set_option maxHeartbeats 4000000 in
set_option maxRecDepth 100000 in
theorem c_J0_coder (l : Launch) (G : GE) (hG : Gok G) (σ : St) (k : Nat) (hk : k < 19) : MtB l G yJ0_coder_7d493 cJ0_coder_7d493 1 ({ frames := 0, cells := 0, slots := 0, locals := 0 }) [.ref (G.2.2.2.2.1 k)] σ (σ, 0) := by
  refine g_start hG (by decide +kernel) (Nat.le_of_ble_eq_true rfl) ?_
  intro p e s m args below meth c X hr hlk ls hl H locs hP hS
  have X : Cx G p s m args c cJ0_coder_7d493 1 RJ0 := X
  obtain ⟨hx, hb, hml, hown, hts, hK, hbs, hXW, -⟩ := id X
  have hl : lv_has ls 1 [(0, .ref (G.2.2.2.2.1 k))] := hl
  refine va_gets hx hb hXW.2.2.1 hS hown (hts _ kf_J0_38) (fun _ h => h) dJ0_coder_7d493_0 ?_
  refine lv_if_eq (tgt := 13) hx hb dJ0_coder_7d493_3 (by decide) (fun hc => absurd hc (by decide)) (fun hc => ?_)
  refine lv_aload_n hx hb dJ0_coder_7d493_6 rfl (lv_at hl 0 rfl) ?_
  refine vk_getf hx hb (hXW.1.1 k hk).2.1 hS hown (hts _ kf_J0_15) (fun _ h => h) dJ0_coder_7d493_7 ?_
  refine lv_goto (tgt := 14) hx hb dJ0_coder_7d493_10 (by decide) ?_
  exact g_bret X hr hlk rfl hP hS rfl dJ0_coder_7d493_14
set_option maxHeartbeats 4000000 in
set_option maxRecDepth 100000 in
theorem c_J0_length (l : Launch) (G : GE) (hG : Gok G) (σ : St) (k : Nat) (hk : k < 19) : MtI l G yJ0_length_8abf5 cJ0_length_8abf5 1 ({ frames := 1, cells := 0, slots := 0, locals := 20 }) [.ref (G.2.2.2.2.1 k)] σ (σ, lenV k) := by
  refine g_start hG (by decide +kernel) (Nat.le_of_ble_eq_true rfl) ?_
  intro p e s m args below meth c X hr hlk ls hl H locs hP hS
  have X : Cx G p s m args c cJ0_length_8abf5 1 RJ0 := X
  obtain ⟨hx, hb, hml, hown, hts, hK, hbs, hXW, -⟩ := id X
  have hl : lv_has ls 1 [(0, .ref (G.2.2.2.2.1 k))] := hl
  refine lv_aload_n hx hb dJ0_length_8abf5_0 rfl (lv_at hl 0 rfl) ?_
  refine vk_getf hx hb (hXW.1.1 k hk).2.2.1 hS hown (hts _ kf_J0_9) (fun _ h => h) dJ0_length_8abf5_1 ?_
  refine va_tlen hx hb (hXW.1.1 k hk).2.2.2 hS rfl dJ0_length_8abf5_4 ?_
  refine lv_aload_n hx hb dJ0_length_8abf5_5 rfl (lv_at hl 0 rfl) ?_
  refine g_cIp (g_runVS (k := k) (As := []) (rest := [.int (Int32.ofNat (lenS.getD k 0))]) X (c_J0_coder l G hG σ k hk) ca_J0_coder_7d493 km_J0_335 rfl rfl ⟨Nat.le_of_ble_eq_true rfl, Nat.le_of_ble_eq_true rfl⟩ hP hS hk rfl rfl hl.1 rfl (Nat.le_of_ble_eq_true rfl) ⟨Nat.zero_le _, Nat.zero_le _⟩ dJ0_length_8abf5_6) hS (fun H locs hP hS => ?_)
  refine lv_ishr hx hb dJ0_length_8abf5_9 ?_
  exact g_iret X hr hlk hP hS (by rw [lenV_shr k hk]) dJ0_length_8abf5_10
theorem c_J3_check (l : Launch) (G : GE) (hG : Gok G) (σ : St) (i n : Int32) (r : Option Nat) (h0 : ¬ i < 0) (h1 : i < n) : MtI l G yJ3_checkIndex_8e157 cJ3_checkIndex_8e157 3 ({ frames := 0, cells := 0, slots := 0, locals := 0 }) [.int i, .int n, va_rf r] σ (σ, i) := by
  refine g_start hG (by decide +kernel) (by cases r <;> exact Nat.le_of_ble_eq_true rfl) ?_
  intro p e s m args below meth c X hr hlk ls hl H locs hP hS
  have X : Cx G p s m args c cJ3_checkIndex_8e157 3 RJ3 := X
  obtain ⟨hx, hb, hml, hown, hts, hK, hbs, hXW, -⟩ := id X
  have hl : lv_has ls 3 [(0, .int i), (1, .int n)] := by cases r <;> exact lv_sub hl [0, 1] rfl
  refine lv_iload_n hx hb dJ3_checkIndex_8e157_0 rfl (lv_at hl 0 rfl) ?_
  refine lv_if_lt (tgt := 9) hx hb dJ3_checkIndex_8e157_1 (by decide) (fun hc => absurd hc h0) (fun hc => ?_)
  refine lv_iload_n hx hb dJ3_checkIndex_8e157_4 rfl (lv_at hl 0 rfl) ?_
  refine lv_iload_n hx hb dJ3_checkIndex_8e157_5 rfl (lv_at hl 1 rfl) ?_
  refine lv_icmp_lt (tgt := 16) hx hb dJ3_checkIndex_8e157_6 (by decide) (fun hc => ?_) (fun hc => absurd h1 hc)
  refine lv_iload_n hx hb dJ3_checkIndex_8e157_16 rfl (lv_at hl 0 rfl) ?_
  exact g_iret X hr hlk hP hS rfl dJ3_checkIndex_8e157_17
set_option maxHeartbeats 4000000 in
set_option maxRecDepth 100000 in
theorem c_J0_check (l : Launch) (G : GE) (hG : Gok G) (σ : St) (i n : Int32) (h0 : ¬ i < 0) (h1 : i < n) : MtV l G yJ0_checkIndex_df160 cJ0_checkIndex_df160 2 ({ frames := 1, cells := 0, slots := 0, locals := 22 }) [.int i, .int n] σ σ := by
  refine g_start hG (by decide +kernel) (Nat.le_of_ble_eq_true rfl) ?_
  intro p e s m args below meth c X hr hlk ls hl H locs hP hS
  have X : Cx G p s m args c cJ0_checkIndex_df160 2 RJ0 := X
  obtain ⟨hx, hb, hml, hown, hts, hK, hbs, hXW, -⟩ := id X
  have hl : lv_has ls 2 [(0, .int i), (1, .int n)] := hl
  refine lv_iload_n hx hb dJ0_checkIndex_df160_0 rfl (lv_at hl 0 rfl) ?_
  refine lv_iload_n hx hb dJ0_checkIndex_df160_1 rfl (lv_at hl 1 rfl) ?_
  rcases hXW.2.2.2.1 with hz | ⟨t, hz⟩
  · refine va_gets hx hb hz hS hown (hts _ kf_J0_1053) (fun _ h => h) dJ0_checkIndex_df160_2 ?_
    refine g_cIp (g_runS (As := [.int i, .int n, va_rf none]) (rest := []) X (c_J3_check l G hG σ i n none h0 h1) ca_J3_checkIndex_8e157 km_J0_1059 rfl rfl ⟨Nat.le_of_ble_eq_true rfl, Nat.le_of_ble_eq_true rfl⟩ hP hS rfl hl.1 rfl (Nat.le_of_ble_eq_true rfl) ⟨Nat.zero_le _, Nat.zero_le _⟩ dJ0_checkIndex_df160_5) hS (fun H locs hP hS => ?_)
    refine lv_pop hx hb dJ0_checkIndex_df160_8 rfl ?_
    exact g_vret X hr hlk hP hS rfl dJ0_checkIndex_df160_9
  · refine va_gets hx hb hz hS hown (hts _ kf_J0_1053) (fun _ h => h) dJ0_checkIndex_df160_2 ?_
    refine g_cIp (g_runS (As := [.int i, .int n, va_rf (some t)]) (rest := []) X (c_J3_check l G hG σ i n (some t) h0 h1) ca_J3_checkIndex_8e157 km_J0_1059 rfl rfl ⟨Nat.le_of_ble_eq_true rfl, Nat.le_of_ble_eq_true rfl⟩ hP hS rfl hl.1 rfl (Nat.le_of_ble_eq_true rfl) ⟨Nat.zero_le _, Nat.zero_le _⟩ dJ0_checkIndex_df160_5) hS (fun H locs hP hS => ?_)
    refine lv_pop hx hb dJ0_checkIndex_df160_8 rfl ?_
    exact g_vret X hr hlk hP hS rfl dJ0_checkIndex_df160_9
set_option maxHeartbeats 4000000 in
set_option maxRecDepth 100000 in
theorem c_J1_charAt (l : Launch) (G : GE) (hG : Gok G) (σ : St) (k : Nat) (hk : k < 19) (x : Int32) (hin : vp_in x (lenS.getD k 0)) : MtC l G yJ1_charAt_3b067 cJ1_charAt_3b067 2 ({ frames := 2, cells := 0, slots := 0, locals := 43 }) [.ref (G.2.2.2.2.2 k), .int x] σ (σ, chS k x) := by
  have h0 : ¬ x < 0 := fun h => hin (Or.inl h)
  have h1 : x < Int32.ofNat (lenS.getD k 0) := by
    obtain ⟨j, hj, rfl⟩ := vp_in_of hin (lenS_lt k hk)
    exact nI_lt hj (lenS_lt k hk)
  refine g_start hG (by decide +kernel) (Nat.le_of_ble_eq_true rfl) ?_
  intro p e s m args below meth c X hr hlk ls hl H locs hP hS
  have X : Cx G p s m args c cJ1_charAt_3b067 2 RJ1 := X
  obtain ⟨hx, hb, hml, hown, hts, hK, hbs, hXW, -⟩ := id X
  have hl : lv_has ls 2 [(0, .ref (G.2.2.2.2.2 k)), (1, .int x)] := hl
  refine lv_iload_n hx hb dJ1_charAt_3b067_0 rfl (lv_at hl 1 rfl) ?_
  refine lv_aload_n hx hb dJ1_charAt_3b067_1 rfl (lv_at hl 0 rfl) ?_
  refine va_tlen hx hb (hXW.1.1 k hk).2.2.2 hS rfl dJ1_charAt_3b067_2 ?_
  refine g_cV (g_runS (As := [.int x, .int (Int32.ofNat (lenS.getD k 0))]) (rest := []) X (c_J0_check l G hG σ x (Int32.ofNat (lenS.getD k 0)) h0 h1) ca_J0_checkIndex_df160 km_J1_9 rfl rfl ⟨Nat.le_of_ble_eq_true rfl, Nat.le_of_ble_eq_true rfl⟩ hP hS rfl hl.1 rfl (Nat.le_of_ble_eq_true rfl) ⟨Nat.zero_le _, Nat.zero_le _⟩ dJ1_charAt_3b067_3) hS (fun q hq H locs hP hS => ?_)
  refine lv_aload_n hx hb dJ1_charAt_3b067_6 rfl (lv_at hl 0 rfl) ?_
  refine lv_iload_n hx hb dJ1_charAt_3b067_7 rfl (lv_at hl 1 rfl) ?_
  refine va_tb hx hb (hXW.1.1 k hk).2.2.2 hS hin rfl dJ1_charAt_3b067_8 ?_
  refine lv_sipush (v := 255) hx hb dJ1_charAt_3b067_9 (by decide) ?_
  refine lv_iand hx hb dJ1_charAt_3b067_12 ?_
  refine lv_i2c hx hb dJ1_charAt_3b067_13 rfl ?_
  exact g_cret X hr hlk (pk_nc _) hP hS (by rw [hq]; rfl) dJ1_charAt_3b067_14
set_option maxHeartbeats 4000000 in
set_option maxRecDepth 100000 in
theorem c_J0_charAt (l : Launch) (G : GE) (hG : Gok G) (σ : St) (k : Nat) (hk : k < 19) (x : Int32) (hin : vp_in x (lenS.getD k 0)) : MtC l G yJ0_charAt_5068e cJ0_charAt_5068e 2 ({ frames := 3, cells := 0, slots := 0, locals := 64 }) [.ref (G.2.2.2.2.1 k), .int x] σ (σ, chS k x) := by
  refine g_start hG (by decide +kernel) (Nat.le_of_ble_eq_true rfl) ?_
  intro p e s m args below meth c X hr hlk ls hl H locs hP hS
  have X : Cx G p s m args c cJ0_charAt_5068e 2 RJ0 := X
  obtain ⟨hx, hb, hml, hown, hts, hK, hbs, hXW, -⟩ := id X
  have hl : lv_has ls 2 [(0, .ref (G.2.2.2.2.1 k)), (1, .int x)] := hl
  refine lv_aload_n hx hb dJ0_charAt_5068e_0 rfl (lv_at hl 0 rfl) ?_
  refine g_cZp (g_runVS (k := k) (As := []) (rest := []) X (c_J0_isLatin1 l G hG σ k hk) ca_J0_isLatin1_aae02 km_J0_492 rfl rfl ⟨Nat.le_of_ble_eq_true rfl, Nat.le_of_ble_eq_true rfl⟩ hP hS hk rfl rfl hl.1 rfl (Nat.le_of_ble_eq_true rfl) ⟨Nat.zero_le _, Nat.zero_le _⟩ dJ0_charAt_5068e_1) hS (fun H locs hP hS => ?_)
  refine g_ifeqZ (tgt := 16) X dJ0_charAt_5068e_4 (by decide) (fun hc => absurd hc (by decide)) (fun hc => ?_)
  refine lv_aload_n hx hb dJ0_charAt_5068e_7 rfl (lv_at hl 0 rfl) ?_
  refine vk_getf hx hb (hXW.1.1 k hk).2.2.1 hS hown (hts _ kf_J0_9) (fun _ h => h) dJ0_charAt_5068e_8 ?_
  refine lv_iload_n hx hb dJ0_charAt_5068e_11 rfl (lv_at hl 1 rfl) ?_
  refine g_cIp (g_runS (As := [.ref (G.2.2.2.2.2 k), .int x]) (rest := []) X (c_J1_charAt l G hG σ k hk x hin) ca_J1_charAt_3b067 km_J0_495 rfl rfl ⟨Nat.le_of_ble_eq_true rfl, Nat.le_of_ble_eq_true rfl⟩ hP hS rfl hl.1 rfl (Nat.le_of_ble_eq_true rfl) ⟨Nat.zero_le _, Nat.zero_le _⟩ dJ0_charAt_5068e_12) hS (fun H locs hP hS => ?_)
  exact g_cret X hr hlk (pk_nc _) hP hS rfl dJ0_charAt_5068e_15
