/-! the law -/
theorem und7 {lr : List Dat} (h : lr.length ≤ 8) : (nI (lr.take 7).length).toInt64 = if (7 : Int64) < (nI lr.length).toInt64 then 7 else (nI lr.length).toInt64 := by
  rw [List.length_take]
  by_cases q : 7 < lr.length
  · have c : (7 : Int64) < (nI lr.length).toInt64 := (nJ_lt (a := 7) (by decide) (by omega)).mpr q
    rw [if_pos c, show min 7 lr.length = 7 by omega]
    rfl
  · have c : ¬ (7 : Int64) < (nI lr.length).toInt64 := fun z => q ((nJ_lt (a := 7) (by decide) (by omega)).mp z)
    rw [if_neg c, show min 7 lr.length = lr.length by omega]
theorem th_lt {r : Int64} (h : Th r) : r < -3999999999999999900 := by
  rcases h with rfl | rfl | rfl <;> decide
theorem nt_lt (v : Int32) : (-3999999999999999900 : Int64) < v.toInt64 := by
  rw [Int64.lt_iff_toInt_lt, Int32.toInt_toInt64]
  have h1 : (-2147483648 : Int) ≤ v.toInt := by have := Int32.le_toInt v; omega
  have h2 : (-3999999999999999900 : Int64).toInt = -3999999999999999900 := by decide
  rw [h2]
  omega
set_option maxHeartbeats 8000000 in
set_option maxRecDepth 100000 in
theorem lw_loop {p : Program} {l : Launch} {e : Env} {s : State} {m : MethodId} {below : List Frame} {meth : Method} {c : Code} {G : GE} {b L : Nat} {xs : Nat → Int32} (hfl : l.stackTraces = false) (X : Cx G p s m #[Value.ref b] c cL_law 12 RL) (hr : meth.sig.returnType = ret) (hlk : meth.locks = false) (hX : va_X b L xs s s.heap) (hbl : b < s.heap.size) (hGs : G.2.2.2.1 = s.heap.size) (hL : L ≤ 260) :
    ∀ (n k : Nat), k + n = 30 → ∀ (cells slots : Nat), cells ≤ 400 + 5000 * k → slots ≤ 6000 + 30000 * k → ∀ (σ : St) (w : Nat → Int32) (f : Nat → UInt32) (lr : List Dat), Zs σ w f lr → ∀ (H : Heap) (locs : List Loc), va_P G.1 vcl (wl G σ) H → va_S (GA G) s.heap H locs → ∀ (ls : Array Slot), lv_has ls 12 [(0, .ref b), (1, .ref (G.2.1 0)), (2, .int (nI k))] → W p l e room_1 s m #[Value.ref b] below meth c H locs cells slots (lw_Z below #[Value.ref b] s) (F0 m 104 ls []) := by
  obtain ⟨hx, hb, hml, hown, hts, hK, hbs, hXW, hG⟩ := id X
  intro n
  induction n with
  | zero =>
    intro k hk cells slots hc hs σ w f lr hZ H locs hP hS ls hl
    have : k = 30 := by omega
    subst this
    refine lv_iload_n hx hb dL_law_104 rfl (lv_at hl 2 rfl) ?_
    refine lv_bipush (v := 30) hx hb dL_law_105 (by decide) ?_
    refine lv_icmp_ge (tgt := 314) hx hb dL_law_107 (by decide) (fun _ => ?_) (fun hc2 => absurd (by decide) hc2)
    refine lv_iconst (v := 1) hx hb dL_law_314 (by decide) ?_
    refine va_forget (fun q hq => by have := hS.2.2 q hq; show s.heap.size ≤ q.base; rw [← hGs]; exact this) ?_
    refine W.widen (k := 600258) (n := 7293130) (by omega) (by omega) ?_
    refine W.base ?_
    exact lw_ret (Drawn.sameBut.refl s.drawn lw_cs) hx hb hr hlk dL_law_315
  | succ n ih =>
    intro k hk cells slots hc hs σ w f lr hZ H locs hP hS ls hl
    obtain ⟨v, hv⟩ : ∃ v, v = sc L xs k := ⟨_, rfl⟩
    have kk308 : ∀ (cells1 slots1 : Nat), cells1 ≤ cells + 5000 → slots1 ≤ slots + 30000 → ∀ (σ : St) (w : Nat → Int32) (f : Nat → UInt32) (lr : List Dat), Zs σ w f lr → ∀ (H : Heap) (locs : List Loc), va_P G.1 vcl (wl G σ) H → va_S (GA G) s.heap H locs → ∀ (ls : Array Slot), lv_has ls 12 [(3, .int v), (0, .ref b), (1, .ref (G.2.1 0)), (2, .int (nI k))] → W p l e room_1 s m #[Value.ref b] below meth c H locs cells1 slots1 (lw_Z below #[Value.ref b] s) (F0 m 308 ls []) := by
      intro cells1 slots1 hc1 hs1 σ w f lr hZ H locs hP hS ls hl
      refine lv_iinc (v := nI (k + 1)) (lv' := [(2, .int (nI (k + 1))), (3, .int v), (0, .ref b), (1, .ref (G.2.1 0))]) hx hb dL_law_308 hl (k := 3) rfl (nI_add k 1) (by decide) rfl (fun ls hl => ?_)
      refine lv_goto (tgt := 104) hx hb dL_law_311 (by decide) ?_
      exact ih (k + 1) (by omega) cells1 slots1 (by omega) (by omega) σ w f lr hZ H locs hP hS ls (lv_sub hl [2, 3, 0] rfl)
    have kk289 : ∀ (cells1 slots1 : Nat), cells1 ≤ cells + 2600 → slots1 ≤ slots + 15600 → ∀ (σ : St) (w : Nat → Int32) (f : Nat → UInt32) (lr : List Dat), Zs σ w f lr → ∀ (H : Heap) (locs : List Loc), va_P G.1 vcl (wl G σ) H → va_S (GA G) s.heap H locs → ∀ (ls : Array Slot), lv_has ls 12 [(3, .int v), (0, .ref b), (1, .ref (G.2.1 0)), (2, .int (nI k))] → W p l e room_1 s m #[Value.ref b] below meth c H locs cells1 slots1 (lw_Z below #[Value.ref b] s) (F0 m 289 ls []) := by
      intro cells1 slots1 hc1 hs1 σ w f lr hZ H locs hP hS ls hl
      refine lv_iload_n hx hb dL_law_289 rfl (lv_at hl 3 rfl) ?_
      refine lv_iconst (v := 4) hx hb dL_law_290 (by decide) ?_
      refine lv_irem hx hb dL_law_291 (by decide) ?_
      refine lv_iconst (v := 1) hx hb dL_law_292 (by decide) ?_
      refine lv_icmp_ne (tgt := 308) hx hb dL_law_293 (by decide) (fun _ => ?_) (fun _ => ?_)
      · exact kk308 _ _ (by omega) (by omega) σ w f lr hZ H locs hP hS ls hl
      · obtain ⟨o1, σ1, l1, e1, hZ1⟩ := l_fits hZ (v >>> ((3 : Int32) &&& 31))
        refine lv_aload_n hx hb dL_law_296 rfl (lv_at hl 2 rfl) ?_
        refine lv_iload_n hx hb dL_law_297 rfl (lv_at hl 0 rfl) ?_
        refine lv_iconst (v := 3) hx hb dL_law_298 (by decide) ?_
        refine lv_ishr hx hb dL_law_299 ?_
        refine gl_rZe (mc := 2310) (ms := 13860) e1 (g_runS (As := [.ref (G.2.1 0), .int (v >>> ((3 : Int32) &&& 31))]) (rest := []) X (c_L_fits l hfl G hG _ (v >>> ((3 : Int32) &&& 31)) o1) ca_L_fits km_L_300 rfl rfl ⟨Nat.le_of_ble_eq_true rfl, Nat.le_of_ble_eq_true rfl⟩ hP hS rfl hl.1 rfl (Nat.le_of_ble_eq_true rfl) ⟨by show _ ≤ 600258; omega, by show _ ≤ 7293130; omega⟩ dL_law_300) hS (fun H locs hP hS => ?_)
        refine lv_if_ne (tgt := 308) hx hb dL_law_303 (by decide) (fun _ => ?_) (fun hc2 => absurd hc2 (by decide))
        exact kk308 _ _ (by omega) (by omega) σ1 w f l1 hZ1 H locs hP hS ls hl
    have kk218 : ∀ (cells1 slots1 : Nat), cells1 ≤ cells + 1600 → slots1 ≤ slots + 9600 → ∀ (σ : St) (w : Nat → Int32) (f : Nat → UInt32) (lr : List Dat), Zs σ w f lr → ∀ (H : Heap) (locs : List Loc), va_P G.1 vcl (wl G σ) H → va_S (GA G) s.heap H locs → ∀ (ls : Array Slot), lv_has ls 12 [(3, .int v), (0, .ref b), (1, .ref (G.2.1 0)), (2, .int (nI k))] → W p l e room_1 s m #[Value.ref b] below meth c H locs cells1 slots1 (lw_Z below #[Value.ref b] s) (F0 m 218 ls []) := by
      intro cells1 slots1 hc1 hs1 σ w f lr hZ H locs hP hS ls hl
      refine lv_iload_n hx hb dL_law_218 rfl (lv_at hl 3 rfl) ?_
      refine lv_iconst (v := 5) hx hb dL_law_219 (by decide) ?_
      refine lv_irem hx hb dL_law_220 (by decide) ?_
      refine lv_if_ne (tgt := 289) hx hb dL_law_221 (by decide) (fun _ => ?_) (fun _ => ?_)
      · exact kk289 _ _ (by omega) (by omega) σ w f lr hZ H locs hP hS ls hl
      · obtain ⟨m1, m2⟩ := l_mark hZ.1 hZ.2.1
        refine lv_aload_n hx hb dL_law_224 rfl (lv_at hl 2 rfl) ?_
        refine gl_rJe (mc := 454) (ms := 2724) m2 (g_runS (As := [.ref (G.2.1 0)]) (rest := []) X (c_L_mark l hfl G hG _  m1) ca_L_mark km_L_249 rfl rfl ⟨Nat.le_of_ble_eq_true rfl, Nat.le_of_ble_eq_true rfl⟩ hP hS rfl hl.1 rfl (Nat.le_of_ble_eq_true rfl) ⟨by show _ ≤ 600258; omega, by show _ ≤ 7293130; omega⟩ dL_law_225) hS (fun H locs hP hS => ?_)
        refine lv_lstore (lv' := [(10, .long (mkV w f)), (3, .int v), (0, .ref b), (1, .ref (G.2.1 0)), (2, .int (nI k))]) hx hb dL_law_228 hl (by decide) rfl (fun ls hl => ?_)
        obtain ⟨σ1, s1, hZ1, hSn⟩ := l_save hZ
        refine lv_aload_n hx hb dL_law_230 rfl (lv_at hl 3 rfl) ?_
        refine gl_rJe (mc := 0) (ms := 0) s1 (g_runS (As := [.ref (G.2.1 0)]) (rest := []) X (c_L_save l G hG _ ) ca_L_save km_L_247 rfl rfl ⟨Nat.le_of_ble_eq_true rfl, Nat.le_of_ble_eq_true rfl⟩ hP hS rfl hl.1 rfl (Nat.le_of_ble_eq_true rfl) ⟨by show _ ≤ 600258; omega, by show _ ≤ 7293130; omega⟩ dL_law_231) hS (fun H locs hP hS => ?_)
        refine lv_aload_n hx hb dL_law_234 rfl (lv_at hl 3 rfl) ?_
        refine lv_iconst (v := 2) hx hb dL_law_235 (by decide) ?_
        have ac1 : ok_L_account σ1 2 ∧ f_L_account σ1 2 = (σ1, (nI (cnt w)).toInt64) := by
          have h := l_account hZ1.1 hZ1.2.1 (k := 2) (by decide)
          rw [show accV w 2 = nI (cnt w) from hZ1.2.1.1.1] at h
          exact h
        refine gl_rJe (mc := 1) (ms := 6) ac1.2 (gl_run (As := [.ref (G.2.1 0), .int 2]) (rest := [.long (nI (cnt w)).toInt64]) X (c_L_account l hfl G hG _ 2 ac1.1) ca_L_account km_L_184 rfl rfl ⟨Nat.le_of_ble_eq_true rfl, Nat.le_of_ble_eq_true rfl⟩ hP hS rfl hl.1 rfl (Nat.le_of_ble_eq_true rfl) ⟨by show _ ≤ 600258; omega, by show _ ≤ 7293130; omega⟩ dL_law_236) hS (fun H locs hP hS => ?_)
        refine W.lcmp hx hb dL_law_239 ?_
        refine lv_if_eq (tgt := 245) hx hb dL_law_240 (by decide) (fun _ => ?_) (fun hc2 => absurd (lg_eq.mpr rfl) hc2)
        obtain ⟨o2, σ2, r2, w2, f2, l2, e2, hZ2, hk2⟩ := (act_acts hZ1 (v + 1)).any
        refine lv_aload_n hx hb dL_law_245 rfl (lv_at hl 3 rfl) ?_
        refine lv_iload_n hx hb dL_law_246 rfl (lv_at hl 1 rfl) ?_
        refine lv_iconst (v := 1) hx hb dL_law_247 (by decide) ?_
        refine lv_iadd hx hb dL_law_248 ?_
        refine gl_rJe (mc := 63) (ms := 378) e2 (g_runS (As := [.ref (G.2.1 0), .int (v + 1)]) (rest := []) X (c_L_acts l hfl G hG _ (v + 1) o2) ca_L_acts km_L_287 rfl rfl ⟨Nat.le_of_ble_eq_true rfl, Nat.le_of_ble_eq_true rfl⟩ hP hS rfl hl.1 rfl (Nat.le_of_ble_eq_true rfl) ⟨by show _ ≤ 600258; omega, by show _ ≤ 7293130; omega⟩ dL_law_249) hS (fun H locs hP hS => ?_)
        refine lv_pop2_2 hx hb dL_law_252 rfl ?_
        obtain ⟨o3, σ3, e3, hZ3, -⟩ := l_restore hZ2 (hSn.kr hk2)
        refine lv_aload_n hx hb dL_law_253 rfl (lv_at hl 3 rfl) ?_
        refine gl_rJe (mc := 1) (ms := 6) e3 (gl_run (As := [.ref (G.2.1 0)]) (rest := []) X (c_L_restore l hfl G hG _  o3) ca_L_restore km_L_252 rfl rfl ⟨Nat.le_of_ble_eq_true rfl, Nat.le_of_ble_eq_true rfl⟩ hP hS rfl hl.1 rfl (Nat.le_of_ble_eq_true rfl) ⟨by show _ ≤ 600258; omega, by show _ ≤ 7293130; omega⟩ dL_law_254) hS (fun H locs hP hS => ?_)
        refine lv_aload_n hx hb dL_law_257 rfl (lv_at hl 3 rfl) ?_
        refine lv_iconst (v := 2) hx hb dL_law_258 (by decide) ?_
        have ac3 : ok_L_account σ3 2 ∧ f_L_account σ3 2 = (σ3, (nI (cnt w)).toInt64) := by
          have h := l_account hZ3.1 hZ3.2.1 (k := 2) (by decide)
          rw [show accV w 2 = nI (cnt w) from hZ3.2.1.1.1] at h
          exact h
        refine gl_rJe (mc := 1) (ms := 6) ac3.2 (gl_run (As := [.ref (G.2.1 0), .int 2]) (rest := [.long (nI (cnt w)).toInt64]) X (c_L_account l hfl G hG _ 2 ac3.1) ca_L_account km_L_184 rfl rfl ⟨Nat.le_of_ble_eq_true rfl, Nat.le_of_ble_eq_true rfl⟩ hP hS rfl hl.1 rfl (Nat.le_of_ble_eq_true rfl) ⟨by show _ ≤ 600258; omega, by show _ ≤ 7293130; omega⟩ dL_law_259) hS (fun H locs hP hS => ?_)
        refine W.lcmp hx hb dL_law_262 ?_
        refine lv_if_ne (tgt := 287) hx hb dL_law_263 (by decide) (fun hc2 => absurd (lg_eq.mpr rfl) hc2) (fun _ => ?_)
        obtain ⟨m3, m4⟩ := l_mark hZ3.1 hZ3.2.1
        refine lv_aload_n hx hb dL_law_266 rfl (lv_at hl 3 rfl) ?_
        refine gl_rJe (mc := 454) (ms := 2724) m4 (g_runS (As := [.ref (G.2.1 0)]) (rest := []) X (c_L_mark l hfl G hG _  m3) ca_L_mark km_L_249 rfl rfl ⟨Nat.le_of_ble_eq_true rfl, Nat.le_of_ble_eq_true rfl⟩ hP hS rfl hl.1 rfl (Nat.le_of_ble_eq_true rfl) ⟨by show _ ≤ 600258; omega, by show _ ≤ 7293130; omega⟩ dL_law_267) hS (fun H locs hP hS => ?_)
        refine lv_lload hx hb dL_law_270 (lv_at hl 0 rfl) ?_
        refine W.lcmp hx hb dL_law_272 ?_
        refine lv_if_ne (tgt := 287) hx hb dL_law_273 (by decide) (fun hc2 => absurd (lg_eq.mpr rfl) hc2) (fun _ => ?_)
        obtain ⟨u1, u2⟩ := l_undo0 hZ3
        refine lv_aload_n hx hb dL_law_276 rfl (lv_at hl 3 rfl) ?_
        refine gl_rJe (mc := 1) (ms := 6) u2 (gl_run (As := [.ref (G.2.1 0)]) (rest := []) X (c_L_undo l hfl G hG _  u1) ca_L_undo km_L_260 rfl rfl ⟨Nat.le_of_ble_eq_true rfl, Nat.le_of_ble_eq_true rfl⟩ hP hS rfl hl.1 rfl (Nat.le_of_ble_eq_true rfl) ⟨by show _ ≤ 600258; omega, by show _ ≤ 7293130; omega⟩ dL_law_277) hS (fun H locs hP hS => ?_)
        refine lv_ldc2 hx hb hown (hts _ kc_L_17) dL_law_280 ?_
        refine W.lcmp hx hb dL_law_283 ?_
        refine lv_if_eq (tgt := 289) hx hb dL_law_284 (by decide) (fun _ => ?_) (fun hc2 => absurd (lg_eq.mpr rfl) hc2)
        exact kk289 _ _ (by omega) (by omega) _ _ _ _ hZ3 H locs hP hS ls (lv_sub hl [1, 2, 3, 4] rfl)
    refine lv_iload_n hx hb dL_law_104 rfl (lv_at hl 2 rfl) ?_
    refine lv_bipush (v := 30) hx hb dL_law_105 (by decide) ?_
    have hlt : ¬ (30 : Int32) ≤ nI k := nI_ge (b := 30) (by omega) (by decide)
    refine lv_icmp_ge (tgt := 314) hx hb dL_law_107 (by decide) (fun hc2 => absurd hc2 hlt) (fun _ => ?_)
    refine lv_aload_n hx hb dL_law_110 rfl (lv_at hl 0 rfl) ?_
    refine lv_iload_n hx hb dL_law_111 rfl (lv_at hl 2 rfl) ?_
    refine lw_cell (k := k) (rest := []) X hX hbl hGs (by omega) (by omega) km_L_283 ⟨Nat.le_of_ble_eq_true rfl, Nat.le_of_ble_eq_true rfl⟩ hP hS hl.1 (Nat.le_of_ble_eq_true rfl) ⟨by show _ ≤ 600258; omega, by show _ ≤ 7293130; omega⟩ dL_law_112 (fun H locs hP hS => ?_)
    rw [← hv]
    refine lv_istore_n (lv' := [(3, .int v), (0, .ref b), (1, .ref (G.2.1 0)), (2, .int (nI k))]) hx hb dL_law_115 rfl hl (by decide) rfl (fun ls hl => ?_)
    obtain ⟨m1, m2⟩ := l_mark hZ.1 hZ.2.1
    refine lv_aload_n hx hb dL_law_116 rfl (lv_at hl 2 rfl) ?_
    refine gl_rJe (mc := 454) (ms := 2724) m2 (g_runS (As := [.ref (G.2.1 0)]) (rest := []) X (c_L_mark l hfl G hG _  m1) ca_L_mark km_L_249 rfl rfl ⟨Nat.le_of_ble_eq_true rfl, Nat.le_of_ble_eq_true rfl⟩ hP hS rfl hl.1 rfl (Nat.le_of_ble_eq_true rfl) ⟨by show _ ≤ 600258; omega, by show _ ≤ 7293130; omega⟩ dL_law_117) hS (fun H locs hP hS => ?_)
    refine lv_lstore (lv' := [(4, .long (mkV w f)), (3, .int v), (0, .ref b), (1, .ref (G.2.1 0)), (2, .int (nI k))]) hx hb dL_law_120 hl (by decide) rfl (fun ls hl => ?_)
    have h14 : ok_L_account σ 14 ∧ f_L_account σ 14 = (σ, (nI lr.length).toInt64) := by
      have h := l_acc14 σ
      rw [hZ.2.2.1.2.1] at h
      exact h
    refine lv_aload_n hx hb dL_law_122 rfl (lv_at hl 3 rfl) ?_
    refine lv_bipush (v := 14) hx hb dL_law_123 (by decide) ?_
    refine gl_rJe (mc := 1) (ms := 6) h14.2 (gl_run (As := [.ref (G.2.1 0), .int 14]) (rest := []) X (c_L_account l hfl G hG _ 14 h14.1) ca_L_account km_L_184 rfl rfl ⟨Nat.le_of_ble_eq_true rfl, Nat.le_of_ble_eq_true rfl⟩ hP hS rfl hl.1 rfl (Nat.le_of_ble_eq_true rfl) ⟨by show _ ≤ 600258; omega, by show _ ≤ 7293130; omega⟩ dL_law_125) hS (fun H locs hP hS => ?_)
    refine lv_lstore (lv' := [(6, .long (nI lr.length).toInt64), (4, .long (mkV w f)), (3, .int v), (0, .ref b), (1, .ref (G.2.1 0)), (2, .int (nI k))]) hx hb dL_law_128 hl (by decide) rfl (fun ls hl => ?_)
    obtain ⟨oa, hA⟩ := act_acts hZ v
    refine lv_aload_n hx hb dL_law_130 rfl (lv_at hl 4 rfl) ?_
    refine lv_iload_n hx hb dL_law_131 rfl (lv_at hl 2 rfl) ?_
    rcases hA with ⟨σ1, r1, e1, hT, hZ1, hk1⟩ | ⟨σ1, v1, w1, f1, e1, hZ1, hk1⟩
    · refine gl_rJe (mc := 63) (ms := 378) e1 (g_runS (As := [.ref (G.2.1 0), .int v]) (rest := []) X (c_L_acts l hfl G hG _ v oa) ca_L_acts km_L_287 rfl rfl ⟨Nat.le_of_ble_eq_true rfl, Nat.le_of_ble_eq_true rfl⟩ hP hS rfl hl.1 rfl (Nat.le_of_ble_eq_true rfl) ⟨by show _ ≤ 600258; omega, by show _ ≤ 7293130; omega⟩ dL_law_132) hS (fun H locs hP hS => ?_)
      refine lv_lstore (lv' := [(8, .long r1), (6, .long (nI lr.length).toInt64), (4, .long (mkV w f)), (3, .int v), (0, .ref b), (1, .ref (G.2.1 0)), (2, .int (nI k))]) hx hb dL_law_135 hl (by decide) rfl (fun ls hl => ?_)
      refine lv_lload hx hb dL_law_137 (lv_at hl 0 rfl) ?_
      refine lv_ldc2 hx hb hown (hts _ kc_L_290) dL_law_139 ?_
      refine W.lcmp hx hb dL_law_142 ?_
      refine lv_if_ge (tgt := 156) hx hb dL_law_143 (by decide) (fun hc2 => absurd (lg_ge.mp hc2) (Int64.not_le.mpr (th_lt hT))) (fun _ => ?_)
      obtain ⟨m3, m4⟩ := l_mark hZ1.1 hZ1.2.1
      refine lv_aload_n hx hb dL_law_146 rfl (lv_at hl 5 rfl) ?_
      refine gl_rJe (mc := 454) (ms := 2724) m4 (g_runS (As := [.ref (G.2.1 0)]) (rest := []) X (c_L_mark l hfl G hG _  m3) ca_L_mark km_L_249 rfl rfl ⟨Nat.le_of_ble_eq_true rfl, Nat.le_of_ble_eq_true rfl⟩ hP hS rfl hl.1 rfl (Nat.le_of_ble_eq_true rfl) ⟨by show _ ≤ 600258; omega, by show _ ≤ 7293130; omega⟩ dL_law_147) hS (fun H locs hP hS => ?_)
      refine lv_lload hx hb dL_law_150 (lv_at hl 2 rfl) ?_
      refine W.lcmp hx hb dL_law_152 ?_
      refine lv_if_ne (tgt := 167) hx hb dL_law_153 (by decide) (fun hc2 => absurd (lg_eq.mpr rfl) hc2) (fun _ => ?_)
      have h13 : ok_L_account σ1 13 ∧ f_L_account σ1 13 = (σ1, 0) := by
        have h := l_acc13 σ1
        rw [hZ1.2.2.2] at h
        exact h
      refine lv_aload_n hx hb dL_law_156 rfl (lv_at hl 5 rfl) ?_
      refine lv_bipush (v := 13) hx hb dL_law_157 (by decide) ?_
      refine gl_rJe (mc := 1) (ms := 6) h13.2 (gl_run (As := [.ref (G.2.1 0), .int 13]) (rest := []) X (c_L_account l hfl G hG _ 13 h13.1) ca_L_account km_L_184 rfl rfl ⟨Nat.le_of_ble_eq_true rfl, Nat.le_of_ble_eq_true rfl⟩ hP hS rfl hl.1 rfl (Nat.le_of_ble_eq_true rfl) ⟨by show _ ≤ 600258; omega, by show _ ≤ 7293130; omega⟩ dL_law_159) hS (fun H locs hP hS => ?_)
      refine lv_lconst (v := 0) hx hb dL_law_162 (by decide) ?_
      refine W.lcmp hx hb dL_law_163 ?_
      refine lv_if_eq (tgt := 169) hx hb dL_law_164 (by decide) (fun _ => ?_) (fun hc2 => absurd (lg_eq.mpr rfl) hc2)
      refine lv_lload hx hb dL_law_169 (lv_at hl 0 rfl) ?_
      refine lv_ldc2 hx hb hown (hts _ kc_L_290) dL_law_171 ?_
      refine W.lcmp hx hb dL_law_174 ?_
      refine lv_if_le (tgt := 218) hx hb dL_law_175 (by decide) (fun _ => ?_) (fun hc2 => absurd (lg_le.mpr (Int64.le_of_lt (th_lt hT))) hc2)
      exact kk218 _ _ (by omega) (by omega) _ _ _ _ hZ1 H locs hP hS ls (lv_sub hl [3, 4, 5, 6] rfl)
    · refine gl_rJe (mc := 63) (ms := 378) e1 (g_runS (As := [.ref (G.2.1 0), .int v]) (rest := []) X (c_L_acts l hfl G hG _ v oa) ca_L_acts km_L_287 rfl rfl ⟨Nat.le_of_ble_eq_true rfl, Nat.le_of_ble_eq_true rfl⟩ hP hS rfl hl.1 rfl (Nat.le_of_ble_eq_true rfl) ⟨by show _ ≤ 600258; omega, by show _ ≤ 7293130; omega⟩ dL_law_132) hS (fun H locs hP hS => ?_)
      refine lv_lstore (lv' := [(8, .long v1.toInt64), (6, .long (nI lr.length).toInt64), (4, .long (mkV w f)), (3, .int v), (0, .ref b), (1, .ref (G.2.1 0)), (2, .int (nI k))]) hx hb dL_law_135 hl (by decide) rfl (fun ls hl => ?_)
      refine lv_lload hx hb dL_law_137 (lv_at hl 0 rfl) ?_
      refine lv_ldc2 hx hb hown (hts _ kc_L_290) dL_law_139 ?_
      refine W.lcmp hx hb dL_law_142 ?_
      refine lv_if_ge (tgt := 156) hx hb dL_law_143 (by decide) (fun _ => ?_) (fun hc2 => absurd (lg_ge.mpr (Int64.le_of_lt (nt_lt v1))) hc2)
      have h13 : ok_L_account σ1 13 ∧ f_L_account σ1 13 = (σ1, 0) := by
        have h := l_acc13 σ1
        rw [hZ1.2.2.2] at h
        exact h
      refine lv_aload_n hx hb dL_law_156 rfl (lv_at hl 5 rfl) ?_
      refine lv_bipush (v := 13) hx hb dL_law_157 (by decide) ?_
      refine gl_rJe (mc := 1) (ms := 6) h13.2 (gl_run (As := [.ref (G.2.1 0), .int 13]) (rest := []) X (c_L_account l hfl G hG _ 13 h13.1) ca_L_account km_L_184 rfl rfl ⟨Nat.le_of_ble_eq_true rfl, Nat.le_of_ble_eq_true rfl⟩ hP hS rfl hl.1 rfl (Nat.le_of_ble_eq_true rfl) ⟨by show _ ≤ 600258; omega, by show _ ≤ 7293130; omega⟩ dL_law_159) hS (fun H locs hP hS => ?_)
      refine lv_lconst (v := 0) hx hb dL_law_162 (by decide) ?_
      refine W.lcmp hx hb dL_law_163 ?_
      refine lv_if_eq (tgt := 169) hx hb dL_law_164 (by decide) (fun _ => ?_) (fun hc2 => absurd (lg_eq.mpr rfl) hc2)
      refine lv_lload hx hb dL_law_169 (lv_at hl 0 rfl) ?_
      refine lv_ldc2 hx hb hown (hts _ kc_L_290) dL_law_171 ?_
      refine W.lcmp hx hb dL_law_174 ?_
      refine lv_if_le (tgt := 218) hx hb dL_law_175 (by decide) (fun hc2 => absurd (lg_le.mp hc2) (Int64.not_le.mpr (nt_lt v1))) (fun _ => ?_)
      refine lv_iload_n hx hb dL_law_178 rfl (lv_at hl 6 rfl) ?_
      refine lv_iconst (v := 3) hx hb dL_law_179 (by decide) ?_
      refine lv_irem hx hb dL_law_180 (by decide) ?_
      refine lv_if_ne (tgt := 218) hx hb dL_law_181 (by decide) (fun _ => ?_) (fun _ => ?_)
      · exact kk218 _ _ (by omega) (by omega) _ _ _ _ hZ1 H locs hP hS ls (lv_sub hl [3, 4, 5, 6] rfl)
      · have hZu : Zs σ1 w1 f1 ((w, f) :: lr.take 7) := hZ1
        have hlen := hZ.2.2.1.1
        obtain ⟨u1, σ2, u2, hZ2, -⟩ := l_undo hZu
        rw [und7 hlen] at u2
        refine lv_aload_n hx hb dL_law_184 rfl (lv_at hl 5 rfl) ?_
        refine gl_rJe (mc := 1) (ms := 6) u2 (gl_run (As := [.ref (G.2.1 0)]) (rest := []) X (c_L_undo l hfl G hG _  u1) ca_L_undo km_L_260 rfl rfl ⟨Nat.le_of_ble_eq_true rfl, Nat.le_of_ble_eq_true rfl⟩ hP hS rfl hl.1 rfl (Nat.le_of_ble_eq_true rfl) ⟨by show _ ≤ 600258; omega, by show _ ≤ 7293130; omega⟩ dL_law_185) hS (fun H locs hP hS => ?_)
        refine lv_lload hx hb dL_law_188 (lv_at hl 1 rfl) ?_
        refine lv_ldc2 hx hb hown (hts _ kc_L_292) dL_law_190 ?_
        refine va_mmin_long hx hb (hml.trans hl.1.symm) hown (hts _ km_L_294) (hts _ ca_J9_min_f86c9.2) (hts _ ca_J9_min_f86c9.1.2.1) (hts _ ca_J9_min_f86c9.1.1) (Nat.le_of_ble_eq_true rfl) (Nat.le_of_ble_eq_true rfl) (by show _ ≤ 600258; omega) (by show _ ≤ 7293130; omega) dL_law_193 ?_
        refine W.lcmp hx hb dL_law_196 ?_
        refine lv_if_ne (tgt := 210) hx hb dL_law_197 (by decide) (fun hc2 => absurd (lg_eq.mpr rfl) hc2) (fun _ => ?_)
        obtain ⟨m3, m4⟩ := l_mark hZ2.1 hZ2.2.1
        refine lv_aload_n hx hb dL_law_200 rfl (lv_at hl 5 rfl) ?_
        refine gl_rJe (mc := 454) (ms := 2724) m4 (g_runS (As := [.ref (G.2.1 0)]) (rest := []) X (c_L_mark l hfl G hG _  m3) ca_L_mark km_L_249 rfl rfl ⟨Nat.le_of_ble_eq_true rfl, Nat.le_of_ble_eq_true rfl⟩ hP hS rfl hl.1 rfl (Nat.le_of_ble_eq_true rfl) ⟨by show _ ≤ 600258; omega, by show _ ≤ 7293130; omega⟩ dL_law_201) hS (fun H locs hP hS => ?_)
        refine lv_lload hx hb dL_law_204 (lv_at hl 2 rfl) ?_
        refine W.lcmp hx hb dL_law_206 ?_
        refine lv_if_eq (tgt := 212) hx hb dL_law_207 (by decide) (fun _ => ?_) (fun hc2 => absurd (lg_eq.mpr rfl) hc2)
        obtain ⟨o3, σ3, r3, w3, f3, l3, e3, hZ3, -⟩ := (act_acts hZ2 v).any
        refine lv_aload_n hx hb dL_law_212 rfl (lv_at hl 5 rfl) ?_
        refine lv_iload_n hx hb dL_law_213 rfl (lv_at hl 3 rfl) ?_
        refine gl_rJe (mc := 63) (ms := 378) e3 (g_runS (As := [.ref (G.2.1 0), .int v]) (rest := []) X (c_L_acts l hfl G hG _ v o3) ca_L_acts km_L_287 rfl rfl ⟨Nat.le_of_ble_eq_true rfl, Nat.le_of_ble_eq_true rfl⟩ hP hS rfl hl.1 rfl (Nat.le_of_ble_eq_true rfl) ⟨by show _ ≤ 600258; omega, by show _ ≤ 7293130; omega⟩ dL_law_214) hS (fun H locs hP hS => ?_)
        refine lv_pop2_2 hx hb dL_law_217 rfl ?_
        exact kk218 _ _ (by omega) (by omega) _ _ _ _ hZ3 H locs hP hS ls (lv_sub hl [3, 4, 5, 6] rfl)
set_option maxHeartbeats 8000000 in
set_option maxRecDepth 100000 in
theorem lw_go {p : Program} {l : Launch} {e : Env} {s : State} {m : MethodId} {below : List Frame} {meth : Method} {c : Code} {G : GE} {b L : Nat} {xs : Nat → Int32} (hfl : l.stackTraces = false) (X : Cx G p s m #[Value.ref b] c cL_law 12 RL) (hr : meth.sig.returnType = ret) (hlk : meth.locks = false) (hX : va_X b L xs s s.heap) (hbl : b < s.heap.size) (hGs : G.2.2.2.1 = s.heap.size) (hL : L ≤ 260) (cells slots : Nat) (hc : cells ≤ 300) (hs : slots ≤ 5000) {σ : St} {w : Nat → Int32} {f : Nat → UInt32} {lr : List Dat} (hZ : Zs σ w f lr) (H : Heap) (locs : List Loc) (hP : va_P G.1 vcl (wl G σ) H) (hS : va_S (GA G) s.heap H locs) (ls : Array Slot) (hl : lv_has ls 12 [(1, .ref (G.2.1 0)), (0, .ref b)]) : W p l e room_1 s m #[Value.ref b] below meth c H locs cells slots (lw_Z below #[Value.ref b] s) (F0 m 8 ls []) := by
  obtain ⟨hx, hb, hml, hown, hts, hK, hbs, hXW, hG⟩ := id X
  refine lv_aload_n hx hb dL_law_8 rfl (lv_at hl 0 rfl) ?_
  refine lv_bipush (v := 10) hx hb dL_law_9 (by decide) ?_
  refine lv_aload_n hx hb dL_law_11 rfl (lv_at hl 1 rfl) ?_
  refine lv_iconst (v := 0) hx hb dL_law_12 (by decide) ?_
  refine lw_cell (k := 0) (rest := [.int 10, .ref (G.2.1 0)]) X hX hbl hGs (by omega) (by omega) km_L_283 ⟨Nat.le_of_ble_eq_true rfl, Nat.le_of_ble_eq_true rfl⟩ hP hS hl.1 (Nat.le_of_ble_eq_true rfl) ⟨by show _ ≤ 600258; omega, by show _ ≤ 7293130; omega⟩ dL_law_13 (fun H locs hP hS => ?_)
  refine lv_bipush (v := 111) hx hb dL_law_16 (by decide) ?_
  refine lw_pick (rest := [.int 10, .ref (G.2.1 0)]) X (by decide) km_L_202 ⟨Nat.le_of_ble_eq_true rfl, Nat.le_of_ble_eq_true rfl⟩ hP hS hl.1 (Nat.le_of_ble_eq_true rfl) ⟨by show _ ≤ 600258; omega, by show _ ≤ 7293130; omega⟩ dL_law_18 (fun H locs hP hS => ?_)
  refine lv_iadd hx hb dL_law_21 ?_
  generalize (10 : Int32) + f_L_pick (sc L xs 0) 111 = y1
  obtain ⟨o1, σ1, r1, w1, f1, l1, e1, hZ, -⟩ := (act_crayon hZ y1).any
  refine gl_rJe (mc := 1) (ms := 6) e1 (gl_run (As := [.ref (G.2.1 0), .int y1]) (rest := []) X (c_L_crayon l hfl G hG _ y1 o1) ca_L_crayon km_L_205 rfl rfl ⟨Nat.le_of_ble_eq_true rfl, Nat.le_of_ble_eq_true rfl⟩ hP hS rfl hl.1 rfl (Nat.le_of_ble_eq_true rfl) ⟨by show _ ≤ 600258; omega, by show _ ≤ 7293130; omega⟩ dL_law_22) hS (fun H locs hP hS => ?_)
  refine lv_pop2_2 hx hb dL_law_25 rfl ?_
  refine lv_aload_n hx hb dL_law_26 rfl (lv_at hl 0 rfl) ?_
  refine lv_bipush (v := 10) hx hb dL_law_27 (by decide) ?_
  refine lv_aload_n hx hb dL_law_29 rfl (lv_at hl 1 rfl) ?_
  refine lv_iconst (v := 0) hx hb dL_law_30 (by decide) ?_
  refine lw_cell (k := 0) (rest := [.int 10, .ref (G.2.1 0)]) X hX hbl hGs (by omega) (by omega) km_L_283 ⟨Nat.le_of_ble_eq_true rfl, Nat.le_of_ble_eq_true rfl⟩ hP hS hl.1 (Nat.le_of_ble_eq_true rfl) ⟨by show _ ≤ 600258; omega, by show _ ≤ 7293130; omega⟩ dL_law_31 (fun H locs hP hS => ?_)
  refine lv_bipush (v := 8) hx hb dL_law_34 (by decide) ?_
  refine lv_ishr hx hb dL_law_36 ?_
  refine lv_bipush (v := 111) hx hb dL_law_37 (by decide) ?_
  refine lw_pick (rest := [.int 10, .ref (G.2.1 0)]) X (by decide) km_L_202 ⟨Nat.le_of_ble_eq_true rfl, Nat.le_of_ble_eq_true rfl⟩ hP hS hl.1 (Nat.le_of_ble_eq_true rfl) ⟨by show _ ≤ 600258; omega, by show _ ≤ 7293130; omega⟩ dL_law_39 (fun H locs hP hS => ?_)
  refine lv_iadd hx hb dL_law_42 ?_
  generalize (10 : Int32) + f_L_pick (sc L xs 0 >>> ((8 : Int32) &&& 31)) 111 = y2
  obtain ⟨o2, σ2, r2, w2, f2, l2, e2, hZ, -⟩ := (act_crayon hZ y2).any
  refine gl_rJe (mc := 1) (ms := 6) e2 (gl_run (As := [.ref (G.2.1 0), .int y2]) (rest := []) X (c_L_crayon l hfl G hG _ y2 o2) ca_L_crayon km_L_205 rfl rfl ⟨Nat.le_of_ble_eq_true rfl, Nat.le_of_ble_eq_true rfl⟩ hP hS rfl hl.1 rfl (Nat.le_of_ble_eq_true rfl) ⟨by show _ ≤ 600258; omega, by show _ ≤ 7293130; omega⟩ dL_law_43) hS (fun H locs hP hS => ?_)
  refine lv_pop2_2 hx hb dL_law_46 rfl ?_
  refine lv_aload_n hx hb dL_law_47 rfl (lv_at hl 0 rfl) ?_
  obtain ⟨o3, σ3, r3, w3, f3, l3, e3, hZ, -⟩ := (act_potato hZ ).any
  refine gl_rJe (mc := 1) (ms := 6) e3 (gl_run (As := [.ref (G.2.1 0)]) (rest := []) X (c_L_potato l hfl G hG _  o3) ca_L_potato km_L_217 rfl rfl ⟨Nat.le_of_ble_eq_true rfl, Nat.le_of_ble_eq_true rfl⟩ hP hS rfl hl.1 rfl (Nat.le_of_ble_eq_true rfl) ⟨by show _ ≤ 600258; omega, by show _ ≤ 7293130; omega⟩ dL_law_48) hS (fun H locs hP hS => ?_)
  refine lv_pop2_2 hx hb dL_law_51 rfl ?_
  refine lv_aload_n hx hb dL_law_52 rfl (lv_at hl 0 rfl) ?_
  refine lv_iconst (v := 0) hx hb dL_law_53 (by decide) ?_
  refine lv_iconst (v := 1) hx hb dL_law_54 (by decide) ?_
  refine lv_iconst (v := 1) hx hb dL_law_55 (by decide) ?_
  refine lv_aload_n hx hb dL_law_56 rfl (lv_at hl 1 rfl) ?_
  refine lv_iconst (v := 1) hx hb dL_law_57 (by decide) ?_
  refine lw_cell (k := 1) (rest := [.int 1, .int 1, .int 0, .ref (G.2.1 0)]) X hX hbl hGs (by omega) (by omega) km_L_283 ⟨Nat.le_of_ble_eq_true rfl, Nat.le_of_ble_eq_true rfl⟩ hP hS hl.1 (Nat.le_of_ble_eq_true rfl) ⟨by show _ ≤ 600258; omega, by show _ ≤ 7293130; omega⟩ dL_law_58 (fun H locs hP hS => ?_)
  refine lv_bipush (v := 20) hx hb dL_law_61 (by decide) ?_
  refine lw_pick (rest := [.int 1, .int 1, .int 0, .ref (G.2.1 0)]) X (by decide) km_L_202 ⟨Nat.le_of_ble_eq_true rfl, Nat.le_of_ble_eq_true rfl⟩ hP hS hl.1 (Nat.le_of_ble_eq_true rfl) ⟨by show _ ≤ 600258; omega, by show _ ≤ 7293130; omega⟩ dL_law_63 (fun H locs hP hS => ?_)
  refine lv_iadd hx hb dL_law_66 ?_
  generalize (1 : Int32) + f_L_pick (sc L xs 1) 20 = y3
  refine lv_iconst (v := 0) hx hb dL_law_67 (by decide) ?_
  obtain ⟨o4, σ4, r4, w4, f4, l4, e4, hZ, -⟩ := (act_letter hZ 0 1 y3 0).any
  refine gl_rJe (mc := 1) (ms := 6) e4 (gl_run (As := [.ref (G.2.1 0), .int 0, .int 1, .int y3, .int 0]) (rest := []) X (c_L_letter l hfl G hG _ 0 1 y3 0 o4) ca_L_letter km_L_207 rfl rfl ⟨Nat.le_of_ble_eq_true rfl, Nat.le_of_ble_eq_true rfl⟩ hP hS rfl hl.1 rfl (Nat.le_of_ble_eq_true rfl) ⟨by show _ ≤ 600258; omega, by show _ ≤ 7293130; omega⟩ dL_law_68) hS (fun H locs hP hS => ?_)
  refine lv_pop2_2 hx hb dL_law_71 rfl ?_
  refine lv_aload_n hx hb dL_law_72 rfl (lv_at hl 0 rfl) ?_
  refine lv_iconst (v := 1) hx hb dL_law_73 (by decide) ?_
  refine lv_iconst (v := 2) hx hb dL_law_74 (by decide) ?_
  refine lv_iconst (v := 1) hx hb dL_law_75 (by decide) ?_
  refine lv_aload_n hx hb dL_law_76 rfl (lv_at hl 1 rfl) ?_
  refine lv_iconst (v := 1) hx hb dL_law_77 (by decide) ?_
  refine lw_cell (k := 1) (rest := [.int 1, .int 2, .int 1, .ref (G.2.1 0)]) X hX hbl hGs (by omega) (by omega) km_L_283 ⟨Nat.le_of_ble_eq_true rfl, Nat.le_of_ble_eq_true rfl⟩ hP hS hl.1 (Nat.le_of_ble_eq_true rfl) ⟨by show _ ≤ 600258; omega, by show _ ≤ 7293130; omega⟩ dL_law_78 (fun H locs hP hS => ?_)
  refine lv_bipush (v := 6) hx hb dL_law_81 (by decide) ?_
  refine lv_ishr hx hb dL_law_83 ?_
  refine lv_bipush (v := 20) hx hb dL_law_84 (by decide) ?_
  refine lw_pick (rest := [.int 1, .int 2, .int 1, .ref (G.2.1 0)]) X (by decide) km_L_202 ⟨Nat.le_of_ble_eq_true rfl, Nat.le_of_ble_eq_true rfl⟩ hP hS hl.1 (Nat.le_of_ble_eq_true rfl) ⟨by show _ ≤ 600258; omega, by show _ ≤ 7293130; omega⟩ dL_law_86 (fun H locs hP hS => ?_)
  refine lv_iadd hx hb dL_law_89 ?_
  generalize (1 : Int32) + f_L_pick (sc L xs 1 >>> ((6 : Int32) &&& 31)) 20 = y4
  refine lv_iconst (v := 1) hx hb dL_law_90 (by decide) ?_
  obtain ⟨o5, σ5, r5, w5, f5, l5, e5, hZ, -⟩ := (act_letter hZ 1 2 y4 1).any
  refine gl_rJe (mc := 1) (ms := 6) e5 (gl_run (As := [.ref (G.2.1 0), .int 1, .int 2, .int y4, .int 1]) (rest := []) X (c_L_letter l hfl G hG _ 1 2 y4 1 o5) ca_L_letter km_L_207 rfl rfl ⟨Nat.le_of_ble_eq_true rfl, Nat.le_of_ble_eq_true rfl⟩ hP hS rfl hl.1 rfl (Nat.le_of_ble_eq_true rfl) ⟨by show _ ≤ 600258; omega, by show _ ≤ 7293130; omega⟩ dL_law_91) hS (fun H locs hP hS => ?_)
  refine lv_pop2_2 hx hb dL_law_94 rfl ?_
  refine lv_aload_n hx hb dL_law_95 rfl (lv_at hl 0 rfl) ?_
  refine lv_iconst (v := 0) hx hb dL_law_96 (by decide) ?_
  refine lv_iconst (v := 0) hx hb dL_law_97 (by decide) ?_
  obtain ⟨o6, σ6, r6, w6, f6, l6, e6, hZ, -⟩ := (act_stamp hZ 0 0).any
  refine gl_rJe (mc := 1) (ms := 6) e6 (gl_run (As := [.ref (G.2.1 0), .int 0, .int 0]) (rest := []) X (c_L_stamp l hfl G hG _ 0 0 o6) ca_L_stamp km_L_219 rfl rfl ⟨Nat.le_of_ble_eq_true rfl, Nat.le_of_ble_eq_true rfl⟩ hP hS rfl hl.1 rfl (Nat.le_of_ble_eq_true rfl) ⟨by show _ ≤ 600258; omega, by show _ ≤ 7293130; omega⟩ dL_law_98) hS (fun H locs hP hS => ?_)
  refine lv_pop2_2 hx hb dL_law_101 rfl ?_
  refine lv_iconst (v := 2) hx hb dL_law_102 (by decide) ?_
  refine lv_istore_n (lv' := [(2, .int 2), (1, .ref (G.2.1 0)), (0, .ref b)]) hx hb dL_law_103 rfl hl (by decide) rfl (fun ls hl => ?_)
  exact lw_loop hfl X hr hlk hX hbl hGs hL 28 2 rfl _ _ (by omega) (by omega) _ _ _ _ hZ H locs hP hS ls (lv_sub hl [2, 1, 0] rfl)
set_option maxHeartbeats 8000000 in
set_option maxRecDepth 100000 in
theorem lw_start {p : Program} {e : Env} {s : State} {m : MethodId} {below : List Frame} {meth : Method} {c : Code} (l : Launch) (hflags : l.flags = flags0) {b L : Nat} {xs : Nat → Int32} (hL : L ≤ 260) (C0 : lw_At p s m meth c b L xs) : W p l e room_1 s m #[Value.ref b] below meth c s.heap [] 0 0 (lw_Z below #[Value.ref b] s) (entryFrame m ([Value.ref b] : List Value).toArray 12) := by
  obtain ⟨hx, hb, hr, hml, hown, htsT, hX, hbl, hlocks, hgv⟩ := C0
  have hfl : l.stackTraces = false := by
    unfold Launch.stackTraces
    rw [hflags]
    decide +kernel
  have hts : ∀ w ∈ allW, w.before #[Value.ref b] s = true := fun w h => htsT w (fm_lw h)
  obtain ⟨adK, adV, hXW⟩ := xw_ex htsT hgv
  obtain ⟨dG, cG, hK⟩ := kk_ex htsT
  obtain ⟨G, hGe⟩ : ∃ G : GE, G = (dG, fun _ => 0, cG, s.heap.size, adK, adV) := ⟨_, rfl⟩
  have hK1 : va_K G.1 vcl (tysG G) s := by rw [hGe]; exact hK _ _ _ _
  have hXW1 : XW G s s.heap := by rw [hGe]; exact hXW _ _ _
  have hGs : G.2.2.2.1 = s.heap.size := by rw [hGe]
  have hAO : va_AO "PotatoStamps$Office" s := va_AO.of (htsT _ tb_st.2.2.2.2.2.2.2)
  have X : CxN G p s m #[Value.ref b] c cL_law 12 RL := ⟨hx, hb, hml, hown, hts, hK1, Nat.le_of_eq hGs, hXW1, hAO⟩
  have hA : ∀ q, s.heap.size ≤ q → GA G q := fun q h => by show G.2.2.2.1 ≤ q; rw [hGs]; exact h
  have hS : va_S (GA G) s.heap s.heap [] := va_S.rf
  have hP : va_P G.1 vcl ([] : va_W) s.heap := fun k q h => by simp at h
  have hD : va_D (GA G) ([] : va_W) := ⟨fun i j p q h => by simp at h, fun k q h => by simp at h⟩
  have hl := lv_entry ([.ref b]) (n := 12) (Nat.le_of_ble_eq_true rfl)
  rw [lg_entry_eq]
  generalize (lg_sl ([.ref b]) ++ List.replicate (12 - (lg_sl ([.ref b])).length) Slot.unset).toArray = ls at hl ⊢
  have hl : lv_has ls 12 [(0, .ref b)] := hl
  refine n_new (ci := 8) (fs := [.null, .null, .null, .null, .null, .null, .null, .int 0]) (ty := tyX9) X in_X9 tyX9_ok nw_L_8 nj_X9 nz_X9 hP hD hS hA rfl (by decide) (Nat.le_of_ble_eq_true rfl) (Nat.le_of_ble_eq_true rfl) dL_law_0 (fun q0 H hP hD hS => ?_)
  refine lv_dup hx hb dL_law_3 rfl ?_
  refine n_call X (c_X9_init l G) ca_X9_init (Or.inr km_L_282) rfl rfl rfl ⟨Nat.le_of_ble_eq_true rfl, Nat.le_of_ble_eq_true rfl⟩ hP hD hS hA (fun _ h => h) hl.1 (Nat.le_of_ble_eq_true rfl) ⟨Nat.le_of_ble_eq_true rfl, Nat.le_of_ble_eq_true rfl⟩ dL_law_4 (fun a1 ha1 H locs hP1 hD1 hS => ?_)
  subst ha1
  have hP : va_P G.1 vcl (lw G a1 LO) H := hP1
  have hD : va_D (GA G) (lw G a1 LO) := hD1
  have hP2 := born_P hP
  have hG2 := born_G hD
  have X2 : Cx (GA' G a1) p s m #[Value.ref b] c cL_law 12 RL := ⟨hx, hb, hml, hown, hts, hK1, Nat.le_of_eq hGs, hXW1, hG2⟩
  refine lv_astore_n (lv' := [(1, .ref (a1 0)), (0, .ref b)]) hx hb dL_law_7 rfl hl (by decide) rfl (fun ls hl => ?_)
  exact lw_go hfl X2 hr hlocks hX hbl hGs hL _ _ (Nat.le_of_ble_eq_true rfl) (Nat.le_of_ble_eq_true rfl) Zs_0 H locs hP2 hS ls hl
