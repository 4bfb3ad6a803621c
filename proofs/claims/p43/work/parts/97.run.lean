/-! the texts: what a run leaves, whatever its orders are -/
section RUNZ
variable {σ : St} {w : Nat → Int32} {f : Nat → UInt32} {l : List Dat}
def Oc (σ : St) (w : Nat → Int32) (f : Nat → UInt32) (m : Nat) : Prop := ∃ (cl : St × Int32) (okC a1 a2 a3 P : Prop) (act : St → St × Int32) (okA : St → Prop), Vc σ cl okC a1 a2 a3 P ∧ (P → Dc w f act okA) ∧ f_X9_carryOut σ (nI m) = OX cl act ∧ (okC → (cl = (σ, 0) → okA σ) → ok_X9_carryOut σ (nI m))
set_option maxHeartbeats 1000000 in
theorem oc_step (hO : Off σ 2 w f) (hI : Inv w f) {m κ : Nat} (hm : m < 21) (hκ : κ < 6) (h193 : σ.1 193 m = nI κ) : Oc σ w f m := by
  have hcm : (nI m).toNatClampNeg = m := nI_clamp (by omega)
  have hvm : vp_in (nI m) 21 := vp_in_nI hm (by decide)
  have hN : ∀ j, j < 4 → ok_X7_numberOf σ (nI m) (nI j) := fun j hj => by
    have e : nI m * (4 : Int32) + nI j = nI (4 * m + j) := by
      rw [show (4 : Int32) = nI 4 from rfl, nI_mul, nI_add, Nat.mul_comm]
    unfold ok_X7_numberOf
    rw [e]
    exact vp_in_nI (by omega) (by decide)
  have k0 : ok_X7_numberOf σ (nI m) 0 := hN 0 (by decide)
  have k1 : ok_X7_numberOf σ (nI m) 1 := hN 1 (by decide)
  have k2 : ok_X7_numberOf σ (nI m) 2 := hN 2 (by decide)
  have k3 : ok_X7_numberOf σ (nI m) 3 := hN 3 (by decide)
  rcases (show κ = 0 ∨ κ = 1 ∨ κ = 2 ∨ κ = 3 ∨ κ = 4 ∨ κ = 5 by omega) with rfl | rfl | rfl | rfl | rfl | rfl
  · have h193 : σ.1 193 m = 0 := h193
    have V := vc_letter hO hI (f_X7_numberOf σ (nI m) 0) (f_X7_numberOf σ (nI m) 1) (f_X7_numberOf σ (nI m) 2) (f_X7_numberOf σ (nI m) 3)
    refine ⟨_, _, _, _, _, _, _, _, V, fun P => dc_letter hI P, ?_, fun o1 o2 => ?_⟩
    · unfold f_X9_carryOut f_X9_orderWriting OX
      simp only [bnd_eq]
      rw [hcm, h193, if_pos rfl]
    · unfold ok_X9_carryOut ok_X9_orderWriting
      rw [hcm, h193]
      refine ⟨k0, k1, hvm, fun _ => ⟨k2, k3, o1, ?_⟩, fun q => absurd rfl q⟩
      rw [bndP_eq]
      refine ⟨fun q => ?_, fun _ => trivial⟩
      have := V.snd q
      rw [this]
      exact o2 this
  · have h193 : σ.1 193 m = 1 := h193
    have V := vc_stamp hO hI (f_X7_numberOf σ (nI m) 0) (f_X7_numberOf σ (nI m) 1)
    refine ⟨_, _, _, _, _, _, _, _, V, fun P => dc_stamp hI P, ?_, fun o1 o2 => ?_⟩
    · unfold f_X9_carryOut f_X9_orderStamping OX
      simp only [bnd_eq]
      rw [hcm, h193, if_neg (show ¬ (1 : Int32) = 0 by decide), if_pos rfl]
    · unfold ok_X9_carryOut ok_X9_orderStamping
      rw [hcm, h193]
      refine ⟨k0, k1, hvm, fun z => absurd z (show ¬ (1 : Int32) = 0 by decide), fun _ => ⟨fun _ => ⟨o1, ?_⟩, fun q => absurd rfl q⟩⟩
      rw [bndP_eq]
      refine ⟨fun q => ?_, fun _ => trivial⟩
      have := V.snd q
      rw [this]
      exact (o2 this).1
  · have h193 : σ.1 193 m = 2 := h193
    generalize hx0 : f_X7_numberOf σ (nI m) 0 = x0
    have h20 := hI.n20
    have hit := cl_hasItem hO hI x0
    rcases hasB_cases x0 (n := cnt w) (by omega) with ⟨c1, i, hi, rfl⟩ | c1
    · have hci : (nI i).toNatClampNeg = i := nI_clamp (by omega)
      have hi20 : i < 20 := by omega
      have e1 : σ.1 7 i = it w i 0 := hO.kind hi
      have hvi : vp_in (nI i) 20 := vp_in_nI (by omega) (by decide)
      have V := vc_shelve hO hI (nI i) (it w i 0)
      rw [c1] at hit
      refine ⟨_, _, _, _, _, _, _, _, V, fun P => dc_shelve hI P, ?_, fun o1 o2 => ?_⟩
      · unfold f_X9_carryOut f_X9_orderShelving OX
        simp only [bnd_eq]
        rw [hcm, h193, if_neg (show ¬ (2 : Int32) = 0 by decide), if_neg (show ¬ (2 : Int32) = 1 by decide), if_pos rfl, hx0, hit, if_pos rfl, hci, e1]
      · unfold ok_X9_carryOut ok_X9_orderShelving
        rw [hcm, h193, hx0, hci, e1]
        refine ⟨k0, k1, hvm, fun z => absurd z (show ¬ (2 : Int32) = 0 by decide), fun _ => ⟨fun z => absurd z (show ¬ (2 : Int32) = 1 by decide), fun _ => ⟨fun _ => ⟨fun _ => ⟨hvi, o1, ?_⟩, fun _ => trivial⟩, fun q => absurd rfl q⟩⟩⟩
        rw [bndP_eq]
        refine ⟨fun q => ?_, fun _ => trivial⟩
        have := V.snd q
        rw [this]
        exact o2 this
    · rw [c1] at hit
      refine ⟨(σ, -1), True, True, True, True, False, fun q => (q, 0), fun _ => True, ⟨trivial, Or.inr (Or.inl ⟨rfl, trivial⟩)⟩, fun P => P.elim, ?_, fun o1 o2 => ?_⟩
      · unfold f_X9_carryOut f_X9_orderShelving OX
        simp only [bnd_eq]
        rw [hcm, h193, if_neg (show ¬ (2 : Int32) = 0 by decide), if_neg (show ¬ (2 : Int32) = 1 by decide), if_pos rfl, hx0, hit]
        rfl
      · unfold ok_X9_carryOut ok_X9_orderShelving
        rw [hcm, h193, hx0, hit]
        exact ⟨k0, k1, hvm, fun z => absurd z (show ¬ (2 : Int32) = 0 by decide), fun _ => ⟨fun z => absurd z (show ¬ (2 : Int32) = 1 by decide), fun _ => ⟨fun _ => ⟨(fun q => by cases q), fun _ => trivial⟩, fun q => absurd rfl q⟩⟩⟩
  · have h193 : σ.1 193 m = 3 := h193
    have V := vc_take hO hI (f_X7_numberOf σ (nI m) 0)
    refine ⟨_, _, _, _, _, _, _, _, V, fun P => dc_take hI P, ?_, fun o1 o2 => ?_⟩
    · unfold f_X9_carryOut f_X9_orderTaking OX
      simp only [bnd_eq]
      rw [hcm, h193, if_neg (show ¬ (3 : Int32) = 0 by decide), if_neg (show ¬ (3 : Int32) = 1 by decide), if_neg (show ¬ (3 : Int32) = 2 by decide), if_pos rfl]
    · unfold ok_X9_carryOut ok_X9_orderTaking
      rw [hcm, h193]
      refine ⟨k0, k1, hvm, fun z => absurd z (show ¬ (3 : Int32) = 0 by decide), fun _ => ⟨fun z => absurd z (show ¬ (3 : Int32) = 1 by decide), fun _ => ⟨fun z => absurd z (show ¬ (3 : Int32) = 2 by decide), fun _ => ⟨fun _ => ⟨o1, ?_⟩, fun q => absurd rfl q⟩⟩⟩⟩
      rw [bndP_eq]
      refine ⟨fun q => ?_, fun _ => trivial⟩
      have := V.snd q
      rw [this]
      exact o2 this
  · have h193 : σ.1 193 m = 4 := h193
    have V := vc_feed hO hI (f_X7_numberOf σ (nI m) 0)
    refine ⟨_, _, _, _, _, _, _, _, V, fun P => dc_feed hI P, ?_, fun o1 o2 => ?_⟩
    · unfold f_X9_carryOut f_X9_orderFeeding OX
      simp only [bnd_eq]
      rw [hcm, h193, if_neg (show ¬ (4 : Int32) = 0 by decide), if_neg (show ¬ (4 : Int32) = 1 by decide), if_neg (show ¬ (4 : Int32) = 2 by decide), if_neg (show ¬ (4 : Int32) = 3 by decide), if_pos rfl]
    · unfold ok_X9_carryOut ok_X9_orderFeeding
      rw [hcm, h193]
      refine ⟨k0, k1, hvm, fun z => absurd z (show ¬ (4 : Int32) = 0 by decide), fun _ => ⟨fun z => absurd z (show ¬ (4 : Int32) = 1 by decide), fun _ => ⟨fun z => absurd z (show ¬ (4 : Int32) = 2 by decide), fun _ => ⟨fun z => absurd z (show ¬ (4 : Int32) = 3 by decide), fun _ => ⟨fun _ => ?_, fun q => absurd rfl q⟩⟩⟩⟩⟩
      rw [bndP_eq]
      refine ⟨fun q => ?_, fun _ => trivial⟩
      have := V.snd q
      rw [this]
      exact (o2 this).1
  · have h193 : σ.1 193 m = 5 := h193
    have V := vc_pass σ (f_X7_numberOf σ (nI m) 0)
    refine ⟨_, _, _, _, _, _, _, _, V, fun P => dc_pass hI P, ?_, fun o1 o2 => ?_⟩
    · unfold f_X9_carryOut f_X9_orderPassing OX
      simp only [bnd_eq]
      rw [hcm, h193, if_neg (show ¬ (5 : Int32) = 0 by decide), if_neg (show ¬ (5 : Int32) = 1 by decide), if_neg (show ¬ (5 : Int32) = 2 by decide), if_neg (show ¬ (5 : Int32) = 3 by decide), if_neg (show ¬ (5 : Int32) = 4 by decide), if_pos rfl]
    · unfold ok_X9_carryOut ok_X9_orderPassing
      rw [hcm, h193]
      refine ⟨k0, k1, hvm, fun z => absurd z (show ¬ (5 : Int32) = 0 by decide), fun _ => ⟨fun z => absurd z (show ¬ (5 : Int32) = 1 by decide), fun _ => ⟨fun z => absurd z (show ¬ (5 : Int32) = 2 by decide), fun _ => ⟨fun z => absurd z (show ¬ (5 : Int32) = 3 by decide), fun _ => ⟨fun z => absurd z (show ¬ (5 : Int32) = 4 by decide), fun _ => ⟨fun _ => ⟨fun q => ?_, fun _ => trivial⟩, fun q => absurd rfl q⟩⟩⟩⟩⟩⟩
      have := V.snd q
      exact o2 this
/-- the class's own way through the orders -/
theorem run_cl : ∀ (len fu m : Nat) (σ : St) (w : Nat → Int32) (f : Nat → UInt32), m + len ≤ 21 → len + 1 < fu → Off σ 2 w f → Inv w f → σ.1 191 4 = nI (m + len) → (∀ i, i < len → ∃ κ, κ < 6 ∧ σ.1 193 (m + i) = nI κ) →
    ∃ q : St × Int32, fX9_run_L42 fu σ 0 (nI m) = rFin q ∧ (okFin q → okX9_run_L42 fu σ 0 (nI m)) ∧ Kp (fun j => OK1 2 j ∧ ¬ j = 1) σ q.1 ∧ (q.2 = 0 → ∃ w' f', Off q.1 2 w' f' ∧ Inv w' f') := by
  intro len
  induction len with
  | zero =>
    intro fu m σ w f hm hf hO hI h4 _
    obtain ⟨fu, rfl⟩ : ∃ z, fu = z + 1 := ⟨fu - 1, by omega⟩
    obtain ⟨a1, a2⟩ := run_end0 (fu := fu) (σ := σ) (x2 := nI m) (by rw [h4]; exact Int32.le_refl _)
    exact ⟨(σ, 0), a1, a2, Kp.rf, fun _ => ⟨w, f, hO, hI⟩⟩
  | succ len ih =>
    intro fu m σ w f hm hf hO hI h4 h193
    obtain ⟨fu, rfl⟩ : ∃ z, fu = z + 2 := ⟨fu - 2, by omega⟩
    have hl : ¬ σ.1 191 4 ≤ nI m := by rw [h4]; exact nI_ge (by omega) (by omega)
    obtain ⟨rs1, rs2⟩ := run_step (fu := fu + 1) hl
    obtain ⟨κ, hκ, hk⟩ := h193 0 (by omega)
    obtain ⟨cl, okC, a1, a2, a3, P, act, okA, V, D, c1, c2⟩ := oc_step hO hI (m := m) (κ := κ) (by omega) hκ hk
    obtain ⟨v1, hV⟩ := id V
    have bad : ∀ (s : St) (v : Int32), ¬ v = 0 → cl = (s, v) → Kp (fun j => ¬ j = 1) σ s → ∃ q : St × Int32, fX9_run_L42 (fu + 2) σ 0 (nI m) = rFin q ∧ (okFin q → okX9_run_L42 (fu + 2) σ 0 (nI m)) ∧ Kp (fun j => OK1 2 j ∧ ¬ j = 1) σ q.1 ∧ (q.2 = 0 → ∃ w' f', Off q.1 2 w' f' ∧ Inv w' f') := by
      intro s v hv e hk
      have ecar : f_X9_carryOut σ (nI m) = (s, v) := by
        rw [c1, e]
        exact if_neg hv
      have okcar : ok_X9_carryOut σ (nI m) := c2 v1 (fun z => absurd (congrArg Prod.snd (e.symm.trans z)) hv)
      obtain ⟨y1, y2⟩ := run_endN (fu := fu) (σ := s) (x2 := nI m + 1) hv
      rw [ecar] at rs1 rs2
      exact ⟨(s, v), rs1.trans y1, fun _ => rs2 okcar y2, hk.wk (fun j hj => hj.2), fun z => absurd z hv⟩
    rcases hV with ⟨e, hP⟩ | ⟨e, -⟩ | ⟨e, -⟩ | ⟨k, v, k0, k1, k2, e, -⟩
    · obtain ⟨d1, σ', v, w', f', d2, d3, d4, d5⟩ := D hP σ hO
      have ecar : f_X9_carryOut σ (nI m) = (σ', 0) := by
        rw [c1, e]
        unfold OX
        dsimp only
        rw [if_pos rfl, d2]
      have okcar : ok_X9_carryOut σ (nI m) := c2 v1 (fun _ => d1)
      rw [ecar] at rs1 rs2
      dsimp only at rs1 rs2
      obtain ⟨q, b1, b2, b3, b4⟩ := ih (fu + 1) (m + 1) σ' w' f' (by omega) (by omega) d3 d4 (by rw [(d5.1 191 (by decide)).1, h4]; congr 1; omega) (fun i hi => by
        obtain ⟨κ', x1, x2⟩ := h193 (i + 1) (by omega)
        exact ⟨κ', x1, by rw [(d5.1 193 (by decide)).1, show m + 1 + i = m + (i + 1) by omega]; exact x2⟩)
      rw [nI_1] at rs1 rs2
      exact ⟨q, rs1.trans b1, fun z => rs2 okcar (b2 z), (d5.wk (fun j hj => hj.1)).tr b3, b4⟩
    · exact bad σ (-1) (by decide) e Kp.rf
    · exact bad σ (-2) (by decide) e Kp.rf
    · exact bad _ k k0 e (kp_setI (kp_setI Kp.rf (fun q => q rfl)) (fun q => q rfl))
theorem sA_kd {inp : Nat → Int32} {n : Nat} : ∀ (fu p : Nat), p ≤ n → (sA inp n fu p).1 = true → ∀ (i κ : Nat) (a : List Int32), (sA inp n fu p).2.2[i]? = some (κ, a) → κ < 6 := by
  intro fu
  induction fu with
  | zero => intro p _ h; cases h
  | succ fu ih =>
    intro p hp h i κ' a' hi
    obtain ⟨p1, κ, a, e0, hcase⟩ := sA_cs h
    obtain ⟨l1, l2, l3⟩ := sO_len (inp := inp) hp
    rw [e0] at l1 l2 l3
    dsimp only at l1 l2 l3
    obtain ⟨l4, l5⟩ := l3 rfl
    rcases hcase with ⟨e1, e⟩ | ⟨e1, e2, e3, e⟩
    · rw [e] at hi
      cases i with
      | zero =>
        obtain ⟨rfl, rfl⟩ := Prod.mk.inj (Option.some.inj hi)
        exact l5
      | succ i => simp at hi
    · have hpn := (isS_lt e2).1
      rw [e] at hi
      cases i with
      | zero =>
        obtain ⟨rfl, rfl⟩ := Prod.mk.inj (Option.some.inj hi)
        exact l5
      | succ i => exact ih (p1 + 1) (by omega) e3 i κ' a' hi
theorem act_run {n : Nat} (hn : n ≤ 60) (hO : Off σ 2 w f) (hI : Inv w f) (hR : Ring σ l) (h3 : σ.1 191 3 = nI n) : Act σ w f l (ok_L_run σ) (f_L_run σ) := by
  have hf9 : ok_X9_run σ ∧ ((∃ σ', (f_X9_run σ = (1, σ', 0) ∨ f_X9_run σ = (3, σ', 0)) ∧ Zs σ' w f l ∧ KR SK σ σ') ∨ ∃ (σ' : St) (v : Int32) (w' : Nat → Int32) (f' : Nat → UInt32), f_X9_run σ = (0, σ', v) ∧ Zs σ' w' f' (((w, f) :: l).take 8) ∧ KR SK σ σ') := by
    obtain ⟨s1, s2, s3, s4, s5, s6⟩ := cl_scan (inp := fun k => σ.1 192 k) h3 (fun _ _ => rfl) hn
    have kS : Kp (fun j => ¬ j = 191 ∧ ¬ j = 193 ∧ ¬ j = 194) σ (f_X7_scan σ) := ⟨fun j hj => ⟨s4 j hj.1 hj.2.1 hj.2.2, by rw [s5]⟩, by rw [s5]⟩
    have O1 : Off (f_X7_scan σ) 2 w f := hO.kp kS (fun j hj => by omega)
    have R1 : Ring (f_X7_scan σ) l := hR.kp kS (fun j x y => by omega)
    by_cases h5 : (f_X7_scan σ).1 191 5 = -1
    · have hs : (sA (fun k => σ.1 192 k) n 61 0).1 = true := by
        rw [s2] at h5
        by_cases q : (sA (fun k => σ.1 192 k) n 61 0).1 = true
        · exact q
        · rw [if_neg q] at h5
          have := sA_le (inp := fun k => σ.1 192 k) (n := n) 61 0 (Nat.zero_le n)
          exact absurd h5 (nI_m1 (by omega))
      obtain ⟨t1, t2⟩ := s6 hs
      have hbd := sA_bd (inp := fun k => σ.1 192 k) (n := n) 61 0 (Nat.zero_le n) hs
      have hkd : ∀ i, i < (sA (fun k => σ.1 192 k) n 61 0).2.2.length → ∃ κ, κ < 6 ∧ (f_X7_scan σ).1 193 (0 + i) = nI κ := by
        intro i hi
        obtain ⟨e, he⟩ : ∃ e, (sA (fun k => σ.1 192 k) n 61 0).2.2[i]? = some e := ⟨_, List.getElem?_eq_getElem hi⟩
        obtain ⟨κ, a⟩ := e
        obtain ⟨x1, -⟩ := t2 i κ a he
        exact ⟨κ, sA_kd (inp := fun k => σ.1 192 k) (n := n) 61 0 (Nat.zero_le n) hs i κ a he, x1⟩
      obtain ⟨r1, r2⟩ := cl_run_t s1 h5
      generalize (sA (fun k => σ.1 192 k) n 61 0).2.2.length = len at t1 hbd hkd
      have kc := copy_kp (f_X7_scan σ) 19 2
      have O2 : Off (f_X6_copyFrom (f_X7_scan σ) 19 2) 2 w f := O1.kp kc (fun j hj => by omega)
      have D2 : Off (f_X6_copyFrom (f_X7_scan σ) 19 2) 19 w f := O1.copy hI.n20 (by omega)
      have R2 : Ring (f_X6_copyFrom (f_X7_scan σ) 19 2) l := R1.kp kc (fun j x y => by omega)
      obtain ⟨q, b1, b2, b3, b4⟩ := run_cl len 2000 0 (f_X6_copyFrom (f_X7_scan σ) 19 2) w f (by omega) (by omega) O2 hI (by rw [(kc.1 191 (by omega)).1, t1, Nat.zero_add]) (fun i hi => by
        obtain ⟨κ, x1, x2⟩ := hkd i hi
        exact ⟨κ, x1, by rw [(kc.1 193 (by omega)).1]; exact x2⟩)
      have D3 : Off q.1 19 w f := D2.kp b3 (fun j hj => ⟨by omega, by omega⟩)
      have R3 : Ring q.1 l := R2.kp b3 (fun j x y => ⟨by omega, by omega⟩)
      have i3 : q.1.1 191 3 = 0 := by rw [(b3.1 191 (by decide)).1, (kc.1 191 (by omega)).1]; exact s3
      have k3 : KR SK σ q.1 := ((kS.kr.wk (Q := SK) (fun j hj => by omega)).tr (kc.kr.wk (fun j hj => by omega))).tr (b3.kr.wk (fun j hj => ⟨by omega, by omega⟩))
      have b1 : f_X9_run σ = rFin q := r1.trans b1
      obtain ⟨m1, m2, m3⟩ := cl_remember (o := 19) (by decide) R3 D3 hI
      refine ⟨r2 (b2 (fun _ => m1)), ?_⟩
      by_cases z : q.2 = 0
      · obtain ⟨w', f', x1, x2⟩ := b4 z
        refine Or.inr ⟨f_X4_remember q.1 19, (f_X4_remember q.1 19).1 191 4, w', f', ?_, ⟨x1.kp m3 (fun j hj => by omega), x2, m2, by rw [(m3.1 191 (by omega)).1]; exact i3⟩, k3.tr (m3.kr.wk (fun j hj => by omega))⟩
        rw [b1]
        unfold rFin
        rw [if_pos z]
      · have kd := copy_kp q.1 2 19
        refine Or.inl ⟨f_X6_copyFrom q.1 2 19, ?_, ⟨D3.copy hI.n20 (by omega), hI, R3.kp kd (fun j x y => by omega), by rw [(kd.1 191 (by omega)).1]; exact i3⟩, k3.tr (kd.kr.wk (fun j hj => by omega))⟩
        rw [b1]
        unfold rFin
        rw [if_neg z]
        by_cases y1 : q.2 = -1
        · rw [if_pos y1]; exact Or.inl rfl
        · rw [if_neg y1]
          by_cases y2 : q.2 = -2
          · rw [if_pos y2]; exact Or.inl rfl
          · rw [if_neg y2]; exact Or.inr rfl
    · obtain ⟨r1, r2⟩ := cl_run_f s1 h5
      exact ⟨r2, Or.inl ⟨f_X7_scan σ, Or.inl r1, ⟨O1, hI, R1, s3⟩, kS.kr.wk (fun j hj => by omega)⟩⟩
  obtain ⟨o9, h9⟩ := hf9
  unfold ok_L_run f_L_run
  rw [bnd_eq]
  rcases h9 with ⟨σ', e | e, a, b⟩ | ⟨σ', v, w', f', e, a, b⟩
  · rw [e]
    exact ⟨⟨o9, Or.inr (Or.inl rfl)⟩, Or.inl ⟨σ', _, rfl, Th.a, a, b⟩⟩
  · rw [e]
    exact ⟨⟨o9, Or.inr (Or.inr rfl)⟩, Or.inl ⟨σ', _, rfl, Th.b, a, b⟩⟩
  · rw [e]
    exact ⟨⟨o9, Or.inl rfl⟩, Or.inr ⟨σ', v, w', f', rfl, a, b⟩⟩
end RUNZ
