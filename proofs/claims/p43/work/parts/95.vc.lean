/-! what a changing call is told and what it does, on the class's side alone -/
section VC
def Vc (σ : St) (cl : St × Int32) (okC a1 a2 a3 P : Prop) : Prop := okC ∧ ((cl = (σ, 0) ∧ P) ∨ (cl = (σ, -1) ∧ a1) ∨ (cl = (σ, -2) ∧ a2) ∨ ∃ k v, ¬ k = 0 ∧ ¬ k = -1 ∧ ¬ k = -2 ∧ cl = (setI (setI σ 1 1 k) 1 2 v, k) ∧ a3)
def Dc (w : Nat → Int32) (f : Nat → UInt32) (act : St → St × Int32) (okA : St → Prop) : Prop := ∀ σ, Off σ 2 w f → okA σ ∧ ∃ σ' v w' f', act σ = (σ', v) ∧ Off σ' 2 w' f' ∧ Inv w' f' ∧ Kp (OK1 2) σ σ'
theorem Vc.snd {σ : St} {cl : St × Int32} {okC a1 a2 a3 P : Prop} (V : Vc σ cl okC a1 a2 a3 P) (h : cl.2 = 0) : cl = (σ, 0) := by
  obtain ⟨-, hV⟩ := V
  rcases hV with ⟨c1, -⟩ | ⟨c1, -⟩ | ⟨c1, -⟩ | ⟨k, v, k0, -, -, c1, -⟩
  · exact c1
  · rw [c1] at h; exact absurd h (show ¬ (-1 : Int32) = 0 by decide)
  · rw [c1] at h; exact absurd h (show ¬ (-2 : Int32) = 0 by decide)
  · rw [c1] at h; exact absurd h k0
variable {σ : St} {w : Nat → Int32} {f : Nat → UInt32}
theorem cl_refuse2 (σ : St) (k v : Int32) : f_X1_refuse σ k v = (setI (setI σ 1 1 k) 1 2 v, k) := rfl
abbrev PLe (w : Nat → Int32) (f : Nat → UInt32) (x1 x2 x3 x4 : Int32) : Prop := ∃ a b k x, x1 = nI a ∧ x2 = nI b ∧ x3 = nI k ∧ x4 = nI x ∧ b < 6 ∧ cnt w < 20 ∧ x < 8 ∧ k < 41 ∧ (cw k).toNat ≤ (f x).toNat
theorem vc_letter (hO : Off σ 2 w f) (hI : Inv w f) (x1 x2 x3 x4 : Int32) : Vc σ (f_X1_mayWrite σ x1 x2 x3 x4) (ok_X1_mayWrite σ x1 x2 x3 x4) True True True (PLe w f x1 x2 x3 x4) := by
  have hn : σ.1 6 8 = nI (cnt w) := hO.n hI
  have hcr := cl_hasCray hO hI x4
  have c8 := cray8 hI
  have hcs := hasB_cases x4 (n := (w 1).toNatClampNeg) (by omega)
  refine ⟨⟨fun h1 => ⟨fun h2 => ⟨fun h3 => ⟨fun h4 => ?_, fun _ => trivial⟩, fun _ => trivial⟩, fun _ => trivial⟩, fun _ => trivial⟩, ?_⟩
  · rw [hcr] at h3
    rcases hcs with ⟨-, x, hx, rfl⟩ | q
    · obtain ⟨k, rfl, k1, k2⟩ := ir_nI (a := 1) (b := 40) (by decide) (by decide) h4
      rw [bndP_eq]
      exact ⟨fun _ => ⟨vp_in_nI (by omega) (by decide), (cw_ok (by omega)).1⟩, fun _ => trivial⟩
    · rw [q] at h3; cases h3
  rcases child_cases x1 with ⟨c1, a, ha, rfl⟩ | c1
  · rcases child_cases x2 with ⟨c2, b, hb, rfl⟩ | c2
    · rcases hcs with ⟨c3, x, hx, rfl⟩ | c3
      · have hcx : (nI x).toNatClampNeg = x := nI_clamp (by omega)
        cases c4 : f_X9_inRange x3 1 40 with
        | true =>
          obtain ⟨k, rfl, k1, k2⟩ := ir_nI (a := 1) (b := 40) (by decide) (by decide) c4
          have hck : f_X9_crayonNeeded (nI k) = cw k := rfl
          have e4 : σ.2.1 4 x = f x := hO.cray (k := x) (by omega)
          have hP1 := lb_p (hI.lens (k := x) (by omega))
          have hP2 := cw_b (k := k) (by omega)
          have n10 : ¬ (1 : Int32) = 0 := by decide
          have n20 : ¬ (2 : Int32) = 0 := by decide
          rcases n20_cases hI with ⟨d1, d2, d3⟩ | ⟨d1, d3⟩
          · by_cases e : nI a = nI b
            · exact Or.inr (Or.inr (Or.inr ⟨2, nI a, by decide, by decide, by decide, by simp [f_X1_mayWrite, f_X1_mayMake, bnd_eq, c1, c2, hcr, c3, c4, hn, d1, e, cl_refuse2, n20], trivial⟩))
            · by_cases q : (cw k).toNat ≤ (f x).toNat
              · refine Or.inl ⟨?_, ⟨a, b, k, x, rfl, rfl, rfl, rfl, hb, d2, by omega, by omega, q⟩⟩
                have z := (fl_ge0 hP1 hP2 CmpOp.g).mpr q
                simp [f_X1_mayWrite, f_X1_mayMake, bnd_eq, c1, c2, hcr, c3, c4, hn, d1, e, hcx, e4, hck, z]
              · refine Or.inr (Or.inr (Or.inr ⟨3, nI x, by decide, by decide, by decide, ?_, trivial⟩))
                have z : ¬ 0 ≤ Op.cmpValue (FP.fcmp (f x) (cw k)) CmpOp.g := fun z => q ((fl_ge0 hP1 hP2 CmpOp.g).mp z)
                simp only [f_X1_mayWrite, f_X1_mayMake, bnd_eq, c1, c2, hcr, c3, c4, hn, d1, e, hcx, e4, hck, z, cl_refuse2, if_true, if_false]
          · exact Or.inr (Or.inr (Or.inr ⟨1, 20, by decide, by decide, by decide, by simp [f_X1_mayWrite, f_X1_mayMake, bnd_eq, c1, c2, hcr, c3, c4, hn, d1, cl_refuse2, n10], trivial⟩))
        | false => exact Or.inr (Or.inr (Or.inl ⟨by simp [f_X1_mayWrite, c1, c2, hcr, c3, c4], trivial⟩))
      · exact Or.inr (Or.inl ⟨by simp [f_X1_mayWrite, c1, c2, hcr, c3], trivial⟩)
    · exact Or.inr (Or.inl ⟨by simp [f_X1_mayWrite, c1, c2], trivial⟩)
  · exact Or.inr (Or.inl ⟨by simp [f_X1_mayWrite, c1], trivial⟩)
theorem dc_letter (hI : Inv w f) {x1 x2 x3 x4 : Int32} (P : PLe w f x1 x2 x3 x4) : Dc w f (fun q => f_X6_writeLetter q 2 x1 x2 x3 x4) (fun q => ok_X6_writeLetter q 2 x1 x2 x3 x4) := by
  obtain ⟨a, b, k, x, rfl, rfl, rfl, rfl, hb, hl, hx, hk, hle⟩ := P
  intro τ hO
  obtain ⟨a1, σ1, a2, a3, a4⟩ := cl_write hO hI (nI a) (nI b) hl hx hk hle
  exact ⟨a1, σ1, _, _, _, a2, a3, hI.write hl hb hx hk hle, a4⟩
abbrev PPa (w : Nat → Int32) (f : Nat → UInt32) (x2 x3 x4 x5 : Int32) : Prop := ∃ b x y z, x2 = nI b ∧ x3 = nI x ∧ x4 = nI y ∧ x5 = nI z ∧ b < 6 ∧ cnt w < 20 ∧ x < 10 ∧ y < 10 ∧ z < 10 ∧ (sw x y z).toNat ≤ (f 13).toNat
theorem vc_parcel (hO : Off σ 2 w f) (hI : Inv w f) (x1 x2 x3 x4 x5 : Int32) : Vc σ (f_X1_mayWrap σ x1 x2 x3 x4 x5) (ok_X1_mayWrap σ x1 x2 x3 x4 x5) True True True (PPa w f x2 x3 x4 x5) := by
  have hn : σ.1 6 8 = nI (cnt w) := hO.n hI
  have e4 : σ.2.1 3 4 = f 13 := hO.1.2.2.1
  refine ⟨⟨fun h1 => ⟨fun h2 => ⟨fun h3 => ?_, fun _ => trivial⟩, fun _ => trivial⟩, fun _ => trivial⟩, ?_⟩
  · obtain ⟨x, y, z, rfl, rfl, rfl, hx, hy, hz, -⟩ := sides h3
    rw [bndP_eq]
    exact ⟨fun _ => (sw_ok hx hy hz).1, fun _ => trivial⟩
  rcases child_cases x1 with ⟨c1, a, ha, rfl⟩ | c1
  · rcases child_cases x2 with ⟨c2, b, hb, rfl⟩ | c2
    · cases c3 : f_X9_areSides x3 x4 x5 with
      | true =>
        obtain ⟨x, y, z, rfl, rfl, rfl, hx, hy, hz, -⟩ := sides c3
        have hP1 := me_p hI
        have hP2 := sw_p hx hy hz
        have n10 : ¬ (1 : Int32) = 0 := by decide
        have n20 : ¬ (2 : Int32) = 0 := by decide
        rcases n20_cases hI with ⟨d1, d2, d3⟩ | ⟨d1, d3⟩
        · by_cases e : nI a = nI b
          · exact Or.inr (Or.inr (Or.inr ⟨2, nI a, by decide, by decide, by decide, by simp [f_X1_mayWrap, f_X1_mayMake, bnd_eq, c1, c2, c3, hn, d1, e, cl_refuse2, n20], trivial⟩))
          · by_cases q : (sw x y z).toNat ≤ (f 13).toNat
            · refine Or.inl ⟨?_, ⟨b, x, y, z, rfl, rfl, rfl, rfl, hb, d2, hx, hy, hz, q⟩⟩
              have r := (fl_ge0 hP1 hP2 CmpOp.g).mpr q
              simp [f_X1_mayWrap, f_X1_mayMake, bnd_eq, c1, c2, c3, hn, d1, e, e4, (sw_eq x y z).1, r]
            · refine Or.inr (Or.inr (Or.inr ⟨4, FP.f2i (f 13), by decide, by decide, by decide, ?_, trivial⟩))
              have r : ¬ 0 ≤ Op.cmpValue (FP.fcmp (f 13) (sw x y z)) CmpOp.g := fun r => q ((fl_ge0 hP1 hP2 CmpOp.g).mp r)
              simp only [f_X1_mayWrap, f_X1_mayMake, bnd_eq, c1, c2, c3, hn, d1, e, e4, (sw_eq x y z).1, r, cl_refuse2, if_true, if_false]
        · exact Or.inr (Or.inr (Or.inr ⟨1, 20, by decide, by decide, by decide, by simp [f_X1_mayWrap, f_X1_mayMake, bnd_eq, c1, c2, c3, hn, d1, cl_refuse2, n10], trivial⟩))
      | false => exact Or.inr (Or.inr (Or.inl ⟨by simp [f_X1_mayWrap, c1, c2, c3], trivial⟩))
    · exact Or.inr (Or.inl ⟨by simp [f_X1_mayWrap, c1, c2], trivial⟩)
  · exact Or.inr (Or.inl ⟨by simp [f_X1_mayWrap, c1], trivial⟩)
theorem dc_parcel (hI : Inv w f) {x1 x2 x3 x4 x5 : Int32} (P : PPa w f x2 x3 x4 x5) : Dc w f (fun q => f_X6_wrapParcel q 2 x1 x2 x3 x4 x5) (fun q => ok_X6_wrapParcel q 2 x1 x2 x3 x4 x5) := by
  obtain ⟨b, x, y, z, rfl, rfl, rfl, rfl, hb, hl, hx, hy, hz, hle⟩ := P
  intro τ hO
  have hL := fl_sub_le (me_p hI) hle
  obtain ⟨a1, σ1, a2, a3, a4⟩ := cl_wrap hO hI x1 (nI b) hl hx hy hz hle
  exact ⟨a1, σ1, _, _, _, a2, a3, hI.wrap x1 (nI (x + y + z)) hl hb hL, a4⟩
abbrev PSt (w : Nat → Int32) (x1 x2 : Int32) : Prop := ∃ i x, x1 = nI i ∧ x2 = nI x ∧ i < cnt w ∧ x < 5 ∧ it w i 4 = 0
theorem vc_stamp (hO : Off σ 2 w f) (hI : Inv w f) (x1 x2 : Int32) : Vc σ (f_X1_mayStamp σ x1 x2) (ok_X1_mayStamp σ x1 x2) True False True (PSt w x1 x2) := by
  have h20 := hI.n20
  have p5 := pot5 hI
  have hit := cl_hasItem hO hI x1
  have hpo := cl_hasPot hO hI x2
  have c1s := hasB_cases x1 (n := cnt w) (by omega)
  have c2s := hasB_cases x2 (n := (w 3).toNatClampNeg) (by omega)
  rcases c1s with ⟨c1, i, hi, rfl⟩ | c1
  · have hci : (nI i).toNatClampNeg = i := nI_clamp (by omega)
    have hi20 : i < 20 := by omega
    have e5 : σ.1 11 i = it w i 4 := hO.state hi
    have hvi : vp_in (nI i) 20 := vp_in_nI (by omega) (by decide)
    rcases c2s with ⟨c2, x, hx, rfl⟩ | c2
    · have hx5 : x < 5 := by omega
      have hp := cl_print hO hI hx5
      have hp1 : ok_X2_printNow σ 3 (nI x) := hp.1
      have hp2 : f_X2_printNow σ 3 (nI x) = f_X9_printOf (f (8 + x)) (f 14) := hp.2
      have hP := fl_pr (hI.firm hx5) hI.ink
      have hs := strong_iff hP
      refine ⟨⟨fun h1 => ⟨fun h2 => ⟨hvi, fun _ => hp1, fun _ => hvi⟩, fun _ => trivial⟩, fun _ => trivial⟩, ?_⟩
      by_cases q0 : it w i 4 = 0
      · by_cases q : 1050253722 ≤ (f_X9_printOf (f (8 + x)) (f 14)).toNat
        · refine Or.inl ⟨?_, ⟨i, x, rfl, rfl, hi, hx5, q0⟩⟩
          simp [f_X1_mayStamp, hit, c1, hpo, c2, hci, e5, q0, hp2, hs, q]
        · refine Or.inr (Or.inr (Or.inr ⟨6, nI x, by decide, by decide, by decide, ?_, trivial⟩))
          simp [f_X1_mayStamp, hit, c1, hpo, c2, hci, e5, q0, hp2, hs, q, bnd_eq, cl_refuse2]
      · refine Or.inr (Or.inr (Or.inr ⟨5, it w i 4, by decide, by decide, by decide, ?_, trivial⟩))
        simp [f_X1_mayStamp, hit, c1, hpo, c2, hci, e5, q0, bnd_eq, cl_refuse2]
    · refine ⟨by simp [ok_X1_mayStamp, hit, c1, hpo, c2], Or.inr (Or.inl ⟨?_, trivial⟩)⟩
      simp [f_X1_mayStamp, hit, c1, hpo, c2]
  · refine ⟨by simp [ok_X1_mayStamp, hit, c1], Or.inr (Or.inl ⟨?_, trivial⟩)⟩
    simp [f_X1_mayStamp, hit, c1]
theorem dc_stamp (hI : Inv w f) {x1 x2 : Int32} (P : PSt w x1 x2) :
    Dc w f (fun q => ((f_X6_stampItem q 2 x1 x2).1, f_X0_ofFloat (f_X6_stampItem q 2 x1 x2).2)) (fun q => ok_X6_stampItem q 2 x1 x2 ∧ ok_X0_ofFloat (f_X6_stampItem q 2 x1 x2).2) := by
  obtain ⟨i, x, rfl, rfl, hi, hx, h0⟩ := P
  intro τ hO
  have hP := fl_pr (hI.firm hx) hI.ink
  obtain ⟨a1, σ1, a2, a3, a4⟩ := cl_stamp hO hI hi hx h0
  exact ⟨⟨a1, by rw [a2]; exact (b32_of hP).1⟩, σ1, _, _, _, by dsimp only; rw [a2], a3, hI.stamp hi hx h0, a4⟩
theorem dc_stampO (hI : Inv w f) {x1 x2 : Int32} (P : PSt w x1 x2) :
    Dc w f (fun q => ((f_X6_stampItem q 2 x1 x2).1, 0)) (fun q => ok_X6_stampItem q 2 x1 x2) := by
  obtain ⟨i, x, rfl, rfl, hi, hx, h0⟩ := P
  intro τ hO
  obtain ⟨a1, σ1, a2, a3, a4⟩ := cl_stamp hO hI hi hx h0
  exact ⟨a1, σ1, _, _, _, by dsimp only; rw [a2], a3, hI.stamp hi hx h0, a4⟩
theorem vc_shelve (hO : Off σ 2 w f) (hI : Inv w f) (x1 x2 : Int32) : Vc σ (f_X1_mayShelve σ x1 x2) (ok_X1_mayShelve σ x1 x2) True False True (PSh w x1 x2) := by
  have h20 := hI.n20
  have hit := cl_hasItem hO hI x1
  have c1s := hasB_cases x1 (n := cnt w) (by omega)
  rcases c1s with ⟨c1, i, hi, rfl⟩ | c1
  · have hci : (nI i).toNatClampNeg = i := nI_clamp (by omega)
    have hi20 : i < 20 := by omega
    have e5 : σ.1 11 i = it w i 4 := hO.state hi
    have e3 : σ.1 9 i = it w i 2 := hO.to_ hi
    have e1 : σ.1 7 i = it w i 0 := hO.kind hi
    have hvi : vp_in (nI i) 20 := vp_in_nI (by omega) (by decide)
    obtain ⟨⟨r0, hr0, er0⟩, ⟨c, hc, ec⟩, -⟩ := hI.2.1 i hi
    rcases row_cases x2 with ⟨c2, r, hr, rfl⟩ | c2
    · have hl := cl_lowest hO hI hc hr
      have hl1 : ok_X8_lowestFree σ 15 (nI c) (nI r) := hl.1
      have hl2 : f_X8_lowestFree σ 15 (nI c) (nI r) = lof w c r := hl.2
      refine ⟨⟨fun h1 => ⟨fun h2 => ⟨hvi, fun _ => ⟨hvi, by rw [hci, e3, ec]; exact hl1, fun _ => trivial, fun _ => hvi⟩, fun _ => hvi⟩, fun _ => trivial⟩, fun _ => trivial⟩, ?_⟩
      by_cases q1 : it w i 4 = 1
      · by_cases q2 : lof w c r = -1
        · refine Or.inr (Or.inr (Or.inr ⟨8, nI r, by decide, by decide, by decide, ?_, trivial⟩))
          simp only [f_X1_mayShelve, hit, c1, c2, hci, e5, e3, q1, ec, hl2, q2, bnd_eq, cl_refuse2, if_true]
        · by_cases q3 : it w i 0 = nI r
          · refine Or.inl ⟨?_, ⟨i, c, r, rfl, rfl, hi, hc, hr, q1, ec, q3, q2⟩⟩
            simp only [f_X1_mayShelve, hit, c1, c2, hci, e5, e3, e1, q1, ec, hl2, q2, q3, bnd_eq, cl_refuse2, if_true, if_false]
          · refine Or.inr (Or.inr (Or.inr ⟨9, nI r, by decide, by decide, by decide, ?_, trivial⟩))
            simp only [f_X1_mayShelve, hit, c1, c2, hci, e5, e3, e1, q1, ec, hl2, q2, q3, bnd_eq, cl_refuse2, if_true, if_false]
      · refine Or.inr (Or.inr (Or.inr ⟨7, it w i 4, by decide, by decide, by decide, ?_, trivial⟩))
        simp only [f_X1_mayShelve, hit, c1, c2, hci, e5, q1, bnd_eq, cl_refuse2, if_true, if_false]
    · refine ⟨by simp [ok_X1_mayShelve, hit, c1, c2], Or.inr (Or.inl ⟨?_, trivial⟩)⟩
      simp [f_X1_mayShelve, hit, c1, c2]
  · refine ⟨by simp [ok_X1_mayShelve, hit, c1], Or.inr (Or.inl ⟨?_, trivial⟩)⟩
    simp [f_X1_mayShelve, hit, c1]
theorem dc_shelve (hI : Inv w f) {x1 x2 : Int32} (P : PSh w x1 x2) : Dc w f (fun q => f_X6_shelveItem q 2 x1 x2) (fun q => ok_X6_shelveItem q 2 x1 x2) := by
  obtain ⟨i, c, r, rfl, rfl, hi, hc, hr, h1, h2, h0, hf⟩ := P
  intro τ hO
  obtain ⟨a1, σ1, b, b1, b2, b3, a2, a3, a4, a5⟩ := cl_shelve hO hI hi hc hr h1 h2 h0 hf
  exact ⟨a1, σ1, _, _, _, a2, a3, a4, a5⟩
theorem vc_take (hO : Off σ 2 w f) (hI : Inv w f) (x1 : Int32) : Vc σ (f_X1_mayTake σ x1) (ok_X1_mayTake σ x1) True False True (∃ c, c < 6 ∧ x1 = nI c) := by
  have h20 := hI.n20
  rcases child_cases x1 with ⟨c1, c, hc, rfl⟩ | c1
  · have hb := cl_isBare hO hI hc
    have hb1 : ok_X8_isBare σ 15 (nI c) := hb.1
    have hb2 : f_X8_isBare σ 15 (nI c) = decide (cn (onS w c) (cnt w) = 0) := hb.2
    refine ⟨⟨fun _ => hb1, fun _ => trivial⟩, ?_⟩
    by_cases q : cn (onS w c) (cnt w) = 0
    · refine Or.inr (Or.inr (Or.inr ⟨10, nI c, by decide, by decide, by decide, ?_, trivial⟩))
      simp [f_X1_mayTake, c1, hb2, q, bnd_eq, cl_refuse2]
    · refine Or.inl ⟨?_, ⟨c, hc, rfl⟩⟩
      simp [f_X1_mayTake, c1, hb2, q]
  · refine ⟨by simp [ok_X1_mayTake, c1], Or.inr (Or.inl ⟨?_, trivial⟩)⟩
    simp [f_X1_mayTake, c1]
theorem dc_take (hI : Inv w f) {x1 : Int32} (P : ∃ c, c < 6 ∧ x1 = nI c) : Dc w f (fun q => f_X6_takeAll q 2 x1) (fun q => ok_X6_takeAll q 2 x1) := by
  obtain ⟨c, hc, rfl⟩ := P
  intro τ hO
  obtain ⟨a1, σ1, w1, a2, a3, a4, a5, a6, a7⟩ := cl_takeAll hO hI hc
  exact ⟨a1, σ1, _, _, _, a2, a3, a4, a7⟩
theorem vc_feed (hO : Off σ 2 w f) (hI : Inv w f) (x1 : Int32) : Vc σ (f_X1_mayFeed σ x1) True False True True (PFd w x1) := by
  obtain ⟨s, hs, es⟩ := hI.1.2.2.2.2
  have e4 : σ.1 18 1 = nI s := hO.2.2.2.2.1.trans es
  refine ⟨trivial, ?_⟩
  cases c1 : f_X9_inRange x1 1 9 with
  | true =>
    obtain ⟨k, rfl, k1, k2⟩ := ir_nI (a := 1) (b := 9) (by decide) (by decide) c1
    rcases Nat.lt_or_ge s k with q | q
    · have r : ¬ nI k ≤ nI s := nI_ge q (by omega)
      refine Or.inr (Or.inr (Or.inr ⟨11, nI s, by decide, by decide, by decide, ?_, trivial⟩))
      simp only [f_X1_mayFeed, c1, e4, r, bnd_eq, cl_refuse2, if_true, if_false]
    · have r : nI k ≤ nI s := nI_le q (by omega)
      refine Or.inl ⟨?_, ⟨k, s, rfl, k2, q, hs, es⟩⟩
      simp only [f_X1_mayFeed, c1, e4, r, if_true]
  | false =>
    refine Or.inr (Or.inr (Or.inl ⟨?_, trivial⟩))
    simp [f_X1_mayFeed, c1]
theorem feed_inv (hI : Inv w f) {k s : Nat} (hks : k ≤ s) (hs : s ≤ 50) (es : w 4 = nI s) : Inv (upd (upd w 4 (w 4 - nI k)) 5 (w 5 + nI k)) (vf_upd f 15 (hfI k (f 15))) :=
  Inv.setl (Inv.setl (hI.setf (fun _ => by omega) (fun _ _ => by omega) (fun _ => by omega) (fun _ => by omega) (fun _ => hfI_b k hI.hung) (fun _ => by omega)) (by decide) (by decide) (fun q => by omega) (fun q => by omega) (fun _ => ⟨s - k, by omega, by rw [es, nI_sub' hks (by omega)]⟩)) (by decide) (by decide) (fun q => by omega) (fun q => by omega) (fun q => by omega)
theorem dc_feed (hI : Inv w f) {x1 : Int32} (P : PFd w x1) : Dc w f (fun q => (f_X3_eatSnacks q 18 x1, f_X0_ofFloat ((f_X3_eatSnacks q 18 x1).2.1 18 0))) (fun q => ok_X3_eatSnacks q 18 x1 ∧ ok_X0_ofFloat ((f_X3_eatSnacks q 18 x1).2.1 18 0)) := by
  obtain ⟨k, s, rfl, hk, hks, hs, es⟩ := P
  intro τ hO
  have hH := hI.hung
  have hB := hfI_b k hH
  obtain ⟨a1, a2, a3⟩ := cl_feed (o := 2) hk k 2000 0 τ w f (by omega) (Nat.zero_add _) hO hH
  have a1' : ok_X3_eatSnacks τ 18 (nI k) := a1
  have a2' : Off (f_X3_eatSnacks τ 18 (nI k)) 2 (upd (upd w 4 (w 4 - nI k)) 5 (w 5 + nI k)) (vf_upd f 15 (hfI k (f 15))) := a2
  have a3' : Kp (OK1 2) τ (f_X3_eatSnacks τ 18 (nI k)) := a3
  have e0 : (f_X3_eatSnacks τ 18 (nI k)).2.1 18 0 = hfI k (f 15) := by
    have := a2'.2.2.2.1
    rw [ve rfl] at this
    exact this
  exact ⟨⟨a1', by rw [e0]; exact (b32_of (hb_p hB)).1⟩, f_X3_eatSnacks τ 18 (nI k), _, _, _, rfl, a2', feed_inv hI hks hs es, a3'⟩
theorem dc_feedO (hI : Inv w f) {x1 : Int32} (P : PFd w x1) : Dc w f (fun q => (f_X3_eatSnacks q 18 x1, 0)) (fun q => ok_X3_eatSnacks q 18 x1) := by
  obtain ⟨k, s, rfl, hk, hks, hs, es⟩ := P
  intro τ hO
  obtain ⟨a1, a2, a3⟩ := cl_feed (o := 2) hk k 2000 0 τ w f (by omega) (Nat.zero_add _) hO hI.hung
  exact ⟨a1, f_X3_eatSnacks τ 18 (nI k), _, _, _, rfl, a2, feed_inv hI hks hs es, a3⟩
theorem vc_pass (σ : St) (x1 : Int32) : Vc σ (σ, f_X1_mayPass x1) True False True False (∃ k, x1 = nI k ∧ k ≤ 60) := by
  refine ⟨trivial, ?_⟩
  unfold f_X1_mayPass
  cases c1 : f_X9_inRange x1 1 60 with
  | true =>
    obtain ⟨k, rfl, k1, k2⟩ := ir_nI (a := 1) (b := 60) (by decide) (by decide) c1
    exact Or.inl ⟨rfl, ⟨k, rfl, k2⟩⟩
  | false => exact Or.inr (Or.inr (Or.inl ⟨rfl, trivial⟩))
theorem dc_pass (hI : Inv w f) {x1 : Int32} (P : ∃ k, x1 = nI k ∧ k ≤ 60) : Dc w f (fun q => f_X6_passHours q 2 x1) (fun q => ok_X6_passHours q 2 x1) := by
  obtain ⟨k, rfl, k2⟩ := P
  intro τ hO
  obtain ⟨a1, σ1, a2, a3, a4⟩ := cl_hours2 (N := k) k2 k 2000 0 0 τ w f (by omega) (Nat.zero_add _) hO hI
  exact ⟨a1, σ1, _, _, _, a2, a3, hr_I _ _ _ hI, a4⟩
theorem vc_crayon (hO : Off σ 2 w f) (hI : Inv w f) (x1 : Int32) : Vc σ (f_X1_mayAddCrayon σ x1) True False True True (∃ k p, x1 = nI k ∧ k ≤ 120 ∧ p < 8 ∧ w 1 = nI p) := by
  obtain ⟨p, hp, ep⟩ := hI.crays
  have e0 : σ.1 3 2 = nI p := hO.1.1.trans ep
  refine ⟨trivial, ?_⟩
  by_cases hr : f_X9_inRange x1 10 120 = true
  · obtain ⟨k, e1, k1, k2⟩ := ir_nI (a := 10) (b := 120) (by decide) (by decide) hr
    rcases nI_lt8 hp (by decide) with ⟨a, b, c⟩ | ⟨a, b⟩
    · refine Or.inl ⟨?_, ⟨k, p, e1, k2, b, ep⟩⟩
      unfold f_X1_mayAddCrayon
      rw [hr, if_pos rfl, e0]
      exact if_pos a
    · refine Or.inr (Or.inr (Or.inr ⟨1, 8, by decide, by decide, by decide, ?_, trivial⟩))
      unfold f_X1_mayAddCrayon
      rw [hr, if_pos rfl, e0]
      exact if_neg a
  · refine Or.inr (Or.inr (Or.inl ⟨?_, trivial⟩))
    unfold f_X1_mayAddCrayon
    exact if_neg hr
theorem dc_crayon (hI : Inv w f) {x1 : Int32} (P : ∃ k p, x1 = nI k ∧ k ≤ 120 ∧ p < 8 ∧ w 1 = nI p) : Dc w f (fun q => f_X2_addCrayon q 3 (FP.fmul (1036831949 : UInt32) (FP.i2f x1))) (fun q => vf_n32 (FP.fmul (1036831949 : UInt32) (FP.i2f x1)) ∧ ok_X2_addCrayon q 3 (FP.fmul (1036831949 : UInt32) (FP.i2f x1))) := by
  obtain ⟨k, p, e1, k2, k3, ep⟩ := P
  intro τ hO
  have hL : LB (tw k) := tw_tab k (by omega)
  have hn : vf_n32 (tw k) := fl_n (Nat.le_of_lt (lb_p hL))
  have hcp : (nI p).toNatClampNeg = p := nI_clamp (by omega)
  have et : FP.fmul (1036831949 : UInt32) (FP.i2f x1) = tw k := by rw [e1]; rfl
  have e0 : τ.1 3 2 = nI p := hO.1.1.trans ep
  refine ⟨⟨by rw [et]; exact hn, by unfold ok_X2_addCrayon; rw [e0]; exact vp_in_nI k3 (by decide)⟩, setI (setF τ 4 p (tw k)) 3 2 (nI p + 1), nI p, _, _, ?_, (hO.P1 k3).P7, (hI.setf (fun _ => hL) (fun _ _ => by omega) (fun _ => by omega) (fun _ => by omega) (fun _ => by omega) (fun _ => by omega)).setl (by decide) (by decide) (fun _ => ⟨p + 1, by omega, nI_1 p⟩) (fun q => by omega) (fun q => by omega), kp_setI (kp_setF Kp.rf (fun q => q ⟨by omega, by omega⟩)) (fun q => q ⟨by omega, by omega⟩)⟩
  show f_X2_addCrayon τ 3 (FP.fmul (1036831949 : UInt32) (FP.i2f x1)) = _
  unfold f_X2_addCrayon
  simp only [bnd]
  have e2 : (setF τ (3 + 1) (nI p).toNatClampNeg (FP.fmul (1036831949 : UInt32) (FP.i2f x1))).1 3 2 = nI p := e0
  rw [e0, e2, et, hcp]
theorem vc_potato (hO : Off σ 2 w f) (hI : Inv w f) : Vc σ (f_X1_mayCut σ) True False False True (∃ p, p < 5 ∧ w 3 = nI p) := by
  obtain ⟨p, hp, ep, -⟩ := hI.pots
  have e0 : σ.1 3 3 = nI p := hO.1.2.1.trans ep
  refine ⟨trivial, ?_⟩
  rcases nI_lt8 hp (by decide) with ⟨a, b, c⟩ | ⟨a, b⟩
  · refine Or.inl ⟨?_, p, b, ep⟩
    unfold f_X1_mayCut
    rw [e0]
    exact if_pos a
  · refine Or.inr (Or.inr (Or.inr ⟨1, 5, by decide, by decide, by decide, ?_, trivial⟩))
    unfold f_X1_mayCut
    rw [e0]
    exact if_neg a
theorem dc_potato (hI : Inv w f) (P : ∃ p, p < 5 ∧ w 3 = nI p) : Dc w f (fun q => f_X2_addPotato q 3) (fun q => ok_X2_addPotato q 3) := by
  obtain ⟨p, k3, ep⟩ := P
  intro τ hO
  have hcp : (nI p).toNatClampNeg = p := nI_clamp (by omega)
  have hF : FB FP.fconst1 := by decide
  have e0 : τ.1 3 3 = nI p := hO.1.2.1.trans ep
  refine ⟨by dsimp only; unfold ok_X2_addPotato; rw [e0]; exact vp_in_nI k3 (by decide), setI (setF τ 5 p FP.fconst1) 3 3 (nI p + 1), nI p, _, _, ?_, (hO.P2 k3).P8, (hI.setf (fun _ => by omega) (fun _ _ => hF) (fun _ => by omega) (fun _ => by omega) (fun _ => by omega) (fun _ => by omega)).setl (by decide) (by decide) (fun q => by omega) (fun _ => ⟨p + 1, by omega, nI_1 p⟩) (fun q => by omega), kp_setI (kp_setF Kp.rf (fun q => q ⟨by omega, by omega⟩)) (fun q => q ⟨by omega, by omega⟩)⟩
  show f_X2_addPotato τ 3 = _
  unfold f_X2_addPotato
  simp only [bnd]
  have e2 : (setF τ (3 + 2) (nI p).toNatClampNeg FP.fconst1).1 3 3 = nI p := e0
  rw [e0, e2, hcp]
theorem dc_string (hI : Inv w f) {x1 : Int32} (hr : f_X9_inRange x1 1 20 = true) : Dc w f (fun q => (f_X2_addString q 3 (FP.i2f x1), f_X0_ofFloat ((f_X2_addString q 3 (FP.i2f x1)).2.1 3 4))) (fun q => ok_X2_addString q 3 (FP.i2f x1) ∧ ok_X0_ofFloat ((f_X2_addString q 3 (FP.i2f x1)).2.1 3 4)) := by
  intro τ hO
  obtain ⟨k, e1, k1, k2⟩ := ir_nI (a := 1) (b := 20) (by decide) (by decide) hr
  have et : FP.i2f x1 = mw k := by rw [e1]; rfl
  have hme := hI.metres
  have hp := mw_p (k := k) (by omega) hme
  have hc : ∀ a, Op.cmpValue (FP.fcmp (FP.fadd (f 13) (mw k)) 1120272384) a ≤ 0 ↔ (FP.fadd (f 13) (mw k)).toNat ≤ 1120272384 := fun a => fl_le0 hp (by decide) a
  have e4 : τ.2.1 3 4 = f 13 := hO.1.2.2.1
  rw [et]
  by_cases q : (FP.fadd (f 13) (mw k)).toNat ≤ 1120272384
  · have ea : f_X2_addString τ 3 (mw k) = setF τ 3 4 (FP.fadd (f 13) (mw k)) := by
      unfold f_X2_addString
      rw [e4, if_pos ((hc _).mpr q)]
      rfl
    have eb : (setF τ 3 4 (FP.fadd (f 13) (mw k))).2.1 3 4 = FP.fadd (f 13) (mw k) := by rw [q2e rfl, ve rfl]
    refine ⟨?_, setF τ 3 4 (FP.fadd (f 13) (mw k)), _, w, vf_upd f 13 (FP.fadd (f 13) (mw k)), by dsimp only; rw [ea], hO.P3, hI.setf (fun _ => by omega) (fun _ _ => by omega) (fun _ => q) (fun _ => by omega) (fun _ => by omega) (fun _ => by omega), kp_setF Kp.rf (fun q => q ⟨by omega, by omega⟩)⟩
    dsimp only
    rw [ea, eb]
    unfold ok_X2_addString
    rw [e4]
    exact ⟨fl_n (Nat.le_of_lt hp), (b32_of hp).1⟩
  · have ea : f_X2_addString τ 3 (mw k) = setF τ 3 4 1120272384 := by
      unfold f_X2_addString
      rw [e4, if_neg (fun z => q ((hc _).mp z))]
      rfl
    have eb : (setF τ 3 4 1120272384).2.1 3 4 = 1120272384 := by rw [q2e rfl, ve rfl]
    have hP : (1120272384 : UInt32).toNat < 2139095040 := by decide
    refine ⟨?_, setF τ 3 4 1120272384, _, w, vf_upd f 13 1120272384, by dsimp only; rw [ea], hO.P3, hI.setf (fun _ => by omega) (fun _ _ => by omega) (fun _ => by decide) (fun _ => by omega) (fun _ => by omega) (fun _ => by omega), kp_setF Kp.rf (fun q => q ⟨by omega, by omega⟩)⟩
    dsimp only
    rw [ea, eb]
    unfold ok_X2_addString
    rw [e4]
    exact ⟨fl_n (Nat.le_of_lt hp), (b32_of hP).1⟩
theorem dc_ink (hI : Inv w f) {x1 : Int32} (hr : f_X9_inRange x1 1 50 = true) : Dc w f (fun q => (f_X2_addInk q 3 (FP.fmul (1036831949 : UInt32) (FP.i2f x1)), f_X0_ofFloat ((f_X2_addInk q 3 (FP.fmul (1036831949 : UInt32) (FP.i2f x1))).2.1 3 5))) (fun q => vf_n32 (FP.fmul (1036831949 : UInt32) (FP.i2f x1)) ∧ ok_X2_addInk q 3 (FP.fmul (1036831949 : UInt32) (FP.i2f x1)) ∧ ok_X0_ofFloat ((f_X2_addInk q 3 (FP.fmul (1036831949 : UInt32) (FP.i2f x1))).2.1 3 5)) := by
  intro τ hO
  obtain ⟨k, e1, k1, k2⟩ := ir_nI (a := 1) (b := 50) (by decide) (by decide) hr
  have et : FP.fmul (1036831949 : UInt32) (FP.i2f x1) = tw k := by rw [e1]; rfl
  have hme := hI.ink
  have hnt : vf_n32 (tw k) := fl_n (by have := tw_tab k (by omega); omega)
  have hp := iw_p (k := k) (by omega) hme
  have hc : ∀ a, Op.cmpValue (FP.fcmp (FP.fadd (f 14) (tw k)) 1091567616) a ≤ 0 ↔ (FP.fadd (f 14) (tw k)).toNat ≤ 1091567616 := fun a => fl_le0 hp (by decide) a
  have e4 : τ.2.1 3 5 = f 14 := hO.1.2.2.2.1
  rw [et]
  by_cases q : (FP.fadd (f 14) (tw k)).toNat ≤ 1091567616
  · have ea : f_X2_addInk τ 3 (tw k) = setF τ 3 5 (FP.fadd (f 14) (tw k)) := by
      unfold f_X2_addInk
      rw [e4, if_pos ((hc _).mpr q)]
      rfl
    have eb : (setF τ 3 5 (FP.fadd (f 14) (tw k))).2.1 3 5 = FP.fadd (f 14) (tw k) := by rw [q2e rfl, ve rfl]
    refine ⟨?_, setF τ 3 5 (FP.fadd (f 14) (tw k)), _, w, vf_upd f 14 (FP.fadd (f 14) (tw k)), by dsimp only; rw [ea], hO.P4, hI.setf (fun _ => by omega) (fun _ _ => by omega) (fun _ => by omega) (fun _ => q) (fun _ => by omega) (fun _ => by omega), kp_setF Kp.rf (fun q => q ⟨by omega, by omega⟩)⟩
    dsimp only
    rw [ea, eb]
    unfold ok_X2_addInk
    rw [e4]
    exact ⟨hnt, fl_n (Nat.le_of_lt hp), (b32_of hp).1⟩
  · have ea : f_X2_addInk τ 3 (tw k) = setF τ 3 5 1091567616 := by
      unfold f_X2_addInk
      rw [e4, if_neg (fun z => q ((hc _).mp z))]
      rfl
    have eb : (setF τ 3 5 1091567616).2.1 3 5 = 1091567616 := by rw [q2e rfl, ve rfl]
    have hP : (1091567616 : UInt32).toNat < 2139095040 := by decide
    refine ⟨?_, setF τ 3 5 1091567616, _, w, vf_upd f 14 1091567616, by dsimp only; rw [ea], hO.P4, hI.setf (fun _ => by omega) (fun _ _ => by omega) (fun _ => by omega) (fun _ => by decide) (fun _ => by omega) (fun _ => by omega), kp_setF Kp.rf (fun q => q ⟨by omega, by omega⟩)⟩
    dsimp only
    rw [ea, eb]
    unfold ok_X2_addInk
    rw [e4]
    exact ⟨hnt, fl_n (Nat.le_of_lt hp), (b32_of hP).1⟩
theorem dc_snacks (hI : Inv w f) {x1 : Int32} (hr : f_X9_inRange x1 1 20 = true) : Dc w f (fun q => (f_X3_addSnacks q 18 x1, (f_X3_addSnacks q 18 x1).1 18 1)) (fun _ => True) := by
  obtain ⟨s, hs, es⟩ := hI.1.2.2.2.2
  intro τ hO
  obtain ⟨k, e1, k1, k2⟩ := ir_nI (a := 1) (b := 20) (by decide) (by decide) hr
  have e4 : τ.1 18 1 = nI s := hO.2.2.2.2.1.trans es
  have key : ∃ m, m ≤ 50 ∧ f_X3_addSnacks τ 18 x1 = setI τ 18 1 (nI m) := by
    have e50 : (50 : Int32) = nI 50 := rfl
    rw [e1]
    unfold f_X3_addSnacks
    rw [e4, nI_add]
    simp only [bnd]
    rcases Nat.lt_or_ge 50 (s + k) with q | q
    · have h2 : (50 : Int32) < nI (s + k) := by rw [e50]; exact nI_lt q (by omega)
      exact ⟨50, Nat.le_refl _, by rw [if_pos h2, e50]⟩
    · have h2 : ¬ (50 : Int32) < nI (s + k) := by rw [e50]; exact nI_nlt q (by omega)
      exact ⟨s + k, q, by rw [if_neg h2]⟩
  obtain ⟨m, m1, m2⟩ := key
  exact ⟨trivial, setI τ 18 1 (nI m), _, upd w 4 (nI m), f, by dsimp only; rw [m2], hO.P9, hI.setl (by decide) (by decide) (fun q => by omega) (fun q => by omega) (fun _ => ⟨m, m1, rfl⟩), kp_setI Kp.rf (fun q => q ⟨by omega, by omega⟩)⟩
end VC
