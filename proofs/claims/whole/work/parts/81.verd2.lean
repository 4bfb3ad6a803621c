/-! .. parcels, stamps, shelves, takings, feedings -/
section VERD2
variable {σ : St} {w : Nat → Int32} {f : Nat → UInt32}
theorem vd_parcel (hO : Off σ 2 w f) (hI : Inv w f) (x1 x2 x3 x4 x5 : Int32) : Vd σ w f (f_X1_mayWrap σ x1 x2 x3 x4 x5) (ok_X1_mayWrap σ x1 x2 x3 x4 x5) (fun τ => f_X10_notParcel τ x1 x2 x3 x4 x5) (fun τ => ok_X10_notParcel τ x1 x2 x3 x4 x5) 1 2
    (∃ b x y z, x2 = nI b ∧ x3 = nI x ∧ x4 = nI y ∧ x5 = nI z ∧ b < 6 ∧ cnt w < 20 ∧ x < 10 ∧ y < 10 ∧ z < 10 ∧ (sw x y z).toNat ≤ (f 13).toNat) := by
  have hn : σ.1 6 8 = nI (cnt w) := hO.n hI
  have hw2 : w 2 = nI (cnt w) := hI.1.1
  have e4 : σ.2.1 3 4 = f 13 := hO.1.2.2.1
  refine ⟨⟨fun h1 => ⟨fun h2 => ⟨fun h3 => ?_, fun _ => trivial⟩, fun _ => trivial⟩, fun _ => trivial⟩, fun τ hm => ⟨fun h1 => ⟨fun h2 => ⟨fun h3 => ⟨fun _ => trivial, fun _ => ⟨fun _ => trivial, fun _ => ?_⟩⟩, fun _ => trivial⟩, fun _ => trivial⟩, fun _ => trivial⟩, ?_⟩
  · obtain ⟨x, y, z, rfl, rfl, rfl, hx, hy, hz, -⟩ := sides h3
    rw [bndP_eq]
    exact ⟨fun _ => (sw_ok hx hy hz).1, fun _ => trivial⟩
  · obtain ⟨x, y, z, rfl, rfl, rfl, hx, hy, hz, -⟩ := sides h3
    exact (sw_ok hx hy hz).2
  rcases child_cases x1 with ⟨c1, a, ha, rfl⟩ | c1
  · rcases child_cases x2 with ⟨c2, b, hb, rfl⟩ | c2
    · cases c3 : f_X9_areSides x3 x4 x5 with
      | true =>
        obtain ⟨x, y, z, rfl, rfl, rfl, hx, hy, hz, -⟩ := sides c3
        have hP1 := me_p hI
        have hP2 := sw_p hx hy hz
        have n10 : ¬ (1 : Int32) = 0 := by decide
        have n20 : ¬ (2 : Int32) = 0 := by decide
        rcases n20_cases hI with ⟨d1, d2, d3⟩ | ⟨d1, d3⟩
        · by_cases e : nI a = nI b
          · exact Or.inr (Or.inr (Or.inr ⟨2, nI a, by decide, by decide, by decide, by simp [f_X1_mayWrap, f_X1_mayMake, bnd_eq, c1, c2, c3, hn, d1, e, cl_refuse, n20], fun τ hm => by simp [f_X10_notParcel, bnd_eq, isn_ch, isn_sd, c1, c2, c3, hm.1, cl_2, hw2, d3, e, md_isNot]⟩))
          · by_cases q : (sw x y z).toNat ≤ (f 13).toNat
            · refine Or.inl ⟨?_, ⟨b, x, y, z, rfl, rfl, rfl, rfl, hb, d2, hx, hy, hz, q⟩, fun τ hm => ?_⟩
              · have r := (fl_ge0 hP1 hP2 CmpOp.g).mpr q
                simp [f_X1_mayWrap, f_X1_mayMake, bnd_eq, c1, c2, c3, hn, d1, e, e4, (sw_eq x y z).1, r]
              · have r : ¬ Op.cmpValue (FP.fcmp (f 13) (sw x y z)) CmpOp.l < 0 := fun r => by have := (fl_lt0 hP1 hP2 CmpOp.l).mp r; omega
                simp only [f_X10_notParcel, bnd_eq, isn_ch, isn_sd, c1, c2, c3, hm.1, hm.2, cl_2, cl_13, hw2, d3, e, (sw_eq x y z).2, r, if_true, if_false]
            · refine Or.inr (Or.inr (Or.inr ⟨4, FP.f2i (f 13), by decide, by decide, by decide, ?_, fun τ hm => ?_⟩))
              · have r : ¬ 0 ≤ Op.cmpValue (FP.fcmp (f 13) (sw x y z)) CmpOp.g := fun r => q ((fl_ge0 hP1 hP2 CmpOp.g).mp r)
                simp only [f_X1_mayWrap, f_X1_mayMake, bnd_eq, c1, c2, c3, hn, d1, e, e4, (sw_eq x y z).1, r, cl_refuse, if_true, if_false]
              · have r := (fl_lt0 hP1 hP2 CmpOp.l).mpr (show (f 13).toNat < (sw x y z).toNat by omega)
                simp only [f_X10_notParcel, bnd_eq, isn_ch, isn_sd, c1, c2, c3, hm.1, hm.2, cl_2, cl_13, hw2, d3, e, (sw_eq x y z).2, r, md_isNot, if_true, if_false]
        · exact Or.inr (Or.inr (Or.inr ⟨1, 20, by decide, by decide, by decide, by simp [f_X1_mayWrap, f_X1_mayMake, bnd_eq, c1, c2, c3, hn, d1, cl_refuse, n10], fun τ hm => by simp [f_X10_notParcel, bnd_eq, isn_ch, isn_sd, c1, c2, c3, hm.1, cl_2, hw2, d3, md_isNot]⟩))
      | false => exact Or.inr (Or.inr (Or.inl ⟨by simp [f_X1_mayWrap, c1, c2, c3], by decide, by decide, fun τ hm => by simp [f_X10_notParcel, isn_ch, isn_sd, c1, c2, c3]⟩))
    · exact Or.inr (Or.inl ⟨by simp [f_X1_mayWrap, c1, c2], by decide, by decide, fun τ hm => by simp [f_X10_notParcel, isn_ch, c1, c2]⟩)
  · exact Or.inr (Or.inl ⟨by simp [f_X1_mayWrap, c1], by decide, by decide, fun τ hm => by simp [f_X10_notParcel, isn_ch, c1]⟩)
theorem dz_parcel (hI : Inv w f) {x1 x2 x3 x4 x5 : Int32} (P : ∃ b x y z, x2 = nI b ∧ x3 = nI x ∧ x4 = nI y ∧ x5 = nI z ∧ b < 6 ∧ cnt w < 20 ∧ x < 10 ∧ y < 10 ∧ z < 10 ∧ (sw x y z).toNat ≤ (f 13).toNat) :
    Dz w f (fun q => f_X6_wrapParcel q 2 x1 x2 x3 x4 x5) (fun q => ok_X6_wrapParcel q 2 x1 x2 x3 x4 x5) (fun q5 => f_X10_makes (setF q5 201 (13 : Int32).toNatClampNeg (FP.fsub (q5.2.1 201 (13 : Int32).toNatClampNeg) (f_X10_stringOf x3 x4 x5))) (1 : Int32) x1 x2 ((x3 + x4) + x5))
      (fun q5 => ok_X10_stringOf x3 x4 x5 ∧ vf_n32 (FP.fsub (q5.2.1 201 (13 : Int32).toNatClampNeg) (f_X10_stringOf x3 x4 x5)) ∧ ok_X10_makes (setF q5 201 (13 : Int32).toNatClampNeg (FP.fsub (q5.2.1 201 (13 : Int32).toNatClampNeg) (f_X10_stringOf x3 x4 x5))) (1 : Int32) x1 x2 ((x3 + x4) + x5)) := by
  obtain ⟨b, x, y, z, rfl, rfl, rfl, rfl, hb, hl, hx, hy, hz, hle⟩ := P
  intro τ ρ hO hm
  have hL := fl_sub_le (me_p hI) hle
  have hP := me_p hI
  obtain ⟨a1, σ1, a2, a3, a4⟩ := cl_wrap hO hI x1 (nI b) hl hx hy hz hle
  obtain ⟨m1, m2⟩ := md_makes (σ := setF ρ 201 13 (FP.fsub (f 13) (sw x y z))) (w := w) hm.1 hI.1.1 hl 1 x1 (nI b) (nI (x + y + z))
  have e13 : ρ.2.1 201 13 = f 13 := by rw [hm.2]
  have e1 : (rowI (setF ρ 201 13 (FP.fsub (f 13) (sw x y z))) 197 (dMk w 1 x1 (nI b) (nI (x + y + z)))).1 197 = dMk w 1 x1 (nI b) (nI (x + y + z)) := r1e rfl
  have e2 : (rowI (setF ρ 201 13 (FP.fsub (f 13) (sw x y z))) 197 (dMk w 1 x1 (nI b) (nI (x + y + z)))).2.1 201 = vf_upd f 13 (FP.fsub (f 13) (sw x y z)) := by
    show (setF ρ 201 13 (FP.fsub (f 13) (sw x y z))).2.1 201 = _
    rw [q2e rfl, hm.2]
  refine ⟨a1, ?_, σ1, rowI (setF ρ 201 13 (FP.fsub (f 13) (sw x y z))) 197 (dMk w 1 x1 (nI b) (nI (x + y + z))), _, a2, ?_, by rw [e1, e2]; exact a3, by rw [e1, e2]; exact hI.wrap x1 (nI (x + y + z)) hl hb hL, a4, kp_rowI (kp_setF Kp.rf (fun q => q.2 rfl)) (fun q => q.1 rfl)⟩
  · dsimp only
    rw [cl_13, e13, (sw_eq x y z).2, nI_add, nI_add]
    exact ⟨(sw_ok hx hy hz).2, fl_n (by have : (f 13).toNat < 2139095040 := hP; omega), m1⟩
  · dsimp only
    rw [cl_13, e13, (sw_eq x y z).2, nI_add, nI_add]
    exact m2
theorem vd_stamp (hO : Off σ 2 w f) (hI : Inv w f) (x1 x2 : Int32) : Vd σ w f (f_X1_mayStamp σ x1 x2) (ok_X1_mayStamp σ x1 x2) (fun τ => f_X10_notStamp τ x1 x2) (fun τ => ok_X10_notStamp τ x1 x2) 1 0
    (∃ i x, x1 = nI i ∧ x2 = nI x ∧ i < cnt w ∧ x < 5 ∧ it w i 4 = 0) := by
  have h20 := hI.n20
  have p5 := pot5 hI
  have hit := cl_hasItem hO hI x1
  have hpo := cl_hasPot hO hI x2
  have c1s := hasB_cases x1 (n := cnt w) (by omega)
  have c2s := hasB_cases x2 (n := (w 3).toNatClampNeg) (by omega)
  rcases c1s with ⟨c1, i, hi, rfl⟩ | c1
  · have hci : (nI i).toNatClampNeg = i := nI_clamp (by omega)
    have hi20 : i < 20 := by omega
    have e5 : σ.1 11 i = it w i 4 := hO.state hi
    have hvi : vp_in (nI i) 20 := vp_in_nI (by omega) (by decide)
    rcases c2s with ⟨c2, x, hx, rfl⟩ | c2
    · have hx5 : x < 5 := by omega
      have hp := cl_print hO hI hx5
      have hp1 : ok_X2_printNow σ 3 (nI x) := hp.1
      have hp2 : f_X2_printNow σ 3 (nI x) = f_X9_printOf (f (8 + x)) (f 14) := hp.2
      have hP := fl_pr (hI.firm hx5) hI.ink
      have hs := strong_iff hP
      obtain ⟨st, hst⟩ : ∃ v, v = it w i 4 := ⟨_, rfl⟩
      refine ⟨⟨fun h1 => ⟨fun h2 => ⟨hvi, fun _ => hp1, fun _ => hvi⟩, fun _ => trivial⟩, fun _ => trivial⟩, fun τ hm => ⟨fun h1 => ⟨fun h2 => ⟨mk4 hi20, fun _ => (md_print hm.2 hI hx5).1, fun _ => mk4 hi20⟩, fun _ => trivial⟩, fun _ => trivial⟩, ?_⟩
      by_cases q0 : it w i 4 = 0
      · by_cases q : 1050253722 ≤ (f_X9_printOf (f (8 + x)) (f 14)).toNat
        · refine Or.inl ⟨?_, ⟨i, x, rfl, rfl, hi, hx5, q0⟩, fun τ hm => ?_⟩
          · simp [f_X1_mayStamp, hit, c1, hpo, c2, hci, e5, q0, hp2, hs, q]
          · have r : ¬ Op.cmpValue (FP.fcmp (f_X9_printOf (f (8 + x)) (f 14)) 1050253722) CmpOp.l < 0 := fun r => by
              have r2 := (fl_lt0 hP (b := 1050253722) (by decide) CmpOp.l).mp r
              have h3 : (1050253722 : UInt32).toNat = 1050253722 := by decide
              omega
            simp only [f_X10_notStamp, md_isItem hm.1 hI, c1, md_isPot hm.1 hI, c2, mo4 hm.1 hi20, q0, (md_print hm.2 hI hx5).2, r, if_true, if_false]
        · refine Or.inr (Or.inr (Or.inr ⟨6, nI x, by decide, by decide, by decide, ?_, fun τ hm => ?_⟩))
          · simp [f_X1_mayStamp, hit, c1, hpo, c2, hci, e5, q0, hp2, hs, q, bnd_eq, cl_refuse]
          · have r := (fl_lt0 hP (b := 1050253722) (by decide) CmpOp.l).mpr (show _ < (1050253722 : Nat) by omega)
            simp only [f_X10_notStamp, md_isItem hm.1 hI, c1, md_isPot hm.1 hI, c2, mo4 hm.1 hi20, q0, (md_print hm.2 hI hx5).2, r, bnd_eq, md_isNot, if_true, if_false]
      · refine Or.inr (Or.inr (Or.inr ⟨5, it w i 4, by decide, by decide, by decide, ?_, fun τ hm => ?_⟩))
        · simp [f_X1_mayStamp, hit, c1, hpo, c2, hci, e5, q0, bnd_eq, cl_refuse]
        · simp [f_X10_notStamp, md_isItem hm.1 hI, c1, md_isPot hm.1 hI, c2, mo4 hm.1 hi20, q0, bnd_eq, md_isNot]
    · refine ⟨by simp [ok_X1_mayStamp, hit, c1, hpo, c2], fun τ hm => by simp [ok_X10_notStamp, md_isItem hm.1 hI, c1, md_isPot hm.1 hI, c2], Or.inr (Or.inl ⟨?_, by decide, by decide, fun τ hm => ?_⟩)⟩
      · simp [f_X1_mayStamp, hit, c1, hpo, c2]
      · simp [f_X10_notStamp, md_isItem hm.1 hI, c1, md_isPot hm.1 hI, c2]
  · refine ⟨by simp [ok_X1_mayStamp, hit, c1], fun τ hm => by simp [ok_X10_notStamp, md_isItem hm.1 hI, c1], Or.inr (Or.inl ⟨?_, by decide, by decide, fun τ hm => ?_⟩)⟩
    · simp [f_X1_mayStamp, hit, c1]
    · simp [f_X10_notStamp, md_isItem hm.1 hI, c1]
theorem dz_stamp (hI : Inv w f) {x1 x2 : Int32} (P : ∃ i x, x1 = nI i ∧ x2 = nI x ∧ i < cnt w ∧ x < 5 ∧ it w i 4 = 0) :
    Dz w f (fun q => ((f_X6_stampItem q 2 x1 x2).1, f_X0_ofFloat (f_X6_stampItem q 2 x1 x2).2)) (fun q => ok_X6_stampItem q 2 x1 x2 ∧ ok_X0_ofFloat (f_X6_stampItem q 2 x1 x2).2) (fun q => f_X10_stamps q x1 x2) (fun q => ok_X10_stamps q x1 x2) := by
  obtain ⟨i, x, rfl, rfl, hi, hx, h0⟩ := P
  intro τ ρ hO hm
  have hP := fl_pr (hI.firm hx) hI.ink
  obtain ⟨a1, σ1, a2, a3, a4⟩ := cl_stamp hO hI hi hx h0
  obtain ⟨b1, σ2, b2, b3, b4, b5⟩ := md_stamp hm.1 hm.2 hI hi hx
  exact ⟨⟨a1, by rw [a2]; exact (b32_of hP).1⟩, b1, σ1, σ2, _, by dsimp only; rw [a2], by rw [b32_same hP]; exact b2, by rw [b3, b4]; exact a3, by rw [b3, b4]; exact hI.stamp hi hx h0, a4, b5⟩
end VERD2
