theorem vfu_twice (f : Nat → UInt32) (k : Nat) (a b : UInt32) : vf_upd (vf_upd f k a) k b = vf_upd f k b := by
  funext j
  unfold vf_upd
  by_cases e : j = k
  · rw [if_pos e, if_pos e]
  · rw [if_neg e, if_neg e, if_neg e]
theorem m16n {n : Nat} (h : n < 2 ^ 30) : ((16 : Int32) + nI n).toNatClampNeg = 16 + n := by
  rw [show (16 : Int32) = nI 16 from rfl, nI_add, nI_clamp (by omega)]
section ACT
variable {σ : St} {o : Nat} {w : Nat → Int32} {f : Nat → UInt32}
/-- a letter -/
def dWf (w : Nat → Int32) (f : Nat → UInt32) (x k : Nat) : Nat → UInt32 := vf_upd (vf_upd f x (FP.fsub (f x) (cw k))) (16 + cnt w) (FP.fdiv (FP.fadd (FP.fsub (f x) (cw k)) FP.fconst1) (FP.fadd (FP.fadd (FP.fsub (f x) (cw k)) FP.fconst1) (tw k)))
theorem wr_fl (hI : Inv w f) {x k : Nat} (hx : x < 8) (hk : k < 41) (hle : (cw k).toNat ≤ (f x).toNat) : LB (FP.fsub (f x) (cw k)) :=
  Nat.le_trans (fl_sub_le (lb_p (hI.lens hx)) hle) (hI.lens hx)
theorem cl_write (hO : Off σ o w f) (hI : Inv w f) (a b : Int32) {k x : Nat} (hl : cnt w < 20) (hx : x < 8) (hk : k < 41) (hle : (cw k).toNat ≤ (f x).toNat) :
    ok_X6_writeLetter σ o a b (nI k) (nI x) ∧ ∃ σ', f_X6_writeLetter σ o a b (nI k) (nI x) = (σ', nI (cnt w)) ∧ Off σ' o (dMk w 0 a b (nI k)) (dWf w f x k) ∧ Kp (OK1 o) σ σ' := by
  have hcx : (nI x).toNatClampNeg = x := nI_clamp (by omega)
  have hvx : vp_in (nI x) 8 := vp_in_nI hx (by decide)
  have hL := wr_fl hI hx hk hle
  obtain ⟨r1, r2, r3, r4⟩ := fl_read hL hk
  have e0 : σ.2.1 (o + 1 + 1) x = f x := hO.cray hx
  have hck : f_X9_crayonNeeded (nI k) = cw k := rfl
  have htk : FP.fmul (1036831949 : UInt32) (FP.i2f (nI k)) = tw k := rfl
  have O1 := hO.P1 hx (v := FP.fsub (f x) (cw k))
  have I1 : Inv w (vf_upd f x (FP.fsub (f x) (cw k))) := hI.setf (fun _ => hL) (fun _ _ => by omega) (fun _ => by omega) (fun _ => by omega) (fun _ => by omega) (fun _ => by omega)
  obtain ⟨a1, a2, a3⟩ := add_off O1 I1 hl 0 a b (nI k)
  generalize hz : f_X5_add (setF σ (o + 1 + 1) x (FP.fsub (f x) (cw k))) (o + 4) 0 a b (nI k) = z at a1 a2 a3
  have hcl : (nI (cnt w)).toNatClampNeg = cnt w := nI_clamp (by omega)
  have hvn : vp_in (nI (cnt w)) 20 := vp_in_nI hl (by decide)
  refine ⟨?_, setF z.1 (o + 4 + 8) (cnt w) (FP.fdiv (FP.fadd (FP.fsub (f x) (cw k)) FP.fconst1) (FP.fadd (FP.fadd (FP.fsub (f x) (cw k)) FP.fconst1) (tw k))), ?_, ?_, ?_⟩
  · unfold ok_X6_writeLetter
    rw [hcx, e0, hck, htk]
    simp only [bndP]
    rw [hz, a2]
    exact ⟨hvx, (cw_ok hk).1, fl_n (Nat.le_of_lt (lb_p hL)), hvx, a1, fl_n (Nat.le_of_lt r1), fl_n (Nat.le_of_lt r1), fl_n (Nat.le_of_lt r2), fl_n (Nat.le_of_lt r3), fl_n (by omega), hvn⟩
  · unfold f_X6_writeLetter
    rw [hcx, e0, hck, htk]
    simp only [bnd]
    rw [hz, a2, hcl]
  · exact a3.P5 hl
  · refine kp_setF ?_ (fun q => q ⟨by omega, by omega⟩)
    rw [← hz]
    unfold f_X5_add
    simp only [bnd]
    repeat first
      | exact Kp.rf
      | refine kp_setI ?_ (fun h => h ⟨by omega, by omega⟩)
      | refine kp_setF ?_ (fun h => h ⟨by omega, by omega⟩)
theorem Inv.write (hI : Inv w f) {a b k x : Nat} (hl : cnt w < 20) (hb : b < 6) (hx : x < 8) (hk : k < 41) (hle : (cw k).toNat ≤ (f x).toNat) : Inv (dMk w 0 (nI a) (nI b) (nI k)) (dWf w f x k) := by
  have hL := wr_fl hI hx hk hle
  obtain ⟨r1, r2, r3, r4⟩ := fl_read hL hk
  have I1 : Inv w (vf_upd f x (FP.fsub (f x) (cw k))) := hI.setf (fun _ => hL) (fun _ _ => by omega) (fun _ => by omega) (fun _ => by omega) (fun _ => by omega) (fun _ => by omega)
  have I2 : Inv (dMk w (nI 0) (nI a) (nI b) (nI k)) (vf_upd f x (FP.fsub (f x) (cw k))) := I1.mk hl (by decide) hb (nI a) (nI k)
  have hc := cnt_dMk (k := nI 0) (a := nI a) (b := nI b) (z := nI k) hI.1.1 hI.n20
  exact I2.setf (fun _ => by omega) (fun _ _ => by omega) (fun _ => by omega) (fun _ => by omega) (fun _ => by omega) (fun _ => ⟨r4, by rw [hc]; omega⟩)
theorem kpM {σ : St} {g : Nat → Int32} : Kp (fun j => ¬ j = 197 ∧ ¬ j = 201) σ (rowI σ 197 g) := kp_rowI Kp.rf (fun q => q.1 rfl)
/-- a parcel -/
def sw (a b c : Nat) : UInt32 := tw (2 * a + 2 * b + 4 * c)
theorem sw_eq (a b c : Nat) : f_X9_stringNeeded (nI a) (nI b) (nI c) = sw a b c ∧ True := by
  have e : (((2 : Int32) * nI a) + ((2 : Int32) * nI b)) + ((4 : Int32) * nI c) = nI (2 * a + 2 * b + 4 * c) := by
    rw [show (2 : Int32) = nI 2 from rfl, show (4 : Int32) = nI 4 from rfl, nI_mul, nI_mul, nI_mul, nI_add, nI_add]
  unfold f_X9_stringNeeded
  rw [e]
  exact ⟨rfl, trivial⟩
theorem sw_p {a b c : Nat} (ha : a < 10) (hb : b < 10) (hc : c < 10) : P32 (sw a b c) := by
  have := tw_tab (2 * a + 2 * b + 4 * c) (by omega)
  show (tw _).toNat < _
  omega
theorem sw_ok {a b c : Nat} (ha : a < 10) (hb : b < 10) (hc : c < 10) : ok_X9_stringNeeded (nI a) (nI b) (nI c) ∧ True := by
  have h := fl_n (Nat.le_of_lt (sw_p ha hb hc))
  have e1 := (sw_eq a b c).1
  unfold f_X9_stringNeeded at e1
  unfold ok_X9_stringNeeded
  rw [e1]
  exact ⟨h, trivial⟩
theorem me_p (hI : Inv w f) : P32 (f 13) := by have := hI.metres; show _ < _; omega
theorem cl_wrap (hO : Off σ o w f) (hI : Inv w f) (a b : Int32) {x y z : Nat} (hl : cnt w < 20) (hx : x < 10) (hy : y < 10) (hz : z < 10) (hle : (sw x y z).toNat ≤ (f 13).toNat) :
    ok_X6_wrapParcel σ o a b (nI x) (nI y) (nI z) ∧ ∃ σ', f_X6_wrapParcel σ o a b (nI x) (nI y) (nI z) = (σ', nI (cnt w)) ∧ Off σ' o (dMk w 1 a b (nI (x + y + z))) (vf_upd f 13 (FP.fsub (f 13) (sw x y z))) ∧ Kp (OK1 o) σ σ' := by
  have hL := fl_sub_le (me_p hI) hle
  have hm := hI.metres
  have e0 : σ.2.1 (o + 1) 4 = f 13 := hO.1.2.2.1
  have O1 := hO.P3 (v := FP.fsub (f 13) (sw x y z))
  have I1 : Inv w (vf_upd f 13 (FP.fsub (f 13) (sw x y z))) := hI.setf (fun _ => by omega) (fun _ _ => by omega) (fun _ => by omega) (fun _ => by omega) (fun _ => by omega) (fun _ => by omega)
  obtain ⟨a1, a2, a3⟩ := add_off O1 I1 hl 1 a b (nI (x + y + z))
  generalize hq : f_X5_add (setF σ (o + 1) 4 (FP.fsub (f 13) (sw x y z))) (o + 4) 1 a b (nI (x + y + z)) = q at a1 a2 a3
  refine ⟨?_, q.1, ?_, a3, ?_⟩
  · unfold ok_X6_wrapParcel
    rw [e0, (sw_eq x y z).1]
    simp only [bndP, nI_add]
    exact ⟨(sw_ok hx hy hz).1, fl_n (by omega), a1⟩
  · unfold f_X6_wrapParcel
    rw [e0, (sw_eq x y z).1]
    simp only [bnd, nI_add]
    rw [hq, a2]
  · rw [← hq]
    unfold f_X5_add
    simp only [bnd]
    repeat first
      | exact Kp.rf
      | refine kp_setI ?_ (fun h => h ⟨by omega, by omega⟩)
      | refine kp_setF ?_ (fun h => h ⟨by omega, by omega⟩)
theorem Inv.wrap (hI : Inv w f) (a s : Int32) {b : Nat} {v : UInt32} (hl : cnt w < 20) (hb : b < 6) (hv : v.toNat ≤ (f 13).toNat) : Inv (dMk w 1 a (nI b) s) (vf_upd f 13 v) := by
  have hm := hI.metres
  have I1 : Inv w (vf_upd f 13 v) := hI.setf (fun _ => by omega) (fun _ _ => by omega) (fun _ => by omega) (fun _ => by omega) (fun _ => by omega) (fun _ => by omega)
  exact I1.mk (r := 1) hl (by decide) hb a s
/-- a stamp -/
def dSw (w : Nat → Int32) (i x : Nat) : Nat → Int32 := upd (upd w (6 + 7 * i + 4) 1) (6 + 7 * i + 6) (nI x + 1)
def dSf (f : Nat → UInt32) (x : Nat) : Nat → UInt32 := vf_upd (vf_upd f (8 + x) (FP.fmul 1063675494 (f (8 + x)))) 14 (FP.fmul 1064514355 (f 14))
theorem soft_b {a : UInt32} (h : FB a) : FB (FP.fmul 1063675494 a) := Nat.le_trans (fl_soft 1063675494 (by decide) (fb_p h)) h
theorem dry_b {a : UInt32} (h : IB a) : IB (FP.fmul 1064514355 a) := Nat.le_trans (fl_soft 1064514355 (by decide) (ib_p h)) h
theorem cl_stamp (hO : Off σ o w f) (hI : Inv w f) {i x : Nat} (hi : i < cnt w) (hx : x < 5) (h0 : it w i 4 = 0) :
    ok_X6_stampItem σ o (nI i) (nI x) ∧ ∃ σ', f_X6_stampItem σ o (nI i) (nI x) = (σ', f_X9_printOf (f (8 + x)) (f 14)) ∧ Off σ' o (dSw w i x) (dSf f x) ∧ Kp (OK1 o) σ σ' := by
  have h20 := hI.n20
  have hcx : (nI x).toNatClampNeg = x := nI_clamp (by omega)
  have hci : (nI i).toNatClampNeg = i := nI_clamp (by omega)
  have hvx : vp_in (nI x) 5 := vp_in_nI hx (by decide)
  have hvi : vp_in (nI i) 20 := vp_in_nI (by omega) (by decide)
  have hp := cl_print hO hI hx
  have e0 : σ.2.1 (o + 1 + 2) x = f (8 + x) := hO.pot hx
  have e1 : (setF σ (o + 1 + 2) x (f_X9_softer (f (8 + x)))).2.1 (o + 1) 5 = f 14 := by rw [q2n (by omega)]; exact hO.1.2.2.2.1
  refine ⟨?_, setI (setI (setF (setF σ (o + 1 + 2) x (f_X9_softer (f (8 + x)))) (o + 1) 5 (f_X9_drier (f 14))) (o + 4 + 5) i 1) (o + 4 + 7) i (nI x), ?_, ?_, ?_⟩
  · unfold ok_X6_stampItem
    rw [hcx, e0]
    simp only [bndP]
    rw [e1]
    exact ⟨hp.1, hvx, fl_n (Nat.le_of_lt (fb_p (soft_b (hI.firm hx)))), hvx, fl_n (Nat.le_of_lt (ib_p (dry_b hI.ink))), hvi, hvi⟩
  · unfold f_X6_stampItem
    rw [hcx, hci, e0]
    simp only [bnd]
    rw [e1, hp.2]
  · have n02 : ¬ (0 : Int32) = 2 := by decide
    have n03 : ¬ (0 : Int32) = 3 := by decide
    exact (((hO.P2 hx).P4).P12 (by rw [h0]; exact n02) (by rw [h0]; exact n03) (by decide) (by decide)).P13
  · exact kp_setI (kp_setI (kp_setF (kp_setF Kp.rf (fun q => q ⟨by omega, by omega⟩)) (fun q => q ⟨by omega, by omega⟩)) (fun q => q ⟨by omega, by omega⟩)) (fun q => q ⟨by omega, by omega⟩)
theorem Inv.stamp (hI : Inv w f) {i x : Nat} (hi : i < cnt w) (hx : x < 5) (h0 : it w i 4 = 0) : Inv (dSw w i x) (dSf f x) := by
  have n02 : ¬ (0 : Int32) = 2 := by decide
  have I1 : Inv w (vf_upd f (8 + x) (FP.fmul 1063675494 (f (8 + x)))) := hI.setf (fun _ => by omega) (fun _ _ => soft_b (hI.firm hx)) (fun _ => by omega) (fun _ => by omega) (fun _ => by omega) (fun _ => by omega)
  have I2 : Inv w (dSf f x) := I1.setf (fun _ => by omega) (fun _ _ => by omega) (fun _ => by omega) (fun _ => dry_b hI.ink) (fun _ => by omega) (fun _ => by omega)
  have I3 : Inv (upd w (6 + 7 * i + 4) (nI 1)) (dSf f x) := I2.P12 hi (by rw [h0]; exact n02) (Or.inr rfl)
  exact I3.P13 (by rw [cnt_set]; exact hi)
/-- onto a shelf -/
theorem cl_shelve (hO : Off σ o w f) (hI : Inv w f) {i c r : Nat} (hi : i < cnt w) (hc : c < 6) (hr : r < 2) (h1 : it w i 4 = 1) (h2 : it w i 2 = nI c) (h0 : it w i 0 = nI r) (hf : ¬ lof w c r = -1) :
    ok_X6_shelveItem σ o (nI i) (nI r) ∧ ∃ σ' b, b < hls r ∧ lof w c r = nI b ∧ inH w c r b = -1 ∧ f_X6_shelveItem σ o (nI i) (nI r) = (σ', nI b) ∧ Off σ' o (shel w i b) f ∧ Inv (shel w i b) f ∧ Kp (OK1 o) σ σ' := by
  have h20 := hI.n20
  have hci : (nI i).toNatClampNeg = i := nI_clamp (by omega)
  have hvi : vp_in (nI i) 20 := vp_in_nI (by omega) (by decide)
  have hl := cl_lowest hO hI hc hr
  have et : σ.1 (o + 4 + 3) i = nI c := (hO.to_ hi).trans h2
  rcases lof_cases (w := w) (c := c) (r := r) with ⟨q, -⟩ | ⟨b, b1, b2, b3, b4⟩
  · exact absurd q hf
  have hp := place_lt hc hr b1
  have hcp : (nI (5 * c + 3 * r + b)).toNatClampNeg = 5 * c + 3 * r + b := nI_clamp (by omega)
  have hvp : vp_in (nI (5 * c + 3 * r + b)) 30 := vp_in_nI hp (by decide)
  have hm : ¬ nI b = -1 := by rw [← b2]; exact b3
  have hfree := (inH_none h20).mp b4
  refine ⟨?_, setI (setI (setI σ (o + 13 + 1) (5 * c + 3 * r + b) (nI i)) (o + 4 + 5) i 2) (o + 4 + 6) i (nI b), b, b1, b2, b4, ?_, shel_off hO hi hc hr b1 h1 h2 h0 hfree, hI.shel hi hc hr b1 h1 h2 h0 hfree, ?_⟩
  · unfold ok_X6_shelveItem ok_X8_put
    rw [hci, et, hl.2, b2, placeOf_nI]
    exact ⟨hvi, hl.1, fun _ => trivial, fun _ => ⟨hvp, hvi, hvi⟩⟩
  · unfold f_X6_shelveItem f_X8_put
    simp only [bnd]
    rw [hci, et, hl.2, b2, placeOf_nI, hcp, if_neg hm]
  · exact kp_setI (kp_setI (kp_setI Kp.rf (fun q => q ⟨by omega, by omega⟩)) (fun q => q ⟨by omega, by omega⟩)) (fun q => q ⟨by omega, by omega⟩)
end ACT
