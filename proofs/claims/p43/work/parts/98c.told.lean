/-! what is undone, saved, restored, and told ahead -/
section TOLD
variable {σ : St} {w ws : Nat → Int32} {f fs : Nat → UInt32} {l : List Dat}
def Sn (σ : St) (ws : Nat → Int32) (fs : Nat → UInt32) : Prop := σ.1 0 7 = 1 ∧ Off σ 36 ws fs ∧ Inv ws fs
theorem Sn.kr {σ' : St} (h : Sn σ ws fs) (hk : KR SK σ σ') : Sn σ' ws fs := ⟨by rw [(hk 0 (Or.inl rfl)).1]; exact h.1, h.2.1.kr hk (fun j hj => by omega), h.2.2⟩
theorem l_undo {D : Dat} (hZ : Zs σ w f (D :: l)) : ok_L_undo σ ∧ ∃ σ', f_L_undo σ = (σ', (nI l.length).toInt64) ∧ Zs σ' D.1 D.2 l ∧ KR SK σ σ' := by
  obtain ⟨hO, hI, hR, hin⟩ := id hZ
  obtain ⟨b1, b2, b3, b4, b5, b6⟩ := cl_back hR
  have h8 : l.length + 1 ≤ 8 := hR.1
  have e1 : σ.1 189 2 = nI (l.length + 1) := hR.2.1
  have e0 : ¬ σ.1 189 2 = 0 := fun z => by
    have := nI_inj (a := l.length + 1) (b := 0) (by omega) (by decide) (e1.symm.trans z)
    omega
  have e : f_X9_undo σ = (0, f_X4_bringBack σ 2, nI l.length) := by
    unfold f_X9_undo
    rw [if_neg e0, bnd_eq, b5]
  refine ⟨⟨⟨fun z => trivial, fun _ => b1⟩, Or.inl (by rw [e])⟩, f_X4_bringBack σ 2, ?_, ⟨b3, b4, b2, ?_⟩, b6.kr.wk (fun j hj => by omega)⟩
  · unfold f_L_undo
    rw [bnd_eq, e]
    rfl
  · rw [(b6.1 191 (by omega)).1]; exact hin
theorem l_undo0 (hZ : Zs σ w f []) : ok_L_undo σ ∧ f_L_undo σ = (σ, -4000000000000000001) := by
  have e0 : σ.1 189 2 = 0 := hZ.2.2.1.2.1
  have e : f_X9_undo σ = (5, σ, 0) := by
    unfold f_X9_undo
    rw [if_pos e0]
  refine ⟨⟨⟨fun z => trivial, fun z => absurd e0 z⟩, Or.inr (by rw [e])⟩, ?_⟩
  unfold f_L_undo
  rw [bnd_eq, e]
  rfl
theorem l_save (hZ : Zs σ w f l) : ∃ σ', f_L_save σ = (σ', (nI (cnt w)).toInt64) ∧ Zs σ' w f l ∧ Sn σ' w f := by
  obtain ⟨hO, hI, hR, hin⟩ := id hZ
  have kk : Kp (fun j => ¬ (36 ≤ j ∧ j < 53) ∧ ¬ j = 0) σ (setI (f_X6_copyFrom σ 36 2) 0 7 1) := kp_setI ((copy_kp σ 36 2).wk (fun i hi => by omega)) (fun q => q.2 rfl)
  have hZ' := hZ.kp kk (fun j x y => by omega) (fun j x y => by omega) (by omega)
  have oc := hO.copy (o0 := 36) hI.n20 (by omega)
  refine ⟨setI (f_X6_copyFrom σ 36 2) 0 7 1, ?_, hZ', ?_, ?_, hI⟩
  · have en : (setI (f_X6_copyFrom σ 36 2) 0 7 1).1 6 8 = nI (cnt w) := hZ'.1.n hI
    unfold f_L_save f_X9_save
    rw [bnd_eq, bnd_eq, bnd_eq, en]
  · rw [q1e rfl, ue rfl]
  · exact oc.kp (P := fun j => ¬ j = 0) (kp_setI Kp.rf (fun q => q rfl)) (fun j hj => by omega)
theorem l_restore (hZ : Zs σ w f l) (hS : Sn σ ws fs) : ok_L_restore σ ∧ ∃ σ', f_L_restore σ = (σ', (nI (cnt ws)).toInt64) ∧ Zs σ' ws fs [] ∧ KR SK σ σ' := by
  obtain ⟨hO, hI, hR, hin⟩ := id hZ
  obtain ⟨s1, s2, s3⟩ := id hS
  have e0 : ¬ σ.1 0 7 = 0 := by rw [s1]; decide
  have k1 := copy_kp σ 2 36
  have kk : Kp (fun j => ¬ (2 ≤ j ∧ j < 19) ∧ ¬ j = 189) σ (setI (f_X6_copyFrom σ 2 36) 189 2 0) := kp_setI (k1.wk (fun i hi => by omega)) (fun q => q.2 rfl)
  have oc := s2.copy (o0 := 2) s3.n20 (by omega)
  have O2 : Off (setI (f_X6_copyFrom σ 2 36) 189 2 0) 2 ws fs := oc.kp (P := fun j => ¬ j = 189) (kp_setI Kp.rf (fun q => q rfl)) (fun j hj => by omega)
  have en : (setI (f_X6_copyFrom σ 2 36) 189 2 0).1 6 8 = nI (cnt ws) := O2.n s3
  have e : f_X9_restore σ = (0, setI (f_X6_copyFrom σ 2 36) 189 2 0, nI (cnt ws)) := by
    unfold f_X9_restore
    rw [if_neg e0, bnd_eq, bnd_eq]
    unfold f_X4_forget
    rw [bnd_eq, en]
  obtain ⟨r1, r2, nx, r3, r4, r5⟩ := hR
  refine ⟨Or.inl (by rw [e]), _, ?_, ⟨O2, s3, ⟨Nat.zero_le _, ?_, nx, r3, ?_, fun j D hj => by simp at hj⟩, ?_⟩, kk.kr.wk (fun j hj => by omega)⟩
  · unfold f_L_restore
    rw [bnd_eq, e]
    rfl
  · rw [q1e rfl, ue rfl]; rfl
  · rw [q1e rfl, un (by decide), (k1.1 189 (by omega)).1]; exact r4
  · rw [(kk.1 191 (by omega)).1]; exact hin
theorem l_told (hO : Off σ 2 w f) (hI : Inv w f) (x y : Int32) : ok_L_lettersOf σ x y ∧ ok_L_lettersAgain σ x y ∧ ((∃ r, Th r ∧ f_L_lettersOf σ x y = (σ, r) ∧ f_L_lettersAgain σ x y = (σ, r)) ∨ ∃ (k n N : Nat) (τ : St), x = nI k ∧ y = nI n ∧ k < (w 1).toNatClampNeg ∧ 1 ≤ n ∧ n < 41 ∧ N ≤ 239 ∧ (itS (cw n) N (f k)).toNat < (cw n).toNat ∧ (∀ i, i < N → (cw n).toNat ≤ (itS (cw n) i (f k)).toNat) ∧ f_L_lettersOf σ x y = (σ, (nI N).toInt64) ∧ f_L_lettersAgain σ x y = (τ, (nI N).toInt64) ∧ Kp (fun j => ¬ j = 195) σ τ) := by
  have h8 := cray8 hI
  have hc := cl_hasCray hO hI x
  rcases hasB_cases x (n := (w 1).toNatClampNeg) (by omega) with ⟨hb, k, hk, rfl⟩ | hb
  · rw [hb] at hc
    have hk8 : k < 8 := by omega
    have hcl : (nI k).toNatClampNeg = k := nI_clamp (by omega)
    cases hr : f_X9_inRange y 1 40 with
    | true =>
      obtain ⟨n, rfl, n1, n2⟩ := ir_nI (a := 1) (b := 40) (by decide) (by decide) hr
      have hn : n < 41 := by omega
      obtain ⟨N, a1, a2, a3, a4⟩ := its_ex (hI.lens hk8) n1 hn
      have q1 : σ.2.1 4 k = f k := hO.cray hk8
      have c1 := cl_by (σ := σ) (nI k) hn a1 a2 a3 a4
      have e : f_X9_lettersOf σ (nI k) (nI n) = (0, σ, nI N) := by
        unfold f_X9_lettersOf
        rw [dw_t hc hr, bnd_eq]
        dsimp only
        rw [if_pos rfl, hcl, q1]
        exact c1.2
      obtain ⟨d1, τ, d2, d3⟩ := cl_again (nI k) hn a1 a2 a3 a4 N 2000 0 (setF σ 195 0 (f k)) (by omega) (Nat.zero_add N) (by rw [q2e rfl, ve rfl]; rfl)
      have e' : f_X9_lettersAgain σ (nI k) (nI n) = (0, τ, nI N) := by
        unfold f_X9_lettersAgain
        rw [dw_t hc hr, bnd_eq]
        dsimp only
        rw [if_pos rfl, bnd_eq, hcl, q1, cl_0]
        exact d2
      refine ⟨⟨?_, by rw [e]; exact Or.inl rfl⟩, ⟨?_, by rw [e']; exact Or.inl rfl⟩, Or.inr ⟨k, n, N, τ, rfl, rfl, hk, n1, hn, a1, a2, a3, ?_, ?_, (kp_setF Kp.rf (fun q => q rfl) : Kp (fun j => ¬ j = 195) σ (setF σ 195 0 (f k))).tr d3⟩⟩
      · unfold ok_X9_lettersOf
        rw [dw_t hc hr, bndP_eq]
        dsimp only
        rw [hcl, q1]
        exact fun _ => ⟨(cw_ok hn).1, vp_in_nI hk8 (by decide), c1.1⟩
      · unfold ok_X9_lettersAgain
        rw [dw_t hc hr, bndP_eq]
        dsimp only
        rw [bndP_eq, hcl, q1, cl_0]
        exact fun _ => ⟨(cw_ok hn).1, vp_in_nI hk8 (by decide), d1⟩
      · unfold f_L_lettersOf; rw [bnd_eq, e]; rfl
      · unfold f_L_lettersAgain; rw [bnd_eq, e']; rfl
    | false =>
      have e : f_X9_lettersOf σ (nI k) y = (1, σ, 0) := by unfold f_X9_lettersOf; rw [dw_r hc hr, bnd_eq]; rfl
      have e' : f_X9_lettersAgain σ (nI k) y = (1, σ, 0) := by unfold f_X9_lettersAgain; rw [dw_r hc hr, bnd_eq]; rfl
      exact ⟨⟨by unfold ok_X9_lettersOf; rw [dw_r hc hr, bndP_eq]; exact (fun q => by cases q), by rw [e]; exact Or.inr (Or.inr rfl)⟩, ⟨by unfold ok_X9_lettersAgain; rw [dw_r hc hr, bndP_eq]; exact (fun q => by cases q), by rw [e']; exact Or.inr (Or.inr rfl)⟩, Or.inl ⟨_, Th.b, by unfold f_L_lettersOf; rw [bnd_eq, e]; rfl, by unfold f_L_lettersAgain; rw [bnd_eq, e']; rfl⟩⟩
  · rw [hb] at hc
    have e : f_X9_lettersOf σ x y = (2, σ, 0) := by unfold f_X9_lettersOf; rw [dw_f hc, bnd_eq]; rfl
    have e' : f_X9_lettersAgain σ x y = (2, σ, 0) := by unfold f_X9_lettersAgain; rw [dw_f hc, bnd_eq]; rfl
    exact ⟨⟨by unfold ok_X9_lettersOf; rw [dw_f hc, bndP_eq]; exact (fun q => by cases q), by rw [e]; exact Or.inr (Or.inl rfl)⟩, ⟨by unfold ok_X9_lettersAgain; rw [dw_f hc, bndP_eq]; exact (fun q => by cases q), by rw [e']; exact Or.inr (Or.inl rfl)⟩, Or.inl ⟨_, Th.a, by unfold f_L_lettersOf; rw [bnd_eq, e]; rfl, by unfold f_L_lettersAgain; rw [bnd_eq, e']; rfl⟩⟩
/-! a letter, exactly -/
theorem l_letter (hZ : Zs σ w f l) {k n : Nat} (hk : k < (w 1).toNatClampNeg) (n1 : 1 ≤ n) (hn : n < 41) (hl : cnt w < 20) :
    ok_L_letter σ 0 1 (nI n) (nI k) ∧ (((f k).toNat < (cw n).toNat ∧ ∃ σ', f_L_letter σ 0 1 (nI n) (nI k) = (σ', -4000000000000000003) ∧ Zs σ' w f l ∧ KR SK σ σ') ∨ ((cw n).toNat ≤ (f k).toNat ∧ ∃ σ' l', f_L_letter σ 0 1 (nI n) (nI k) = (σ', (nI (cnt w)).toInt64) ∧ Zs σ' (dMk w 0 0 1 (nI n)) (dWf w f k n) l' ∧ KR SK σ σ')) := by
  obtain ⟨hO, hI, hR, hin⟩ := id hZ
  refine ⟨(act_letter hZ 0 1 (nI n) (nI k)).1, ?_⟩
  have hnn : σ.1 6 8 = nI (cnt w) := hO.n hI
  have hcr := cl_hasCray hO hI (nI k)
  have c8 := cray8 hI
  have hk8 : k < 8 := by omega
  rw [hasB_nI hk (by omega)] at hcr
  have hcx : (nI k).toNatClampNeg = k := nI_clamp (by omega)
  have c1 : f_X9_isChild 0 = true := by decide
  have c2 : f_X9_isChild 1 = true := by decide
  have c4 : f_X9_inRange (nI n) 1 40 = true := nI_ir (a := 1) (b := 40) n1 (by omega) (by decide)
  have hck : f_X9_crayonNeeded (nI n) = cw n := rfl
  have e4 : σ.2.1 4 k = f k := hO.cray hk8
  have hP1 := lb_p (hI.lens hk8)
  have hP2 := cw_b (k := n) hn
  have d1 : ¬ nI (cnt w) = (20 : Int32) := by
    rcases n20_cases hI with ⟨-, -, d3⟩ | ⟨-, d3⟩
    · exact d3
    · have := nI_inj (a := cnt w) (b := 20) (by omega) (by decide) d3
      omega
  have d2 : nI (cnt w) < (20 : Int32) := by
    rcases n20_cases hI with ⟨d3, -, -⟩ | ⟨-, d3⟩
    · exact d3
    · exact absurd d3 d1
  have n01 : ¬ (0 : Int32) = 1 := by decide
  have e9 : f_X9_letter σ 0 1 (nI n) (nI k) = G9 (f_X1_mayWrite σ 0 1 (nI n) (nI k)) (fun q => f_X6_writeLetter q 2 0 1 (nI n) (nI k)) := by
    unfold f_X9_letter G9
    simp only [bnd_eq]
  rcases Nat.lt_or_ge (f k).toNat (cw n).toNat with q | q
  · have z : ¬ 0 ≤ Op.cmpValue (FP.fcmp (f k) (cw n)) CmpOp.g := fun z => by
      have := (fl_ge0 hP1 hP2 CmpOp.g).mp z
      omega
    have em : f_X1_mayWrite σ 0 1 (nI n) (nI k) = (setI (setI σ 1 1 3) 1 2 (nI k), 3) := by
      simp only [f_X1_mayWrite, f_X1_mayMake, bnd_eq, c1, c2, hcr, c4, hnn, d1, d2, n01, hcx, e4, hck, z, cl_refuse2, if_true, if_false]
    have kk : Kp (fun j => ¬ j = 1) σ (setI (setI σ 1 1 3) 1 2 (nI k)) := kp_setI (kp_setI Kp.rf (fun q => q rfl)) (fun q => q rfl)
    refine Or.inl ⟨q, _, ?_, hZ.kp kk (fun j x y => by omega) (fun j x y => by omega) (by decide), kk.kr.wk (fun j hj => by omega)⟩
    unfold f_L_letter
    rw [bnd_eq, e9, g9_3 em (by decide) (by decide) (by decide)]
    rfl
  · have z := (fl_ge0 hP1 hP2 CmpOp.g).mpr q
    have em : f_X1_mayWrite σ 0 1 (nI n) (nI k) = (σ, 0) := by
      simp [f_X1_mayWrite, f_X1_mayMake, bnd_eq, c1, c2, hcr, c4, hnn, d1, d2, hcx, e4, hck, z]
    obtain ⟨r1, r2, r3⟩ := cl_remember (by decide) hR hO hI
    have hO1 : Off (f_X4_remember σ 2) 2 w f := hO.kp r3 (fun j hj => by omega)
    obtain ⟨a1, σ1, a2, a3, a4⟩ := cl_write hO1 hI 0 1 hl hk8 hn q
    refine Or.inr ⟨q, σ1, _, ?_, ⟨a3, hI.write (a := 0) (b := 1) hl (by decide) hk8 hn q, r2.kp a4 (fun j x y => by omega), ?_⟩, (r3.kr.wk (fun j hj => by omega)).tr (a4.kr.wk (fun j hj => by omega))⟩
    · unfold f_L_letter
      rw [bnd_eq, e9, g9_0 em, a2]
      rfl
    · rw [(a4.1 191 (by omega)).1, (r3.1 191 (by omega)).1]; exact hin
end TOLD
