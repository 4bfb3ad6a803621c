/-! a text typed and run; all acts -/
section TXT
variable {σ : St} {w : Nat → Int32} {f : Nat → UInt32} {l : List Dat}
theorem lenS_60 : ∀ k, k < 19 → lenS.getD k 0 < 60 := by decide +kernel
theorem text_go {k : Nat} (hk : k < 19) : ∀ (m fu j : Nat) (σ : St), m < fu → j + m = lenS.getD k 0 → Off σ 2 w f → Inv w f → Ring σ l → σ.1 191 3 = nI j → Act σ w f l (okL_text_L2 fu σ k (nI j)) (fL_text_L2 fu σ k (nI j)) := by
  have h60 := lenS_60 k hk
  intro m
  induction m with
  | zero =>
    intro fu j σ hf hj hO hI hR h3
    obtain ⟨fu, rfl⟩ : ∃ z, fu = z + 1 := ⟨fu - 1, by omega⟩
    have hle : lenV k ≤ nI j := by
      show nI (lenS.getD k 0) ≤ nI j
      exact nI_le (by omega) (by omega)
    obtain ⟨a1, a2⟩ := act_run (n := j) (by omega) hO hI hR h3
    rw [fL_text_L2, okL_text_L2, if_pos hle]
    refine ⟨⟨hk, fun _ => a1, fun z => absurd hle z⟩, a2⟩
  | succ m ih =>
    intro fu j σ hf hj hO hI hR h3
    obtain ⟨fu, rfl⟩ : ∃ z, fu = z + 1 := ⟨fu - 1, by omega⟩
    have hle : ¬ lenV k ≤ nI j := by
      show ¬ nI (lenS.getD k 0) ≤ nI j
      exact nI_ge (by omega) (by omega)
    have hv : vp_in (nI j) (lenS.getD k 0) := vp_in_nI (by omega) (by omega)
    have hlt : σ.1 191 3 < (60 : Int32) := by rw [h3]; exact nI_lt (b := 60) (by omega) (by decide)
    obtain ⟨σ1, hσ1⟩ : ∃ z, z = f_X7_add σ (chS k (nI j)) := ⟨_, rfl⟩
    have e : f_X9_append σ (chS k (nI j)) = (0, σ1, σ1.1 191 3) := by
      unfold f_X9_append
      rw [if_pos hlt, ← hσ1, bnd_eq]
    have e2 : σ1 = setI (setI σ 192 j (vp_nar .char (chS k (nI j)))) 191 3 (nI (j + 1)) := by
      rw [hσ1]
      unfold f_X7_add
      simp only [bnd_eq]
      rw [h3, nI_clamp (by omega), q1n (by decide), h3, nI_1]
    have kk : Kp (fun i => ¬ i = 191 ∧ ¬ i = 192) σ σ1 := by
      rw [e2]
      exact kp_setI (kp_setI Kp.rf (fun q => q.2 rfl)) (fun q => q.1 rfl)
    have h31 : σ1.1 191 3 = nI (j + 1) := by rw [e2, q1e rfl, ue rfl]
    obtain ⟨a1, a2⟩ := ih fu (j + 1) σ1 (by omega) (by omega) (hO.kp kk (fun i hi => ⟨by omega, by omega⟩)) hI (hR.kp kk (fun i x y => ⟨by omega, by omega⟩)) h31
    have ks : KR SK σ σ1 := kk.kr.wk (fun i hi => ⟨by omega, by omega⟩)
    rw [fL_text_L2, okL_text_L2, if_neg hle, bnd_eq, bndP_eq, e]
    dsimp only
    rw [nI_1]
    refine ⟨⟨hk, fun z => absurd z hle, fun _ => ⟨hk, hv, ?_, rfl, a1⟩⟩, ?_⟩
    · unfold ok_X9_append ok_X7_add
      refine ⟨fun _ => ?_, fun z => absurd hlt z⟩
      rw [h3]
      exact vp_in_nI (by omega) (by decide)
    · rcases a2 with ⟨σ', r, x1, x2, x3, x4⟩ | ⟨σ', v, w', f', x1, x2, x3⟩
      · exact Or.inl ⟨σ', r, x1, x2, x3, ks.tr x4⟩
      · exact Or.inr ⟨σ', v, w', f', x1, x2, ks.tr x3⟩
theorem act_text (hZ : Zs σ w f l) {k : Nat} (hk : k < 19) : Act σ w f l (ok_L_text σ k) (f_L_text σ k) := by
  have h60 := lenS_60 k hk
  exact text_go hk (lenS.getD k 0) 61 0 σ (by omega) (Nat.zero_add _) hZ.1 hZ.2.1 hZ.2.2.1 hZ.2.2.2
/-! numbers that are picked -/
theorem nI_div {a b : Nat} (ha : a < 2 ^ 31) (hb : b < 2 ^ 31) (hb0 : 0 < b) : nI a / nI b = nI (a / b) := by
  apply Int32.toInt_inj.mp
  have h1 : a / b ≤ a := Nat.div_le_self a b
  have h0 : (a : Int) / (b : Int) = ((a / b : Nat) : Int) := (Int.natCast_ediv a b).symm
  rw [Int32.toInt_div, nI_toInt ha, nI_toInt hb, nI_toInt (by omega), Int.tdiv_eq_ediv_of_nonneg (by omega), h0]
  generalize a / b = d at h1
  exact Int.bmod_eq_of_le (by omega) (by omega)
theorem nI_mod {a b : Nat} (ha : a < 2 ^ 31) (hb : b < 2 ^ 31) (hb0 : 0 < b) : nI a - nI a / nI b * nI b = nI (a % b) := by
  have h1 : a / b * b ≤ a := Nat.div_mul_le_self a b
  rw [nI_div ha hb hb0, nI_mul, nI_sub' h1 ha]
  congr 1
  have := Nat.div_add_mod a b
  rw [Nat.mul_comm] at this
  omega
theorem and_nn (x : Int32) : ∃ k, k < 2 ^ 31 ∧ x &&& (2147483647 : Int32) = nI k := by
  refine nI_of ?_
  rw [Int32.lt_iff_toInt_lt, show (0 : Int32).toInt = 0 from by decide]
  have h : (x.toBitVec &&& 2147483647#32).msb = false := by
    rw [BitVec.msb_and, show (2147483647#32).msb = false from by decide, Bool.and_false]
  rw [BitVec.msb_eq_toInt] at h
  simp only [decide_eq_false_iff_not] at h
  exact h
theorem pick_nI (x : Int32) {d : Nat} (hd : 0 < d) (hd2 : d < 2 ^ 31) : ∃ m, m < d ∧ f_L_pick x (nI d) = nI m := by
  obtain ⟨k, hk, e⟩ := and_nn x
  refine ⟨k % d, Nat.mod_lt _ hd, ?_⟩
  unfold f_L_pick
  rw [e, nI_mod hk hd2 hd]
theorem bnd_pr {α β γ : Type} (x : α × β) (k : α × β → γ) (h : ∀ q, k q = k (q.1, q.2)) : True := trivial
theorem bnd_id {α β : Type} (x : α × β) : bnd x (fun q => (q.1, q.2)) = x := rfl
theorem Act.ite {c : Prop} [Decidable c] {ok1 ok2 : Prop} {f1 f2 : St × Int64} (h1 : c → Act σ w f l ok1 f1) (h2 : ¬ c → Act σ w f l ok2 f2) : Act σ w f l ((c → ok1) ∧ (¬ c → ok2)) (if c then f1 else f2) := by
  by_cases h : c
  · obtain ⟨a1, a2⟩ := h1 h
    rw [if_pos h]
    exact ⟨⟨fun _ => a1, fun z => absurd h z⟩, a2⟩
  · obtain ⟨a1, a2⟩ := h2 h
    rw [if_neg h]
    exact ⟨⟨fun z => absurd z h, fun _ => a1⟩, a2⟩
theorem Act.pre {c ok1 : Prop} {f1 : St × Int64} (h : c) (h1 : Act σ w f l ok1 f1) : Act σ w f l (c ∧ ok1) f1 := ⟨⟨h, h1.1⟩, h1.2⟩
set_option maxHeartbeats 2000000 in
theorem act_acts (hZ : Zs σ w f l) (v : Int32) : Act σ w f l (ok_L_acts σ v) (f_L_acts σ v) := by
  obtain ⟨m, hm, e⟩ := pick_nI (v >>> ((8 : Int32) &&& 31)) (d := 4000) (by decide) (by decide)
  have e : f_L_pick (v >>> ((8 : Int32) &&& 31)) (4000 : Int32) = nI m := e
  have e6 : nI m - nI m / (6 : Int32) * (6 : Int32) = nI (m % 6) := nI_mod (b := 6) (by omega) (by decide) (by decide)
  have hc : (nI (m % 6)).toNatClampNeg = m % 6 := nI_clamp (by omega)
  unfold ok_L_acts f_L_acts
  rw [e]
  generalize f_L_pick v (24 : Int32) = y
  simp only [bnd_id]
  refine Act.pre (by unfold ok_L_pick; decide) (Act.pre (by unfold ok_L_pick; decide) ?_)
  refine Act.ite (fun _ => act_crayon hZ _) (fun _ => ?_)
  refine Act.ite (fun _ => act_letter hZ _ _ _ _) (fun _ => ?_)
  refine Act.ite (fun _ => act_letter hZ _ _ _ _) (fun _ => ?_)
  refine Act.ite (fun _ => act_letter hZ _ _ _ _) (fun _ => ?_)
  refine Act.ite (fun _ => act_parcel hZ _ _ _ _ _) (fun _ => ?_)
  refine Act.ite (fun _ => Act.ite (fun _ => act_string hZ _) (fun _ => act_ink hZ _)) (fun _ => ?_)
  refine Act.ite (fun _ => act_potato hZ) (fun _ => ?_)
  refine Act.ite (fun _ => act_stamp hZ _ _) (fun _ => ?_)
  refine Act.ite (fun _ => act_stamp hZ _ _) (fun _ => ?_)
  refine Act.ite (fun _ => act_stamp hZ _ _) (fun _ => ?_)
  refine Act.ite (fun _ => act_shelve hZ _ _) (fun _ => ?_)
  refine Act.ite (fun _ => act_shelve hZ _ _) (fun _ => ?_)
  refine Act.ite (fun _ => act_shelve hZ _ _) (fun _ => ?_)
  refine Act.ite (fun _ => act_take hZ _) (fun _ => ?_)
  refine Act.ite (fun _ => Act.ite (fun _ => act_snacks hZ _) (fun _ => act_feed hZ _)) (fun _ => ?_)
  rw [e6, hc]
  have hv : vp_in (nI (m % 6)) 6 := vp_in_nI (by omega) (by decide)
  have hk : 13 + m % 6 < 19 := by omega
  refine Act.ite (fun _ => Act.pre hv (act_text hZ hk)) (fun _ => ?_)
  refine Act.ite (fun _ => Act.pre hv (act_text hZ hk)) (fun _ => ?_)
  refine Act.ite (fun _ => Act.pre hv (act_text hZ hk)) (fun _ => ?_)
  exact act_pass hZ _
end TXT
