section READ2
variable {inp : Nat → Int32} {n : Nat}
theorem md_order {τ : St} {p : Nat} (h : MO τ inp n p) (hn : n ≤ 60) (hp : p ≤ n) : Rd τ inp n p (sO inp n p) := by
  have none : (∀ c, ¬ c = -1 → (c = 119 ∨ c = 115 ∨ c = 104 ∨ c = 116 ∨ c = 102 ∨ c = 112) → isS inp n c p = false) → sO inp n p = (false, p, 6, []) → Rd τ inp n p (sO inp n p) := by
    intro hs e
    rw [e]
    obtain ⟨a0, -, b0⟩ := md_sort (inp := inp) (k := 0) (show ¬ (119 : Int32) = -1 by decide) h hn hp
    obtain ⟨a1, -, b1⟩ := md_sort (inp := inp) (k := 1) (show ¬ (115 : Int32) = -1 by decide) h hn hp
    obtain ⟨a2, -, b2⟩ := md_sort (inp := inp) (k := 2) (show ¬ (104 : Int32) = -1 by decide) h hn hp
    obtain ⟨a3, -, b3⟩ := md_sort (inp := inp) (k := 5) (show ¬ (112 : Int32) = -1 by decide) h hn hp
    obtain ⟨a4, -, b4⟩ := md_sort (inp := inp) (k := 3) (show ¬ (116 : Int32) = -1 by decide) h hn hp
    obtain ⟨a5, -, b5⟩ := md_sort (inp := inp) (k := 4) (show ¬ (102 : Int32) = -1 by decide) h hn hp
    have c0 := b0 (hs 119 (by decide) (by decide))
    have c1 := b1 (hs 115 (by decide) (by decide))
    have c2 := b2 (hs 104 (by decide) (by decide))
    have c3 := b3 (hs 112 (by decide) (by decide))
    have c4 := b4 (hs 116 (by decide) (by decide))
    have c5 := b5 (hs 102 (by decide) (by decide))
    exact ⟨by simp [ok_X10_readsOrder, bndP_eq, a0, a1, a2, a3, a4, a5, c0, c1, c2, c3, c4, c5], τ, by simp [f_X10_readsOrder, bnd_eq, c0, c1, c2, c3, c4, c5], h, MF.rf, (fun q => by cases q)⟩
  rcases Nat.lt_or_ge p n with q | q
  · rcases kd_of (x := inp p) with ⟨k, e⟩ | ⟨k, e⟩ | ⟨k, e⟩ | ⟨k, e⟩ | ⟨k, e⟩ | ⟨k, e⟩ | ⟨k, e0, e1, e2, e3, e4, e5⟩
    · exact md_order_0 h hn q k e
    · exact md_order_1 h hn q k e
    · exact md_order_2 h hn q k e
    · exact md_order_3 h hn q k e
    · exact md_order_4 h hn q k e
    · exact md_order_5 h hn q k e
    · refine none (fun c _ hc => ?_) (by unfold sO; rw [if_pos q, if_pos k])
      rw [isS_of q]
      rcases hc with rfl | rfl | rfl | rfl | rfl | rfl
      · exact decide_eq_false e0
      · exact decide_eq_false e1
      · exact decide_eq_false e2
      · exact decide_eq_false e3
      · exact decide_eq_false e4
      · exact decide_eq_false e5
  · refine none (fun c _ _ => ?_) (by unfold sO; rw [if_neg (show ¬ p < n by omega)])
    unfold isS
    rw [if_neg (show ¬ p < n by omega)]
theorem md_readsAll (hn : n ≤ 60) : ∀ (fu fu' p : Nat) (τ : St), n - p < fu → fu < fu' → MO τ inp n p → p ≤ n →
    okX10_readsAll_L7 fu' τ true ∧ ∃ τ', fX10_readsAll_L7 fu' τ true = (τ', (sA inp n fu p).1) ∧ MO τ' inp n (sA inp n fu p).2.1 ∧ MF τ τ' := by
  intro fu
  induction fu with
  | zero => intro fu' p τ h; omega
  | succ fu ih =>
    intro fu' p τ hf hf' h hp
    obtain ⟨fu', rfl⟩ : ∃ z, fu' = z + 1 := ⟨fu' - 1, by omega⟩
    obtain ⟨a1, τ1, a2, a3, a4, -⟩ := md_order h hn hp
    obtain ⟨l1, l2, l3⟩ := sO_len (inp := inp) hp
    rw [okX10_readsAll_L7, fX10_readsAll_L7]
    simp only [bnd_eq, bndP_eq, if_true]
    rw [a2]
    unfold sA
    cases hb : (sO inp n p).1 with
    | false =>
      simp only [if_neg (show ¬ (false = true) by decide)]
      exact ⟨⟨fun _ => ⟨a1, (fun q => by cases q), fun _ => trivial⟩, (fun q => by cases q)⟩, τ1, rfl, a3, a4⟩
    | true =>
      obtain ⟨l4, l5⟩ := l3 hb
      generalize hr : sO inp n p = r at *
      obtain ⟨rb, p1, κ, a⟩ := r
      dsimp only at *
      obtain ⟨b1, b2⟩ := md_signM (c := 59) (by decide) a3 hn l1
      obtain ⟨fu2, rfl⟩ : ∃ z, fu' = z + 1 := ⟨fu' - 1, by omega⟩
      simp only [if_true]
      rcases b2 with ⟨d0, d1, d2, d3, d4⟩ | ⟨d1, d2⟩
      · have hne : ¬ p1 = n := by omega
        obtain ⟨c1, τ2, c2, c3, c4⟩ := ih (fu2 + 1) (p1 + 1) _ (by omega) (by omega) d3 d0
        rw [d2, if_neg hne, d1]
        simp only [if_true]
        exact ⟨⟨fun _ => ⟨a1, fun _ => ⟨b1, c1⟩, (fun q => by cases q)⟩, (fun q => by cases q)⟩, τ2, c2, c3, (a4.tr d4.mf).tr c4⟩
      · rw [d2, d1]
        rw [okX10_readsAll_L7, fX10_readsAll_L7]
        simp only [if_neg (show ¬ (false = true) by decide)]
        rw [a3.1, a3.2.1]
        by_cases e : p1 = n
        · rw [if_pos (by rw [e]), if_pos e]
          rw [e] at a3
          exact ⟨⟨fun _ => ⟨a1, fun _ => ⟨b1, (fun q => by cases q), fun _ => trivial⟩, (fun q => by cases q)⟩, (fun q => by cases q)⟩, τ1, rfl, a3, a4⟩
        · have e' : ¬ nI p1 = nI n := fun z => e (nI_inj (by omega) (by omega) z)
          rw [if_neg e', if_neg e]
          exact ⟨⟨fun _ => ⟨a1, fun _ => ⟨b1, (fun q => by cases q), fun _ => trivial⟩, (fun q => by cases q)⟩, (fun q => by cases q)⟩, τ1, rfl, a3, a4⟩
theorem cl_scan {σ : St} (h3 : σ.1 191 3 = nI n) (hc : ∀ k, k < n → σ.1 192 k = inp k) (hn : n ≤ 60) :
    ok_X7_scan σ ∧ (f_X7_scan σ).1 191 5 = (if (sA inp n 61 0).1 = true then -1 else nI (sA inp n 61 0).2.1) ∧ (f_X7_scan σ).1 191 3 = 0 ∧ (∀ j, ¬ j = 191 → ¬ j = 193 → ¬ j = 194 → (f_X7_scan σ).1 j = σ.1 j) ∧ (f_X7_scan σ).2 = σ.2 ∧ ((sA inp n 61 0).1 = true → (f_X7_scan σ).1 191 4 = nI (sA inp n 61 0).2.2.length ∧ Tb (f_X7_scan σ) 0 (sA inp n 61 0).2.2) := by
  obtain ⟨σ0, hσ0⟩ : ∃ z, z = setI (setI σ 191 6 0) 191 4 0 := ⟨_, rfl⟩
  have o0 : CO σ0 inp n 0 0 := by
    rw [hσ0]
    refine ⟨?_, ?_, ?_, ?_⟩
    · rw [q1e rfl, un (by decide), q1e rfl, un (by decide)]; exact h3
    · rw [q1e rfl, un (by decide), q1e rfl, ue rfl]; rfl
    · rw [q1e rfl, ue rfl]; rfl
    · intro k hk; rw [q1n (by decide), q1n (by decide)]; exact hc k hk
  have f0 : ∀ j, ¬ j = 191 → σ0.1 j = σ.1 j := fun j hj => by rw [hσ0, q1n hj, q1n hj]
  have g0 : σ0.2 = σ.2 := by rw [hσ0]; rfl
  obtain ⟨a1, σ1, a2, a3, a4, a5, a6⟩ := cl_orders hn 61 2000 0 0 σ0 (by omega) (by decide) o0 (by decide) (Nat.zero_le _)
  have k1 : ∀ j, ¬ j = 191 → ¬ j = 193 → ¬ j = 194 → σ1.1 j = σ.1 j := fun j a b c => (a5.1 j a b c).trans (f0 j a)
  have k2 : σ1.2 = σ.2 := a5.2.1.trans g0
  unfold ok_X7_scan f_X7_scan ok_X7_scanOrders f_X7_scanOrders
  simp only [bnd_eq, bndP_eq]
  rw [← hσ0, a2]
  refine ⟨a1, ?_⟩
  cases hb : (sA inp n 61 0).1 with
  | true =>
    obtain ⟨b1, b2⟩ := a6 hb
    simp only [if_true]
    refine ⟨?_, ?_, ?_, k2, fun _ => ⟨?_, fun i κ a hi => ?_⟩⟩
    · rw [q1e rfl, un (by decide), q1e rfl, ue rfl]
    · rw [q1e rfl, ue rfl]
    · intro j a b c; rw [q1n a, q1n a]; exact k1 j a b c
    · rw [q1e rfl, un (by decide), q1e rfl, un (by decide), b1, Nat.zero_add]
    · rw [q1n (by decide), q1n (by decide), q1n (by decide), q1n (by decide)]
      exact b2 i κ a hi
  | false =>
    simp only [if_neg (show ¬ (false = true) by decide)]
    refine ⟨?_, ?_, ?_, k2, (fun q => by cases q)⟩
    · rw [q1e rfl, un (by decide), q1e rfl, ue rfl]; exact a4
    · rw [q1e rfl, ue rfl]
    · intro j a b c; rw [q1n a, q1n a]; exact k1 j a b c
end READ2
