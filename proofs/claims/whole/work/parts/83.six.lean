/-! the six calls that the orders know too, but for the hours -/
section SIX
theorem sim_2 : Sim_2 Sim := by
  intro σ x1 x2 x3 x4 hS
  obtain ⟨⟨hO, hI⟩, -⟩ := id hS
  have e9 : f_X9_letter σ x1 x2 x3 x4 = G9 (f_X1_mayWrite σ x1 x2 x3 x4) (fun q => f_X6_writeLetter q 2 x1 x2 x3 x4) := by
    unfold f_X9_letter G9
    simp only [bnd_eq]
  refine sim_gen2 hS (vd_letter hO hI x1 x2 x3 x4) (fun P => dz_letter hI P) (e3 := 3) (E := fun q => if q.1 = 0 then (setJ q.2.1 208 0 (q.2.2).toInt64, (0 : Int32)) else if q.1 = 2 then (q.2.1, (1 : Int32)) else if q.1 = 1 then (q.2.1, (2 : Int32)) else if q.1 = 3 then (q.2.1, (3 : Int32)) else (q.2.1, (0 : Int32))) (fun _ => by decide) ?_ (fun _ _ => rfl) (fun _ _ => rfl) (fun _ _ => rfl) (fun _ _ => rfl) (fun a b c => ⟨?_, ?_⟩) (fun τ h => ?_) (fun τ s k h hk => ?_) (fun τ hn h a b => ?_) (fun τ s k hn h hk => ?_)
  · unfold f_L_letter
    rw [e9, bnd_eq]
  · unfold ok_X9_letter
    unfold O9 at b
    simp only [bndP_eq] at b ⊢
    exact ⟨a, b⟩
  · rw [e9]
    rcases c with c | ⟨c, d⟩ | ⟨c, d⟩ | ⟨c, d⟩ <;> first | exact absurd rfl d | simp [c]
  · try dsimp only at h
    unfold f_X10_letter
    simp only [bnd_eq]
    rw [h]
    dsimp only
    rw [if_pos rfl]
  · try dsimp only at h
    unfold f_X10_letter
    simp only [bnd_eq]
    rw [h]
    exact if_neg hk
  · try dsimp only at h
    unfold ok_X10_letter
    simp only [bndP_eq]
    rw [h]
    try dsimp only at b
    dsimp only
    exact ⟨hn, fun _ => ⟨a, b⟩, fun _ => trivial⟩
  · try dsimp only at h
    unfold ok_X10_letter
    simp only [bndP_eq]
    exact ⟨hn, fun q => absurd q (by rw [h]; exact hk), fun _ => trivial⟩
theorem sim_3 : Sim_3 Sim := by
  intro σ x1 x2 x3 x4 x5 hS
  obtain ⟨⟨hO, hI⟩, -⟩ := id hS
  have e9 : f_X9_parcel σ x1 x2 x3 x4 x5 = G9 (f_X1_mayWrap σ x1 x2 x3 x4 x5) (fun q => f_X6_wrapParcel q 2 x1 x2 x3 x4 x5) := by
    unfold f_X9_parcel G9
    simp only [bnd_eq]
  refine sim_gen2 hS (vd_parcel hO hI x1 x2 x3 x4 x5) (fun P => dz_parcel (x1 := x1) hI P) (e3 := 3) (E := fun q => if q.1 = 0 then (setJ q.2.1 208 0 (q.2.2).toInt64, (0 : Int32)) else if q.1 = 2 then (q.2.1, (1 : Int32)) else if q.1 = 1 then (q.2.1, (2 : Int32)) else if q.1 = 3 then (q.2.1, (3 : Int32)) else (q.2.1, (0 : Int32))) (fun _ => by decide) ?_ (fun _ _ => rfl) (fun _ _ => rfl) (fun _ _ => rfl) (fun _ _ => rfl) (fun a b c => ⟨?_, ?_⟩) (fun τ h => ?_) (fun τ s k h hk => ?_) (fun τ hn h a b => ?_) (fun τ s k hn h hk => ?_)
  · unfold f_L_parcel
    rw [e9, bnd_eq]
  · unfold ok_X9_parcel
    unfold O9 at b
    simp only [bndP_eq] at b ⊢
    exact ⟨a, b⟩
  · rw [e9]
    rcases c with c | ⟨c, d⟩ | ⟨c, d⟩ | ⟨c, d⟩ <;> first | exact absurd rfl d | simp [c]
  · try dsimp only at h
    unfold f_X10_parcel
    simp only [bnd_eq]
    rw [h]
    dsimp only
    rw [if_pos rfl]
  · try dsimp only at h
    unfold f_X10_parcel
    simp only [bnd_eq]
    rw [h]
    exact if_neg hk
  · try dsimp only at h
    unfold ok_X10_parcel
    simp only [bndP_eq]
    rw [h]
    try dsimp only at b
    dsimp only
    exact ⟨hn, fun _ => ⟨a, b⟩, fun _ => trivial⟩
  · try dsimp only at h
    unfold ok_X10_parcel
    simp only [bndP_eq]
    exact ⟨hn, fun q => absurd q (by rw [h]; exact hk), fun _ => trivial⟩
theorem sim_18 : Sim_18 Sim := by
  intro σ x1 x2 hS
  obtain ⟨⟨hO, hI⟩, -⟩ := id hS
  have e9 : f_X9_stamp σ x1 x2 = G9 (f_X1_mayStamp σ x1 x2) (fun q => ((f_X6_stampItem q 2 x1 x2).1, f_X0_ofFloat (f_X6_stampItem q 2 x1 x2).2)) := by
    unfold f_X9_stamp G9
    simp only [bnd_eq]
  refine sim_gen2 hS (vd_stamp hO hI x1 x2) (fun P => dz_stamp hI P) (e3 := 2) (E := fun q => if q.1 = 0 then (setJ q.2.1 208 0 (q.2.2).toInt64, (0 : Int32)) else if q.1 = 2 then (q.2.1, (1 : Int32)) else if q.1 = 3 then (q.2.1, (2 : Int32)) else (q.2.1, (0 : Int32))) (fun _ => by decide) ?_ (fun _ _ => rfl) (fun _ _ => rfl) (fun _ _ => rfl) (fun _ _ => rfl) (fun a b c => ⟨?_, ?_⟩) (fun τ h => ?_) (fun τ s k h hk => ?_) (fun τ hn h a b => ?_) (fun τ s k hn h hk => ?_)
  · unfold f_L_stamp
    rw [e9, bnd_eq]
  · unfold ok_X9_stamp
    unfold O9 at b
    simp only [bndP_eq] at b ⊢
    exact ⟨a, b⟩
  · rw [e9]
    rcases c with c | ⟨c, d⟩ | ⟨c, d⟩ | ⟨c, d⟩ <;> first | exact absurd rfl d | simp [c]
  · try dsimp only at h
    unfold f_X10_stamp
    simp only [bnd_eq]
    rw [h]
    dsimp only
    rw [if_pos rfl]
  · try dsimp only at h
    unfold f_X10_stamp
    simp only [bnd_eq]
    rw [h]
    exact if_neg hk
  · try dsimp only at h
    unfold ok_X10_stamp
    simp only [bndP_eq]
    rw [h]
    try dsimp only at b
    dsimp only
    exact ⟨hn, fun _ => ⟨a, b⟩, fun _ => trivial⟩
  · try dsimp only at h
    unfold ok_X10_stamp
    simp only [bndP_eq]
    exact ⟨hn, fun q => absurd q (by rw [h]; exact hk), fun _ => trivial⟩
theorem sim_19 : Sim_19 Sim := by
  intro σ x1 x2 hS
  obtain ⟨⟨hO, hI⟩, -⟩ := id hS
  have e9 : f_X9_shelve σ x1 x2 = G9 (f_X1_mayShelve σ x1 x2) (fun q => f_X6_shelveItem q 2 x1 x2) := by
    unfold f_X9_shelve G9
    simp only [bnd_eq]
  refine sim_gen2 hS (vd_shelve hO hI x1 x2) (fun P => dz_shelve hI P) (e3 := 2) (E := fun q => if q.1 = 0 then (setJ q.2.1 208 0 (q.2.2).toInt64, (0 : Int32)) else if q.1 = 2 then (q.2.1, (1 : Int32)) else if q.1 = 3 then (q.2.1, (2 : Int32)) else (q.2.1, (0 : Int32))) (fun _ => by decide) ?_ (fun _ _ => rfl) (fun _ _ => rfl) (fun _ _ => rfl) (fun _ _ => rfl) (fun a b c => ⟨?_, ?_⟩) (fun τ h => ?_) (fun τ s k h hk => ?_) (fun τ hn h a b => ?_) (fun τ s k hn h hk => ?_)
  · unfold f_L_shelve
    rw [e9, bnd_eq]
  · unfold ok_X9_shelve
    unfold O9 at b
    simp only [bndP_eq] at b ⊢
    exact ⟨a, b⟩
  · rw [e9]
    rcases c with c | ⟨c, d⟩ | ⟨c, d⟩ | ⟨c, d⟩ <;> first | exact absurd rfl d | simp [c]
  · try dsimp only at h
    unfold f_X10_shelve
    simp only [bnd_eq]
    rw [h]
    dsimp only
    rw [if_pos rfl]
  · try dsimp only at h
    unfold f_X10_shelve
    simp only [bnd_eq]
    rw [h]
    exact if_neg hk
  · try dsimp only at h
    unfold ok_X10_shelve
    simp only [bndP_eq]
    rw [h]
    try dsimp only at b
    dsimp only
    exact ⟨hn, fun _ => ⟨a, b⟩, fun _ => trivial⟩
  · try dsimp only at h
    unfold ok_X10_shelve
    simp only [bndP_eq]
    exact ⟨hn, fun q => absurd q (by rw [h]; exact hk), fun _ => trivial⟩
theorem sim_20 : Sim_20 Sim := by
  intro σ x1 hS
  obtain ⟨⟨hO, hI⟩, -⟩ := id hS
  have e9 : f_X9_take σ x1 = G9 (f_X1_mayTake σ x1) (fun q => f_X6_takeAll q 2 x1) := by
    unfold f_X9_take G9
    simp only [bnd_eq]
  refine sim_gen2 hS (vd_take hO hI x1) (fun P => dz_take hI P) (e3 := 2) (E := fun q => if q.1 = 0 then (setJ q.2.1 208 0 (q.2.2).toInt64, (0 : Int32)) else if q.1 = 2 then (q.2.1, (1 : Int32)) else if q.1 = 3 then (q.2.1, (2 : Int32)) else (q.2.1, (0 : Int32))) (fun _ => by decide) ?_ (fun _ _ => rfl) (fun _ _ => rfl) (fun _ _ => rfl) (fun _ _ => rfl) (fun a b c => ⟨?_, ?_⟩) (fun τ h => ?_) (fun τ s k h hk => ?_) (fun τ hn h a b => ?_) (fun τ s k hn h hk => ?_)
  · unfold f_L_take
    rw [e9, bnd_eq]
  · unfold ok_X9_take
    unfold O9 at b
    simp only [bndP_eq] at b ⊢
    exact ⟨a, b⟩
  · rw [e9]
    rcases c with c | ⟨c, d⟩ | ⟨c, d⟩ | ⟨c, d⟩ <;> first | exact absurd rfl d | simp [c]
  · try dsimp only at h
    unfold f_X10_take
    simp only [bnd_eq]
    rw [h]
    dsimp only
    rw [if_pos rfl]
  · try dsimp only at h
    unfold f_X10_take
    simp only [bnd_eq]
    rw [h]
    exact if_neg hk
  · try dsimp only at h
    unfold ok_X10_take
    simp only [bndP_eq]
    rw [h]
    try dsimp only at b
    dsimp only
    exact ⟨hn, fun _ => ⟨a, b⟩, fun _ => trivial⟩
  · try dsimp only at h
    unfold ok_X10_take
    simp only [bndP_eq]
    exact ⟨hn, fun q => absurd q (by rw [h]; exact hk), fun _ => trivial⟩
theorem sim_24 : Sim_24 Sim := by
  intro σ x1 hS
  obtain ⟨⟨hO, hI⟩, -⟩ := id hS
  have e9 : f_X9_feed σ x1 = G9 (f_X1_mayFeed σ x1) (fun q => (f_X3_eatSnacks q 18 x1, f_X0_ofFloat ((f_X3_eatSnacks q 18 x1).2.1 18 0))) := by
    unfold f_X9_feed G9
    simp only [bnd_eq]
  refine sim_gen2 hS (vd_feed hO hI x1) (fun P => dz_feed hI P) (e3 := 2) (E := fun q => if q.1 = 0 then (setJ q.2.1 208 0 (q.2.2).toInt64, (0 : Int32)) else if q.1 = 1 then (q.2.1, (1 : Int32)) else if q.1 = 3 then (q.2.1, (2 : Int32)) else (q.2.1, (0 : Int32))) (fun _ => by decide) ?_ (fun _ _ => rfl) (fun _ _ => rfl) (fun _ _ => rfl) (fun _ _ => rfl) (fun a b c => ⟨?_, ?_⟩) (fun τ h => ?_) (fun τ s k h hk => ?_) (fun τ hn h a b => ?_) (fun τ s k hn h hk => ?_)
  · unfold f_L_feed
    rw [e9, bnd_eq]
  · unfold ok_X9_feed
    unfold O9 at b
    simp only [bndP_eq] at b ⊢
    exact b
  · rw [e9]
    rcases c with c | ⟨c, d⟩ | ⟨c, d⟩ | ⟨c, d⟩ <;> first | exact absurd rfl d | simp [c]
  · try dsimp only at h
    unfold f_X10_feed
    simp only [bnd_eq]
    rw [h]
    dsimp only
    rw [if_pos rfl]
  · try dsimp only at h
    unfold f_X10_feed
    simp only [bnd_eq]
    rw [h]
    exact if_neg hk
  · try dsimp only at h
    unfold ok_X10_feed
    simp only [bndP_eq]
    rw [h]
    try dsimp only at b
    dsimp only
    exact ⟨fun _ => ⟨a, b⟩, fun _ => trivial⟩
  · try dsimp only at h
    unfold ok_X10_feed
    simp only [bndP_eq]
    exact ⟨fun q => absurd q (by rw [h]; exact hk), fun _ => trivial⟩
end SIX
