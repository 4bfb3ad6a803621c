/-! the state of the law's object, and what an act leaves -/
section ACTZ
def Zs (σ : St) (w : Nat → Int32) (f : Nat → UInt32) (l : List Dat) : Prop := Off σ 2 w f ∧ Inv w f ∧ Ring σ l ∧ σ.1 191 3 = 0
abbrev SK : Nat → Prop := fun j => j = 0 ∨ (36 ≤ j ∧ j < 53)
def Th (r : Int64) : Prop := r = -4000000000000000001 ∨ r = -4000000000000000002 ∨ r = -4000000000000000003
def Act (σ : St) (w : Nat → Int32) (f : Nat → UInt32) (l : List Dat) (okL : Prop) (fL : St × Int64) : Prop := okL ∧ ((∃ σ' r, fL = (σ', r) ∧ Th r ∧ Zs σ' w f l ∧ KR SK σ σ') ∨ ∃ (σ' : St) (v : Int32) (w' : Nat → Int32) (f' : Nat → UInt32), fL = (σ', v.toInt64) ∧ Zs σ' w' f' (((w, f) :: l).take 8) ∧ KR SK σ σ')
theorem Zs.kp {σ σ' : St} {w : Nat → Int32} {f : Nat → UInt32} {l : List Dat} {Q : Nat → Prop} (h : Zs σ w f l) (hk : Kp Q σ σ') (h1 : ∀ j, 2 ≤ j → j < 19 → Q j) (h2 : ∀ j, 53 ≤ j → j < 190 → Q j) (h3 : Q 191) : Zs σ' w f l :=
  ⟨h.1.kp hk (fun j hj => h1 _ (by omega) (by omega)), h.2.1, h.2.2.1.kp hk h2, by rw [(hk.1 191 h3).1]; exact h.2.2.2⟩
theorem KR.rf {Q : Nat → Prop} {σ : St} : KR Q σ σ := fun _ _ => ⟨rfl, rfl⟩
theorem act_gen {σ : St} {w : Nat → Int32} {f : Nat → UInt32} {l : List Dat} (hZ : Zs σ w f l) {cl : St × Int32} {okC a1 a2 a3 P : Prop} {act : St → St × Int32} {okA : St → Prop} (V : Vc σ cl okC a1 a2 a3 P) (D : P → Dc w f act okA) {f9 : Nat × St × Int32} {E : Nat × St × Int32 → St × Int64} {okL : Prop} {fL : St × Int64} (e9 : f9 = G9 cl act) (L : fL = E f9) (E0 : ∀ s v, E (0, s, v) = (s, v.toInt64)) (E2 : a1 → ∃ r, Th r ∧ ∀ s, E (2, s, 0) = (s, r)) (E1 : a2 → ∃ r, Th r ∧ ∀ s, E (1, s, 0) = (s, r)) (E3 : a3 → ∃ r, Th r ∧ ∀ s, E (3, s, 0) = (s, r)) (K : okC → O9 cl okA → (f9.1 = 0 ∨ (f9.1 = 2 ∧ a1) ∨ (f9.1 = 1 ∧ a2) ∨ (f9.1 = 3 ∧ a3)) → okL) : Act σ w f l okL fL := by
  obtain ⟨hO, hI, hR, hin⟩ := id hZ
  obtain ⟨v1, hV⟩ := V
  have n1 : ¬ (-1 : Int32) = 0 := by decide
  have n2 : ¬ (-2 : Int32) = 0 := by decide
  rcases hV with ⟨c1, c2⟩ | ⟨c1, c2⟩ | ⟨c1, c2⟩ | ⟨k, v, k0, k1, k2, c1, c2⟩
  · obtain ⟨r1, r2, r3⟩ := cl_remember (by decide) hR hO hI
    have hO1 : Off (f_X4_remember σ 2) 2 w f := hO.kp r3 (fun j hj => by omega)
    obtain ⟨d1, σ', v, w', f', d2, d3, d4, d5⟩ := D c2 _ hO1
    refine ⟨K v1 (o9_0 c1 r1 d1) (Or.inl (by rw [e9, g9_0 c1])), Or.inr ⟨σ', v, w', f', ?_, ⟨d3, d4, r2.kp d5 (fun j x y => by omega), ?_⟩, ?_⟩⟩
    · rw [L, e9, g9_0 c1, d2, E0]
    · rw [(d5.1 191 (by omega)).1, (r3.1 191 (by omega)).1]; exact hin
    · exact (r3.kr.wk (fun j hj => by omega)).tr (d5.kr.wk (fun j hj => by omega))
  · obtain ⟨r, hr, hE⟩ := E2 c2
    refine ⟨K v1 (o9_n c1 n1) (Or.inr (Or.inl ⟨by rw [e9, g9_2 c1], c2⟩)), Or.inl ⟨σ, r, ?_, hr, hZ, KR.rf⟩⟩
    rw [L, e9, g9_2 c1, hE]
  · obtain ⟨r, hr, hE⟩ := E1 c2
    refine ⟨K v1 (o9_n c1 n2) (Or.inr (Or.inr (Or.inl ⟨by rw [e9, g9_1 c1], c2⟩))), Or.inl ⟨σ, r, ?_, hr, hZ, KR.rf⟩⟩
    rw [L, e9, g9_1 c1, hE]
  · obtain ⟨r, hr, hE⟩ := E3 c2
    have kk : Kp (fun j => ¬ j = 1) σ (setI (setI σ 1 1 k) 1 2 v) := kp_setI (kp_setI Kp.rf (fun q => q rfl)) (fun q => q rfl)
    refine ⟨K v1 (o9_n c1 k0) (Or.inr (Or.inr (Or.inr ⟨by rw [e9, g9_3 c1 k0 k1 k2], c2⟩))), Or.inl ⟨setI (setI σ 1 1 k) 1 2 v, r, ?_, hr, hZ.kp kk (fun j x y => by omega) (fun j x y => by omega) (by decide), kk.kr.wk (fun j hj => by omega)⟩⟩
    rw [L, e9, g9_3 c1 k0 k1 k2, hE]
theorem vc_rng {σ : St} (b : Bool) : Vc σ (σ, if b = true then 0 else -2) True False True False (b = true) := by
  refine ⟨trivial, ?_⟩
  cases b with
  | true => exact Or.inl ⟨rfl, rfl⟩
  | false => exact Or.inr (Or.inr (Or.inl ⟨rfl, trivial⟩))
theorem Th.a : Th (-4000000000000000001) := Or.inl rfl
theorem Th.b : Th (-4000000000000000002) := Or.inr (Or.inl rfl)
theorem Th.c : Th (-4000000000000000003) := Or.inr (Or.inr rfl)
variable {σ : St} {w : Nat → Int32} {f : Nat → UInt32} {l : List Dat}
theorem act_crayon (hZ : Zs σ w f l) (x1 : Int32) : Act σ w f l (ok_L_crayon σ x1) (f_L_crayon σ x1) := by
  obtain ⟨hO, hI, -⟩ := id hZ
  have e9 : f_X9_crayon σ x1 = G9 (f_X1_mayAddCrayon σ x1) (fun q => f_X2_addCrayon q 3 (FP.fmul (1036831949 : UInt32) (FP.i2f x1))) := by
    unfold f_X9_crayon G9
    simp only [bnd_eq]
  refine act_gen hZ (E := fun q => if q.1 = 0 then (q.2.1, (q.2.2).toInt64) else if q.1 = 1 then (q.2.1, (-4000000000000000001 : Int64)) else if q.1 = 3 then (q.2.1, (-4000000000000000002 : Int64)) else (q.2.1, (0 : Int64))) (vc_crayon hO hI x1) (fun P => dc_crayon hI P) (f9 := f_X9_crayon σ x1) e9 (by unfold f_L_crayon; exact bnd_eq _ _) (fun _ _ => rfl) (fun q => q.elim) (fun _ => ⟨_, Th.a, fun _ => rfl⟩) (fun _ => ⟨_, Th.b, fun _ => rfl⟩) (fun a b c => ?_)
  unfold ok_L_crayon
  refine ⟨?_, ?_⟩
  · unfold ok_X9_crayon
    unfold O9 at b
    simp only [bndP_eq] at b ⊢
    first | exact ⟨a, b⟩ | exact b
  · rcases c with c | ⟨c, d⟩ | ⟨c, d⟩ | ⟨c, d⟩
    all_goals first | exact d.elim | simp [c]
theorem act_letter (hZ : Zs σ w f l) (x1 x2 x3 x4 : Int32) : Act σ w f l (ok_L_letter σ x1 x2 x3 x4) (f_L_letter σ x1 x2 x3 x4) := by
  obtain ⟨hO, hI, -⟩ := id hZ
  have e9 : f_X9_letter σ x1 x2 x3 x4 = G9 (f_X1_mayWrite σ x1 x2 x3 x4) (fun q => f_X6_writeLetter q 2 x1 x2 x3 x4) := by
    unfold f_X9_letter G9
    simp only [bnd_eq]
  refine act_gen hZ (E := fun q => if q.1 = 0 then (q.2.1, (q.2.2).toInt64) else if q.1 = 2 then (q.2.1, (-4000000000000000001 : Int64)) else if q.1 = 1 then (q.2.1, (-4000000000000000002 : Int64)) else if q.1 = 3 then (q.2.1, (-4000000000000000003 : Int64)) else (q.2.1, (0 : Int64))) (vc_letter hO hI x1 x2 x3 x4) (fun P => dc_letter hI P) (f9 := f_X9_letter σ x1 x2 x3 x4) e9 (by unfold f_L_letter; exact bnd_eq _ _) (fun _ _ => rfl) (fun _ => ⟨_, Th.a, fun _ => rfl⟩) (fun _ => ⟨_, Th.b, fun _ => rfl⟩) (fun _ => ⟨_, Th.c, fun _ => rfl⟩) (fun a b c => ?_)
  unfold ok_L_letter
  refine ⟨?_, ?_⟩
  · unfold ok_X9_letter
    unfold O9 at b
    simp only [bndP_eq] at b ⊢
    first | exact ⟨a, b⟩ | exact b
  · rcases c with c | ⟨c, d⟩ | ⟨c, d⟩ | ⟨c, d⟩
    all_goals first | exact d.elim | simp [c]
theorem act_parcel (hZ : Zs σ w f l) (x1 x2 x3 x4 x5 : Int32) : Act σ w f l (ok_L_parcel σ x1 x2 x3 x4 x5) (f_L_parcel σ x1 x2 x3 x4 x5) := by
  obtain ⟨hO, hI, -⟩ := id hZ
  have e9 : f_X9_parcel σ x1 x2 x3 x4 x5 = G9 (f_X1_mayWrap σ x1 x2 x3 x4 x5) (fun q => f_X6_wrapParcel q 2 x1 x2 x3 x4 x5) := by
    unfold f_X9_parcel G9
    simp only [bnd_eq]
  refine act_gen hZ (E := fun q => if q.1 = 0 then (q.2.1, (q.2.2).toInt64) else if q.1 = 2 then (q.2.1, (-4000000000000000001 : Int64)) else if q.1 = 1 then (q.2.1, (-4000000000000000002 : Int64)) else if q.1 = 3 then (q.2.1, (-4000000000000000003 : Int64)) else (q.2.1, (0 : Int64))) (vc_parcel hO hI x1 x2 x3 x4 x5) (fun P => dc_parcel (x1 := x1) hI P) (f9 := f_X9_parcel σ x1 x2 x3 x4 x5) e9 (by unfold f_L_parcel; exact bnd_eq _ _) (fun _ _ => rfl) (fun _ => ⟨_, Th.a, fun _ => rfl⟩) (fun _ => ⟨_, Th.b, fun _ => rfl⟩) (fun _ => ⟨_, Th.c, fun _ => rfl⟩) (fun a b c => ?_)
  unfold ok_L_parcel
  refine ⟨?_, ?_⟩
  · unfold ok_X9_parcel
    unfold O9 at b
    simp only [bndP_eq] at b ⊢
    first | exact ⟨a, b⟩ | exact b
  · rcases c with c | ⟨c, d⟩ | ⟨c, d⟩ | ⟨c, d⟩
    all_goals first | exact d.elim | simp [c]
theorem act_potato (hZ : Zs σ w f l) : Act σ w f l (ok_L_potato σ) (f_L_potato σ) := by
  obtain ⟨hO, hI, -⟩ := id hZ
  have e9 : f_X9_potato σ = G9 (f_X1_mayCut σ) (fun q => f_X2_addPotato q 3) := by
    unfold f_X9_potato G9
    simp only [bnd_eq]
  refine act_gen hZ (E := fun q => if q.1 = 0 then (q.2.1, (q.2.2).toInt64) else if q.1 = 3 then (q.2.1, (-4000000000000000001 : Int64)) else (q.2.1, (0 : Int64))) (vc_potato hO hI) (fun P => dc_potato hI P) (f9 := f_X9_potato σ) e9 (by unfold f_L_potato; exact bnd_eq _ _) (fun _ _ => rfl) (fun q => q.elim) (fun q => q.elim) (fun _ => ⟨_, Th.a, fun _ => rfl⟩) (fun a b c => ?_)
  unfold ok_L_potato
  refine ⟨?_, ?_⟩
  · unfold ok_X9_potato
    unfold O9 at b
    simp only [bndP_eq] at b ⊢
    first | exact ⟨a, b⟩ | exact b
  · rcases c with c | ⟨c, d⟩ | ⟨c, d⟩ | ⟨c, d⟩
    all_goals first | exact d.elim | simp [c]
theorem act_stamp (hZ : Zs σ w f l) (x1 x2 : Int32) : Act σ w f l (ok_L_stamp σ x1 x2) (f_L_stamp σ x1 x2) := by
  obtain ⟨hO, hI, -⟩ := id hZ
  have e9 : f_X9_stamp σ x1 x2 = G9 (f_X1_mayStamp σ x1 x2) (fun q => ((f_X6_stampItem q 2 x1 x2).1, f_X0_ofFloat (f_X6_stampItem q 2 x1 x2).2)) := by
    unfold f_X9_stamp G9
    simp only [bnd_eq]
  refine act_gen hZ (E := fun q => if q.1 = 0 then (q.2.1, (q.2.2).toInt64) else if q.1 = 2 then (q.2.1, (-4000000000000000001 : Int64)) else if q.1 = 3 then (q.2.1, (-4000000000000000002 : Int64)) else (q.2.1, (0 : Int64))) (vc_stamp hO hI x1 x2) (fun P => dc_stamp hI P) (f9 := f_X9_stamp σ x1 x2) e9 (by unfold f_L_stamp; exact bnd_eq _ _) (fun _ _ => rfl) (fun _ => ⟨_, Th.a, fun _ => rfl⟩) (fun q => q.elim) (fun _ => ⟨_, Th.b, fun _ => rfl⟩) (fun a b c => ?_)
  unfold ok_L_stamp
  refine ⟨?_, ?_⟩
  · unfold ok_X9_stamp
    unfold O9 at b
    simp only [bndP_eq] at b ⊢
    first | exact ⟨a, b⟩ | exact b
  · rcases c with c | ⟨c, d⟩ | ⟨c, d⟩ | ⟨c, d⟩
    all_goals first | exact d.elim | simp [c]
theorem act_shelve (hZ : Zs σ w f l) (x1 x2 : Int32) : Act σ w f l (ok_L_shelve σ x1 x2) (f_L_shelve σ x1 x2) := by
  obtain ⟨hO, hI, -⟩ := id hZ
  have e9 : f_X9_shelve σ x1 x2 = G9 (f_X1_mayShelve σ x1 x2) (fun q => f_X6_shelveItem q 2 x1 x2) := by
    unfold f_X9_shelve G9
    simp only [bnd_eq]
  refine act_gen hZ (E := fun q => if q.1 = 0 then (q.2.1, (q.2.2).toInt64) else if q.1 = 2 then (q.2.1, (-4000000000000000001 : Int64)) else if q.1 = 3 then (q.2.1, (-4000000000000000002 : Int64)) else (q.2.1, (0 : Int64))) (vc_shelve hO hI x1 x2) (fun P => dc_shelve hI P) (f9 := f_X9_shelve σ x1 x2) e9 (by unfold f_L_shelve; exact bnd_eq _ _) (fun _ _ => rfl) (fun _ => ⟨_, Th.a, fun _ => rfl⟩) (fun q => q.elim) (fun _ => ⟨_, Th.b, fun _ => rfl⟩) (fun a b c => ?_)
  unfold ok_L_shelve
  refine ⟨?_, ?_⟩
  · unfold ok_X9_shelve
    unfold O9 at b
    simp only [bndP_eq] at b ⊢
    first | exact ⟨a, b⟩ | exact b
  · rcases c with c | ⟨c, d⟩ | ⟨c, d⟩ | ⟨c, d⟩
    all_goals first | exact d.elim | simp [c]
theorem act_take (hZ : Zs σ w f l) (x1 : Int32) : Act σ w f l (ok_L_take σ x1) (f_L_take σ x1) := by
  obtain ⟨hO, hI, -⟩ := id hZ
  have e9 : f_X9_take σ x1 = G9 (f_X1_mayTake σ x1) (fun q => f_X6_takeAll q 2 x1) := by
    unfold f_X9_take G9
    simp only [bnd_eq]
  refine act_gen hZ (E := fun q => if q.1 = 0 then (q.2.1, (q.2.2).toInt64) else if q.1 = 2 then (q.2.1, (-4000000000000000001 : Int64)) else if q.1 = 3 then (q.2.1, (-4000000000000000002 : Int64)) else (q.2.1, (0 : Int64))) (vc_take hO hI x1) (fun P => dc_take hI P) (f9 := f_X9_take σ x1) e9 (by unfold f_L_take; exact bnd_eq _ _) (fun _ _ => rfl) (fun _ => ⟨_, Th.a, fun _ => rfl⟩) (fun q => q.elim) (fun _ => ⟨_, Th.b, fun _ => rfl⟩) (fun a b c => ?_)
  unfold ok_L_take
  refine ⟨?_, ?_⟩
  · unfold ok_X9_take
    unfold O9 at b
    simp only [bndP_eq] at b ⊢
    first | exact ⟨a, b⟩ | exact b
  · rcases c with c | ⟨c, d⟩ | ⟨c, d⟩ | ⟨c, d⟩
    all_goals first | exact d.elim | simp [c]
theorem act_feed (hZ : Zs σ w f l) (x1 : Int32) : Act σ w f l (ok_L_feed σ x1) (f_L_feed σ x1) := by
  obtain ⟨hO, hI, -⟩ := id hZ
  have e9 : f_X9_feed σ x1 = G9 (f_X1_mayFeed σ x1) (fun q => (f_X3_eatSnacks q 18 x1, f_X0_ofFloat ((f_X3_eatSnacks q 18 x1).2.1 18 0))) := by
    unfold f_X9_feed G9
    simp only [bnd_eq]
  refine act_gen hZ (E := fun q => if q.1 = 0 then (q.2.1, (q.2.2).toInt64) else if q.1 = 1 then (q.2.1, (-4000000000000000001 : Int64)) else if q.1 = 3 then (q.2.1, (-4000000000000000002 : Int64)) else (q.2.1, (0 : Int64))) (vc_feed hO hI x1) (fun P => dc_feed hI P) (f9 := f_X9_feed σ x1) e9 (by unfold f_L_feed; exact bnd_eq _ _) (fun _ _ => rfl) (fun q => q.elim) (fun _ => ⟨_, Th.a, fun _ => rfl⟩) (fun _ => ⟨_, Th.b, fun _ => rfl⟩) (fun a b c => ?_)
  unfold ok_L_feed
  refine ⟨?_, ?_⟩
  · unfold ok_X9_feed
    unfold O9 at b
    simp only [bndP_eq] at b ⊢
    first | exact ⟨a, b⟩ | exact b
  · rcases c with c | ⟨c, d⟩ | ⟨c, d⟩ | ⟨c, d⟩
    all_goals first | exact d.elim | simp [c]
theorem act_pass (hZ : Zs σ w f l) (x1 : Int32) : Act σ w f l (ok_L_pass σ x1) (f_L_pass σ x1) := by
  obtain ⟨hO, hI, -⟩ := id hZ
  have e9 : f_X9_pass σ x1 = G9 ((σ, f_X1_mayPass x1)) (fun q => f_X6_passHours q 2 x1) := by
    unfold f_X9_pass G9
    simp only [bnd_eq]
  refine act_gen hZ (E := fun q => if q.1 = 0 then (q.2.1, (q.2.2).toInt64) else if q.1 = 1 then (q.2.1, (-4000000000000000001 : Int64)) else (q.2.1, (0 : Int64))) (vc_pass σ x1) (fun P => dc_pass hI P) (f9 := f_X9_pass σ x1) e9 (by unfold f_L_pass; exact bnd_eq _ _) (fun _ _ => rfl) (fun q => q.elim) (fun _ => ⟨_, Th.a, fun _ => rfl⟩) (fun q => q.elim) (fun a b c => ?_)
  unfold ok_L_pass
  refine ⟨?_, ?_⟩
  · unfold ok_X9_pass
    unfold O9 at b
    simp only [bndP_eq] at b ⊢
    first | exact ⟨a, b⟩ | exact b
  · rcases c with c | ⟨c, d⟩ | ⟨c, d⟩ | ⟨c, d⟩
    all_goals first | exact d.elim | simp [c]
theorem act_string (hZ : Zs σ w f l) (x1 : Int32) : Act σ w f l (ok_L_string σ x1) (f_L_string σ x1) := by
  obtain ⟨hO, hI, -⟩ := id hZ
  have e9 : f_X9_string σ x1 = G9 ((σ, if f_X9_inRange x1 1 20 = true then 0 else -2)) (fun q => (f_X2_addString q 3 (FP.i2f x1), f_X0_ofFloat ((f_X2_addString q 3 (FP.i2f x1)).2.1 3 4))) := by
    unfold f_X9_string G9
    cases f_X9_inRange x1 1 20 <;> simp [bnd_eq, dm0, dm2]
  refine act_gen hZ (E := fun q => if q.1 = 0 then (q.2.1, (q.2.2).toInt64) else if q.1 = 1 then (q.2.1, (-4000000000000000001 : Int64)) else (q.2.1, (0 : Int64))) (vc_rng (f_X9_inRange x1 1 20)) (fun P => dc_string hI P) (f9 := f_X9_string σ x1) e9 (by unfold f_L_string; exact bnd_eq _ _) (fun _ _ => rfl) (fun q => q.elim) (fun _ => ⟨_, Th.a, fun _ => rfl⟩) (fun q => q.elim) (fun a b c => ?_)
  unfold ok_L_string
  refine ⟨?_, ?_⟩
  · unfold ok_X9_string
    unfold O9 at b
    simp only [bndP_eq] at b ⊢
    revert b
    cases f_X9_inRange x1 1 20 <;> simp [dm0, dm2]
  · rcases c with c | ⟨c, d⟩ | ⟨c, d⟩ | ⟨c, d⟩
    all_goals first | exact d.elim | simp [c]
theorem act_ink (hZ : Zs σ w f l) (x1 : Int32) : Act σ w f l (ok_L_ink σ x1) (f_L_ink σ x1) := by
  obtain ⟨hO, hI, -⟩ := id hZ
  have e9 : f_X9_ink σ x1 = G9 ((σ, if f_X9_inRange x1 1 50 = true then 0 else -2)) (fun q => (f_X2_addInk q 3 (FP.fmul (1036831949 : UInt32) (FP.i2f x1)), f_X0_ofFloat ((f_X2_addInk q 3 (FP.fmul (1036831949 : UInt32) (FP.i2f x1))).2.1 3 5))) := by
    unfold f_X9_ink G9
    cases f_X9_inRange x1 1 50 <;> simp [bnd_eq, dm0, dm2]
  refine act_gen hZ (E := fun q => if q.1 = 0 then (q.2.1, (q.2.2).toInt64) else if q.1 = 1 then (q.2.1, (-4000000000000000001 : Int64)) else (q.2.1, (0 : Int64))) (vc_rng (f_X9_inRange x1 1 50)) (fun P => dc_ink hI P) (f9 := f_X9_ink σ x1) e9 (by unfold f_L_ink; exact bnd_eq _ _) (fun _ _ => rfl) (fun q => q.elim) (fun _ => ⟨_, Th.a, fun _ => rfl⟩) (fun q => q.elim) (fun a b c => ?_)
  unfold ok_L_ink
  refine ⟨?_, ?_⟩
  · unfold ok_X9_ink
    unfold O9 at b
    simp only [bndP_eq] at b ⊢
    revert b
    cases f_X9_inRange x1 1 50 <;> simp [dm0, dm2]
  · rcases c with c | ⟨c, d⟩ | ⟨c, d⟩ | ⟨c, d⟩
    all_goals first | exact d.elim | simp [c]
theorem act_snacks (hZ : Zs σ w f l) (x1 : Int32) : Act σ w f l (ok_L_snacks σ x1) (f_L_snacks σ x1) := by
  obtain ⟨hO, hI, -⟩ := id hZ
  have e9 : f_X9_snacks σ x1 = G9 ((σ, if f_X9_inRange x1 1 20 = true then 0 else -2)) (fun q => (f_X3_addSnacks q 18 x1, (f_X3_addSnacks q 18 x1).1 18 1)) := by
    unfold f_X9_snacks G9
    cases f_X9_inRange x1 1 20 <;> simp [bnd_eq, dm0, dm2]
  refine act_gen hZ (E := fun q => if q.1 = 0 then (q.2.1, (q.2.2).toInt64) else if q.1 = 1 then (q.2.1, (-4000000000000000001 : Int64)) else (q.2.1, (0 : Int64))) (vc_rng (f_X9_inRange x1 1 20)) (fun P => dc_snacks hI P) (f9 := f_X9_snacks σ x1) e9 (by unfold f_L_snacks; exact bnd_eq _ _) (fun _ _ => rfl) (fun q => q.elim) (fun _ => ⟨_, Th.a, fun _ => rfl⟩) (fun q => q.elim) (fun a b c => ?_)
  unfold ok_L_snacks
  refine ⟨?_, ?_⟩
  · unfold ok_X9_snacks
    unfold O9 at b
    simp only [bndP_eq] at b ⊢
    revert b
    cases f_X9_inRange x1 1 20 <;> simp [dm0, dm2]
  · rcases c with c | ⟨c, d⟩ | ⟨c, d⟩ | ⟨c, d⟩
    all_goals first | exact d.elim | simp [c]
end ACTZ
