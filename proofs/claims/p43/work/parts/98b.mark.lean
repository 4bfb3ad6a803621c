/-! the mark: what it is of an office's numbers, and that nothing changes -/
section MARK
variable {σ : St} {w : Nat → Int32} {f : Nat → UInt32}
abbrev fbJ (x : UInt32) : Int64 := (f_Jxf58ca_floatToIntBits_5c35a x).toInt64
def gA (w : Nat → Int32) (k : Nat) (v : Int64) : Int64 := 31 * v + (accV w k).toInt64
def gI (w : Nat → Int32) (i j : Nat) (v : Int64) : Int64 := 31 * v + (cv j (it w i j)).toInt64
def gIt (w : Nat → Int32) (f : Nat → UInt32) (i : Nat) (v : Int64) : Int64 := 31 * lp (gI w i) 7 0 v + rdV w f i
def gC (f : Nat → UInt32) (c : Nat) (v : Int64) : Int64 := 31 * v + fbJ (f c)
def gP (f : Nat → UInt32) (p : Nat) (v : Int64) : Int64 := 31 * v + fbJ (f (8 + p))
def mgR (w : Nat → Int32) (c : Nat) (v : Int64) : Int64 := 31 * v + (nI (cn (tkn w c) (cnt w))).toInt64
def e155 (w : Nat → Int32) (f : Nat → UInt32) (v : Int64) : Int64 := 31 * (31 * lp (mgR w) 6 0 v + fbJ (f 14)) + fbJ (f 15)
def e124 (w : Nat → Int32) (f : Nat → UInt32) (v : Int64) : Int64 := e155 w f (lp (gP f) (w 3).toNatClampNeg 0 v)
def e93 (w : Nat → Int32) (f : Nat → UInt32) (v : Int64) : Int64 := e124 w f (lp (gC f) (w 1).toNatClampNeg 0 v)
def e32 (w : Nat → Int32) (f : Nat → UInt32) (v : Int64) : Int64 := e93 w f (lp (gIt w f) (cnt w) 0 v)
def mkV (w : Nat → Int32) (f : Nat → UInt32) : Int64 := e32 w f (lp (gA w) 13 0 17)
theorem mk155 (hO : Off σ 2 w f) (v : Int64) : okL_mark_L155 7 σ v 0 ∧ fL_mark_L155 7 σ v 0 = (σ, e155 w f v) := by
  have key := lp_run (n := 6) (fun fu v k => fL_mark_L155 fu σ v k) (fun fu v k => okL_mark_L155 fu σ v k) (mgR w) (fun v => (σ, 31 * (31 * v + fbJ (f 14)) + fbJ (f 15))) (fun _ _ => True)
    (fun fu v _ => by
      have h : (6 : Int32) ≤ nI 6 := by decide
      exact ⟨by simp [okL_mark_L155, h], by simp [fL_mark_L155, h, l_ink hO, l_hung hO]⟩)
    (fun fu k v hk _ => by
      have h : ¬ (6 : Int32) ≤ nI k := nI_ge (b := 6) hk (by decide)
      have a := l_read hO hk
      exact ⟨trivial, by simp [okL_mark_L155, h, a.1, a.2, bndP_eq, nI_1, mgR], by simp [fL_mark_L155, h, a.2, bnd_eq, nI_1, mgR]⟩)
    6 7 0 v (by decide) rfl trivial
  exact ⟨key.1, key.2.1⟩
theorem mk124 (hO : Off σ 2 w f) (hI : Inv w f) (v : Int64) : okL_mark_L124 6 σ v 0 ∧ fL_mark_L124 6 σ v 0 = (σ, e124 w f v) := by
  obtain ⟨p, p1, p2, p3⟩ := hI.pots
  have a4 : ok_L_account σ 4 ∧ f_L_account σ 4 = (σ, (nI p).toInt64) := by
    have h := l_account hO hI (k := 4) (by decide)
    rw [show accV w 4 = nI p from p2] at h
    exact h
  have key := lp_run (n := p) (fun fu v k => fL_mark_L124 fu σ v k) (fun fu v k => okL_mark_L124 fu σ v k) (gP f) (fun v => (σ, e155 w f v)) (fun _ _ => True)
    (fun fu v _ => by
      have h : 0 ≤ lg_cmp (nI p).toInt64 (nI p).toInt64 := lg_ge.mpr (Int64.le_refl _)
      have b := mk155 hO v
      exact ⟨by rw [okL_mark_L124, bndP_eq, a4.2]; exact ⟨a4.1, fun _ => b.1, fun z => absurd h z⟩, by simp [fL_mark_L124, a4.2, bnd_eq, h, b.2]⟩)
    (fun fu k v hk _ => by
      have h : ¬ 0 ≤ lg_cmp (nI k).toInt64 (nI p).toInt64 := fun z => by
        have := (nJ_le (by omega) (by omega)).mp (lg_ge.mp z)
        omega
      have a := l_firm hO hI (p := k) (by rw [p3]; exact hk)
      refine ⟨trivial, fun q => ?_, ?_⟩
      · rw [okL_mark_L124, bndP_eq, a4.2]
        dsimp only
        refine ⟨a4.1, fun z => absurd z h, fun _ => ⟨a.1, ?_⟩⟩
        rw [bndP_eq, a.2, nI_1]
        exact q
      · simp [fL_mark_L124, a4.2, bnd_eq, h, a.2, nI_1, gP, fbJ])
    p 6 0 v (by omega) (Nat.zero_add _) trivial
  refine ⟨key.1, key.2.1.trans ?_⟩
  unfold e124
  rw [p3]
theorem mk93 (hO : Off σ 2 w f) (hI : Inv w f) (v : Int64) : okL_mark_L93 9 σ v 0 ∧ fL_mark_L93 9 σ v 0 = (σ, e93 w f v) := by
  obtain ⟨p, p1, p2⟩ := hI.crays
  have p3 : (w 1).toNatClampNeg = p := by rw [p2, nI_clamp (by omega)]
  have a4 : ok_L_account σ 1 ∧ f_L_account σ 1 = (σ, (nI p).toInt64) := by
    have h := l_account hO hI (k := 1) (by decide)
    rw [show accV w 1 = nI p from p2] at h
    exact h
  have key := lp_run (n := p) (fun fu v k => fL_mark_L93 fu σ v k) (fun fu v k => okL_mark_L93 fu σ v k) (gC f) (fun v => (σ, e124 w f v)) (fun _ _ => True)
    (fun fu v _ => by
      have h : 0 ≤ lg_cmp (nI p).toInt64 (nI p).toInt64 := lg_ge.mpr (Int64.le_refl _)
      have b := mk124 hO hI v
      exact ⟨by rw [okL_mark_L93, bndP_eq, a4.2]; exact ⟨a4.1, fun _ => b.1, fun z => absurd h z⟩, by simp [fL_mark_L93, a4.2, bnd_eq, h, b.2]⟩)
    (fun fu k v hk _ => by
      have h : ¬ 0 ≤ lg_cmp (nI k).toInt64 (nI p).toInt64 := fun z => by
        have := (nJ_le (by omega) (by omega)).mp (lg_ge.mp z)
        omega
      have a := l_crayonOf hO hI (c := k) (by rw [p3]; exact hk)
      refine ⟨trivial, fun q => ?_, ?_⟩
      · rw [okL_mark_L93, bndP_eq, a4.2]
        dsimp only
        refine ⟨a4.1, fun z => absurd z h, fun _ => ⟨a.1, ?_⟩⟩
        rw [bndP_eq, a.2, nI_1]
        exact q
      · simp [fL_mark_L93, a4.2, bnd_eq, h, a.2, nI_1, gC, fbJ])
    p 9 0 v (by omega) (Nat.zero_add _) trivial
  refine ⟨key.1, key.2.1.trans ?_⟩
  unfold e93
  rw [p3]
theorem mk46 (hO : Off σ 2 w f) (hI : Inv w f) {i : Nat} (hi : i < cnt w) (k32 : St → Int64 → Int32 → St × Int64) (p32 : St → Int64 → Int32 → Prop) (hp : ∀ v, p32 σ v (nI (i + 1))) (v : Int64) : okL_mark_L46 p32 8 σ v (nI i) 0 ∧ fL_mark_L46 k32 8 σ v (nI i) 0 = k32 σ (gIt w f i v) (nI (i + 1)) := by
  have key := lp_run (n := 7) (fun fu v k => fL_mark_L46 k32 fu σ v (nI i) k) (fun fu v k => okL_mark_L46 p32 fu σ v (nI i) k) (gI w i) (fun v => k32 σ (31 * v + rdV w f i) (nI (i + 1))) (fun _ _ => True)
    (fun fu v _ => by
      have h : (7 : Int32) ≤ nI 7 := by decide
      have a := l_reads hO hI hi
      exact ⟨by simp [okL_mark_L46, h, a.1, a.2, bndP_eq, nI_1, hp], by simp [fL_mark_L46, h, a.2, bnd_eq, nI_1]⟩)
    (fun fu k v hk _ => by
      have h : ¬ (7 : Int32) ≤ nI k := nI_ge (b := 7) hk (by decide)
      have a := l_itemOf hO hI hi (j := k) (by omega)
      exact ⟨trivial, by simp [okL_mark_L46, h, a.1, a.2, bndP_eq, nI_1, gI], by simp [fL_mark_L46, h, a.2, bnd_eq, nI_1, gI]⟩)
    7 8 0 v (by decide) rfl trivial
  exact ⟨key.1, key.2.1⟩
theorem mk32 (hO : Off σ 2 w f) (hI : Inv w f) : ∀ (m fu i : Nat) (v : Int64), m < fu → i + m = cnt w → okL_mark_L32 fu σ v (nI i) ∧ fL_mark_L32 fu σ v (nI i) = (σ, e93 w f (lp (gIt w f) m i v)) := by
  have h20 := hI.n20
  have a2 : ok_L_account σ 2 ∧ f_L_account σ 2 = (σ, (nI (cnt w)).toInt64) := by
    have h := l_account hO hI (k := 2) (by decide)
    rw [show accV w 2 = nI (cnt w) from hI.1.1] at h
    exact h
  intro m
  induction m with
  | zero =>
    intro fu i v hf hi
    obtain ⟨fu, rfl⟩ : ∃ z, fu = z + 1 := ⟨fu - 1, by omega⟩
    have : i = cnt w := by omega
    subst this
    have h : 0 ≤ lg_cmp (nI (cnt w)).toInt64 (nI (cnt w)).toInt64 := lg_ge.mpr (Int64.le_refl _)
    have b := mk93 hO hI v
    exact ⟨by rw [okL_mark_L32, bndP_eq, a2.2]; exact ⟨a2.1, fun _ => b.1, fun z => absurd h z⟩, by simp [fL_mark_L32, a2.2, bnd_eq, h, b.2, lp]⟩
  | succ m ih =>
    intro fu i v hf hi
    obtain ⟨fu, rfl⟩ : ∃ z, fu = z + 1 := ⟨fu - 1, by omega⟩
    have h : ¬ 0 ≤ lg_cmp (nI i).toInt64 (nI (cnt w)).toInt64 := fun z => by
      have := (nJ_le (by omega) (by omega)).mp (lg_ge.mp z)
      omega
    have c := mk46 hO hI (i := i) (by omega) (fun σ x1 x3 => fL_mark_L32 fu σ x1 x3) (fun σ x1 x3 => okL_mark_L32 fu σ x1 x3) (fun v => (ih fu (i + 1) v (by omega) (by omega)).1) v
    refine ⟨by rw [okL_mark_L32, bndP_eq, a2.2]; exact ⟨a2.1, fun z => absurd z h, fun _ => c.1⟩, ?_⟩
    rw [fL_mark_L32, a2.2, bnd_eq]
    dsimp only
    rw [if_neg h, c.2]
    exact (ih fu (i + 1) _ (by omega) (by omega)).2
theorem l_mark (hO : Off σ 2 w f) (hI : Inv w f) : ok_L_mark σ ∧ f_L_mark σ = (σ, mkV w f) := by
  have h20 := hI.n20
  have key := lp_run (n := 13) (fun fu v k => fL_mark_L6 fu σ v k) (fun fu v k => okL_mark_L6 fu σ v k) (gA w) (fun v => (σ, e32 w f v)) (fun _ _ => True)
    (fun fu v _ => by
      have h : (13 : Int32) ≤ nI 13 := by decide
      have b := mk32 hO hI (cnt w) 21 0 v (by omega) (Nat.zero_add _)
      rw [nI_0] at b
      exact ⟨by simp [okL_mark_L6, h, b.1], by simp [fL_mark_L6, h, b.2, e32]⟩)
    (fun fu k v hk _ => by
      have h : ¬ (13 : Int32) ≤ nI k := nI_ge (b := 13) hk (by decide)
      have a := l_account hO hI hk
      exact ⟨trivial, by simp [okL_mark_L6, h, a.1, a.2, bndP_eq, nI_1, gA], by simp [fL_mark_L6, h, a.2, bnd_eq, nI_1, gA]⟩)
    13 14 0 17 (by decide) rfl trivial
  exact ⟨key.1, key.2.1⟩
end MARK
