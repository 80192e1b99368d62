/-! what the stones keep while they give way -/
def Sd (K K' : St) : Prop := K'.1 0 = K.1 0 ∧ K'.1 1 = K.1 1 ∧ K'.1 2 = K.1 2 ∧ K'.2.2.1 0 = K.2.2.1 0 ∧ K'.2.2.1 2 = K.2.2.1 2 ∧ ∀ j, (K'.1 3 j = K.1 3 j ∨ K'.1 3 j = 0) ∧ (K.1 4 j = -1 → K.1 5 j = -1 → K'.1 4 j = -1 ∧ K'.1 5 j = -1)
theorem Sd.rf (K : St) : Sd K K := ⟨rfl, rfl, rfl, rfl, rfl, fun _ => ⟨Or.inl rfl, fun a b => ⟨a, b⟩⟩⟩
theorem Sd.tr {K K1 K2 : St} (h1 : Sd K K1) (h2 : Sd K1 K2) : Sd K K2 := by
  obtain ⟨a0, a1, a2, a3, a4, a5⟩ := h1
  obtain ⟨b0, b1, b2, b3, b4, b5⟩ := h2
  refine ⟨b0.trans a0, b1.trans a1, b2.trans a2, b3.trans a3, b4.trans a4, fun j => ⟨?_, fun x y => ?_⟩⟩
  · rcases (b5 j).1 with q | q
    · rw [q]; exact (a5 j).1
    · exact Or.inr q
  · obtain ⟨u, v⟩ := (a5 j).2 x y
    exact (b5 j).2 u v
theorem Sd_fr {f : Nat → St → St} (h : ∀ i S, Sd S (f i S)) : ∀ (n : Nat) (S : St), Sd S (fr f n S)
  | 0, S => Sd.rf S
  | n + 1, S => (Sd_fr h n S).tr (h n _)
theorem Sd_frD {f : Nat → St → St} (h : ∀ i S, Sd S (f i S)) : ∀ (n : Nat) (S : St), Sd S (frD f n S)
  | 0, S => Sd.rf S
  | n + 1, S => (h n S).tr (Sd_frD h n _)
theorem Sd_tear1 (x : Int32) (i : Nat) (S : St) : Sd S (tear1 x i S) := by
  unfold tear1
  split
  · refine ⟨rfl, rfl, rfl, rfl, rfl, fun j => ⟨Or.inl rfl, fun a b => ?_⟩⟩
    show (if j = i then S.1 5 i else S.1 4 j) = -1 ∧ (if j = i then (-1 : Int32) else S.1 5 j) = -1
    by_cases z : j = i
    · rw [if_pos z, if_pos z, ← z]; exact ⟨b, rfl⟩
    · rw [if_neg z, if_neg z]; exact ⟨a, b⟩
  · split
    · refine ⟨rfl, rfl, rfl, rfl, rfl, fun j => ⟨Or.inl rfl, fun a b => ⟨a, ?_⟩⟩⟩
      show (if j = i then (-1 : Int32) else S.1 5 j) = -1
      split
      · rfl
      · exact b
    · exact Sd.rf S
theorem Sd_tearF (S : St) (x : Int32) : Sd S (tearF S x) := by unfold tearF; exact Sd_fr (Sd_tear1 x) _ _
theorem Sd_tearO (S : St) : Sd S (tearO S) := by
  unfold tearO
  refine Sd_fr (fun i S => ?_) _ _
  unfold tearO1
  split
  · exact Sd.rf S
  · exact Sd_tearF _ _
theorem Sd_endSpell (S : St) (x : Int32) : Sd S (endSpell S x) := by
  unfold endSpell
  split
  · refine ⟨rfl, rfl, rfl, rfl, rfl, fun j => ⟨?_, fun a b => ⟨a, b⟩⟩⟩
    show (if j = ix x then (0 : Int32) else S.1 3 j) = S.1 3 j ∨ (if j = ix x then (0 : Int32) else S.1 3 j) = 0
    by_cases z : j = ix x
    · rw [if_pos z]; exact Or.inr rfl
    · rw [if_neg z]; exact Or.inl rfl
  · exact Sd.rf S
theorem Sd_endO (S : St) : Sd S (endO S) := by
  unfold endO
  refine Sd_fr (fun i S => ?_) _ _
  unfold endO1
  split
  · exact Sd.rf S
  · split
    · exact Sd.rf S
    · exact Sd_endSpell _ _
theorem Sd_bear (S : St) (x y : Int32) : Sd S (bear S x y) := by
  unfold bear
  split
  · exact ⟨rfl, rfl, rfl, rfl, rfl, fun _ => ⟨Or.inl rfl, fun a b => ⟨a, b⟩⟩⟩
  · exact Sd.rf S
theorem Sd_meas1 (i : Nat) (S : St) : Sd S (meas1 i S) := by
  unfold meas1
  have h : Sd S (uA S 6 i (measL i S)) := ⟨rfl, rfl, rfl, rfl, rfl, fun _ => ⟨Or.inl rfl, fun a b => ⟨a, b⟩⟩⟩
  refine h.tr ?_
  generalize uA S 6 i (measL i S) = X
  unfold measB
  split
  · exact Sd_bear _ _ _
  · exact (Sd_bear _ _ _).tr (Sd_bear _ _ _)
theorem Sd_uS (S : St) (b : Bool) : Sd S (uS S b) := ⟨rfl, rfl, rfl, rfl, rfl, fun _ => ⟨Or.inl rfl, fun a b => ⟨a, b⟩⟩⟩
theorem Sd_measure (S : St) : Sd S (measure S) := by
  unfold measure
  exact ((Sd_fr (f := meas0) (fun _ _ => ⟨rfl, rfl, rfl, rfl, rfl, fun _ => ⟨Or.inl rfl, fun a b => ⟨a, b⟩⟩⟩) _ S).tr (Sd_frD Sd_meas1 _ _)).tr (Sd_uS _ _)
theorem Sd_drop (S : St) : Sd S (dropL S) := by
  unfold dropL
  refine Sd_fr (fun i S => ?_) _ _
  unfold drop1
  split
  · split
    · exact Sd.rf S
    · split
      · have h : Sd S (uS (uI (uH S i false) 1 (S.2.2.1 1 - 1)) true) := ⟨rfl, rfl, rfl, rfl, rfl, fun _ => ⟨Or.inl rfl, fun a b => ⟨a, b⟩⟩⟩
        exact h.tr (Sd_tearF _ _)
      · exact Sd.rf S
  · exact Sd.rf S
theorem Sd_gwB (S : St) : Sd S (gwB S) := by
  unfold gwB
  refine Sd.tr ?_ ((Sd_tearO _).tr (Sd_endO _))
  split
  · exact Sd_measure S
  · exact Sd.rf S
theorem Sd_gw : ∀ (k : Nat) (S : St), Sd S (gw k S)
  | 0, S => Sd.rf S
  | k + 1, S => by
    unfold gw
    have h := Sd_gwB S
    generalize gwB S = X at h ⊢
    split
    · exact h.tr ((Sd_drop X).tr (Sd_gw k _))
    · exact h
theorem Sd_giveWay (S : St) : Sd S (giveWay S) := by unfold giveWay; exact Sd_gw 1000 S
/-! who hangs, the ways, the day: what measuring, tearing and the ends of spells keep -/
def Hs (K K' : St) : Prop := K'.2.1 = K.2.1 ∧ K'.2.2.1 = K.2.2.1
theorem Hs.rf (K : St) : Hs K K := ⟨rfl, rfl⟩
theorem Hs.tr {K K1 K2 : St} (h1 : Hs K K1) (h2 : Hs K1 K2) : Hs K K2 := ⟨h2.1.trans h1.1, h2.2.trans h1.2⟩
theorem Hs_fr {f : Nat → St → St} (h : ∀ i S, Hs S (f i S)) : ∀ (n : Nat) (S : St), Hs S (fr f n S)
  | 0, S => Hs.rf S
  | n + 1, S => (Hs_fr h n S).tr (h n _)
theorem Hs_frD {f : Nat → St → St} (h : ∀ i S, Hs S (f i S)) : ∀ (n : Nat) (S : St), Hs S (frD f n S)
  | 0, S => Hs.rf S
  | n + 1, S => (h n S).tr (Hs_frD h n _)
theorem Hs_tearF (S : St) (x : Int32) : Hs S (tearF S x) := by
  unfold tearF
  refine Hs_fr (fun i S => ?_) _ _
  unfold tear1
  split
  · exact ⟨rfl, rfl⟩
  · split <;> exact ⟨rfl, rfl⟩
theorem Hs_tearO (S : St) : Hs S (tearO S) := by
  unfold tearO
  refine Hs_fr (fun i S => ?_) _ _
  unfold tearO1
  split
  · exact Hs.rf S
  · exact Hs_tearF _ _
theorem Hs_endSpell (S : St) (x : Int32) : Hs S (endSpell S x) := by
  unfold endSpell
  split <;> exact ⟨rfl, rfl⟩
theorem Hs_endO (S : St) : Hs S (endO S) := by
  unfold endO
  refine Hs_fr (fun i S => ?_) _ _
  unfold endO1
  split
  · exact Hs.rf S
  · split
    · exact Hs.rf S
    · exact Hs_endSpell _ _
theorem Hs_bear (S : St) (x y : Int32) : Hs S (bear S x y) := by
  unfold bear
  split <;> exact ⟨rfl, rfl⟩
theorem Hs_meas1 (i : Nat) (S : St) : Hs S (meas1 i S) := by
  unfold meas1
  refine Hs.tr (K1 := uA S 6 i (measL i S)) ⟨rfl, rfl⟩ ?_
  generalize uA S 6 i (measL i S) = X
  unfold measB
  split
  · exact Hs_bear _ _ _
  · exact (Hs_bear _ _ _).tr (Hs_bear _ _ _)
theorem Hs_uS (S : St) (b : Bool) : Hs S (uS S b) := ⟨rfl, rfl⟩
theorem Hs_measure (S : St) : Hs S (measure S) := by
  unfold measure
  exact ((Hs_fr (f := meas0) (fun _ _ => ⟨rfl, rfl⟩) _ S).tr (Hs_frD Hs_meas1 _ _)).tr (Hs_uS _ _)
theorem Hs_gwB (S : St) : Hs S (gwB S) := by
  unfold gwB
  refine Hs.tr ?_ ((Hs_tearO _).tr (Hs_endO _))
  split
  · exact Hs_measure S
  · exact Hs.rf S
def Hm (M M' : Md) : Prop := M'.2.1 = M.2.1 ∧ M'.2.2.2 = M.2.2.2 ∧ M'.1 2 = M.1 2 ∧ M'.2.2.1 0 = M.2.2.1 0
theorem Hm.rf (M : Md) : Hm M M := ⟨rfl, rfl, rfl, rfl⟩
theorem Hm.tr {M M1 M2 : Md} (h1 : Hm M M1) (h2 : Hm M1 M2) : Hm M M2 := ⟨h2.1.trans h1.1, h2.2.1.trans h1.2.1, h2.2.2.1.trans h1.2.2.1, h2.2.2.2.trans h1.2.2.2⟩
theorem Hm_fr {f : Nat → Md → Md} (h : ∀ i M, Hm M (f i M)) : ∀ (n : Nat) (M : Md), Hm M (fr f n M)
  | 0, M => Hm.rf M
  | n + 1, M => (Hm_fr h n M).tr (h n _)
theorem Hm_frD {f : Nat → Md → Md} (h : ∀ i M, Hm M (f i M)) : ∀ (n : Nat) (M : Md), Hm M (frD f n M)
  | 0, M => Hm.rf M
  | n + 1, M => (h n M).tr (Hm_frD h n _)
theorem Hm_rkB (i : Nat) (M : Md) : Hm M (mrkB i M) := by
  unfold mrkB mP2
  split
  · split
    · exact Hm.rf M
    · split <;> exact ⟨rfl, rfl, rfl, rfl⟩
  · exact Hm.rf M
theorem Hm_rk1 (i : Nat) (M : Md) : Hm M (mrk1 i M) := by
  unfold mrk1
  exact Hm.tr (M1 := aA M 1 i (mLd i M)) ⟨rfl, rfl, rfl, rfl⟩ (Hm_rkB i _)
theorem Hm_Rk (M : Md) : Hm M (mRk M) := by
  unfold mRk
  exact (Hm_fr (f := mrk0) (fun _ _ => ⟨rfl, rfl, rfl, rfl⟩) _ _).tr (Hm_frD Hm_rk1 _ _)
theorem Hm_frT {f : Nat → Md × Bool → Md × Bool} (h : ∀ i T, Hm T.1 (f i T).1) : ∀ (n : Nat) (T : Md × Bool), Hm T.1 (fr f n T).1
  | 0, T => Hm.rf T.1
  | n + 1, T => (Hm_frT h n T).tr (h n _)
theorem Hm_frA {f : Nat → Md × Bool → Md × Bool} (h : ∀ i T, Hm T.1 (f i T).1) : ∀ (k a : Nat) (T : Md × Bool), Hm T.1 (frA f a k T).1
  | 0, _, T => Hm.rf T.1
  | k + 1, a, T => (h a T).tr (Hm_frA h k (a + 1) _)
theorem Hm_tear (M : Md) (f : Nat) : Hm M (mTear M f).1 := by
  unfold mTear
  refine Hm_frA (fun i T => ?_) _ _ (M, false)
  unfold mt1
  split
  · split
    · split <;> exact ⟨rfl, rfl, rfl, rfl⟩
    · exact Hm.rf _
  · exact Hm.rf _
theorem Hm_g1 (i : Nat) (T : Md × Bool) : Hm T.1 (mg1 i T).1 := by
  unfold mg1
  split
  · have h0 : Hm T.1 (mg0 i T).1 := by
      unfold mg0
      split
      · exact Hm.rf _
      · exact Hm_tear _ _
    refine h0.tr ?_
    generalize mg0 i T = X
    unfold mgE
    split
    · exact Hm.rf _
    · split <;> exact ⟨rfl, rfl, rfl, rfl⟩
  · exact Hm.rf _
theorem Hm_Rd (M : Md) : Hm M (mRd M).1 := by
  unfold mRd
  exact (Hm_Rk M).tr (Hm_frT Hm_g1 _ (mRk M, false))
theorem Hm_Fl (M : Md) (f : Nat) : Hm (tA M 2 f 0) (mFl M f) := by
  unfold mFl
  refine (Hm_tear (tA M 2 f 0) f).tr ?_
  generalize (mTear (tA M 2 f 0) f).1 = X
  exact ⟨rfl, rfl, rfl, rfl⟩
def goneK (K : St) (a b : Int32) : Bool := !K.2.1 (ix a) || !K.2.1 (ix b)
/-- the ways, how many hang, the day -/
def WH (n r : Nat) (B : Sr) (K : St) (M : Md) : Prop := M.2.2.2 2 = nI r ∧ (∀ k, k < r → B.1 0 k = M.2.1 0 k ∧ B.1 1 k = M.2.1 1 k ∧ (∃ j : Nat, j < n ∧ M.2.1 0 k = nI j) ∧ (∃ j : Nat, j < n ∧ M.2.1 1 k = nI j) ∧ M.2.1 2 k = bI (goneK K (M.2.1 0 k) (M.2.1 1 k))) ∧ K.2.2.1 1 = mHa M ∧ K.2.2.1 2 = M.2.2.1 0 0
theorem mHa_of {M M' : Md} (h1 : M'.2.2.2 = M.2.2.2) (h2 : M'.1 2 = M.1 2) : mHa M' = mHa M := by
  unfold mHa mN
  have e : mHa1 M' = mHa1 M := by
    funext i a
    unfold mHa1
    rw [h2]
  rw [e, h1]
theorem WH_keep {n r : Nat} {B : Sr} {K K' : St} {M M' : Md} (hk : Hs K K') (hm : Hm M M') (h : WH n r B K M) : WH n r B K' M' := by
  obtain ⟨a, b, c, d⟩ := h
  obtain ⟨k1, k2⟩ := hk
  obtain ⟨m1, m2, m3, m4⟩ := hm
  refine ⟨by rw [m2]; exact a, fun k hk => ?_, by rw [k2, mHa_of m2 m3]; exact c, by rw [k2, m4]; exact d⟩
  unfold goneK
  rw [m1, k1]
  exact b k hk
