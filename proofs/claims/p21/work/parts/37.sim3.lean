/-! what is loose falls, on both sides: the rows -/
theorem PL_congr {n i : Nat} {K : St} {M M' : Md} (h1 : M'.1 = M.1) (h2 : M'.2.2.1 = M.2.2.1) (h : PL n i K M) : PL n i K M' := by
  obtain ⟨a, b, c, d, e⟩ := h
  refine ⟨fun j hj => ?_, b, c, fun j hj => ?_, fun j hj q => ?_⟩
  · rw [h1]; exact a j hj
  · rw [h2]; exact d j hj
  · rw [h2]; exact e j hj q
theorem kh_tear1 (x : Int32) (i : Nat) (S : St) : (tear1 x i S).2.1 = S.2.1 := by
  unfold tear1
  split
  · rfl
  · split <;> rfl
theorem kh_fr (x : Int32) (S : St) : ∀ m : Nat, (fr (tear1 x) m S).2.1 = S.2.1
  | 0 => rfl
  | m + 1 => (kh_tear1 x m _).trans (kh_fr x S m)
theorem PL_same {n i k : Nat} {K : St} {M : Md} {v : Int32} (hi : i < n) (hk : (k = 3 ∧ K.1 3 i = v) ∨ (k = 4 ∧ K.1 4 i = v) ∨ (k = 5 ∧ K.1 5 i = v)) (h : PL n 0 K M) : PL n 0 K (tA M k i v) := by
  obtain ⟨a, b, c, d, e⟩ := h
  refine ⟨fun j hj => ?_, b, c, d, e⟩
  obtain ⟨a0, a1, a2, a3, a4, a5, a6⟩ := a j hj
  rcases hk with ⟨rfl, q⟩ | ⟨rfl, q⟩ | ⟨rfl, q⟩
  · refine ⟨a0, a1, a2, ?_, a4, a5, a6⟩
    show K.1 3 j = if j = i then v else M.1 3 j
    by_cases z : j = i
    · rw [if_pos z, z]; exact q
    · rw [if_neg z]; exact a3
  · refine ⟨a0, a1, a2, a3, ?_, a5, a6⟩
    show K.1 4 j = if j = i then v else M.1 4 j
    by_cases z : j = i
    · rw [if_pos z, z]; exact q
    · rw [if_neg z]; exact a4
  · refine ⟨a0, a1, a2, a3, a4, ?_, a6⟩
    show K.1 5 j = if j = i then v else M.1 5 j
    by_cases z : j = i
    · rw [if_pos z, z]; exact q
    · rw [if_neg z]; exact a5
theorem m2_fk (f k : Nat) (M : Md) : (mfk f k M).2.2.1 = M.2.2.1 := by unfold mfk; split; rfl; split <;> rfl
theorem m2_fr {f : Nat → Md → Md} (h : ∀ i M, (f i M).2.2.1 = M.2.2.1) : ∀ (n : Nat) (M : Md), (fr f n M).2.2.1 = M.2.2.1
  | 0, _ => rfl
  | n + 1, M => (h n _).trans (m2_fr h n M)
def Pw (n : Nat) (K : St) : Prop := ∀ i, i < n → (K.2.1 i = false → K.1 3 i = 0) ∧ (K.1 3 i ≤ 0 → K.1 3 i = 0)
def DT (n : Nat) (K : St) (M : Md) : Prop := PL n 0 K M ∧ M.2.2.2 1 = nI n ∧ Pw n K
theorem DT_1 {n i : Nat} {K : St} {M : Md} (h40 : n ≤ 40) (hi : i < n) (h : DT n K M) : DT n (drop1 i K) (md1 i M) := by
  obtain ⟨h1, h2, h3⟩ := h
  obtain ⟨-, -, -, r3, r4, -, -⟩ := h1.1 i hi
  unfold drop1 md1
  rw [mHg_b h1.1 hi, ← r3, ← r4]
  cases hh : K.2.1 i with
  | false =>
    rw [if_neg (by decide), if_neg (by decide)]
    exact ⟨h1, h2, h3⟩
  | true =>
    rw [if_pos rfl, if_pos rfl]
    by_cases e0 : 0 < K.1 3 i
    · have z0 : ¬ K.1 3 i = 0 := fun q => by rw [q] at e0; exact absurd e0 (by decide)
      rw [if_pos e0, if_neg z0]
      exact ⟨h1, h2, h3⟩
    · have z0 : K.1 3 i = 0 := (h3 i hi).2 (Int32.not_lt.mp e0)
      rw [if_neg e0, if_pos z0]
      by_cases e4 : K.1 4 i = -1
      · rw [if_pos e4, if_pos e4]
        have hK1 : PL n 0 (uS (uI (uH K i false) 1 (K.2.2.1 1 - 1)) true) (tA M 2 i 0) := by
          refine ⟨fun a ha => ?_, fun a ha => ?_, h1.2.2.1, h1.2.2.2.1, h1.2.2.2.2⟩
          · obtain ⟨a0, a1, a2, a3, a4, a5, a6⟩ := h1.1 a ha
            refine ⟨a0, a1, ?_, a3, a4, a5, a6⟩
            show bI (if a = i then false else K.2.1 a) = if a = i then (0 : Int32) else M.1 2 a
            by_cases z : a = i
            · rw [if_pos z, if_pos z]; rfl
            · rw [if_neg z, if_neg z]; exact a2
          · obtain ⟨b4, b5, f4, f5⟩ := h1.2.1 a ha
            refine ⟨b4, b5, ?_, f5⟩
            show (if a = i then false else K.2.1 a) = false → K.1 4 a = -1
            by_cases z : a = i
            · intro _; rw [z]; exact e4
            · rw [if_neg z]; exact f4
        have ht := (TS_tear (b := true) h40 hi (show (tA M 2 i 0).2.2.2 1 = nI n from h2) hK1 rfl).1
        obtain ⟨k3, -, -⟩ := kp_fr (nI i) (uS (uI (uH K i false) 1 (K.2.2.1 1 - 1)) true) (nn (uS (uI (uH K i false) 1 (K.2.2.1 1 - 1)) true))
        have kh := kh_fr (nI i) (uS (uI (uH K i false) 1 (K.2.2.1 1 - 1)) true) (nn (uS (uI (uH K i false) 1 (K.2.2.1 1 - 1)) true))
        have p3 : (tearF (uS (uI (uH K i false) 1 (K.2.2.1 1 - 1)) true) (nI i)).1 3 = K.1 3 := k3
        have ph : (tearF (uS (uI (uH K i false) 1 (K.2.2.1 1 - 1)) true) (nI i)).2.1 = fun a => if a = i then false else K.2.1 a := kh
        have hmi : (mTear (tA M 2 i 0) i).1.2.2.2 = M.2.2.2 := mi_tear (tA M 2 i 0) i
        generalize tearF (uS (uI (uH K i false) 1 (K.2.2.1 1 - 1)) true) (nI i) = K' at ht p3 ph ⊢
        unfold mFall mFl
        generalize (mTear (tA M 2 i 0) i).1 = M' at ht hmi ⊢
        obtain ⟨-, -, f4, f5⟩ := ht.2.1 i hi
        have q4 : K'.1 4 i = -1 := f4 (by rw [ph]; exact if_pos rfl)
        have hP : PL n 0 K' (tA (tA (tA M' 3 i 0) 4 i (-1)) 5 i (-1)) := PL_same hi (Or.inr (Or.inr ⟨rfl, f5 q4⟩)) (PL_same hi (Or.inr (Or.inl ⟨rfl, q4⟩)) (PL_same hi (Or.inl ⟨rfl, by rw [p3]; exact z0⟩) ht))
        refine ⟨PL_congr (mT_fr (mt_fk i) _ _) (m2_fr (m2_fk i) _ _) hP, ?_, fun a ha => ?_⟩
        · rw [mI_fr (mi_fk i)]
          show M'.2.2.2 1 = nI n
          rw [hmi]; exact h2
        · rw [p3, ph]
          refine ⟨fun z => ?_, (h3 a ha).2⟩
          by_cases y : a = i
          · rw [y]; exact z0
          · exact (h3 a ha).1 (by rw [← z]; exact (if_neg y).symm)
      · rw [if_neg e4, if_neg e4]
        exact ⟨h1, h2, h3⟩
theorem DT_drop {n : Nat} {K : St} {M : Md} (h40 : n ≤ 40) (h : DT n K M) : DT n (dropL K) (mDrop M) := by
  unfold dropL mDrop
  rw [nn_eq h.1.2.2.1 h40, mN_eq h.2.1 h40]
  exact fr_rel (DT n) n K M (fun i s t hi q => DT_1 h40 hi q) h
