/-! giving way ends: each round takes a hold or a spell away -/
def sumN (f : Nat → Nat) : Nat → Nat
  | 0 => 0
  | n + 1 => sumN f n + f n
theorem sumN_le {f g : Nat → Nat} : ∀ (n : Nat), (∀ i, i < n → f i ≤ g i) → sumN f n ≤ sumN g n
  | 0, _ => Nat.le_refl 0
  | n + 1, h => Nat.add_le_add (sumN_le n (fun i hi => h i (by omega))) (h n (by omega))
theorem sumN_lt {f g : Nat → Nat} : ∀ (n i : Nat), i < n → (∀ j, j < n → f j ≤ g j) → f i < g i → sumN f n < sumN g n
  | 0, i, hi, _, _ => by omega
  | n + 1, i, hi, h, hl => by
    show sumN f n + f n < sumN g n + g n
    by_cases he : i = n
    · subst he
      have := sumN_le i (fun j hj => h j (by omega))
      omega
    · have := sumN_lt n i (by omega) (fun j hj => h j (by omega)) hl
      have := h n (by omega)
      omega
theorem sumN_le_c {f : Nat → Nat} {c : Nat} : ∀ (n : Nat), (∀ i, i < n → f i ≤ c) → sumN f n ≤ c * n
  | 0, _ => Nat.le_refl 0
  | n + 1, h => by
    have h1 := sumN_le_c n (fun i hi => h i (by omega))
    have h2 := h n (by omega)
    show sumN f n + f n ≤ c * (n + 1)
    rw [Nat.mul_succ]
    omega
def b1 (x y : Int32) : Nat := if x = y then 0 else 1
theorem b1_le (x y : Int32) : b1 x y ≤ 1 := by unfold b1; split <;> omega
theorem b1_s (x : Int32) : b1 x x = 0 := if_pos rfl
theorem b1_n {x y : Int32} (h : ¬ x = y) : b1 x y = 1 := if_neg h
def muAt (F : Nat → Nat → Int32) (i : Nat) : Nat := b1 (F 3 i) 0 + b1 (F 4 i) (-1) + b1 (F 5 i) (-1)
def mu (n : Nat) (M : Md) : Nat := sumN (muAt M.1) n
theorem mu_le (n : Nat) (M : Md) : mu n M ≤ 3 * n := sumN_le_c n (fun i _ => by
  have h1 := b1_le (M.1 3 i) 0
  have h2 := b1_le (M.1 4 i) (-1)
  have h3 := b1_le (M.1 5 i) (-1)
  unfold muAt; omega)
theorem nI_m1 {f : Nat} (h : f < 2 ^ 31) : ¬ nI f = -1 := fun e => by
  have h1 := congrArg Int32.toInt e
  rw [nI_toInt h] at h1
  have : (-1 : Int32).toInt = -1 := by decide
  omega
/-- T' has no more holds and spells than T, and less if the flag was newly set -/
def lessM (n : Nat) (T T' : Md × Bool) : Prop := mu n T'.1 ≤ mu n T.1 ∧ (T'.2 = true → T.2 = true ∨ mu n T'.1 < mu n T.1)
theorem lessM.rf {n : Nat} {T : Md × Bool} : lessM n T T := ⟨Nat.le_refl _, fun h => Or.inl h⟩
theorem lessM.tr {n : Nat} {T T' T'' : Md × Bool} (h1 : lessM n T T') (h2 : lessM n T' T'') : lessM n T T'' := by
  refine ⟨Nat.le_trans h2.1 h1.1, fun h => ?_⟩
  rcases h2.2 h with q | q
  · rcases h1.2 q with q | q
    · exact Or.inl q
    · exact Or.inr (Nat.lt_of_le_of_lt h2.1 q)
  · exact Or.inr (Nat.lt_of_lt_of_le q h1.1)
theorem mu_put {n i k : Nat} {M : Md} {v : Int32} (h : muAt (tA M k i v).1 i ≤ muAt M.1 i) : mu n (tA M k i v) ≤ mu n M := by
  refine sumN_le n (fun j _ => ?_)
  by_cases hj : j = i
  · subst hj; exact h
  · unfold muAt
    have e : ∀ k', (tA M k i v).1 k' j = M.1 k' j := fun k' => by
      show (if k' = k then upd (M.1 k) i v else M.1 k') j = _
      by_cases hk : k' = k
      · rw [if_pos hk, hk]; exact if_neg hj
      · rw [if_neg hk]
    rw [e, e, e]
    exact Nat.le_refl _
/-- two worlds that differ at place i alone -/
theorem mu_at {n i : Nat} {M M' : Md} (hi : i < n) (he : ∀ k j, j ≠ i → M'.1 k j = M.1 k j) (h : muAt M'.1 i < muAt M.1 i) : mu n M' < mu n M := by
  refine sumN_lt n i hi (fun j _ => ?_) h
  by_cases hj : j = i
  · subst hj; exact Nat.le_of_lt h
  · unfold muAt
    rw [he 3 j hj, he 4 j hj, he 5 j hj]
    exact Nat.le_refl _
theorem tA_ne {M : Md} {k k' i j : Nat} {v : Int32} (h : j ≠ i) : (tA M k i v).1 k' j = M.1 k' j := by
  show (if k' = k then upd (M.1 k) i v else M.1 k') j = _
  by_cases hk : k' = k
  · rw [if_pos hk, hk]; exact if_neg h
  · rw [if_neg hk]
theorem tA_eq {M : Md} {k i : Nat} {v : Int32} : (tA M k i v).1 k i = v := by
  show (if k = k then upd (M.1 k) i v else M.1 k) i = v
  rw [if_pos rfl]
  exact if_pos rfl
theorem tA_nk {M : Md} {k k' i j : Nat} {v : Int32} (h : k' ≠ k) : (tA M k i v).1 k' j = M.1 k' j := by
  show (if k' = k then upd (M.1 k) i v else M.1 k') j = _
  rw [if_neg h]
theorem less_t1 {n f i : Nat} {T : Md × Bool} (hi : i < n) (hf : f < 2 ^ 31) : lessM n T (mt1 f i T) := by
  unfold mt1
  split
  · split
    · next hh =>
      split
      · next h4 =>
        have : mu n (tA (tA T.1 4 i (T.1.1 5 i)) 5 i (-1)) < mu n T.1 := by
          refine mu_at hi (fun k j hj => by rw [tA_ne hj, tA_ne hj]) ?_
          unfold muAt
          rw [tA_nk (by decide), tA_nk (by decide), tA_nk (by decide), tA_eq, tA_eq, h4, b1_n (nI_m1 hf), b1_s]
          omega
        exact ⟨Nat.le_of_lt this, fun _ => Or.inr this⟩
      · next h4 =>
        have h5 : T.1.1 5 i = nI f := by
          simp only [heldB, Bool.or_eq_true, decide_eq_true_eq] at hh
          rcases hh with q | q
          · exact absurd q h4
          · exact q
        have : mu n (tA T.1 5 i (-1)) < mu n T.1 := by
          refine mu_at hi (fun k j hj => by rw [tA_ne hj]) ?_
          unfold muAt
          rw [tA_nk (by decide), tA_nk (by decide), tA_eq, h5, b1_n (nI_m1 hf), b1_s]
          omega
        exact ⟨Nat.le_of_lt this, fun _ => Or.inr this⟩
    · exact lessM.rf
  · exact lessM.rf
theorem less_tear {n f : Nat} {M : Md} (hf : f < n) (hn : M.2.2.2 1 = nI n) (h40 : n ≤ 40) : lessM n (M, false) (mTear M f) := by
  unfold mTear
  rw [mN_eq hn h40]
  exact frA_In (fun T => lessM n (M, false) T) n (fun i T hi h => h.tr (less_t1 hi (by omega))) (n - (f + 1)) (f + 1) (M, false) (by omega) lessM.rf
theorem muAt_3 {M : Md} {i k : Nat} {v : Int32} (h : k = 3 ∧ v = 0 ∨ k = 4 ∧ v = -1 ∨ k = 5 ∧ v = -1 ∨ (k ≠ 3 ∧ k ≠ 4 ∧ k ≠ 5)) : muAt (tA M k i v).1 i ≤ muAt M.1 i := by
  unfold muAt
  rcases h with ⟨rfl, rfl⟩ | ⟨rfl, rfl⟩ | ⟨rfl, rfl⟩ | ⟨h3, h4, h5⟩
  · rw [tA_eq, tA_nk (by decide), tA_nk (by decide), b1_s]; omega
  · rw [tA_eq, tA_nk (by decide), tA_nk (by decide), b1_s]; omega
  · rw [tA_eq, tA_nk (by decide), tA_nk (by decide), b1_s]; omega
  · rw [tA_nk (Ne.symm h3), tA_nk (Ne.symm h4), tA_nk (Ne.symm h5)]; exact Nat.le_refl _
theorem mu_of {n : Nat} {M M' : Md} (h : M'.1 = M.1) : mu n M' = mu n M := by unfold mu; rw [h]
theorem mu_Fl {n f : Nat} {M : Md} (hf : f < n) (hn : M.2.2.2 1 = nI n) (h40 : n ≤ 40) : mu n (mFl M f) ≤ mu n M := by
  unfold mFl
  refine Nat.le_trans (mu_put (muAt_3 (by simp))) (Nat.le_trans (mu_put (muAt_3 (by simp))) (Nat.le_trans (mu_put (muAt_3 (by simp))) ?_))
  exact Nat.le_trans (less_tear (M := tA M 2 f 0) hf hn h40).1 (mu_put (muAt_3 (by simp)))
theorem mu_Fall {n f : Nat} {M : Md} (hf : f < n) (hn : M.2.2.2 1 = nI n) (h40 : n ≤ 40) : mu n (mFall M f) ≤ mu n M := by
  refine Nat.le_trans (Nat.le_of_eq (mu_of (mT_fr (mt_fk f) _ _))) (mu_Fl hf hn h40)
theorem mu_d1 {n i : Nat} {M : Md} (hi : i < n) (hn : M.2.2.2 1 = nI n) (h40 : n ≤ 40) : mu n (md1 i M) ≤ mu n M := by
  unfold md1; split
  · split
    · split
      · exact mu_Fall hi hn h40
      · exact Nat.le_refl _
    · exact Nat.le_refl _
  · exact Nat.le_refl _
theorem mu_Drop {n : Nat} {M : Md} (hn : M.2.2.2 1 = nI n) (h40 : n ≤ 40) : mu n (mDrop M) ≤ mu n M := by
  unfold mDrop
  rw [mN_eq hn h40]
  exact (fr_In (fun T => T.2.2.2 1 = nI n ∧ mu n T ≤ mu n M) n (fun i T hi h => ⟨(congrFun (mi_d1 i T) 1).trans h.1, Nat.le_trans (mu_d1 hi h.1 h40) h.2⟩) n M (Nat.le_refl n) ⟨hn, Nat.le_refl _⟩).2
theorem less_g0 {n i : Nat} {T : Md × Bool} (hi : i < n) (hn : T.1.2.2.2 1 = nI n) (h40 : n ≤ 40) : lessM n T (mg0 i T) := by
  unfold mg0; split
  · exact lessM.rf
  · have h := less_tear (M := T.1) hi hn h40
    refine ⟨h.1, fun q => ?_⟩
    simp only [Bool.or_eq_true] at q
    rcases q with q | q
    · exact Or.inl q
    · rcases h.2 q with q | q
      · exact absurd q (by simp)
      · exact Or.inr q
theorem less_gE {n i : Nat} {T : Md × Bool} (hi : i < n) : lessM n T (mgE i T) := by
  unfold mgE; split
  · exact lessM.rf
  · next h3 =>
    split
    · have : mu n (tA T.1 3 i 0) < mu n T.1 := by
        refine mu_at hi (fun k j hj => by rw [tA_ne hj]) ?_
        unfold muAt
        rw [tA_eq, tA_nk (by decide), tA_nk (by decide), b1_s, b1_n h3]
        omega
      exact ⟨Nat.le_of_lt this, fun _ => Or.inr this⟩
    · exact lessM.rf
theorem less_g1 {n i : Nat} {T : Md × Bool} (hi : i < n) (hn : T.1.2.2.2 1 = nI n) (h40 : n ≤ 40) : lessM n T (mg1 i T) := by
  unfold mg1; split
  · exact (less_g0 hi hn h40).tr (less_gE hi)
  · exact lessM.rf
theorem less_Rd {n : Nat} {M : Md} (hn : M.2.2.2 1 = nI n) (h40 : n ≤ 40) : lessM n (M, false) (mRd M) := by
  unfold mRd
  rw [mN_eq hn h40]
  have h := (fr_In (fun T => T.1.2.2.2 1 = nI n ∧ lessM n (mRk M, false) T) n (fun i T hi h => ⟨(congrFun (mi_g1 i T) 1).trans h.1, h.2.tr (less_g1 hi h.1 h40)⟩) n (mRk M, false) (Nat.le_refl n) ⟨(congrFun (mi_Rk M) 1).trans hn, lessM.rf⟩).2
  have e : mu n (mRk M) = mu n M := mu_of (mt_Rk M)
  exact ⟨by rw [← e]; exact h.1, fun q => by rw [show mu n (M, false).1 = mu n (mRk M) from e.symm]; exact h.2 q⟩
theorem mu_round {n k : Nat} {M : Md} (hn : M.2.2.2 1 = nI n) (h40 : n ≤ 40) (hr : (mRd M).2 = true) (hk : mu n M < k + 1) : mu n (mDrop (mRd M).1) < k := by
  have h1 : (mRd M).1.2.2.2 1 = nI n := (congrFun (mi_Rd M) 1).trans hn
  have h2 := mu_Drop h1 h40
  rcases (less_Rd hn h40).2 hr with q | q
  · exact absurd q (by simp)
  · have : mu n (mRd M).1 < mu n M := q
    omega
