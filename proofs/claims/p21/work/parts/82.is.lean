/-! the last look: numbers -/
def hc1 (M : Md) (k o : Nat) (a : Int32) : Int32 := a + (if M.1 2 o = 0 then 0 else if heldB M o (nI k) = true then 1 else 0)
theorem fr_frA9 {σ : Type} (f : Nat → σ → σ) (a : Nat) (s : σ) : ∀ k : Nat, fr f (a + k) s = frA f a k (fr f a s) := by
  have key : ∀ (k a : Nat) (s : σ), frA f a (k + 1) s = f (a + k) (frA f a k s) := fun k => by
    induction k with
    | zero => exact fun a s => rfl
    | succ k ih =>
      intro a s
      show frA f (a + 1) (k + 1) (f a s) = f (a + (k + 1)) (frA f (a + 1) k (f a s))
      rw [ih (a + 1) (f a s), show a + 1 + k = a + (k + 1) by omega]
  intro k
  induction k with
  | zero => rfl
  | succ k ih =>
    show f (a + k) (fr f (a + k) s) = _
    rw [ih, key]
theorem frA_ext {σ : Type} {f g : Nat → σ → σ} : ∀ (k a : Nat) (s : σ), (∀ i s, a ≤ i → i < a + k → f i s = g i s) → frA f a k s = frA g a k s
  | 0, _, _, _ => rfl
  | k + 1, a, s, h => by
    show frA f (a + 1) k (f a s) = frA g (a + 1) k (g a s)
    rw [h a s (Nat.le_refl a) (by omega)]
    exact frA_ext k (a + 1) _ (fun i s h1 h2 => h i s (by omega) (by omega))
theorem held_no {n i k : Nat} {M : Md} (h : JI n M) (hi : i < n) (hik : i ≤ k) (hk : k < 2 ^ 31) : heldB M i (nI k) = false := by
  obtain ⟨o4, o5, -⟩ := h i hi
  have key : ∀ x : Int32, okH i x → ¬ x = nI k := fun x o z => by
    rcases o with y | ⟨j, hj, y⟩
    · exact nI_m1 hk (z.symm.trans y)
    · have := (nI_eq (by omega) hk).mp (y.symm.trans z)
      omega
  unfold heldB
  rw [decide_eq_false (key _ o4), decide_eq_false (key _ o5)]
  rfl
section IS
variable {n r : Nat} {B : Sr} {K : St} {M : Md}
theorem hc_mHf (h : LI n r B K M) {k : Nat} (hk : k < n) : fr (hc1 M k) n 0 = mHf (mRk M) k := by
  have h40 := h.h40
  have e1 : fr (hc1 M k) (k + 1) 0 = 0 := fr_id (k + 1) fun i hi => by
    unfold hc1
    rw [held_no h.2.2.1 (by omega) (by omega) (by omega)]
    split <;> rfl
  have e2 : n = (k + 1) + (n - (k + 1)) := by omega
  unfold mHf
  rw [mN_eq (M := mRk M) (n := n) (by rw [mi_Rk]; exact h.mn) h40]
  conv => lhs; rw [e2, fr_frA9, e1]
  refine frA_ext _ _ _ fun i s h1 h2 => ?_
  unfold hc1 mhf1
  have hi : i < n := by omega
  rw [mRk_hg, show heldB (mRk M) i (nI k) = heldB M i (nI k) from by unfold heldB; rw [mt_Rk]]
  by_cases c : M.1 2 i = 0
  · rw [if_pos c, show mHg M i = false from by
      cases z : mHg M i with
      | false => rfl
      | true => exact absurd c ((JI_hg h.2.2.1 hi).mp z)]
    rfl
  · rw [if_neg c, (JI_hg h.2.2.1 hi).mpr c]
    rfl
/-- what the last look gathers: spells, props, loads of spells, all loads -/
def sG (X : Md) (i : Nat) (s : Int32 × Int32 × Int32 × Int32) : Int32 × Int32 × Int32 × Int32 := (mc1 X 3 i s.1, mc1 X 6 i s.2.1, mc1 X 7 i s.2.2.1, mSm1 X i s.2.2.2)
theorem sG_fr (X : Md) : ∀ m : Nat, fr (sG X) m (0, 0, 0, 0) = (fr (mc1 X 3) m 0, fr (mc1 X 6) m 0, fr (mc1 X 7) m 0, fr (mSm1 X) m 0)
  | 0 => rfl
  | m + 1 => by
    show sG X m (fr (sG X) m (0, 0, 0, 0)) = _
    rw [sG_fr X m]
    rfl
theorem rk_n (h : LI n r B K M) : mN (mRk M) = n := mN_eq (by rw [mi_Rk]; exact h.mn) h.h40
theorem rk_r (h : LI n r B K M) : mR (mRk M) = r := mR_eq (by rw [mi_Rk]; exact h.mr) h.h30
theorem ct_0 (h : LI n r B K M) : mCt (mRk M) 0 = M.2.2.1 0 0 := congrFun (Hm_Rk M).2.2.2 0
theorem ct_1 (h : LI n r B K M) : mCt (mRk M) 1 = nI n := by
  show (mRk M).2.2.2 1 = _
  rw [mi_Rk]; exact h.mn
theorem hg_if (h : LI n r B K M) {i : Nat} (hi : i < n) {α : Type} (a b : α) : (if mHg (mRk M) i then a else b) = if M.1 2 i = 0 then b else a := by
  rw [mRk_hg]
  by_cases c : M.1 2 i = 0
  · rw [if_pos c, if_neg (fun z => (JI_hg h.2.2.1 hi).mp z c)]
  · rw [if_neg c, if_pos ((JI_hg h.2.2.1 hi).mpr c)]
theorem ct_2 (h : LI n r B K M) : mCt (mRk M) 2 = fr (mHa1 M) n 0 := by
  show fr (mc1 (mRk M) 2) (mN (mRk M)) 0 = _
  rw [rk_n h]
  refine fr_eq n 0 fun i s hi => ?_
  unfold mc1 mHa1
  rw [hg_if h hi]
  rcases (h.2.2.1 i hi).2.2.2.2.2.2.1 with c | c
  · rw [if_pos c, c, Int32.add_zero]
  · rw [c]; rfl
theorem ct_4 (h : LI n r B K M) : mCt (mRk M) 4 = fr (mk4 M) r 0 := by
  show fr (mk4 (mRk M)) (mR (mRk M)) 0 = _
  rw [rk_r h]
  refine fr_eq r 0 fun i s hi => ?_
  unfold mk4
  rw [(Hm_Rk M).1]
theorem ct_5 (h : LI n r B K M) : mCt (mRk M) 5 = fr (jp1 M) n 0 := by
  show fr (mc1 (mRk M) 5) (mN (mRk M)) 0 = _
  rw [rk_n h]
  refine fr_eq n 0 fun i s hi => ?_
  unfold mc1 jp1
  rw [hg_if h hi, mt_Rk]
  by_cases c : M.1 2 i = 0
  · rw [if_pos c, if_pos c, Int32.add_zero]
  · rw [if_neg c, if_neg c]; rfl
theorem ct_fr (h : LI n r B K M) {w : Nat} (hw : w = 3 ∨ w = 6 ∨ w = 7) : mCt (mRk M) w = fr (mc1 (mRk M) w) n 0 := by
  rcases hw with rfl | rfl | rfl
  · show fr (mc1 (mRk M) 3) (mN (mRk M)) 0 = _; rw [rk_n h]
  · show fr (mc1 (mRk M) 6) (mN (mRk M)) 0 = _; rw [rk_n h]
  · show fr (mc1 (mRk M) 7) (mN (mRk M)) 0 = _; rw [rk_n h]
theorem mean_go (h : LI n r B K M) : cMn K = (if fr (mHa1 M) n 0 = 0 then FP.dconst0 else FP.ddiv (FP.i2d (fr (mSm1 (mRk M)) n 0)) (FP.i2d (fr (mHa1 M) n 0))) ∧ (¬ fr (mHa1 M) n 0 = 0 → vf_n64 (FP.ddiv (FP.i2d (fr (mSm1 (mRk M)) n 0)) (FP.i2d (fr (mHa1 M) n 0)))) ∧ (0 < K.2.2.1 1 → vf_n64 (FP.ddiv (FP.i2d (sLd K)) (FP.i2d (K.2.2.1 1)))) := by
  obtain ⟨a, -, b, c⟩ := mean_q h.1
  rw [mI_id h.2.2.2] at c
  have e1 : mHa (mRk M) = fr (mHa1 M) n 0 := by
    unfold mHa
    rw [rk_n h]
    refine fr_eq n 0 fun i s hi => ?_
    unfold mHa1
    rw [mt_Rk]
  have e2 : mSm (mRk M) = fr (mSm1 (mRk M)) n 0 := by unfold mSm; rw [rk_n h]
  rw [e1, e2] at c
  refine ⟨?_, c, b⟩
  rw [← a]
  unfold mMn
  rw [mI_id h.2.2.2]
  unfold mMnR
  rw [e1, e2]
end IS
