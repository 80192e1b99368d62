/-! what the class answers, in the towers' terms -/
def tl (M : Md) (i w : Nat) : Int32 := if w = 8 then (mRk M).2.2.1 2 i else mTold (mRk M) i w
section GO
variable {n r : Nat} {B : Sr} {K : St} {M : Md}
theorem mRk_z (h : M.2.2.2 0 = 0) : (mRk M).2.2.2 0 = 0 := by rw [mi_Rk]; exact h
theorem mRk_hg (M : Md) (i : Nat) : mHg (mRk M) i = mHg M i := by unfold mHg; rw [mt_Rk]
theorem tl_row {i w : Nat} (hw : w < 7) : tl M i w = M.1 w i := by
  unfold tl mTold
  rw [if_neg (by omega), if_neg (by omega), if_neg (by omega), if_neg (by omega), mt_Rk]
theorem tl_7 {i : Nat} : tl M i 7 = (mRk M).2.2.1 1 i := rfl
theorem tl_8 {i : Nat} : tl M i 8 = (mRk M).2.2.1 2 i := rfl
theorem tl_9 {i : Nat} : tl M i 9 = if mHg M i then mHf (mRk M) i else 0 := by
  rw [← mRk_hg]
  rfl
theorem LI_hg (h : LI n r B K M) {i : Nat} (hi : i < n) : mHg M i = K.2.1 i := mHg_b h.1.1.1.1.1 hi
theorem LI_p0 (h : LI n r B K M) {i : Nat} (hi : i < n) (hh : M.1 2 i = 0) : (mRk M).2.2.1 2 i = 0 := by
  rw [(load_q h.1.1 hi).2]
  refine pull_0 h.1.1 hi ?_
  rw [← LI_hg h hi]
  cases z : mHg M i with
  | false => rfl
  | true => exact absurd hh ((JI_hg h.2.2.1 hi).mp z)
theorem go_stone (h : LI n r B K M) {i w : Nat} (hi : i < n) (hw : w < 10) : (cStone K (nI i) (nI w)).1 = none ∧ (cStone K (nI i) (nI w)).2 = tl M i w := by
  have h40 := h.h40
  have hq := stone_q h.1 (nI i) (nI w)
  have e : mStn M (nI i) (nI w) = (mRk M, mTold (mRk M) i w) := by
    unfold mStn
    rw [mI_id h.2.2.2, mhas h hi, show isInB (nI w) 0 9 = true from in_nI (lo := 0) (hi := 9) (by omega) (by omega) (by decide), if_pos (by rfl), ix_nI (by omega), ix_nI (by omega)]
  rw [e] at hq
  obtain ⟨q1, q2, -⟩ := hq
  have e0 : (cStone K (nI i) (nI w)).1 = none := kc_none (q1.symm.trans (mRk_z h.2.2.2))
  refine ⟨e0, (q2 e0).symm.trans ?_⟩
  show mTold (mRk M) i w = _
  unfold tl
  by_cases c : w = 8
  · subst c
    rw [if_pos rfl]
    show (if mHg (mRk M) i then (mRk M).2.2.1 2 i else 0) = _
    rw [mRk_hg]
    cases z : mHg M i with
    | true => exact if_pos rfl
    | false =>
      rw [if_neg (by decide)]
      refine (LI_p0 h hi ?_).symm
      exact Decidable.not_not.mp fun y => by rw [(JI_hg h.2.2.1 hi).mpr y] at z; cases z
  · rw [if_neg c]
theorem go_joins (h : LI n r B K M) {i w : Nat} (hi : i < r) (hw : w < 3) : (cJoins K B (nI i) (nI w)).1 = none ∧ (cJoins K B (nI i) (nI w)).2 = M.2.1 w i := by
  have h30 := h.h30
  have hq := joins_q h.1 (nI i) (nI w)
  have e : mJoins M (nI i) (nI w) = (M, M.2.1 w i) := by
    unfold mJoins
    rw [mI_id h.2.2.2, mhasR h hi, show isInB (nI w) 0 2 = true from in_nI (lo := 0) (hi := 2) (by omega) (by omega) (by decide), if_pos (by rfl), ix_nI (by omega), ix_nI (by omega)]
  rw [e] at hq
  obtain ⟨q1, q2, -⟩ := hq
  have e0 : (cJoins K B (nI i) (nI w)).1 = none := kc_none (q1.symm.trans h.2.2.2)
  exact ⟨e0, (q2 e0).symm⟩
theorem go_count (h : LI n r B K M) {w : Nat} (hw : w < 8) : (cCount K B (nI w)).1 = none ∧ (cCount K B (nI w)).2 = mCt (mRk M) w := by
  have hq := count_q h.1 (nI w)
  have e : mCount M (nI w) = (mRk M, mCt (mRk M) w) := by
    unfold mCount
    rw [mI_id h.2.2.2, show isInB (nI w) 0 7 = true from in_nI (lo := 0) (hi := 7) (by omega) (by omega) (by decide), if_pos rfl, ix_nI (by omega)]
  rw [e] at hq
  obtain ⟨q1, q2, -⟩ := hq
  have e0 : (cCount K B (nI w)).1 = none := kc_none (q1.symm.trans (mRk_z h.2.2.2))
  exact ⟨e0, (q2 e0).symm⟩
theorem go_first (h : LI n r B K M) {i : Nat} (hi : i < n) : (cFirst K (nI i)).1 = none ∧ (cFirst K (nI i)).2 = if M.1 2 i = 0 then -1 else nI (mUp 40 M i) := by
  have h40 := h.h40
  have hq := first_q h.1 (nI i)
  have e : mFirst M (nI i) = (M, if M.1 2 i = 0 then -1 else nI (mUp 40 M i)) := by
    unfold mFirst
    rw [mI_id h.2.2.2, mhas h hi, if_neg (by decide), ix_nI (by omega)]
    by_cases c : M.1 2 i = 0
    · rw [if_pos c, if_pos]
      cases z : mHg M i with
      | false => rfl
      | true => exact absurd c ((JI_hg h.2.2.1 hi).mp z)
    · rw [if_neg c, (JI_hg h.2.2.1 hi).mpr c, if_neg (by decide)]
  rw [e] at hq
  obtain ⟨q1, q2, -⟩ := hq
  have e0 : (cFirst K (nI i)).1 = none := kc_none (q1.symm.trans h.2.2.2)
  exact ⟨e0, (q2 e0).symm⟩
/-- a day: the numbers -/
theorem LI_dy (h : LI n r B K M) : JI n (mDy M) ∧ WB n (mDy M) ∧ (mDy M).2.2.2 = M.2.2.2 ∧ Dn n M (mDy M) ∧ (mDy M).2.2.1 0 0 = M.2.2.1 0 0 + 1 := by
  have h40 := h.h40
  have h30 := h.h30
  have hi1 : (fr mdy0 (mN M) M).2.2.2 = M.2.2.2 := mi_Dy0 M
  have hJ1 : JI n (fr mdy0 (mN M) M) := by rw [mN_eq h.mn h40]; exact JI_dys h.2.2.1 n (Nat.le_refl n)
  have hB1 : WB n (fr mdy0 (mN M) M) := WB_dys h.2.1 _
  have hi2 : (mDrop (fr mdy0 (mN M) M)).2.2.2 = M.2.2.2 := (mi_Drop _).trans hi1
  have hJ2 := JI_Drop h40 h30 (by rw [hi1]; exact h.mn) (by rw [hi1]; exact h.mr) hJ1
  have hJ3 := JI_Gv h40 h30 (by rw [hi2]; exact h.mn) (by rw [hi2]; exact h.mr) hJ2
  have hD : (mGv (mDrop (fr mdy0 (mN M) M))).2.2.1 0 0 = M.2.2.1 0 0 := by
    rw [day_Gv, mDrop_s, dys_i]
  have hB3 : WB n (mGv (mDrop (fr mdy0 (mN M) M))) := WB_Gv (WB_Drop hB1)
  have hi3 : (mGv (mDrop (fr mdy0 (mN M) M))).2.2.2 = M.2.2.2 := (mi_Gv _).trans hi2
  have hd3 : ∀ i, M.1 2 i = 0 → (mGv (mDrop (fr mdy0 (mN M) M))).1 2 i = 0 := fun i q => dn_Gv (dn_Drop (by rw [dys_row (by decide)]; exact q))
  rw [mDy_eq]
  generalize mGv (mDrop (fr mdy0 (mN M) M)) = Z at hJ3 hB3 hi3 hd3 hD ⊢
  refine ⟨fun i hi => hJ3 i hi, fun i hi => hB3 i hi, hi3, fun i _ q => hd3 i q, ?_⟩
  show (if (0 : Nat) = 0 then upd (Z.2.2.1 0) 0 (Z.2.2.1 0 0 + 1) else Z.2.2.1 0) 0 = _
  rw [if_pos rfl]
  show (if (0 : Nat) = 0 then Z.2.2.1 0 0 + 1 else Z.2.2.1 0 0) = _
  rw [if_pos rfl, hD]
theorem dys_1 (M : Md) : mDys M 1 = mDy M := by
  unfold mDys
  rw [fr, fr, mDys1]
theorem go_pass (h : LI n r B K M) : (cPass K (nI 1)).1 = none ∧ (cPass K (nI 1)).2.1 = mHa M - mHa (mDy M) ∧ LI n r B (cPass K (nI 1)).2.2 (mDy M) := by
  have hq := pass_q h.1 (nI 1)
  obtain ⟨a, b, c, d, -⟩ := LI_dy h
  have e : mPass M (nI 1) = (mDy M, mHa M - mHa (mDy M)) := by
    unfold mPass
    rw [mI_id h.2.2.2, show isInB (nI 1) 1 120 = true from in_nI (lo := 1) (hi := 120) (by omega) (by omega) (by decide), if_pos rfl, ix_nI (by omega), dys_1]
  rw [e] at hq
  obtain ⟨q1, q2, q3⟩ := hq
  have e0 : (cPass K (nI 1)).1 = none := kc_none (q1.symm.trans (by show (mDy M).2.2.2 0 = 0; rw [c]; exact h.2.2.2))
  exact ⟨e0, (q2 e0).symm, q3, b, a, by rw [c]; exact h.2.2.2⟩
end GO
