/-! what is loose falls, wherever the loads stand; a day -/
def AQ (M M' : Md) : Prop := M'.1 = M.1 ∧ M'.2.1 = M.2.1 ∧ M'.2.2.2 = M.2.2.2 ∧ M'.2.2.1 0 = M.2.2.1 0
theorem AQ.put {M M' : Md} (h : AQ M M') (k j : Nat) {v v' : Int32} (hv : v' = v) : AQ (tA M k j v) (tA M' k j v') := by
  obtain ⟨a, b, c, d⟩ := h
  refine ⟨?_, b, c, d⟩
  show (fun k' => if k' = k then upd (M'.1 k) j v' else M'.1 k') = (fun k' => if k' = k then upd (M.1 k) j v else M.1 k')
  rw [a, hv]
theorem AQ.pw {M M' : Md} (h : AQ M M') (k j : Nat) (v : Int32) : AQ (wA M k j v) (wA M' k j v) := by
  obtain ⟨a, b, c, d⟩ := h
  refine ⟨a, ?_, c, d⟩
  show (fun k' => if k' = k then upd (M'.2.1 k) j v else M'.2.1 k') = (fun k' => if k' = k then upd (M.2.1 k) j v else M.2.1 k')
  rw [b]
theorem AQ_t1 (f i : Nat) {T T' : Md × Bool} (h : AQ T.1 T'.1) : AQ (mt1 f i T).1 (mt1 f i T').1 := by
  have e : ∀ k j, T'.1.1 k j = T.1.1 k j := fun k j => by rw [h.1]
  unfold mt1 mHg heldB
  rw [e 2, e 4, e 5]
  split
  · split
    · split
      · exact (h.put 4 i rfl).put 5 i rfl
      · exact h.put 5 i rfl
    · exact h
  · exact h
theorem AQ_tear {M M' : Md} (f : Nat) (h : AQ M M') : AQ (mTear M f).1 (mTear M' f).1 := by
  unfold mTear mN
  rw [h.2.2.1]
  generalize ix (M.2.2.2 1) = N
  have := frA_rel (f := mt1 f) (g := mt1 f) (fun T T' => AQ T.1 T'.1) (f + 1 + (N - (f + 1))) (N - (f + 1)) (f + 1) (M, false) (M', false) (Nat.le_refl _) (fun i s t _ _ q => AQ_t1 f i q) h
  exact this
theorem AQ_Fl {M M' : Md} (f : Nat) (h : AQ M M') : AQ (mFl M f) (mFl M' f) := by
  unfold mFl
  exact (((AQ_tear f (h.put 2 f rfl)).put 3 f rfl).put 4 f rfl).put 5 f rfl
theorem AQ_fk (f k : Nat) {M M' : Md} (h : AQ M M') : AQ (mfk f k M) (mfk f k M') := by
  unfold mfk
  rw [h.2.1]
  split
  · exact h.pw 2 k 1
  · split
    · exact h.pw 2 k 1
    · exact h
theorem AQ_Fall {M M' : Md} (f : Nat) (h : AQ M M') : AQ (mFall M f) (mFall M' f) := by
  unfold mFall mR
  rw [h.2.2.1]
  exact fr_rel (f := mfk f) (g := mfk f) AQ _ _ _ (fun i s t _ q => AQ_fk f i q) (AQ_Fl f h)
theorem AQ_d1 (i : Nat) {M M' : Md} (h : AQ M M') : AQ (md1 i M) (md1 i M') := by
  have e : ∀ k j, M'.1 k j = M.1 k j := fun k j => by rw [h.1]
  unfold md1 mHg
  rw [e 2, e 3, e 4]
  split
  · split
    · split
      · exact AQ_Fall i h
      · exact h
    · exact h
  · exact h
theorem AQ_Drop {M M' : Md} (h : AQ M M') : AQ (mDrop M) (mDrop M') := by
  unfold mDrop mN
  rw [h.2.2.1]
  exact fr_rel (f := md1) (g := md1) AQ _ _ _ (fun i s t _ q => AQ_d1 i q) h
/-- the reference with the class's loads and pulls -/
def mLo (K : St) (M : Md) : Md := (M.1, M.2.1, (fun k => if k = 1 then K.1 6 else if k = 2 then K.1 7 else M.2.2.1 k), M.2.2.2)
theorem AQ_Lo (K : St) (M : Md) : AQ (mLo K M) M := ⟨rfl, rfl, rfl, rfl⟩
theorem Sd_pr {n r : Nat} {B : Sr} {K K' : St} {M : Md} (h : Pr n r B K M) (hs : Sd K K') (hd : Hd n K) : SX n K' := SX_Sd hd hs h.2.2.2.2.2.2.2.2.2.1
theorem Pr_drop0 {n r : Nat} {B : Sr} {K : St} {M : Md} (h : Pr n r B K M) : Pr n r B (dropL K) (mDrop M) ∧ NL n (dropL K) := by
  obtain ⟨h1, h2, h3, h4, h5, h6, h7, h40, h30, hx, hb⟩ := h
  have hDT : DT n K (mLo K M) := ⟨⟨h1, h2, h3.2.2, fun _ _ => rfl, fun _ _ _ => rfl⟩, h6, h4⟩
  have hW : WH n r B K (mLo K M) := h7
  have hQ := AQ_Drop (AQ_Lo K M)
  have hDD := DT_drop h40 hDT
  have hDW := WH_drop h40 h30 hDT hW
  have hNL := NL_drop h40 hDT
  have hS := SX_Sd h2 (Sd_drop K) hx
  have hG := Gd_drop h40 h3
  have h5' : ∀ i, i < n → 0 ≤ (dropL K).1 1 i := fun i hi => by rw [k1_drop]; exact h5 i hi
  generalize dropL K = K' at hDD hDW hNL hS hG h5' ⊢
  generalize mDrop (mLo K M) = M1 at hQ hDD hDW
  generalize mDrop M = M2 at hQ ⊢
  have hq : Mq M1 M2 := ⟨hQ.1, hQ.2.1, by rw [hQ.2.2.1], by rw [hQ.2.2.1], by rw [hQ.2.2.2]⟩
  exact ⟨Pr_q hq ⟨hDD.1.1, hDD.1.2.1, hG, hDD.2.2, h5', hDD.2.1, hDW, h40, h30, hS, hb⟩, hNL⟩
theorem Cr_drop {n r : Nat} {B : Sr} {K : St} {M : Md} (h : Pr n r B K M) (hs : K.2.2.2 = true) : Cr n r B (dropL K) (mDrop M) := by
  obtain ⟨a, b⟩ := Pr_drop0 h
  exact ⟨a, b, fun q => by rw [Qk_drop K hs] at q; cases q⟩
/-! fading -/
theorem i2_lt {p : Int32} (h0 : ¬ p < 0) (h : ¬ p ≤ 2) : 0 < p - 2 := by
  obtain ⟨j, hj, rfl⟩ := nI_of h0
  have : ¬ j ≤ 2 := fun q => h (by
    have := nI_le (a := j) (b := 2) q (by omega)
    exact this)
  obtain ⟨m, rfl⟩ : ∃ m, j = m + 2 := ⟨j - 2, by omega⟩
  have e : nI (m + 2) - 2 = nI m := by
    rw [show nI (m + 2) = nI m + 2 from (nI_add m 2).symm, Int32.add_sub_cancel]
  rw [e]
  exact nI_lt (a := 0) (b := m) (by omega) (by omega)
theorem i2_le {p : Int32} (h0 : ¬ p < 0) (h : p ≤ 2) : mx 0 (p - 2) = 0 := by
  obtain ⟨j, hj, rfl⟩ := nI_of h0
  have : j ≤ 2 := by
    rcases Nat.lt_or_ge 2 j with q | q
    · exact absurd h (nI_ge (a := 2) (b := j) q hj)
    · exact q
  rcases (show j = 0 ∨ j = 1 ∨ j = 2 by omega) with rfl | rfl | rfl <;> decide
theorem i2_mx {p : Int32} (h0 : ¬ p < 0) (h : ¬ p ≤ 2) : mx 0 (p - 2) = p - 2 := by
  unfold mx
  rw [if_pos (i2_lt h0 h)]
