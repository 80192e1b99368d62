/-! what the reference's methods do. A state: the tower's rows (0 weight, 1 strength, 2 hangs, 3 power, 4 first, 5 second, 6 prop), the ways' rows (0 a, 1 b, 2 gone), the other arrays (0 day, 1 loads, 2 pulls, 3 away), numbers (0 thrown, 1 stones, 2 stairs) -/
abbrev Md : Type := (Nat → Nat → Int32) × (Nat → Nat → Int32) × (Nat → Nat → Int32) × (Nat → Int32)
abbrev tA (M : Md) (k j : Nat) (v : Int32) : Md := (fun k' => if k' = k then upd (M.1 k) j v else M.1 k', M.2)
abbrev wA (M : Md) (k j : Nat) (v : Int32) : Md := (M.1, (fun k' => if k' = k then upd (M.2.1 k) j v else M.2.1 k'), M.2.2)
abbrev aA (M : Md) (k j : Nat) (v : Int32) : Md := (M.1, M.2.1, (fun k' => if k' = k then upd (M.2.2.1 k) j v else M.2.2.1 k'), M.2.2.2)
abbrev mI (M : Md) (k : Nat) (v : Int32) : Md := (M.1, M.2.1, M.2.2.1, fun k' => if k' = k then v else M.2.2.2 k')
abbrev twF (f : Nat → Nat → Int32) : Nat → Int32 := fun j => f (j % 7) (j / 7)
abbrev wyF (f : Nat → Nat → Int32) : Nat → Int32 := fun j => f (j % 3) (j / 3)
abbrev mdW (b : Nat) (M : Md) : List va_E := [.inr (3, [.int (M.2.2.2 0), .int (M.2.2.2 1), .int (M.2.2.2 2), .ref (b + 1), .ref (b + 2), .ref (b + 3), .ref (b + 4), .ref (b + 5), .ref (b + 6)]), .inl (0, 280, .inl (twF M.1)), .inl (0, 90, .inl (wyF M.2.1)), .inl (0, 1, .inl (M.2.2.1 0)), .inl (0, 40, .inl (M.2.2.1 1)), .inl (0, 40, .inl (M.2.2.1 2)), .inl (0, 40, .inl (M.2.2.1 3))]
theorem tw_at (f : Nat → Nat → Int32) {i w : Nat} (hw : w < 7) : twF f (7 * i + w) = f w i := by
  show f ((7 * i + w) % 7) ((7 * i + w) / 7) = f w i
  rw [show (7 * i + w) % 7 = w by omega, show (7 * i + w) / 7 = i by omega]
theorem wy_at (f : Nat → Nat → Int32) {i w : Nat} (hw : w < 3) : wyF f (3 * i + w) = f w i := by
  show f ((3 * i + w) % 3) ((3 * i + w) / 3) = f w i
  rw [show (3 * i + w) % 3 = w by omega, show (3 * i + w) / 3 = i by omega]
theorem tw_upd (f : Nat → Nat → Int32) {i w : Nat} (hw : w < 7) (v : Int32) : upd (twF f) (7 * i + w) v = twF (fun k' => if k' = w then upd (f w) i v else f k') := by
  funext j
  show (if j = 7 * i + w then v else f (j % 7) (j / 7)) = (if j % 7 = w then upd (f w) i v else f (j % 7)) (j / 7)
  by_cases h : j % 7 = w
  · rw [if_pos h]
    show _ = if j / 7 = i then v else f w (j / 7)
    by_cases h2 : j / 7 = i
    · rw [if_pos h2, if_pos (by omega)]
    · rw [if_neg h2, if_neg (by omega), h]
  · rw [if_neg h, if_neg (by omega)]
theorem wy_upd (f : Nat → Nat → Int32) {i w : Nat} (hw : w < 3) (v : Int32) : upd (wyF f) (3 * i + w) v = wyF (fun k' => if k' = w then upd (f w) i v else f k') := by
  funext j
  show (if j = 3 * i + w then v else f (j % 3) (j / 3)) = (if j % 3 = w then upd (f w) i v else f (j % 3)) (j / 3)
  by_cases h : j % 3 = w
  · rw [if_pos h]
    show _ = if j / 3 = i then v else f w (j / 3)
    by_cases h2 : j / 3 = i
    · rw [if_pos h2, if_pos (by omega)]
    · rw [if_neg h2, if_neg (by omega), h]
  · rw [if_neg h, if_neg (by omega)]
def isInB (v lo hi : Int32) : Bool := !decide (v < lo) && !decide (hi < v)
def mHas (M : Md) (x : Int32) : Bool := isInB x 0 (M.2.2.2 1 - 1)
def mHasR (M : Md) (x : Int32) : Bool := isInB x 0 (M.2.2.2 2 - 1)
theorem isIn_ix {x H : Int32} {n : Nat} (hn : H = nI n) (hl : n < 2 ^ 31) (h : isInB x 0 (H - 1) = true) : ∃ j : Nat, j < n ∧ x = nI j := by
  simp only [isInB, Bool.and_eq_true, Bool.not_eq_true', decide_eq_false_iff_not] at h
  obtain ⟨j, hj, rfl⟩ := nI_of h.1
  refine ⟨j, ?_, rfl⟩
  cases n with
  | zero => exact absurd (show H - 1 < nI j from by rw [hn, Int32.lt_iff_toInt_lt, nI_toInt hj]; have : (nI 0 - 1).toInt = -1 := by decide
                                                    omega) h.2
  | succ n =>
    rw [hn, nI_pred] at h
    exact Nat.lt_succ_of_le (Nat.not_lt.mp (fun q => h.2 (nI_lt q hj)))
theorem isIn_nI {H : Int32} {n j : Nat} (hn : H = nI n) (hl : n < 2 ^ 31) (hj : j < n) : isInB (nI j) 0 (H - 1) = true := by
  simp only [isInB, Bool.and_eq_true, Bool.not_eq_true', decide_eq_false_iff_not]
  refine ⟨nI_pos (by omega), ?_⟩
  cases n with
  | zero => omega
  | succ n =>
    rw [hn, nI_pred]
    exact nI_nlt (by omega) (by omega)
def mHg (M : Md) (i : Nat) : Bool := decide (M.1 2 i = 1)
def heldB (M : Md) (i : Nat) (x : Int32) : Bool := decide (M.1 4 i = x) || decide (M.1 5 i = x)
/-- a hold is none, or from a stone ahead -/
def okH (i : Nat) (x : Int32) : Prop := x = -1 ∨ ∃ j : Nat, j < i ∧ x = nI j
def okM (n : Nat) (M : Md) : Prop := ∀ i, i < n → okH i (M.1 4 i) ∧ okH i (M.1 5 i)
abbrev mN (M : Md) : Nat := ix (M.2.2.2 1)
abbrev mR (M : Md) : Nat := ix (M.2.2.2 2)
def mrk0 (i : Nat) (M : Md) : Md := aA M 2 i 0
def mLd (i : Nat) (M : Md) : Int32 := if mHg M i then mx 0 (M.1 0 i + M.2.2.1 2 i - M.1 6 i) else 0
def mSh (i : Nat) (M : Md) : Int32 := if M.1 5 i = -1 then M.2.2.1 1 i else (M.2.2.1 1 i + 1) / 2
def mP1 (i : Nat) (M : Md) : Md := aA M 2 (ix (M.1 4 i)) (M.2.2.1 2 (ix (M.1 4 i)) + mSh i M)
def mP2 (i : Nat) (M : Md) : Md := if M.1 5 i = -1 then M else aA M 2 (ix (M.1 5 i)) (M.2.2.1 2 (ix (M.1 5 i)) + M.2.2.1 1 i / 2)
def mrkB (i : Nat) (M : Md) : Md := if mHg M i then if M.1 4 i = -1 then M else mP2 i (mP1 i M) else M
def mrk1 (i : Nat) (M : Md) : Md := mrkB i (aA M 1 i (mLd i M))
def mRk (M : Md) : Md := frD mrk1 (mN M) (fr mrk0 (mN M) M)
def frA {σ : Type} (f : Nat → σ → σ) : Nat → Nat → σ → σ
  | _, 0, s => s
  | a, k + 1, s => frA f (a + 1) k (f a s)
theorem ZforA {σ : Type} (W : Nat → σ → Prop) (I : Nat → σ → Prop) (f : Nat → σ → σ) (a n : Nat) (s0 : σ) (ha : a ≤ n) (h0 : I a s0) (hI : ∀ i s, a ≤ i → i < n → I i s → I (i + 1) (f i s)) (hx : ∀ s, I n s → s = frA f a (n - a) s0 → W n s) (hs : ∀ i s, a ≤ i → i < n → I i s → I (i + 1) (f i s) → W (i + 1) (f i s) → W i s) : W a s0 := by
  have key : ∀ k i s, a ≤ i → i + k = n → I i s → frA f i k s = frA f a (n - a) s0 → W i s := by
    intro k
    induction k with
    | zero =>
      intro i s _ hi h e
      obtain rfl : i = n := by omega
      exact hx s h e
    | succ k ih =>
      intro i s hai hi h e
      have hi' := hI i s hai (by omega) h
      exact hs i s hai (by omega) h hi' (ih (i + 1) (f i s) (by omega) (by omega) hi' (by rw [← e]; rfl))
  exact key (n - a) a s0 (Nat.le_refl a) (by omega) h0 rfl
def mt1 (f : Nat) (i : Nat) (T : Md × Bool) : Md × Bool :=
  if mHg T.1 i then if heldB T.1 i (nI f) then if T.1.1 4 i = nI f then (tA (tA T.1 4 i (T.1.1 5 i)) 5 i (-1), true) else (tA T.1 5 i (-1), true) else T else T
def mTear (M : Md) (f : Nat) : Md × Bool := frA (mt1 f) (f + 1) (mN M - (f + 1)) (M, false)
def mfk (f k : Nat) (M : Md) : Md := if M.2.1 0 k = nI f then wA M 2 k 1 else if M.2.1 1 k = nI f then wA M 2 k 1 else M
def mFl (M : Md) (f : Nat) : Md := tA (tA (tA (mTear (tA M 2 f 0) f).1 3 f 0) 4 f (-1)) 5 f (-1)
def mFall (M : Md) (f : Nat) : Md := fr (mfk f) (mR M) (mFl M f)
def md1 (i : Nat) (M : Md) : Md := if mHg M i then if M.1 3 i = 0 then if M.1 4 i = -1 then mFall M i else M else M else M
def mDrop (M : Md) : Md := fr md1 (mN M) M
def mg0 (i : Nat) (T : Md × Bool) : Md × Bool := if T.1.2.2.1 2 i ≤ T.1.1 1 i then T else ((mTear T.1 i).1, T.2 || (mTear T.1 i).2)
def mgE (i : Nat) (T : Md × Bool) : Md × Bool := if T.1.1 3 i = 0 then T else if T.1.1 3 i < T.1.2.2.1 1 i then (tA T.1 3 i 0, true) else T
def mg1 (i : Nat) (T : Md × Bool) : Md × Bool := if mHg T.1 i then mgE i (mg0 i T) else T
def mRd (M : Md) : Md × Bool := fr mg1 (mN M) (mRk M, false)
def mgw : Nat → Md → Md
  | 0, M => M
  | k + 1, M => if (mRd M).2 then mgw k (mDrop (mRd M).1) else mDrop (mRd M).1
def mGv (M : Md) : Md := mRk (mgw 1000 M)
def mHa1 (M : Md) (i : Nat) (a : Int32) : Int32 := a + M.1 2 i
def mHa (M : Md) : Int32 := fr (mHa1 M) (mN M) 0
theorem bI_or (a b : Bool) : bI a ||| bI b = bI (a || b) := by cases a <;> cases b <;> decide
theorem mI_fr {f : Nat → Md → Md} (h : ∀ i M, (f i M).2.2.2 = M.2.2.2) (n : Nat) (M : Md) : (fr f n M).2.2.2 = M.2.2.2 := by
  induction n with
  | zero => rfl
  | succ n ih => exact (h n _).trans ih
theorem mI_frD {f : Nat → Md → Md} (h : ∀ i M, (f i M).2.2.2 = M.2.2.2) (n : Nat) (M : Md) : (frD f n M).2.2.2 = M.2.2.2 := by
  induction n generalizing M with
  | zero => rfl
  | succ n ih => exact (ih _).trans (h n _)
theorem mT_fr {f : Nat → Md → Md} (h : ∀ i M, (f i M).1 = M.1) (n : Nat) (M : Md) : (fr f n M).1 = M.1 := by
  induction n with
  | zero => rfl
  | succ n ih => exact (h n _).trans ih
theorem mT_frD {f : Nat → Md → Md} (h : ∀ i M, (f i M).1 = M.1) (n : Nat) (M : Md) : (frD f n M).1 = M.1 := by
  induction n generalizing M with
  | zero => rfl
  | succ n ih => exact (ih _).trans (h n _)
theorem mi_rkB (i : Nat) (M : Md) : (mrkB i M).2.2.2 = M.2.2.2 := by
  unfold mrkB mP2; split
  · split
    · rfl
    · split <;> rfl
  · rfl
theorem mi_rk1 (i : Nat) (M : Md) : (mrk1 i M).2.2.2 = M.2.2.2 := mi_rkB _ _
theorem mi_Rk (M : Md) : (mRk M).2.2.2 = M.2.2.2 := (mI_frD mi_rk1 _ _).trans (mI_fr (f := mrk0) (fun _ _ => rfl) _ _)
theorem mt_rkB (i : Nat) (M : Md) : (mrkB i M).1 = M.1 := by
  unfold mrkB mP2; split
  · split
    · rfl
    · split <;> rfl
  · rfl
theorem mt_rk1 (i : Nat) (M : Md) : (mrk1 i M).1 = M.1 := mt_rkB _ _
theorem mt_Rk (M : Md) : (mRk M).1 = M.1 := (mT_frD mt_rk1 _ _).trans (mT_fr (f := mrk0) (fun _ _ => rfl) _ _)
theorem ok_of {n : Nat} {M M' : Md} (h : M'.1 = M.1) (ho : okM n M) : okM n M' := by
  intro i hi
  rw [h]
  exact ho i hi
theorem ok_Rk {n : Nat} {M : Md} (ho : okM n M) : okM n (mRk M) := ok_of (mt_Rk M) ho
theorem mi_t1 (f i : Nat) (T : Md × Bool) : (mt1 f i T).1.2.2.2 = T.1.2.2.2 := by
  unfold mt1; split
  · split
    · split <;> rfl
    · rfl
  · rfl
theorem frA_I {σ : Type} (I : σ → Prop) {f : Nat → σ → σ} (h : ∀ i s, I s → I (f i s)) : ∀ (k a : Nat) (s : σ), I s → I (frA f a k s)
  | 0, _, _, hs => hs
  | k + 1, a, s, hs => frA_I I h k (a + 1) (f a s) (h a s hs)
theorem fr_I {σ : Type} (I : σ → Prop) {f : Nat → σ → σ} (h : ∀ i s, I s → I (f i s)) (n : Nat) (s : σ) (hs : I s) : I (fr f n s) := by
  induction n with
  | zero => exact hs
  | succ n ih => exact h n _ ih
theorem mi_tear (M : Md) (f : Nat) : (mTear M f).1.2.2.2 = M.2.2.2 := frA_I (fun T => T.1.2.2.2 = M.2.2.2) (fun i T h => (mi_t1 f i T).trans h) _ _ (M, false) rfl
theorem ok_put {n i k : Nat} {M : Md} {v : Int32} (ho : okM n M) (hv : k = 4 ∨ k = 5 → okH i v) : okM n (tA M k i v) := by
  intro j hj
  have key : ∀ k', k' = 4 ∨ k' = 5 → okH j ((tA M k i v).1 k' j) := by
    intro k' hk'
    show okH j ((if k' = k then upd (M.1 k) i v else M.1 k') j)
    by_cases h : k' = k
    · rw [if_pos h]
      show okH j (if j = i then v else M.1 k j)
      by_cases h2 : j = i
      · rw [if_pos h2, h2]; exact hv (h ▸ hk')
      · rw [if_neg h2, ← h]
        rcases hk' with rfl | rfl
        · exact (ho j hj).1
        · exact (ho j hj).2
    · rw [if_neg h]
      rcases hk' with rfl | rfl
      · exact (ho j hj).1
      · exact (ho j hj).2
  exact ⟨key 4 (Or.inl rfl), key 5 (Or.inr rfl)⟩
theorem okH_m1 (i : Nat) : okH i (-1) := Or.inl rfl
/-- a step that keeps the holds good at every place below n -/
theorem ok_t1 {n f i : Nat} {T : Md × Bool} (hi : i < n) (ho : okM n T.1) : okM n (mt1 f i T).1 := by
  unfold mt1; split
  · split
    · split
      · exact ok_put (ok_put ho (fun _ => (ho i hi).2)) (fun _ => okH_m1 i)
      · exact ok_put ho (fun _ => okH_m1 i)
    · exact ho
  · exact ho
theorem frA_In {σ : Type} (I : σ → Prop) {f : Nat → σ → σ} (n : Nat) (h : ∀ i s, i < n → I s → I (f i s)) : ∀ (k a : Nat) (s : σ), a + k ≤ n → I s → I (frA f a k s)
  | 0, _, _, _, hs => hs
  | k + 1, a, s, hk, hs => frA_In I n h k (a + 1) (f a s) (by omega) (h a s (by omega) hs)
theorem fr_In {σ : Type} (I : σ → Prop) {f : Nat → σ → σ} (n : Nat) (h : ∀ i s, i < n → I s → I (f i s)) : ∀ (k : Nat) (s : σ), k ≤ n → I s → I (fr f k s)
  | 0, _, _, hs => hs
  | k + 1, s, hk, hs => h k _ (by omega) (fr_In I n h k s (by omega) hs)
theorem mN_eq {M : Md} {n : Nat} (hn : M.2.2.2 1 = nI n) (h40 : n ≤ 40) : mN M = n := by unfold mN; rw [hn]; exact ix_nI (by omega)
theorem mR_eq {M : Md} {r : Nat} (hr : M.2.2.2 2 = nI r) (h30 : r ≤ 30) : mR M = r := by unfold mR; rw [hr]; exact ix_nI (by omega)
theorem ok_tear {M : Md} {n f : Nat} (hf : f < n) (hn : M.2.2.2 1 = nI n) (h40 : n ≤ 40) (ho : okM n M) : okM n (mTear M f).1 := by
  unfold mTear
  rw [mN_eq hn h40]
  exact frA_In (fun T => okM n T.1) n (fun i T hi h => ok_t1 hi h) (n - (f + 1)) (f + 1) (M, false) (by omega) ho
theorem mi_Fl (M : Md) (f : Nat) : (mFl M f).2.2.2 = M.2.2.2 := mi_tear _ _
theorem mi_fk (f k : Nat) (M : Md) : (mfk f k M).2.2.2 = M.2.2.2 := by unfold mfk; split; rfl; split <;> rfl
theorem mt_fk (f k : Nat) (M : Md) : (mfk f k M).1 = M.1 := by unfold mfk; split; rfl; split <;> rfl
theorem mi_Fall (M : Md) (f : Nat) : (mFall M f).2.2.2 = M.2.2.2 := (mI_fr (mi_fk f) _ _).trans (mi_Fl M f)
theorem ok_Fl {M : Md} {n f : Nat} (hf : f < n) (hn : M.2.2.2 1 = nI n) (h40 : n ≤ 40) (ho : okM n M) : okM n (mFl M f) := by
  unfold mFl
  exact ok_put (ok_put (ok_put (ok_tear (M := tA M 2 f 0) hf hn h40 (ok_put ho (fun h => by omega))) (fun h => by omega)) (fun _ => okH_m1 f)) (fun _ => okH_m1 f)
theorem ok_Fall {M : Md} {n f : Nat} (hf : f < n) (hn : M.2.2.2 1 = nI n) (h40 : n ≤ 40) (ho : okM n M) : okM n (mFall M f) := ok_of (mT_fr (mt_fk f) _ _) (ok_Fl hf hn h40 ho)
theorem mi_d1 (i : Nat) (M : Md) : (md1 i M).2.2.2 = M.2.2.2 := by
  unfold md1; split
  · split
    · split
      · exact mi_Fall _ _
      · rfl
    · rfl
  · rfl
theorem mi_Drop (M : Md) : (mDrop M).2.2.2 = M.2.2.2 := mI_fr mi_d1 _ _
theorem ok_d1 {M : Md} {n i : Nat} (hi : i < n) (hn : M.2.2.2 1 = nI n) (h40 : n ≤ 40) (ho : okM n M) : okM n (md1 i M) := by
  unfold md1; split
  · split
    · split
      · exact ok_Fall hi hn h40 ho
      · exact ho
    · exact ho
  · exact ho
theorem ok_Drop {M : Md} {n : Nat} (hn : M.2.2.2 1 = nI n) (h40 : n ≤ 40) (ho : okM n M) : okM n (mDrop M) := by
  unfold mDrop
  rw [mN_eq hn h40]
  exact (fr_In (fun T => T.2.2.2 1 = nI n ∧ okM n T) n (fun i T hi h => ⟨(congrFun (mi_d1 i T) 1).trans h.1, ok_d1 hi h.1 h40 h.2⟩) n M (Nat.le_refl n) ⟨hn, ho⟩).2
theorem mi_g0 (i : Nat) (T : Md × Bool) : (mg0 i T).1.2.2.2 = T.1.2.2.2 := by unfold mg0; split; rfl; exact mi_tear _ _
theorem mi_gE (i : Nat) (T : Md × Bool) : (mgE i T).1.2.2.2 = T.1.2.2.2 := by unfold mgE; split; rfl; split <;> rfl
theorem mi_g1 (i : Nat) (T : Md × Bool) : (mg1 i T).1.2.2.2 = T.1.2.2.2 := by unfold mg1; split; exact (mi_gE _ _).trans (mi_g0 _ _); rfl
theorem ok_g0 {T : Md × Bool} {n i : Nat} (hi : i < n) (hn : T.1.2.2.2 1 = nI n) (h40 : n ≤ 40) (ho : okM n T.1) : okM n (mg0 i T).1 := by unfold mg0; split; exact ho; exact ok_tear hi hn h40 ho
theorem ok_gE {T : Md × Bool} {n : Nat} (i : Nat) (ho : okM n T.1) : okM n (mgE i T).1 := by
  unfold mgE; split
  · exact ho
  · split
    · exact ok_put ho (fun h => by omega)
    · exact ho
theorem ok_g1 {T : Md × Bool} {n i : Nat} (hi : i < n) (hn : T.1.2.2.2 1 = nI n) (h40 : n ≤ 40) (ho : okM n T.1) : okM n (mg1 i T).1 := by
  unfold mg1; split
  · exact ok_gE i (ok_g0 hi hn h40 ho)
  · exact ho
theorem mi_Rd (M : Md) : (mRd M).1.2.2.2 = M.2.2.2 := (fr_I (fun T => T.1.2.2.2 = (mRk M).2.2.2) (fun i T h => (mi_g1 i T).trans h) _ (mRk M, false) rfl).trans (mi_Rk M)
theorem ok_Rd {M : Md} {n : Nat} (hn : M.2.2.2 1 = nI n) (h40 : n ≤ 40) (ho : okM n M) : okM n (mRd M).1 := by
  unfold mRd
  rw [mN_eq hn h40]
  exact (fr_In (fun T => T.1.2.2.2 1 = nI n ∧ okM n T.1) n (fun i T hi h => ⟨(congrFun (mi_g1 i T) 1).trans h.1, ok_g1 hi h.1 h40 h.2⟩) n (mRk M, false) (Nat.le_refl n) ⟨(congrFun (mi_Rk M) 1).trans hn, ok_Rk ho⟩).2
theorem mi_gw : ∀ (k : Nat) (M : Md), (mgw k M).2.2.2 = M.2.2.2
  | 0, _ => rfl
  | k + 1, M => by
    unfold mgw
    split
    · exact (mi_gw k _).trans ((mi_Drop _).trans (mi_Rd M))
    · exact (mi_Drop _).trans (mi_Rd M)
theorem ok_gw {n : Nat} (h40 : n ≤ 40) : ∀ (k : Nat) (M : Md), M.2.2.2 1 = nI n → okM n M → okM n (mgw k M)
  | 0, _, _, ho => ho
  | k + 1, M, hn, ho => by
    unfold mgw
    have h1 : (mRd M).1.2.2.2 1 = nI n := (congrFun (mi_Rd M) 1).trans hn
    have h2 := ok_Rd hn h40 ho
    split
    · exact ok_gw h40 k _ ((congrFun (mi_Drop _) 1).trans h1) (ok_Drop h1 h40 h2)
    · exact ok_Drop h1 h40 h2
theorem mi_Gv (M : Md) : (mGv M).2.2.2 = M.2.2.2 := (mi_Rk _).trans (mi_gw _ _)
theorem ok_Gv {M : Md} {n : Nat} (hn : M.2.2.2 1 = nI n) (h40 : n ≤ 40) (ho : okM n M) : okM n (mGv M) := ok_Rk (ok_gw h40 _ M hn ho)
theorem okH_j {i : Nat} {x : Int32} (h : okH i x) (hx : ¬ x = -1) : ∃ j : Nat, j < i ∧ x = nI j := h.elim (fun q => absurd q hx) id
theorem mHg_t : True := trivial
theorem Z_st {p : Program} {l : Launch} {e : Env} {R : Room} {s : State} {m : MethodId} {args : Array Value} {below : List Frame} {meth : Method} {c : Code} {nL : Nat} {G : gG} {A : Nat → Prop} {h : Nat → Nat} {Q : State → Prop} {k n : Nat} {ws : List va_E} {pc : Nat} {L : List (Nat × Value)} {st st' : List Value} (hL : st' = st) (kk : Z p l e R s m args below meth c nL G A h Q k n ws pc L st) : Z p l e R s m args below meth c nL G A h Q k n ws pc L st' := hL ▸ kk
