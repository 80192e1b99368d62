/-! the law's checks: without, lasts, foresee -/
/-- how many hang -/
def cH (M : Md) : Nat → Nat
  | 0 => 0
  | n + 1 => cH M n + if M.1 2 n = 0 then 0 else 1
theorem cH_le (M : Md) : ∀ n : Nat, cH M n ≤ n
  | 0 => Nat.le_refl 0
  | n + 1 => by
    have := cH_le M n
    show cH M n + _ ≤ n + 1
    split <;> omega
theorem cH_eq {M : Md} : ∀ n : Nat, (∀ i, i < n → M.1 2 i = 0 ∨ M.1 2 i = 1) → fr (mHa1 M) n 0 = nI (cH M n)
  | 0, _ => rfl
  | n + 1, h => by
    show mHa1 M n (fr (mHa1 M) n 0) = nI (cH M n + _)
    rw [cH_eq n (fun i hi => h i (by omega))]
    unfold mHa1
    rcases h n (by omega) with c | c
    · rw [if_pos c, c, Int32.add_zero, Nat.add_zero]
    · rw [if_neg (by rw [c]; decide), c, nI_1]
theorem cH_mono {M M' : Md} : ∀ n : Nat, Dn n M M' → cH M' n ≤ cH M n
  | 0, _ => Nat.le_refl 0
  | n + 1, h => by
    have := cH_mono n (fun i hi => h i (by omega))
    show cH M' n + _ ≤ cH M n + _
    by_cases c : M.1 2 n = 0
    · rw [if_pos c, if_pos (h n (by omega) c)]; exact this
    · rw [if_neg c]
      split <;> omega
theorem cH_lt {M M' : Md} {i : Nat} : ∀ n : Nat, i < n → Dn n M M' → ¬ M.1 2 i = 0 → M'.1 2 i = 0 → cH M' n < cH M n
  | 0, hi, _, _, _ => absurd hi (Nat.not_lt_zero _)
  | n + 1, hi, h, h1, h2 => by
    show cH M' n + _ < cH M n + _
    by_cases e : i = n
    · subst e
      have := cH_mono i (fun j hj => h j (by omega))
      rw [if_neg h1, if_pos h2]
      omega
    · have := cH_lt n (by omega) (fun j hj => h j (by omega)) h1 h2
      by_cases c : M.1 2 n = 0
      · rw [if_pos c, if_pos (h n (by omega) c)]; exact this
      · rw [if_neg c]
        split <;> omega
section LN
variable {n r : Nat} {B : Sr} {K : St} {M : Md}
theorem LI_h01 (h : LI n r B K M) : ∀ i, i < n → M.1 2 i = 0 ∨ M.1 2 i = 1 := fun i hi => (h.2.2.1 i hi).2.2.2.2.2.2.1
theorem LI_mHa (h : LI n r B K M) : mHa M = nI (cH M n) := by
  unfold mHa
  rw [mN_eq h.mn h.h40]
  exact cH_eq n (LI_h01 h)
theorem JI_x {i : Nat} (hi : i < n) (h : JI n M) : JI n (tA (tA (tA M 3 i 0) 4 i (-1)) 5 i (-1)) := fun j hj => by
  by_cases z : j = i
  · subst z
    obtain ⟨o4, o5, f4, d45, f2, f3, h2, h1⟩ := h j hj
    rw [show (tA (tA (tA M 3 j 0) 4 j (-1)) 5 j (-1)).1 4 j = -1 from by rw [tA_nk (by decide), tA_eq], show (tA (tA (tA M 3 j 0) 4 j (-1)) 5 j (-1)).1 5 j = -1 from tA_eq, show (tA (tA (tA M 3 j 0) 4 j (-1)) 5 j (-1)).1 3 j = 0 from by rw [tA_nk (by decide), tA_nk (by decide), tA_eq], show (tA (tA (tA M 3 j 0) 4 j (-1)) 5 j (-1)).1 2 j = M.1 2 j from by rw [tA_nk (by decide), tA_nk (by decide), tA_nk (by decide)], show (tA (tA (tA M 3 j 0) 4 j (-1)) 5 j (-1)).1 1 j = M.1 1 j from by rw [tA_nk (by decide), tA_nk (by decide), tA_nk (by decide)]]
    exact ⟨Or.inl rfl, Or.inl rfl, fun _ => rfl, fun q => absurd rfl q, fun _ => ⟨rfl, rfl⟩, fun _ => rfl, h2, h1⟩
  · exact JI_row hj h (fun q => by rw [tA_ne z, tA_ne z, tA_ne z])
/-- who has neither spell nor hold falls -/
theorem md1_4 {k i : Nat} {X : Md} (hk : k < 2 ^ 31) (h3 : X.1 3 i = 0) (h4 : X.1 4 i = -1) (h5 : X.1 5 i = -1) : (md1 k X).1 3 i = 0 ∧ (md1 k X).1 4 i = -1 ∧ (md1 k X).1 5 i = -1 := by
  have key : ∀ (f m a : Nat) (T : Md × Bool), f < 2 ^ 31 → T.1.1 3 i = 0 → T.1.1 4 i = -1 → T.1.1 5 i = -1 → (frA (mt1 f) a m T).1.1 3 i = 0 ∧ (frA (mt1 f) a m T).1.1 4 i = -1 ∧ (frA (mt1 f) a m T).1.1 5 i = -1 := fun f m => by
    induction m with
    | zero => exact fun a T _ h3 h4 h5 => ⟨h3, h4, h5⟩
    | succ m ih =>
      intro a T hf h3 h4 h5
      have e : (mt1 f a T).1.1 3 i = 0 ∧ (mt1 f a T).1.1 4 i = -1 ∧ (mt1 f a T).1.1 5 i = -1 := by
        unfold mt1
        split
        · split
          · split
            · by_cases z : i = a
              · subst z
                exact ⟨by rw [tA_nk (by decide), tA_nk (by decide)]; exact h3, by rw [tA_nk (by decide), tA_eq]; exact h5, tA_eq⟩
              · exact ⟨by rw [tA_ne z, tA_ne z]; exact h3, by rw [tA_ne z, tA_ne z]; exact h4, by rw [tA_ne z, tA_ne z]; exact h5⟩
            · by_cases z : i = a
              · subst z
                exact ⟨by rw [tA_nk (by decide)]; exact h3, by rw [tA_nk (by decide)]; exact h4, tA_eq⟩
              · exact ⟨by rw [tA_ne z]; exact h3, by rw [tA_ne z]; exact h4, by rw [tA_ne z]; exact h5⟩
          · exact ⟨h3, h4, h5⟩
        · exact ⟨h3, h4, h5⟩
      exact ih (a + 1) _ hf e.1 e.2.1 e.2.2
  unfold md1
  split
  · split
    · split
      · unfold mFall
        have eT : (fr (mfk k) (mR X) (mFl X k)).1 = (mFl X k).1 := mT_fr (mt_fk k) _ _
        rw [eT]
        obtain ⟨t3, t4, t5⟩ := key k (mN X - (k + 1)) (k + 1) (tA X 2 k 0, false) hk (by rw [tA_nk (by decide)]; exact h3) (by rw [tA_nk (by decide)]; exact h4) (by rw [tA_nk (by decide)]; exact h5)
        unfold mFl
        by_cases z : i = k
        · subst z
          exact ⟨by rw [tA_nk (by decide), tA_nk (by decide), tA_eq], by rw [tA_nk (by decide), tA_eq], tA_eq⟩
        · refine ⟨?_, ?_, ?_⟩
          · rw [tA_ne z, tA_ne z, tA_ne z]; exact t3
          · rw [tA_ne z, tA_ne z, tA_ne z]; exact t4
          · rw [tA_ne z, tA_ne z, tA_ne z]; exact t5
      · exact ⟨h3, h4, h5⟩
    · exact ⟨h3, h4, h5⟩
  · exact ⟨h3, h4, h5⟩
theorem md1_fall {k : Nat} {X : Md} (h3 : X.1 3 k = 0) (h4 : X.1 4 k = -1) (h01 : X.1 2 k = 0 ∨ X.1 2 k = 1) : (md1 k X).1 2 k = 0 := by
  rcases h01 with c | c
  · exact dn_md1 c
  · unfold md1
    rw [if_pos (show mHg X k = true from decide_eq_true c), if_pos h3, if_pos h4]
    unfold mFall
    rw [mT_fr (mt_fk k)]
    have e : (mFl X k).1 2 = (mTear (tA X 2 k 0) k).1.1 2 := by
      unfold mFl
      funext i
      rw [tA_nk (by decide), tA_nk (by decide), tA_nk (by decide)]
    rw [e]
    unfold mTear
    rw [frA_row k (by decide)]
    exact tA_eq
theorem drop_fall {i : Nat} {X : Md} (hn : X.2.2.2 1 = nI n) (h40 : n ≤ 40) (hi : i < n) (h3 : X.1 3 i = 0) (h4 : X.1 4 i = -1) (h5 : X.1 5 i = -1) (h01 : X.1 2 i = 0 ∨ X.1 2 i = 1) : (mDrop X).1 2 i = 0 := by
  unfold mDrop
  rw [mN_eq hn h40]
  have key : ∀ m, m ≤ n → ((fr md1 m X).1 3 i = 0 ∧ (fr md1 m X).1 4 i = -1 ∧ (fr md1 m X).1 5 i = -1) ∧ ((fr md1 m X).1 2 i = 0 ∨ (fr md1 m X).1 2 i = 1) ∧ (i < m → (fr md1 m X).1 2 i = 0) := fun m => by
    induction m with
    | zero => exact fun _ => ⟨⟨h3, h4, h5⟩, h01, fun z => absurd z (Nat.not_lt_zero _)⟩
    | succ m ih =>
      intro hm
      obtain ⟨⟨a, b, c⟩, d, e⟩ := ih (by omega)
      refine ⟨md1_4 (by omega) a b c, ?_, fun z => ?_⟩
      · show (md1 m _).1 2 i = 0 ∨ (md1 m _).1 2 i = 1
        rcases md1_2 m (fr md1 m X) with q | q
        · rw [q]; exact d
        · rw [q]
          by_cases y : i = m
          · subst y; exact Or.inl (if_pos rfl)
          · rw [show upd ((fr md1 m X).1 2) m 0 i = (fr md1 m X).1 2 i from if_neg y]; exact d
      · show (md1 m _).1 2 i = 0
        by_cases y : i = m
        · subst y; exact md1_fall a b d
        · exact dn_md1 (e (by omega))
  exact (key n (Nat.le_refl n)).2.2 hi
theorem go_wo (D : St) (h : LI n r B K M) {i : Nat} (hi : i < n) : (cWo K D (nI i)).1 = none ∧ (M.1 2 i = 0 → (cWo K D (nI i)).2.1 = 0) ∧ ∃ c : Nat, (cWo K D (nI i)).2.1 = nI c ∧ c ≤ cH M n ∧ (¬ M.1 2 i = 0 → 1 ≤ c) := by
  have h40 := h.h40
  have h30 := h.h30
  have hq := wo_q D h.1 (nI i)
  have e : mWo M (nI i) = (mBk (mWoX M i) (kpO M), mHa M - mHa (mWoX M i)) := by
    unfold mWo
    rw [mI_id h.2.2.2, mhas h hi, if_neg (by decide), ix_nI (by omega)]
  have eX : mWoX M i = mGv (mDrop (tA (tA (tA M 3 i 0) 4 i (-1)) 5 i (-1))) := by unfold mWoX; rw [mI_id h.2.2.2]
  have e0 : (cWo K D (nI i)).1 = none := by
    unfold cWo
    rw [has_nI h.kn h40 hi, if_neg (by decide)]
    split <;> rfl
  rw [e] at hq
  have e2 := (hq.2.1 e0).symm
  have hJ0 := JI_x hi h.2.2.1
  have hJ1 := JI_Drop h40 h30 (M := tA (tA (tA M 3 i 0) 4 i (-1)) 5 i (-1)) h.mn h.mr hJ0
  have hi1 : (mDrop (tA (tA (tA M 3 i 0) 4 i (-1)) 5 i (-1))).2.2.2 = M.2.2.2 := mi_Drop _
  have hJ2 := JI_Gv h40 h30 (by rw [hi1]; exact h.mn) (by rw [hi1]; exact h.mr) hJ1
  have hi2 : (mGv (mDrop (tA (tA (tA M 3 i 0) 4 i (-1)) 5 i (-1)))).2.2.2 = M.2.2.2 := (mi_Gv _).trans hi1
  have hD : Dn n M (mGv (mDrop (tA (tA (tA M 3 i 0) 4 i (-1)) 5 i (-1)))) := fun j hj q => dn_Gv (dn_Drop (by rw [tA_nk (by decide), tA_nk (by decide), tA_nk (by decide)]; exact q))
  have hf : (mGv (mDrop (tA (tA (tA M 3 i 0) 4 i (-1)) 5 i (-1)))).1 2 i = 0 := dn_Gv (drop_fall (n := n) h.mn h40 hi (by rw [tA_nk (by decide), tA_nk (by decide), tA_eq]) (by rw [tA_nk (by decide), tA_eq]) tA_eq (by rw [tA_nk (by decide), tA_nk (by decide), tA_nk (by decide)]; exact LI_h01 h i hi))
  have ev : (cWo K D (nI i)).2.1 = mHa M - mHa (mWoX M i) := e2
  rw [eX] at ev
  generalize mGv (mDrop (tA (tA (tA M 3 i 0) 4 i (-1)) 5 i (-1))) = Z at hJ2 hi2 hD hf ev
  have eZ : mHa Z = nI (cH Z n) := by
    unfold mHa
    rw [mN_eq (by rw [hi2]; exact h.mn) h40]
    exact cH_eq n (fun j hj => (hJ2 j hj).2.2.2.2.2.2.1)
  have hle := cH_mono n hD
  rw [LI_mHa h, eZ, sub_nI hle] at ev
  refine ⟨e0, fun q => ?_, cH M n - cH Z n, ev, by omega, fun q => ?_⟩
  · unfold cWo
    rw [has_nI h.kn h40 hi, if_neg (by decide), if_pos]
    unfold hangsB
    rw [has_nI h.kn h40 hi, ix_nI (by omega), ← LI_hg h hi, hg_n h hi q]
    rfl
  · have := cH_lt n hi hD q hf
    omega
theorem wo_LI (D : St) (h : LI n r B K M) {i : Nat} (hi : i < n) : True := trivial
/-- how long a stone lasts -/
def lsN (i : Nat) (M : Md) : Md × Nat := mLsG i 120 0 M
theorem lsG_sh (i : Nat) : ∀ (k d : Nat) (M : Md), mLsG i k (d + 1) M = ((mLsG i k d M).1, (mLsG i k d M).2 + 1)
  | 0, _, _ => rfl
  | k + 1, d, M => by
    unfold mLsG
    split
    · exact lsG_sh i k (d + 1) (mDy M)
    · rfl
theorem lsG_fuel (i : Nat) : ∀ (k d : Nat) (M : Md), mHg (mLsG i k d M).1 i = false → mLsG i (k + 1) d M = mLsG i k d M
  | 0, d, M, h => by
    have h' : mHg M i = false := h
    unfold mLsG
    rw [if_neg (by rw [h']; decide)]
  | k + 1, d, M, h => by
    rw [mLsG]
    rw [mLsG] at h
    split at h
    · next q =>
      rw [if_pos q, lsG_fuel i k (d + 1) (mDy M) h]
      conv => rhs; rw [mLsG, if_pos q]
    · next q =>
      rw [if_neg q]
      conv => rhs; rw [mLsG, if_neg q]
theorem lsG_ge (i : Nat) : ∀ (k d : Nat) (M : Md), d ≤ (mLsG i k d M).2 ∧ (mLsG i k d M).2 ≤ d + k
  | 0, d, _ => ⟨Nat.le_refl d, Nat.le_refl d⟩
  | k + 1, d, M => by
    rw [mLsG]
    split
    · have := lsG_ge i k (d + 1) (mDy M); omega
    · exact ⟨Nat.le_refl d, by omega⟩
def lsV (i : Nat) (M : Md) : Int32 := if mHg (mLsG i 120 0 M).1 i then -1 else nI (mLsG i 120 0 M).2
theorem go_ls (D : St) (h : LI n r B K M) {i : Nat} (hi : i < n) : (cLs K D (nI i)).1 = none ∧ (cLs K D (nI i)).2.1 = lsV i M := by
  have h40 := h.h40
  have hq := lasts_q D h.1 (nI i)
  have e2 : (mLs M (nI i)).2 = lsV i M := by
    unfold mLs mLsR lsV
    rw [mI_id h.2.2.2, mhas h hi, if_neg (by decide), ix_nI (by omega)]
  have e0 : (cLs K D (nI i)).1 = none := by
    unfold cLs
    rw [has_nI h.kn h40 hi, if_neg (by decide)]
  exact ⟨e0, (hq.2.1 e0).symm.trans e2⟩
theorem ls_fall {i : Nat} (h : mHg M i = false) : lsV i M = 0 := by
  have e : mLsG i 120 0 M = (M, 0) := by rw [mLsG, if_neg (by rw [h]; decide)]
  unfold lsV
  rw [e, if_neg (by rw [h]; decide)]
  rfl
def lsK (i k : Nat) (M : Md) : Int32 := if mHg (mLsG i k 0 M).1 i then -1 else nI (mLsG i k 0 M).2
theorem lsK_day {i k : Nat} (hk : k < 2000) : (1 < lsK i (k + 1) M → lsK i (k + 1) (mDy M) = lsK i (k + 1) M - 1) ∧ (lsK i (k + 1) M = 1 → mHg (mDy M) i = false) := by
  generalize hY : mDy M = Y
  by_cases c : mHg M i = true
  · have e : mLsG i (k + 1) 0 M = ((mLsG i k 0 Y).1, (mLsG i k 0 Y).2 + 1) := by
      rw [mLsG, if_pos c, hY]
      exact lsG_sh i k 0 Y
    have g := lsG_ge i k 0 Y
    by_cases f : mHg (mLsG i k 0 Y).1 i = true
    · have e1 : lsK i (k + 1) M = -1 := by unfold lsK; rw [e]; exact if_pos f
      rw [e1]
      exact ⟨fun q => absurd q (by decide), fun q => absurd q (by decide)⟩
    · have f' : mHg (mLsG i k 0 Y).1 i = false := by
        cases z : mHg (mLsG i k 0 Y).1 i with
        | false => rfl
        | true => exact absurd z f
      have e1 : lsK i (k + 1) M = nI ((mLsG i k 0 Y).2 + 1) := by unfold lsK; rw [e]; exact if_neg f
      have e2 : lsK i (k + 1) Y = nI (mLsG i k 0 Y).2 := by
        unfold lsK
        rw [lsG_fuel i k 0 Y f', if_neg f]
      refine ⟨fun _ => ?_, fun q => ?_⟩
      · rw [e1, e2, ← nI_1, Int32.add_sub_cancel]
      · rw [e1] at q
        have q2 := (nI_eq (b := 1) (by omega) (by omega)).mp q
        cases z : mHg Y i with
        | false => rfl
        | true =>
          exfalso
          cases k with
          | zero =>
            have : mHg Y i = false := f'
            rw [this] at z
            cases z
          | succ k =>
            have e3 : mLsG i (k + 1) 0 Y = mLsG i k 1 (mDy Y) := by
              conv => lhs; rw [mLsG, if_pos z]
            have := lsG_ge i k 1 (mDy Y)
            rw [← e3] at this
            omega
  · have c' : mHg M i = false := by
      cases z : mHg M i with
      | false => rfl
      | true => exact absurd z c
    have e0 : lsK i (k + 1) M = 0 := by
      have e : mLsG i (k + 1) 0 M = (M, 0) := by rw [mLsG, if_neg (by rw [c']; decide)]
      unfold lsK
      rw [e, if_neg (by rw [c']; decide)]
      rfl
    rw [e0]
    exact ⟨fun q => absurd q (by decide), fun q => absurd q (by decide)⟩
theorem ls_day {i : Nat} : (1 < lsV i M → lsV i (mDy M) = lsV i M - 1) ∧ (lsV i M = 1 → mHg (mDy M) i = false) := lsK_day (k := 119) (by decide)
/-- counts that the loads don't enter -/
theorem ct_rk (X : Md) {w : Nat} (hw : w = 2 ∨ w = 4 ∨ w = 5) : mCt (mRk X) w = mCt X w := by
  have e1 := mt_Rk X
  have e2 := mi_Rk X
  have e3 := (Hm_Rk X).1
  rcases hw with rfl | rfl | rfl
  · show fr (mc1 (mRk X) 2) (mN (mRk X)) 0 = fr (mc1 X 2) (mN X) 0
    rw [show mN (mRk X) = mN X by unfold mN; rw [e2]]
    refine fr_eq _ 0 fun i s hi => ?_
    simp [mc1, mRk_hg, e1]
  · show fr (mk4 (mRk X)) (mR (mRk X)) 0 = fr (mk4 X) (mR X) 0
    rw [show mR (mRk X) = mR X by unfold mR; rw [e2]]
    refine fr_eq _ 0 fun i s hi => ?_
    unfold mk4
    rw [e3]
  · show fr (mc1 (mRk X) 5) (mN (mRk X)) 0 = fr (mc1 X 5) (mN X) 0
    rw [show mN (mRk X) = mN X by unfold mN; rw [e2]]
    refine fr_eq _ 0 fun i s hi => ?_
    simp [mc1, mRk_hg, e1]
theorem go_fo (D : St) (h : LI n r B K M) {w : Nat} (hw : w < 3) : (cFo K D B (nI 1) (nI w)).1 = none ∧ (cFo K D B (nI 1) (nI w)).2.1 = mCt (mRk (mDy M)) (mFoW w) := by
  have hq := foresee_q D h.1 (nI 1) (nI w)
  have e : (mFo M (nI 1) (nI w)).2 = mCt (mDy M) (mFoW w) ∧ (mFo M (nI 1) (nI w)).1.2.2.2 0 = 0 := by
    unfold mFo
    rw [mI_id h.2.2.2, show isInB (nI 1) 1 120 = true from in_nI (lo := 1) (hi := 120) (by omega) (by omega) (by decide), show isInB (nI w) 0 2 = true from in_nI (lo := 0) (hi := 2) (by omega) (by omega) (by decide), if_neg (by decide), if_neg (by decide), ix_nI (by omega), ix_nI (by omega), dys_1]
    have hz : (mDy M).2.2.2 0 = 0 := by rw [mi_Dy]; exact h.2.2.2
    generalize mDy M = Y at hz ⊢
    exact ⟨rfl, hz⟩
  have e0 : (cFo K D B (nI 1) (nI w)).1 = none := kc_none (hq.1.symm.trans e.2)
  have e5 := hq.2.1 e0
  clear hq
  rw [e.1] at e5
  clear e
  refine ⟨e0, e5.symm.trans ?_⟩
  generalize mDy M = Y
  refine (ct_rk Y ?_).symm
  rcases (show w = 0 ∨ w = 1 ∨ w = 2 by omega) with rfl | rfl | rfl
  · exact Or.inl rfl
  · exact Or.inr (Or.inl rfl)
  · exact Or.inr (Or.inr rfl)
end LN
