/-! falling, the law's way and the reference's -/
theorem JI_row {n i : Nat} {M M' : Md} (hi : i < n) (h : JI n M) (e : ∀ k, M'.1 k i = M.1 k i) : okH i (M'.1 4 i) ∧ okH i (M'.1 5 i) ∧ (M'.1 4 i = -1 → M'.1 5 i = -1) ∧ (¬ M'.1 4 i = -1 → ¬ M'.1 4 i = M'.1 5 i) ∧ (M'.1 2 i = 0 → M'.1 4 i = -1 ∧ M'.1 3 i = 0) ∧ (M'.1 3 i ≤ 0 → M'.1 3 i = 0) ∧ (M'.1 2 i = 0 ∨ M'.1 2 i = 1) ∧ 0 ≤ M'.1 1 i := by
  rw [e 1, e 2, e 3, e 4, e 5]
  exact h i hi
theorem JI_of {n : Nat} {M M' : Md} (e : M'.1 = M.1) (h : JI n M) : JI n M' := fun i hi => JI_row hi h (fun k => by rw [e])
theorem WB_of {n : Nat} {M M' : Md} (e0 : M'.1 0 = M.1 0) (e6 : M'.1 6 = M.1 6) (h : WB n M) : WB n M' := fun i hi => by rw [e0, e6]; exact h i hi
theorem JI_jL {n k o : Nat} {M : Md} (ho : o < n) (hk : k < 2 ^ 31) (h : JI n M) : JI n (jL k o M) := fun i hi => by
  by_cases hio : i = o
  · subst hio
    obtain ⟨o4, o5, f4, d45, f2, f3, h2, h1⟩ := h i hi
    have hm := m1_ne hk
    unfold jL
    by_cases c4 : M.1 4 i = nI k
    · rw [if_pos c4]
      have e4 : (tA (tA M 4 i (M.1 5 i)) 5 i (-1)).1 4 i = M.1 5 i := by rw [tA_nk (by decide), tA_eq]
      have e5 : (tA (tA M 4 i (M.1 5 i)) 5 i (-1)).1 5 i = -1 := tA_eq
      rw [e4, e5, show (tA (tA M 4 i (M.1 5 i)) 5 i (-1)).1 2 i = M.1 2 i by rw [tA_nk (by decide), tA_nk (by decide)], show (tA (tA M 4 i (M.1 5 i)) 5 i (-1)).1 3 i = M.1 3 i by rw [tA_nk (by decide), tA_nk (by decide)], show (tA (tA M 4 i (M.1 5 i)) 5 i (-1)).1 1 i = M.1 1 i by rw [tA_nk (by decide), tA_nk (by decide)]]
      exact ⟨o5, Or.inl rfl, fun _ => rfl, fun q => q, fun q => ⟨f4 (f2 q).1, (f2 q).2⟩, f3, h2, h1⟩
    · rw [if_neg c4]
      by_cases c5 : M.1 5 i = nI k
      · rw [if_pos c5]
        have e4 : (tA M 5 i (-1)).1 4 i = M.1 4 i := tA_nk (by decide)
        have e5 : (tA M 5 i (-1)).1 5 i = -1 := tA_eq
        rw [e4, e5, show (tA M 5 i (-1)).1 2 i = M.1 2 i from tA_nk (by decide), show (tA M 5 i (-1)).1 3 i = M.1 3 i from tA_nk (by decide), show (tA M 5 i (-1)).1 1 i = M.1 1 i from tA_nk (by decide)]
        exact ⟨o4, Or.inl rfl, fun _ => rfl, fun q => q, f2, f3, h2, h1⟩
      · rw [if_neg c5]
        exact ⟨o4, o5, f4, d45, f2, f3, h2, h1⟩
  · exact JI_row hi h (fun q => jL_at hio)
theorem mu_jL {n k o : Nat} {M : Md} (ho : o < n) (hk : k < 2 ^ 31) : mu n (jL k o M) + jC k o M ≤ mu n M := by
  have hm := m1_ne hk
  unfold jL jC
  by_cases c4 : M.1 4 o = nI k
  · rw [if_pos c4, if_pos (show heldB M o (nI k) = true by simp [heldB, c4])]
    have : mu n (tA (tA M 4 o (M.1 5 o)) 5 o (-1)) < mu n M := by
      refine mu_at ho (fun i j hj => by rw [tA_ne hj, tA_ne hj]) ?_
      unfold muAt
      rw [tA_nk (by decide), tA_nk (by decide), tA_nk (by decide), tA_eq, tA_eq, c4, b1_n (nI_m1 hk), b1_s]
      omega
    omega
  · rw [if_neg c4]
    by_cases c5 : M.1 5 o = nI k
    · rw [if_pos c5, if_pos (show heldB M o (nI k) = true by simp [heldB, c5])]
      have : mu n (tA M 5 o (-1)) < mu n M := by
        refine mu_at ho (fun i j hj => by rw [tA_ne hj]) ?_
        unfold muAt
        rw [tA_nk (by decide), tA_nk (by decide), tA_eq, c5, b1_n (nI_m1 hk), b1_s]
        omega
      omega
    · rw [if_neg c5, if_neg (show ¬ heldB M o (nI k) = true by simp [heldB, c4, c5])]
      omega
theorem mu_jL1 {n k o : Nat} {M : Md} (ho : o < n) (hk : k < 2 ^ 31) : mu n (jL k o M) ≤ mu n M := by
  have := mu_jL (M := M) ho hk
  omega
theorem mu_jLs {n k : Nat} (hk : k < 2 ^ 31) (M : Md) : ∀ (d i : Nat), i + d ≤ n → mu n (fr (jL k) (i + d) M) ≤ mu n (fr (jL k) i M)
  | 0, _, _ => Nat.le_refl _
  | d + 1, i, h => Nat.le_trans (mu_jL1 (M := fr (jL k) (i + d) M) (show i + d < n by omega) hk) (mu_jLs hk M d i (by omega))
theorem jLs_at {k : Nat} (M : Md) : ∀ m : Nat, (fr (jL k) m M).2 = M.2 ∧ ∀ i a, i ≠ 4 ∧ i ≠ 5 → (fr (jL k) m M).1 i a = M.1 i a
  | 0 => ⟨rfl, fun _ _ _ => rfl⟩
  | m + 1 => by
    obtain ⟨a, b⟩ := jLs_at (k := k) M m
    exact ⟨(jL_2 k m _).trans a, fun i j h => (jL_row h).trans (b i j h)⟩
theorem JI_jLs {n k : Nat} (hk : k < 2 ^ 31) {M : Md} (h : JI n M) : ∀ m : Nat, m ≤ n → JI n (fr (jL k) m M)
  | 0, _ => h
  | m + 1, hm => JI_jL (by omega) hk (JI_jLs hk h m (by omega))
/-- holds from k torn, wherever -/
theorem jL_mt {n f i : Nat} {T : Md × Bool} (hi : i < n) (hf : f < 2 ^ 31) (h : JI n T.1) : jL f i T.1 = (mt1 f i T).1 := by
  obtain ⟨o4, o5, f4, d45, f2, f3, h2, h1⟩ := h i hi
  have hm := m1_ne hf
  unfold mt1
  by_cases c : mHg T.1 i = true
  · rw [if_pos c]
    unfold jL heldB
    by_cases c4 : T.1.1 4 i = nI f
    · rw [if_pos c4, if_pos (by simp [c4]), if_pos c4]
    · rw [if_neg c4]
      by_cases c5 : T.1.1 5 i = nI f
      · rw [if_pos c5, if_pos (by simp [c5]), if_neg c4]
      · rw [if_neg c5, if_neg (by simp [c4, c5])]
  · rw [if_neg c]
    have z : T.1.1 2 i = 0 := Classical.byContradiction (fun q => c ((JI_hg h hi).mpr q))
    obtain ⟨e4, -⟩ := f2 z
    refine jL_no ?_
    simp [heldB, e4, f4 e4, hm]
theorem jL_lo {n f i : Nat} {M : Md} (h40 : n ≤ 40) (hi : i < n) (hf : f < n) (hif : i ≤ f) (h : JI n M) : jL f i M = M := by
  obtain ⟨o4, o5, -⟩ := h i hi
  have key : ∀ x, okH i x → ¬ x = nI f := fun x hx e => by
    rcases hx with rfl | ⟨j, hj, rfl⟩
    · exact nI_m1 (by omega) e.symm
    · have := (nI_eq (by omega) (by omega)).mp e
      omega
  refine jL_no ?_
  simp [heldB, key _ o4, key _ o5]
theorem tear_eq {n f : Nat} {M : Md} (h40 : n ≤ 40) (hf : f < n) (hn : M.2.2.2 1 = nI n) (h : JI n M) : fr (jL f) n M = (mTear M f).1 := by
  have e := fr_frA (jL f) (n - (f + 1)) (f + 1) M
  rw [show f + 1 + (n - (f + 1)) = n by omega, fr_id (f + 1) (fun i hi => jL_lo h40 (by omega) hf (by omega) h)] at e
  unfold mTear
  rw [mN_eq hn h40, e]
  exact (frA_rel (fun s (t : Md × Bool) => s = t.1 ∧ JI n s) n (n - (f + 1)) (f + 1) M (M, false) (by omega) (fun i s t _ hi q => by
    obtain ⟨q1, q2⟩ := q
    subst q1
    exact ⟨jL_mt hi (by omega) q2, JI_jL hi (by omega) q2⟩) ⟨rfl, h⟩).1
theorem JI_2 {n k : Nat} {M : Md} (hk : k < n) (h4 : M.1 4 k = -1) (h3 : M.1 3 k = 0) (h : JI n M) : JI n (tA M 2 k 0) := fun i hi => by
  by_cases z : i = k
  · subst z
    obtain ⟨o4, o5, f4, d45, f2, f3, h2, h1⟩ := h i hi
    rw [show (tA M 2 i 0).1 4 i = M.1 4 i from tA_nk (by decide), show (tA M 2 i 0).1 5 i = M.1 5 i from tA_nk (by decide), show (tA M 2 i 0).1 3 i = M.1 3 i from tA_nk (by decide), show (tA M 2 i 0).1 1 i = M.1 1 i from tA_nk (by decide), show (tA M 2 i 0).1 2 i = 0 from tA_eq]
    exact ⟨o4, o5, f4, d45, fun _ => ⟨h4, h3⟩, f3, Or.inl rfl, h1⟩
  · exact JI_row hi h (fun q => tA_ne z)
/-- one stone falls: the stairs that it had are gone -/
def jF (r k : Nat) (X : Md) : Md := fr (mfk k) r X
theorem jF_at (r k : Nat) (X : Md) : (jF r k X).1 = X.1 ∧ (jF r k X).2.2 = X.2.2 := ⟨mT_fr (mt_fk k) r X, by
  unfold jF
  exact (FK k X r).2.1⟩
theorem fall_eq {n r k : Nat} {X : Md} (h40 : n ≤ 40) (h30 : r ≤ 30) (hk : k < n) (hn : X.2.2.2 1 = nI n) (hr : X.2.2.2 2 = nI r) (h : JI n X) (h4 : X.1 4 k = -1) (h3 : X.1 3 k = 0) : mFall X k = jF r k (fr (jL k) n (tA X 2 k 0)) := by
  have hJ := JI_2 hk h4 h3 h
  have e := tear_eq (M := tA X 2 k 0) h40 hk hn hJ
  have hl := jL_lo (M := fr (jL k) k (tA X 2 k 0)) h40 hk hk (Nat.le_refl k) (JI_jLs (by omega) hJ k (by omega))
  have h4' : (tA X 2 k 0).1 4 k = -1 := by rw [tA_nk (by decide)]; exact h4
  have key : ∀ m, (fr (jL k) m (tA X 2 k 0)).1 4 k = -1 ∧ (fr (jL k) m (tA X 2 k 0)).1 5 k = -1 := fun m => by
    induction m with
    | zero => exact ⟨h4', by show (tA X 2 k 0).1 5 k = -1; rw [tA_nk (by decide)]; exact (h k hk).2.2.1 h4⟩
    | succ m ih =>
      by_cases z : k = m
      · subst z
        show (jL k k (fr (jL k) k (tA X 2 k 0))).1 4 k = -1 ∧ (jL k k (fr (jL k) k (tA X 2 k 0))).1 5 k = -1
        rw [hl]
        exact ih
      · show (jL k m (fr (jL k) m (tA X 2 k 0))).1 4 k = -1 ∧ (jL k m (fr (jL k) m (tA X 2 k 0))).1 5 k = -1
        rw [jL_at z, jL_at z]
        exact ih
  have h3' : (fr (jL k) n (tA X 2 k 0)).1 3 k = 0 := by
    rw [(jLs_at (k := k) (tA X 2 k 0) n).2 3 k (by decide), tA_nk (by decide)]
    exact h3
  unfold mFall mFl jF
  rw [← e, tA_same h3', tA_same (key n).1, tA_same (key n).2, mR_eq hr h30]
theorem JI_md1 {n r k : Nat} {X : Md} (h40 : n ≤ 40) (h30 : r ≤ 30) (hk : k < n) (hn : X.2.2.2 1 = nI n) (hr : X.2.2.2 2 = nI r) (h : JI n X) : JI n (md1 k X) := by
  unfold md1
  split
  · split
    · next c3 =>
      split
      · next c4 =>
        rw [fall_eq h40 h30 hk hn hr h c4 c3]
        exact JI_of (jF_at r k _).1 (JI_jLs (by omega) (JI_2 hk c4 c3 h) n (Nat.le_refl n))
      · exact h
    · exact h
  · exact h
theorem JI_mds {n r : Nat} {M : Md} (h40 : n ≤ 40) (h30 : r ≤ 30) (hn : M.2.2.2 1 = nI n) (hr : M.2.2.2 2 = nI r) (h : JI n M) : ∀ m : Nat, m ≤ n → JI n (fr md1 m M) ∧ (fr md1 m M).2.2.2 = M.2.2.2
  | 0, _ => ⟨h, rfl⟩
  | m + 1, hm => by
    obtain ⟨a, b⟩ := JI_mds h40 h30 hn hr h m (by omega)
    exact ⟨JI_md1 h40 h30 (by omega) (by rw [b]; exact hn) (by rw [b]; exact hr) a, (mi_d1 m _).trans b⟩
theorem JI_Drop {n r : Nat} {M : Md} (h40 : n ≤ 40) (h30 : r ≤ 30) (hn : M.2.2.2 1 = nI n) (hr : M.2.2.2 2 = nI r) (h : JI n M) : JI n (mDrop M) := by
  unfold mDrop
  rw [mN_eq hn h40]
  exact (JI_mds h40 h30 hn hr h n (Nat.le_refl n)).1
theorem mu_mds {n : Nat} {M : Md} (h40 : n ≤ 40) (hn : M.2.2.2 1 = nI n) : ∀ (d i : Nat), i + d ≤ n → mu n (fr md1 (i + d) M) ≤ mu n (fr md1 i M)
  | 0, _, _ => Nat.le_refl _
  | d + 1, i, h => by
    have e : (fr md1 (i + d) M).2.2.2 1 = nI n := by
      have : ∀ m, (fr md1 m M).2.2.2 = M.2.2.2 := fun m => mI_fr mi_d1 m M
      rw [this]; exact hn
    exact Nat.le_trans (mu_d1 (M := fr md1 (i + d) M) (show i + d < n by omega) e h40) (mu_mds h40 hn d i (by omega))
theorem mu_fin {n i : Nat} {M : Md} (h40 : n ≤ 40) (hn : M.2.2.2 1 = nI n) (hi : i ≤ n) : mu n (mDrop M) ≤ mu n (fr md1 i M) ∧ mu n (fr md1 i M) ≤ mu n M := by
  have h1 := mu_mds (M := M) h40 hn (n - i) i (by omega)
  have h2 := mu_mds (M := M) h40 hn i 0 (by omega)
  rw [show i + (n - i) = n by omega] at h1
  rw [Nat.zero_add] at h2
  unfold mDrop
  rw [mN_eq hn h40]
  exact ⟨h1, h2⟩
