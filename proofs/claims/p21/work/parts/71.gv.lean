/-! giving way: the law's rounds are the reference's -/
def tkF (X : Md) (k : Nat) : Bool := !decide ((mRk X).2.2.1 2 k ≤ X.1 1 k)
def ekF (X : Md) (k : Nat) : Bool := !decide (X.1 3 k ≤ 0) && !decide ((mRk X).2.2.1 1 k ≤ X.1 3 k)
def ub (f : Nat → Bool) (k : Nat) (b : Bool) : Nat → Bool := fun i => if i = k then b else f i
abbrev FS : Type := (Nat → Bool) × (Nat → Bool) × Bool
def gF (X : Md) (k : Nat) (S : FS) : FS := if X.1 2 k = 0 then S else (ub S.1 k (tkF X k), ub S.2.1 k (ekF X k), (S.2.2 || tkF X k) || ekF X k)
def F0s : FS := (fun _ => false, fun _ => false, false)
theorem gF_at (X : Md) : ∀ m : Nat, (∀ k, (fr (gF X) m F0s).1 k = (if k < m ∧ ¬ X.1 2 k = 0 then tkF X k else false) ∧ (fr (gF X) m F0s).2.1 k = if k < m ∧ ¬ X.1 2 k = 0 then ekF X k else false) ∧ ((fr (gF X) m F0s).2.2 = true ↔ ∃ k, k < m ∧ ¬ X.1 2 k = 0 ∧ (tkF X k = true ∨ ekF X k = true))
  | 0 => ⟨fun k => ⟨by rw [if_neg (fun z => Nat.not_lt_zero k z.1)]; rfl, by rw [if_neg (fun z => Nat.not_lt_zero k z.1)]; rfl⟩, ⟨fun z => (by cases z), fun ⟨k, hk, _⟩ => absurd hk (Nat.not_lt_zero k)⟩⟩
  | m + 1 => by
    obtain ⟨a, b⟩ := gF_at X m
    have e : fr (gF X) (m + 1) F0s = gF X m (fr (gF X) m F0s) := rfl
    rw [e]
    clear e
    generalize fr (gF X) m F0s = S at a b ⊢
    unfold gF
    by_cases c : X.1 2 m = 0
    · rw [if_pos c]
      refine ⟨fun k => ?_, ?_⟩
      · obtain ⟨a1, a2⟩ := a k
        have hk : (k < m + 1 ∧ ¬ X.1 2 k = 0) ↔ (k < m ∧ ¬ X.1 2 k = 0) := by
          refine ⟨fun z => ⟨?_, z.2⟩, fun z => ⟨by omega, z.2⟩⟩
          rcases Nat.lt_or_ge k m with y | y
          · exact y
          · exact absurd (by rw [show k = m by omega]; exact c) z.2
        rw [a1, a2]
        exact ⟨by simp only [hk], by simp only [hk]⟩
      · rw [b]
        refine ⟨fun ⟨k, h1, h2⟩ => ⟨k, by omega, h2⟩, fun ⟨k, h1, h2⟩ => ⟨k, ?_, h2⟩⟩
        rcases Nat.lt_or_ge k m with y | y
        · exact y
        · exact absurd (by rw [show k = m by omega]; exact c) h2.1
    · rw [if_neg c]
      refine ⟨fun k => ?_, ?_⟩
      · obtain ⟨a1, a2⟩ := a k
        show (if k = m then tkF X m else _) = _ ∧ (if k = m then ekF X m else _) = _
        by_cases z : k = m
        · subst z
          rw [if_pos rfl, if_pos rfl, if_pos ⟨Nat.lt_succ_self k, c⟩, if_pos ⟨Nat.lt_succ_self k, c⟩]
          exact ⟨rfl, rfl⟩
        · rw [if_neg z, if_neg z, a1, a2]
          have hk : (k < m + 1 ∧ ¬ X.1 2 k = 0) ↔ (k < m ∧ ¬ X.1 2 k = 0) := ⟨fun y => ⟨by omega, y.2⟩, fun y => ⟨by omega, y.2⟩⟩
          exact ⟨by simp only [hk], by simp only [hk]⟩
      · show ((_ || _) || _) = true ↔ _
        rw [Bool.or_eq_true, Bool.or_eq_true, b]
        refine ⟨fun h => ?_, fun ⟨k, h1, h2, h3⟩ => ?_⟩
        · rcases h with (⟨k, h1, h2⟩ | h) | h
          · exact ⟨k, by omega, h2⟩
          · exact ⟨m, Nat.lt_succ_self m, c, Or.inl h⟩
          · exact ⟨m, Nat.lt_succ_self m, c, Or.inr h⟩
        · by_cases z : k = m
          · subst z
            rcases h3 with h3 | h3
            · exact Or.inl (Or.inr h3)
            · exact Or.inr h3
          · exact Or.inl (Or.inl ⟨k, by omega, h2, h3⟩)
/-- the law's body for stone k -/
def jT (b : Bool) (k o : Nat) (Z : Md) : Md := if b = true then jL k o Z else Z
def jB (n : Nat) (t e : Bool) (k : Nat) (Z : Md) : Md := if e = true then tA (fr (jT t k) n Z) 3 k 0 else fr (jT t k) n Z
theorem jT_fr (t : Bool) (k : Nat) (Z : Md) : ∀ m : Nat, fr (jT t k) m Z = if t = true then fr (jL k) m Z else Z
  | 0 => by split <;> rfl
  | m + 1 => by
    show jT t k m (fr (jT t k) m Z) = _
    rw [jT_fr t k Z m]
    unfold jT
    split <;> rfl
theorem JI_3 {n k : Nat} {M : Md} (hk : k < n) (h : JI n M) : JI n (tA M 3 k 0) := fun i hi => by
  by_cases z : i = k
  · subst z
    obtain ⟨o4, o5, f4, d45, f2, f3, h2, h1⟩ := h i hi
    rw [show (tA M 3 i 0).1 4 i = M.1 4 i from tA_nk (by decide), show (tA M 3 i 0).1 5 i = M.1 5 i from tA_nk (by decide), show (tA M 3 i 0).1 2 i = M.1 2 i from tA_nk (by decide), show (tA M 3 i 0).1 1 i = M.1 1 i from tA_nk (by decide), show (tA M 3 i 0).1 3 i = 0 from tA_eq]
    exact ⟨o4, o5, f4, d45, fun q => ⟨(f2 q).1, rfl⟩, fun _ => rfl, h2, h1⟩
  · exact JI_row hi h (fun q => tA_ne z)
/-- where a round stands before stone k -/
def RS (n k : Nat) (X : Md) (Z : Md × Bool) : Prop := JI n Z.1 ∧ Z.1.2 = (mRk X).2 ∧ (∀ i a, i ≠ 3 ∧ i ≠ 4 ∧ i ≠ 5 → Z.1.1 i a = X.1 i a) ∧ ∀ a, k ≤ a → Z.1.1 3 a = X.1 3 a
theorem RS_0 {n : Nat} {X : Md} (h : JI n X) : RS n 0 X (mRk X, false) := ⟨JI_of (mt_Rk X) h, rfl, fun i a _ => by rw [mt_Rk], fun a _ => by rw [mt_Rk]⟩
theorem mg1_eq {n k : Nat} {X : Md} {Z : Md × Bool} (h40 : n ≤ 40) (hn : X.2.2.2 1 = nI n) (hk : k < n) (h : RS n k X Z) : (mg1 k Z).1 = jB n (if X.1 2 k = 0 then false else tkF X k) (if X.1 2 k = 0 then false else ekF X k) k Z.1 := by
  obtain ⟨hJ, h2, hr, h3⟩ := h
  have hnZ : Z.1.2.2.2 1 = nI n := by rw [h2, mi_Rk]; exact hn
  have e2 : Z.1.1 2 k = X.1 2 k := hr 2 k (by decide)
  unfold mg1 jB
  rw [jT_fr]
  by_cases c : X.1 2 k = 0
  · rw [if_neg (fun z => (JI_hg hJ hk).mp z (by rw [e2]; exact c)), if_pos c, if_pos c, if_neg (by decide), if_neg (by decide)]
  · rw [if_pos ((JI_hg hJ hk).mpr (by rw [e2]; exact c)), if_neg c, if_neg c]
    have hp : Z.1.2.2.1 2 k = (mRk X).2.2.1 2 k := by rw [h2]
    have hl : Z.1.2.2.1 1 k = (mRk X).2.2.1 1 k := by rw [h2]
    have e1 : Z.1.1 1 k = X.1 1 k := hr 1 k (by decide)
    have e3 : Z.1.1 3 k = X.1 3 k := h3 k (Nat.le_refl k)
    have hT : (mg0 k Z).1 = if tkF X k = true then fr (jL k) n Z.1 else Z.1 := by
      unfold mg0 tkF
      rw [hp, e1]
      by_cases y : (mRk X).2.2.1 2 k ≤ X.1 1 k
      · rw [if_pos y, if_neg (by simp [y])]
      · rw [if_neg y, if_pos (by simp [y]), tear_eq h40 hk hnZ hJ]
    have hT3 : (mg0 k Z).1.1 3 k = X.1 3 k := by
      rw [hT]
      split
      · rw [(jLs_at (k := k) Z.1 n).2 3 k (by decide)]; exact e3
      · exact e3
    have hTl : (mg0 k Z).1.2.2.1 1 k = (mRk X).2.2.1 1 k := by
      rw [hT]
      split
      · rw [(jLs_at (k := k) Z.1 n).1]; exact hl
      · exact hl
    unfold mgE
    rw [hT3, hTl]
    have hz := (hJ k hk).2.2.2.2.2.1
    rw [e3] at hz
    by_cases y : X.1 3 k = 0
    · rw [if_pos y, if_neg (by unfold ekF; rw [y]; simp), hT]
    · rw [if_neg y]
      have y2 : ¬ X.1 3 k ≤ 0 := fun q => y (hz q)
      by_cases x : X.1 3 k < (mRk X).2.2.1 1 k
      · rw [if_pos x, if_pos (by unfold ekF; simp [y2, Int32.not_le.mpr x])]
        show tA (mg0 k Z).1 3 k 0 = _
        rw [hT]
      · rw [if_neg x, if_neg (by unfold ekF; simp [Int32.not_lt.mp x]), hT]
theorem RS_s {n k : Nat} {X : Md} {Z : Md × Bool} (h40 : n ≤ 40) (hn : X.2.2.2 1 = nI n) (hk : k < n) (h : RS n k X Z) : RS n (k + 1) X (mg1 k Z) := by
  have e := mg1_eq h40 hn hk h
  obtain ⟨hJ, h2, hr, h3⟩ := h
  have key : ∀ t : Bool, JI n (fr (jT t k) n Z.1) ∧ (fr (jT t k) n Z.1).2 = Z.1.2 ∧ ∀ i a, i ≠ 4 ∧ i ≠ 5 → (fr (jT t k) n Z.1).1 i a = Z.1.1 i a := fun t => by
    rw [jT_fr]
    split
    · exact ⟨JI_jLs (by omega) hJ n (Nat.le_refl n), (jLs_at Z.1 n).1, (jLs_at Z.1 n).2⟩
    · exact ⟨hJ, rfl, fun _ _ _ => rfl⟩
  unfold RS
  rw [e]
  clear e
  generalize (if X.1 2 k = 0 then false else tkF X k) = t
  generalize (if X.1 2 k = 0 then false else ekF X k) = u
  obtain ⟨a, b, c⟩ := key t
  unfold jB
  by_cases hu : u = true
  · rw [if_pos hu]
    refine ⟨JI_3 hk a, b.trans h2, fun i q hi => ?_, fun q hq => ?_⟩
    · rw [tA_nk hi.1, c i q ⟨hi.2.1, hi.2.2⟩]; exact hr i q hi
    · rw [tA_ne (by omega), c 3 q (by decide)]; exact h3 q (by omega)
  · rw [if_neg hu]
    refine ⟨a, b.trans h2, fun i q hi => ?_, fun q hq => ?_⟩
    · rw [c i q ⟨hi.2.1, hi.2.2⟩]; exact hr i q hi
    · rw [c 3 q (by decide)]; exact h3 q (by omega)
theorem RS_fr {n : Nat} {X : Md} (h40 : n ≤ 40) (hn : X.2.2.2 1 = nI n) (hJ : JI n X) : ∀ k : Nat, k ≤ n → RS n k X (fr mg1 k (mRk X, false))
  | 0, _ => RS_0 hJ
  | k + 1, hk => RS_s h40 hn (by omega) (RS_fr h40 hn hJ k (by omega))
/-! a round goes on just if something tore or ended -/
theorem held_jL {k f o i : Nat} {M : Md} (hk : k < 2 ^ 31) (hf : f < 2 ^ 31) (hne : k ≠ f) (h : heldB M o (nI k) = true) : heldB (jL f i M) o (nI k) = true := by
  have hkf : ¬ nI k = nI f := fun z => hne ((nI_eq hk hf).mp z)
  by_cases hio : o = i
  · subst hio
    simp only [heldB, Bool.or_eq_true, decide_eq_true_eq] at h ⊢
    unfold jL
    by_cases c4 : M.1 4 o = nI f
    · rw [if_pos c4]
      rw [tA_nk (by decide), tA_eq, tA_eq]
      rcases h with h | h
      · exact absurd (h.symm.trans c4) hkf
      · exact Or.inl h
    · rw [if_neg c4]
      by_cases c5 : M.1 5 o = nI f
      · rw [if_pos c5, tA_nk (by decide), tA_eq]
        rcases h with h | h
        · exact Or.inl h
        · exact absurd (h.symm.trans c5) hkf
      · rw [if_neg c5]
        exact h
  · simp only [heldB] at h ⊢
    rw [jL_at hio, jL_at hio]
    exact h
theorem held_jLs {k f o : Nat} {M : Md} (hk : k < 2 ^ 31) (hf : f < 2 ^ 31) (hne : k ≠ f) (h : heldB M o (nI k) = true) : ∀ m : Nat, heldB (fr (jL f) m M) o (nI k) = true
  | 0 => h
  | m + 1 => held_jL hk hf hne (held_jLs hk hf hne h m)
theorem held_mgs {n k o : Nat} {X : Md} (h40 : n ≤ 40) (hn : X.2.2.2 1 = nI n) (hJ : JI n X) (hk : k < n) (h : heldB X o (nI k) = true) : ∀ m : Nat, m ≤ k → heldB (fr mg1 m (mRk X, false)).1 o (nI k) = true
  | 0, _ => by
    show heldB (mRk X) o (nI k) = true
    unfold heldB
    rw [mt_Rk]
    exact h
  | m + 1, hm => by
    have ih := held_mgs h40 hn hJ hk h m (by omega)
    show heldB (mg1 m (fr mg1 m (mRk X, false))).1 o (nI k) = true
    rw [mg1_eq h40 hn (by omega) (RS_fr h40 hn hJ m (by omega))]
    have h2 : ∀ t, heldB (fr (jT t m) n (fr mg1 m (mRk X, false)).1) o (nI k) = true := fun t => by
      rw [jT_fr]
      split
      · exact held_jLs (by omega) (by omega) (by omega) ih n
      · exact ih
    generalize (if X.1 2 m = 0 then false else tkF X m) = t9
    generalize (if X.1 2 m = 0 then false else ekF X m) = u9
    unfold jB
    split
    · unfold heldB
      rw [tA_nk (by decide), tA_nk (by decide)]
      exact h2 _
    · exact h2 _
theorem mt1_flag (f i : Nat) (T : Md × Bool) (h : T.2 = true) : (mt1 f i T).2 = true := by
  unfold mt1
  split
  · split
    · split <;> rfl
    · exact h
  · exact h
theorem frA_flag (f : Nat) : ∀ (k a : Nat) (T : Md × Bool), T.2 = true → (frA (mt1 f) a k T).2 = true
  | 0, _, _, h => h
  | k + 1, a, T, h => frA_flag f k (a + 1) _ (mt1_flag f a T h)
theorem mt1_at {f i a : Nat} (T : Md × Bool) (h : a ≠ i) (q : Nat) : (mt1 f i T).1.1 q a = T.1.1 q a := by
  unfold mt1
  split
  · split
    · split
      · show (tA (tA T.1 4 i (T.1.1 5 i)) 5 i (-1)).1 q a = _
        rw [tA_ne h, tA_ne h]
      · show (tA T.1 5 i (-1)).1 q a = _
        rw [tA_ne h]
    · rfl
  · rfl
theorem frA_tear {f o : Nat} : ∀ (k a : Nat) (T : Md × Bool), a ≤ o → o < a + k → mHg T.1 o = true → heldB T.1 o (nI f) = true → (frA (mt1 f) a k T).2 = true
  | 0, a, _, h1, h2, _, _ => absurd h2 (by omega)
  | k + 1, a, T, h1, h2, hg, hb => by
    show (frA (mt1 f) (a + 1) k (mt1 f a T)).2 = true
    by_cases z : a = o
    · subst z
      refine frA_flag f k (a + 1) _ ?_
      unfold mt1
      rw [if_pos hg, if_pos hb]
      split <;> rfl
    · refine frA_tear (o := o) k (a + 1) _ (by omega) (by omega) ?_ ?_
      · unfold mHg at hg ⊢
        rw [mt1_at T (Ne.symm z)]
        exact hg
      · unfold heldB at hb ⊢
        rw [mt1_at T (Ne.symm z), mt1_at T (Ne.symm z)]
        exact hb
theorem mg0_flag (k : Nat) (T : Md × Bool) (h : T.2 = true) : (mg0 k T).2 = true := by
  unfold mg0
  split
  · exact h
  · show (T.2 || _) = true
    rw [h]; rfl
theorem mgE_flag (k : Nat) (T : Md × Bool) (h : T.2 = true) : (mgE k T).2 = true := by
  unfold mgE
  split
  · exact h
  · split
    · rfl
    · exact h
theorem mg1_flag (k : Nat) (T : Md × Bool) (h : T.2 = true) : (mg1 k T).2 = true := by
  unfold mg1
  split
  · exact mgE_flag k _ (mg0_flag k T h)
  · exact h
theorem fr_flag (T : Md × Bool) (m : Nat) : ∀ d : Nat, (fr mg1 m T).2 = true → (fr mg1 (m + d) T).2 = true
  | 0, h => h
  | d + 1, h => mg1_flag (m + d) _ (fr_flag T m d h)
theorem sI_ne {f : Nat → Int32} : ∀ (n : Nat), ¬ sI f n = 0 → ∃ o, o < n ∧ ¬ f o = 0
  | 0, h => absurd rfl h
  | n + 1, h => by
    by_cases c : f n = 0
    · rw [sI_s, c, Int32.add_zero] at h
      obtain ⟨o, h1, h2⟩ := sI_ne n h
      exact ⟨o, by omega, h2⟩
    · exact ⟨n, Nat.lt_succ_self n, c⟩
theorem go_eq {n : Nat} {X : Md} (h40 : n ≤ 40) (hn : X.2.2.2 1 = nI n) (hJ : JI n X) (hB : WB n X) : (mRd X).2 = (fr (gF X) n F0s).2.2 := by
  have hiff := (gF_at X n).2
  unfold mRd
  rw [mN_eq hn h40]
  by_cases c : (fr (gF X) n F0s).2.2 = true
  · rw [c]
    obtain ⟨k, hk, hh, hte⟩ := hiff.mp c
    have hS := RS_fr h40 hn hJ k (by omega)
    have hgo : (mg1 k (fr mg1 k (mRk X, false))).2 = true := by
      have hS2 := hS
      generalize hZ : fr mg1 k (mRk X, false) = Z at hS hS2 ⊢
      obtain ⟨hJZ, h2, hr, h3⟩ := hS2
      have e2 : Z.1.1 2 k = X.1 2 k := hr 2 k (by decide)
      have hp : Z.1.2.2.1 2 k = (mRk X).2.2.1 2 k := by rw [h2]
      have hl : Z.1.2.2.1 1 k = (mRk X).2.2.1 1 k := by rw [h2]
      have e1 : Z.1.1 1 k = X.1 1 k := hr 1 k (by decide)
      have e3 : Z.1.1 3 k = X.1 3 k := h3 k (Nat.le_refl k)
      have hnZ : Z.1.2.2.2 1 = nI n := by rw [h2, mi_Rk]; exact hn
      unfold mg1
      rw [if_pos ((JI_hg hJZ hk).mpr (by rw [e2]; exact hh))]
      rcases hte with ht | he
      · refine mgE_flag k _ ?_
        unfold tkF at ht
        have hpull : ¬ (mRk X).2.2.1 2 k ≤ X.1 1 k := by simpa using ht
        unfold mg0
        rw [hp, e1, if_neg hpull]
        show (Z.2 || (mTear Z.1 k).2) = true
        have hne : ¬ (mRk X).2.2.1 2 k = 0 := fun z => hpull (by rw [z]; exact (hJ k hk).2.2.2.2.2.2.2)
        rw [(Rk_eqs h40 hn hJ hB).1 k hk] at hne
        obtain ⟨o, ho, hc⟩ := sI_ne n hne
        have hko : k < o := by
          rcases Nat.lt_or_ge k o with y | y
          · exact y
          · exact absurd (cbR_lo hJ h40 _ ho y hk) hc
        have hheld : heldB X o (nI k) = true ∧ ¬ X.1 2 o = 0 := by
          unfold cbR at hc
          split at hc
          · exact absurd rfl hc
          · next q =>
            refine ⟨?_, fun z => q (Or.inl z)⟩
            split at hc
            · split at hc
              · next y => simp [heldB, y]
              · exact absurd rfl hc
            · split at hc
              · next y => simp [heldB, y]
              · split at hc
                · next y => simp [heldB, y]
                · exact absurd rfl hc
        have hb := held_mgs h40 hn hJ hk hheld.1 k (Nat.le_refl k)
        rw [hZ] at hb
        have hm : (mTear Z.1 k).2 = true := by
          unfold mTear
          rw [mN_eq hnZ h40]
          exact frA_tear (n - (k + 1)) (k + 1) (Z.1, false) (by omega) (by omega) ((JI_hg hJZ ho).mpr (by rw [hr 2 o (by decide)]; exact hheld.2)) hb
        rw [hm, Bool.or_true]
      · unfold ekF at he
        simp only [Bool.and_eq_true, Bool.not_eq_true', decide_eq_false_iff_not] at he
        have hT3 : (mg0 k Z).1.1 3 k = X.1 3 k ∧ (mg0 k Z).1.2.2.1 1 k = (mRk X).2.2.1 1 k := by
          unfold mg0
          split
          · exact ⟨e3, hl⟩
          · show (mTear Z.1 k).1.1 3 k = _ ∧ (mTear Z.1 k).1.2.2.1 1 k = _
            rw [← tear_eq h40 hk hnZ hJZ, (jLs_at (k := k) Z.1 n).2 3 k (by decide), (jLs_at (k := k) Z.1 n).1]
            exact ⟨e3, hl⟩
        unfold mgE
        rw [hT3.1, hT3.2, if_neg (fun z => he.1 (by rw [z]; exact Int32.le_refl _)), if_pos (Int32.not_le.mp he.2)]
    have := fr_flag (mRk X, false) (k + 1) (n - (k + 1)) hgo
    rw [show k + 1 + (n - (k + 1)) = n by omega] at this
    exact this
  · have c2 : (fr (gF X) n F0s).2.2 = false := by
      cases z : (fr (gF X) n F0s).2.2 with
      | false => rfl
      | true => exact absurd z c
    rw [c2]
    have hno : ∀ k, k < n → ¬ X.1 2 k = 0 → tkF X k = false ∧ ekF X k = false := fun k hk hh => by
      constructor
      · cases z : tkF X k with
        | false => rfl
        | true => exact absurd (hiff.mpr ⟨k, hk, hh, Or.inl z⟩) c
      · cases z : ekF X k with
        | false => rfl
        | true => exact absurd (hiff.mpr ⟨k, hk, hh, Or.inr z⟩) c
    have key : ∀ m : Nat, m ≤ n → fr mg1 m (mRk X, false) = (mRk X, false) := fun m => by
      induction m with
      | zero => exact fun _ => rfl
      | succ m ih =>
        intro hm
        show mg1 m (fr mg1 m (mRk X, false)) = _
        rw [ih (by omega)]
        unfold mg1
        by_cases y : mHg (mRk X) m = true
        · rw [if_pos y]
          have hh : ¬ X.1 2 m = 0 := by
            have := (JI_hg (JI_of (mt_Rk X) hJ) (show m < n by omega)).mp y
            rw [mt_Rk] at this
            exact this
          obtain ⟨t1, t2⟩ := hno m (by omega) hh
          unfold tkF at t1
          unfold ekF at t2
          have hp : (mRk X).2.2.1 2 m ≤ X.1 1 m := by simpa using t1
          have e0 : mg0 m (mRk X, false) = (mRk X, false) := by
            unfold mg0
            rw [if_pos (show (mRk X).2.2.1 2 m ≤ (mRk X).1 1 m by rw [mt_Rk]; exact hp)]
          rw [e0]
          unfold mgE
          rw [show ((mRk X, false) : Md × Bool).1.1 3 m = X.1 3 m by rw [mt_Rk]]
          by_cases z : X.1 3 m = 0
          · rw [if_pos z]
          · rw [if_neg z]
            have z2 : ¬ X.1 3 m ≤ 0 := fun q => z ((hJ m (by omega)).2.2.2.2.2.1 q)
            have z3 : (mRk X).2.2.1 1 m ≤ X.1 3 m := by
              simpa [z2] using t2
            rw [if_neg (Int32.not_lt.mpr z3)]
        · rw [if_neg y]
    rw [key n (Nat.le_refl n)]
theorem JI_Rd {n : Nat} {X : Md} (h40 : n ≤ 40) (hn : X.2.2.2 1 = nI n) (hJ : JI n X) : JI n (mRd X).1 := by
  unfold mRd
  rw [mN_eq hn h40]
  exact (RS_fr h40 hn hJ n (Nat.le_refl n)).1
