/-! an act: numbers -/
theorem bm_of {z : Int} (h : -2147483648 ≤ z) (h2 : z < 2147483648) : z.bmod (2 ^ 32) = z := Int.bmod_eq_of_le (by omega) (by omega)
theorem div_nI {a n : Nat} (ha : a < 2 ^ 31) (hn : n < 2 ^ 31) : nI a / nI n = nI (a / n) := by
  have h1 : a / n ≤ a := Nat.div_le_self a n
  refine Int32.toInt_inj.mp ?_
  rw [Int32.toInt_div, nI_toInt ha, nI_toInt hn, nI_toInt (by omega)]
  have e : (a : Int).tdiv (n : Int) = ((a / n : Nat) : Int) := rfl
  rw [e]
  generalize a / n = q at h1 ⊢
  exact bm_of (by omega) (by omega)
theorem mul_nI (a b : Nat) : nI a * nI b = nI (a * b) := (Int32.ofNat_mul a b).symm
theorem sub_nI {a b : Nat} (h : b ≤ a) : nI a - nI b = nI (a - b) := by
  have e : nI a = nI (a - b) + nI b := by rw [nI_add, Nat.sub_add_cancel h]
  rw [e, Int32.add_sub_cancel]
theorem rem_nI {a n : Nat} (ha : a < 2 ^ 31) (hn : n < 2 ^ 31) : nI a - nI a / nI n * nI n = nI (a % n) := by
  have h := Nat.div_add_mod a n
  rw [div_nI ha hn, mul_nI, sub_nI (Nat.div_mul_le_self a n)]
  congr 1
  rw [Nat.mul_comm] at h
  omega
theorem and_nI (x : Int32) : ∃ a : Nat, a < 2 ^ 31 ∧ x &&& 2147483647 = nI a := by
  refine nI_of fun z => ?_
  have h := Int32.lt_iff_toInt_lt.mp z
  have e : (x &&& 2147483647).toInt = (x.toBitVec &&& (2147483647 : Int32).toBitVec).toInt := rfl
  rw [e, BitVec.toInt_eq_toNat_of_lt (by
    rw [BitVec.toNat_and]
    have := Nat.and_le_right (n := x.toBitVec.toNat) (m := (2147483647 : Int32).toBitVec.toNat)
    have e2 : (2147483647 : Int32).toBitVec.toNat = 2147483647 := by decide
    omega)] at h
  have e3 : (0 : Int32).toInt = 0 := by decide
  omega
theorem bl_nI (x : Int32) {n : Nat} (h0 : 0 < n) (hn : n < 2 ^ 31) : ∃ j : Nat, j < n ∧ bl x (nI n) = nI j := by
  obtain ⟨a, ha, e⟩ := and_nI x
  refine ⟨a % n, Nat.mod_lt a h0, ?_⟩
  unfold bl
  rw [e]
  exact rem_nI ha hn
theorem oth_ne {k j n : Nat} (hk : k < n) (hj : j < n - 1) : (k + 1 + j) % n < n ∧ (k + 1 + j) % n ≠ k := by
  have h0 : 0 < n := by omega
  refine ⟨Nat.mod_lt _ h0, ?_⟩
  by_cases h : k + 1 + j < n
  · rw [Nat.mod_eq_of_lt h]; omega
  · rw [Nat.mod_eq_sub_mod (by omega), Nat.mod_eq_of_lt (by omega)]; omega
theorem in_nI {a lo hi : Nat} (h1 : lo ≤ a) (h2 : a ≤ hi) (h : hi < 2 ^ 31) : isInB (nI a) (nI lo) (nI hi) = true := by
  simp only [isInB, Bool.and_eq_true, Bool.not_eq_true', decide_eq_false_iff_not]
  exact ⟨nI_nlt h1 (by omega), nI_nlt h2 (by omega)⟩
/-- the day is not changed where stones give way -/
theorem mt1_s (f i : Nat) (T : Md × Bool) : (mt1 f i T).1.2 = T.1.2 := by
  unfold mt1
  split
  · split
    · split <;> rfl
    · rfl
  · rfl
theorem mTear_s (M : Md) (f : Nat) : (mTear M f).1.2 = M.2 := by
  unfold mTear
  have : ∀ (k a : Nat) (T : Md × Bool), (frA (mt1 f) a k T).1.2 = T.1.2 := fun k => by
    induction k with
    | zero => exact fun _ _ => rfl
    | succ k ih => exact fun a T => (ih (a + 1) _).trans (mt1_s f a T)
  exact this _ _ _
theorem mfk_s (f k : Nat) (M : Md) : (mfk f k M).2.2 = M.2.2 := by
  unfold mfk
  split
  · rfl
  · split <;> rfl
theorem md1_s (k : Nat) (M : Md) : (md1 k M).2.2 = M.2.2 := by
  unfold md1
  split
  · split
    · split
      · unfold mFall
        have : ∀ m (X : Md), (fr (mfk k) m X).2.2 = X.2.2 := fun m => by
          induction m with
          | zero => exact fun _ => rfl
          | succ m ih => exact fun X => (mfk_s k m _).trans (ih X)
        rw [this]
        unfold mFl
        show (mTear (tA M 2 k 0) k).1.2.2 = _
        rw [mTear_s]
      · rfl
    · rfl
  · rfl
theorem mDrop_s (M : Md) : (mDrop M).2.2 = M.2.2 := by
  unfold mDrop
  have : ∀ m, (fr md1 m M).2.2 = M.2.2 := fun m => by
    induction m with
    | zero => rfl
    | succ m ih => exact (md1_s m _).trans ih
  exact this _
theorem day_gw : ∀ (k : Nat) (M : Md), (mgw k M).2.2.1 0 = M.2.2.1 0
  | 0, _ => rfl
  | k + 1, M => by
    have h1 : (mDrop (mRd M).1).2.2.1 0 = M.2.2.1 0 := by rw [mDrop_s]; exact (Hm_Rd M).2.2.2
    rw [mgw]
    split
    · exact (day_gw k _).trans h1
    · exact h1
theorem day_Gv (M : Md) : (mGv M).2.2.1 0 0 = M.2.2.1 0 0 := congrFun ((Hm_Rk (mgw 1000 M)).2.2.2.trans (day_gw 1000 M)) 0
/-- what a method of the law's own made for itself and left -/
def tN (T : WF) : WF := fun i => if (410 ≤ i ∧ i ≤ 414) ∨ (420 ≤ i ∧ i ≤ 424) then none else T i
theorem tN_less (T : WF) : ∀ i e, tN T i = some e → T i = some e := fun i e h => by
  unfold tN at h
  split at h
  · cases h
  · exact h
theorem tN_in {T : WF} {i : Nat} (h : (410 ≤ i ∧ i ≤ 414) ∨ (420 ≤ i ∧ i ≤ 424)) : tN T i = none := if_pos h
theorem tN_out {T : WF} {i : Nat} (h : ¬ ((410 ≤ i ∧ i ≤ 414) ∨ (420 ≤ i ∧ i ≤ 424))) : tN T i = T i := if_neg h
theorem tN_to {T X : WF} (h : ∀ i, ¬ ((410 ≤ i ∧ i ≤ 414) ∨ (420 ≤ i ∧ i ≤ 424)) → X i = T i) : ∀ i e, tN T i = some e → X i = some e := fun i e q => by
  by_cases z : (410 ≤ i ∧ i ≤ 414) ∨ (420 ≤ i ∧ i ≤ 424)
  · rw [tN_in z] at q; cases q
  · rw [tN_out z] at q; rw [h i z]; exact q
theorem okT_N {T : WF} (h : okT T) : okT (tN T) := fun i e q => h i e (tN_less T i e q)
theorem tN_tN (T : WF) : tN (tN T) = tN T := by
  funext i
  by_cases z : (410 ≤ i ∧ i ≤ 414) ∨ (420 ≤ i ∧ i ≤ 424)
  · rw [tN_in z, tN_in z]
  · rw [tN_out z]
/-- a way's ends differ -/
def Df (r : Nat) (M : Md) : Prop := ∀ k, k < r → ¬ M.2.1 0 k = M.2.1 1 k
theorem mfk_w (f k : Nat) (M : Md) {q : Nat} (hq : q ≠ 2) : (mfk f k M).2.1 q = M.2.1 q := by
  unfold mfk
  split
  · exact if_neg hq
  · split
    · exact if_neg hq
    · rfl
theorem md1_w (k : Nat) (M : Md) {q : Nat} (hq : q ≠ 2) : (md1 k M).2.1 q = M.2.1 q := by
  unfold md1
  split
  · split
    · split
      · unfold mFall
        have : ∀ m (X : Md), (fr (mfk k) m X).2.1 q = X.2.1 q := fun m => by
          induction m with
          | zero => exact fun _ => rfl
          | succ m ih => exact fun X => (mfk_w k m _ hq).trans (ih X)
        rw [this]
        unfold mFl
        show (mTear (tA M 2 k 0) k).1.2.1 q = _
        rw [mTear_s]
      · rfl
    · rfl
  · rfl
theorem mDrop_w (M : Md) {q : Nat} (hq : q ≠ 2) : (mDrop M).2.1 q = M.2.1 q := by
  unfold mDrop
  have : ∀ m, (fr md1 m M).2.1 q = M.2.1 q := fun m => by
    induction m with
    | zero => rfl
    | succ m ih => exact (md1_w m _ hq).trans ih
  exact this _
theorem gw_w {q : Nat} (hq : q ≠ 2) : ∀ (k : Nat) (M : Md), (mgw k M).2.1 q = M.2.1 q
  | 0, _ => rfl
  | k + 1, M => by
    have h1 : (mDrop (mRd M).1).2.1 q = M.2.1 q := by rw [mDrop_w _ hq, (Hm_Rd M).1]
    rw [mgw]
    split
    · exact (gw_w hq k _).trans h1
    · exact h1
theorem Gv_w (M : Md) {q : Nat} (hq : q ≠ 2) : (mGv M).2.1 q = M.2.1 q := by
  show (mRk _).2.1 q = _
  rw [(Hm_Rk _).1]
  exact gw_w hq 1000 M
theorem Df_of {r : Nat} {M M' : Md} (h0 : M'.2.1 0 = M.2.1 0) (h1 : M'.2.1 1 = M.2.1 1) (h : Df r M) : Df r M' := fun k hk => by
  rw [h0, h1]
  exact h k hk
theorem Df_Gv {r : Nat} {M : Md} (h : Df r M) : Df r (mGv M) := Df_of (Gv_w M (by decide)) (Gv_w M (by decide)) h
theorem Df_way {r : Nat} {M : Md} {a b : Int32} (hab : ¬ a = b) (h : Df r M) : Df (r + 1) (mWay M r a b) := fun k hk => by
  show ¬ (if k = r then s3 a b 0 else M.2.1 0 k) = if k = r then s3 a b 1 else M.2.1 1 k
  by_cases z : k = r
  · rw [if_pos z, if_pos z]; exact hab
  · rw [if_neg z, if_neg z]; exact h k (by omega)
theorem Df_xw {r a b : Nat} {M : Md} (hab : a ≠ b) (c0 : ¬ M.2.1 0 a = M.2.1 1 b ∧ ¬ M.2.1 0 b = M.2.1 1 a) (h : Df r M) : Df r (mXw M a b) := fun k hk => by
  have e0 : (mXw M a b).2.1 0 k = M.2.1 0 k := rfl
  have e1 : (mXw M a b).2.1 1 k = if k = b then M.2.1 1 a else if k = a then M.2.1 1 b else M.2.1 1 k := rfl
  rw [e0, e1]
  by_cases z : k = b
  · rw [if_pos z, z]; exact c0.2
  · rw [if_neg z]
    by_cases y : k = a
    · rw [if_pos y, y]; exact c0.1
    · rw [if_neg y]; exact h k hk
/-- what an act comes to -/
def actF (n r : Nat) (M : Md) (T : WF) (r' : Option Value) (w' : WF) : Prop := r' = some (.int 1) ∧ ∃ (n' r2 : Nat) (B' : Sr) (K' D' : St) (M' : Md), n ≤ n' ∧ 1 ≤ n' ∧ Dn n M M' ∧ M'.2.2.1 0 0 = M.2.2.1 0 0 ∧ (Df r M → Df r2 M') ∧ LI n' r2 B' K' M' ∧ w' = gW (xW K' D' B') n' r2 M' (tN T)
def kpA : Nat → Prop := fun i => i ≤ 100 ∨ (415 ≤ i ∧ i ≤ 419) ∨ 430 ≤ i
/-- a way's row, new -/
theorem gW_Rw {V : List va_E} {n r : Nat} {M : Md} {T : WF} {q : Nat} (h40 : n ≤ 40) (h30 : r ≤ 30) (hC : okC V) (hT : okT T) (hq : q = 300 + r) : wR (fun a => a ≠ q) (gW V n r M (tU T 421 (some (rfE 3 (r + 1) (rfT r))))) := fun i e h => by
  by_cases h1 : i < 100
  · rw [gW_lo h1] at h
    exact (hC i e h).imp (fun a ha => by omega)
  · by_cases h2 : i < 400
    · rw [gW_mid (by omega) h2] at h
      rcases simw_cases h with ⟨-, rfl⟩ | ⟨-, rfl⟩ | ⟨-, rfl⟩ | ⟨k, hk, -, rfl⟩ | ⟨k, hk, -, rfl⟩ | ⟨k, hk, -, rfl⟩
      · exact ⟨by show 101 ≠ q; omega, by show 102 ≠ q; omega, trivial, trivial⟩
      · intro j a z
        unfold rfS at z
        split at z
        · cases z; omega
        · cases z
      · intro j a z
        unfold rfT at z
        split at z
        · cases z; omega
        · cases z
      · exact ⟨trivial, trivial, trivial, trivial, by show 201 + 2 * k ≠ q; omega, trivial, trivial⟩
      · trivial
      · trivial
    · rw [gW_hi (by omega)] at h
      by_cases h3 : i = 421
      · subst h3
        rw [tU_s] at h
        cases h
        intro j a z
        unfold rfT at z
        split at z
        · cases z; omega
        · cases z
      · rw [tU_n _ _ h3] at h
        exact (hT i e h).imp (fun a ha => by omega)
def rw2 (i : Nat) : Nat := if i = 102 then 421 else i
theorem rw2_a : rw2 102 = 421 := rfl
theorem rw2_o {i : Nat} (h : i ≠ 102) : rw2 i = i := if_neg h
def wayX (V : List va_E) (n r : Nat) (M : Md) (T : WF) (a b : Int32) : WF := wU (wU (wU (gW V n r M (tU T 421 (some (rfE 3 (r + 1) (rfT r))))) (300 + r) (.inl (0, 3, .inl (s3 a b)))) 421 (rfE 3 (r + 1) (rfT (r + 1)))) 100 (.inr (3, [.ref 101, .ref 421, .int (M.2.2.1 0 0)]))
theorem way_sta {M : Md} {r : Nat} {a b : Int32} {k : Nat} (h : k ≠ r) : staE (mWay M r a b) k = staE M k := by
  unfold staE mWay
  congr 4
  funext j
  exact if_neg h
theorem way_sts {M : Md} {r : Nat} {a b : Int32} : staE (mWay M r a b) r = .inl (0, 3, .inl (s3 a b)) := by
  unfold staE mWay
  congr 4
  funext j
  exact if_pos rfl
theorem way_ren {V : List va_E} {n r : Nat} {M : Md} {T : WF} {a b : Int32} (h40 : n ≤ 40) (h30 : r < 30) (hC : okC V) (hT : okT T) (h21 : T 421 = none) : (∀ i e, gW V n (r + 1) (mWay M r a b) T i = some e → wayX V n r M T a b (rw2 i) = some (rEf rw2 e)) ∧ ∀ i j e f', gW V n (r + 1) (mWay M r a b) T i = some e → gW V n (r + 1) (mWay M r a b) T j = some f' → rw2 i = rw2 j → i = j := by
  have hne : ∀ i e, gW V n (r + 1) (mWay M r a b) T i = some e → i ≠ 421 := fun i e h z => by
    subst z
    rw [gW_hi (by decide), h21] at h
    cases h
  unfold wayX
  refine ⟨fun i e h => ?_, fun i j e f' hi hj hr => ?_⟩
  · have hiq := hne i e h
    by_cases h1 : i < 100
    · rw [gW_lo h1] at h
      rw [rw2_o (by omega), wU_n _ _ (by omega), wU_n _ _ (by omega), wU_n _ _ (by omega), gW_lo h1, h, rEf_id]
      exact (hC i e h).imp (fun a ha => rw2_o (by omega))
    · by_cases h2 : i < 400
      · rw [gW_mid (by omega) h2] at h
        rcases simw_cases h with ⟨rfl, rfl⟩ | ⟨rfl, rfl⟩ | ⟨rfl, rfl⟩ | ⟨k, hk, rfl, rfl⟩ | ⟨k, hk, rfl, rfl⟩ | ⟨k, hk, rfl, rfl⟩
        · rw [rw2_o (by omega), wU_s]
          rfl
        · rw [rw2_o (by omega), wU_n _ _ (by omega), wU_n _ _ (by omega), wU_n _ _ (by omega), gW_101, rEf_id]
          intro j a z
          unfold rfS at z
          split at z
          · cases z
            exact rw2_o (by omega)
          · cases z
        · rw [rw2_a, wU_n _ _ (by omega), wU_s, rEf_id]
          intro j a z
          unfold rfT at z
          split at z
          · cases z
            exact rw2_o (by omega)
          · cases z
        · rw [rw2_o (by omega), wU_n _ _ (by omega), wU_n _ _ (by omega), wU_n _ _ (by omega), gW_st h40 hk, rEf_id]
          · rfl
          · exact ⟨trivial, trivial, trivial, trivial, rw2_o (by omega), trivial, trivial⟩
        · rw [rw2_o (by omega), wU_n _ _ (by omega), wU_n _ _ (by omega), wU_n _ _ (by omega), gW_ho h40 hk]
          rfl
        · rw [rw2_o (by omega), wU_n _ _ (by omega), wU_n _ _ (by omega)]
          by_cases hko : k = r
          · subst hko
            rw [wU_s, way_sts]
            rfl
          · rw [wU_n _ _ (by omega), gW_sa h40 (by omega) (by omega), way_sta hko]
            rfl
      · rw [gW_hi (by omega)] at h
        rw [rw2_o (by omega), wU_n _ _ (by omega), wU_n _ _ (by omega), wU_n _ _ (by omega), gW_hi (by omega), tU_n _ _ hiq, h, rEf_id]
        exact (hT i e h).imp (fun a ha => rw2_o (by omega))
  · have h1 := hne i e hi
    have h2 := hne j f' hj
    unfold rw2 at hr
    repeat' split at hr
    all_goals omega
theorem upT : ∀ m : Nat, fr (fun i g => va_up g i (some (300 + i))) m (fun _ => none) = rfT m
  | 0 => by
    funext j
    rfl
  | m + 1 => by
    show va_up (fr (fun i g => va_up g i (some (300 + i))) m (fun _ => none)) m (some (300 + m)) = _
    rw [upT m]
    funext j
    show (if j = m then _ else if j < m then _ else _) = if j < m + 1 then _ else _
    by_cases h : j = m
    · rw [if_pos h, if_pos (by omega), h]
    · rw [if_neg h]
      by_cases h2 : j < m
      · rw [if_pos h2, if_pos (by omega)]
      · rw [if_neg h2, if_neg (by omega)]
theorem rfT_up (m : Nat) : va_up (rfT m) m (some (300 + m)) = rfT (m + 1) := by
  rw [← upT m, ← upT (m + 1)]
  rfl
theorem LI.g01 {n r : Nat} {B : Sr} {K : St} {M : Md} (h : LI n r B K M) : ∀ i, i < r → M.2.1 2 i = 0 ∨ M.2.1 2 i = 1 := fun i hi => by
  have e := (h.1.1.1.1.WH.2.1 i hi).2.2.2.2
  rw [e]
  cases goneK K (M.2.1 0 i) (M.2.1 1 i)
  · exact Or.inl rfl
  · exact Or.inr rfl
