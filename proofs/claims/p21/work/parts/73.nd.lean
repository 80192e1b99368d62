/-! a day's fading, a new stone: the numbers and the places -/
theorem mx_dy {p : Int32} (h : p ≤ 0 → p = 0) : mx 0 (p - 2) = if p ≤ 2 then 0 else p - 2 := by
  unfold mx
  by_cases h0 : p ≤ 0
  · rw [h h0]; decide
  · by_cases h2 : p ≤ 2
    · rw [if_pos h2]
      refine if_neg fun z => ?_
      have a : 0 < p.toInt := by have := Int32.lt_iff_toInt_lt.mp (Int32.not_le.mp h0); simpa using this
      have b : p.toInt ≤ 2 := by have := Int32.le_iff_toInt_le.mp h2; simpa using this
      have c : p = 1 ∨ p = 2 := by
        rcases (show p.toInt = 1 ∨ p.toInt = 2 by omega) with e | e
        · exact Or.inl (Int32.toInt_inj.mp e)
        · exact Or.inr (Int32.toInt_inj.mp e)
      rcases c with rfl | rfl <;> exact absurd z (by decide)
    · rw [if_neg h2]
      refine if_pos ?_
      have b : 2 < p.toInt := by have := Int32.lt_iff_toInt_lt.mp (Int32.not_le.mp h2); simpa using this
      have u := Int32.toInt_lt p
      refine Int32.lt_iff_toInt_lt.mpr ?_
      rw [Int32.toInt_sub]
      show (0 : Int) < _
      rw [Int.bmod_eq_of_le (by show _ ≤ p.toInt - 2; omega) (by show p.toInt - 2 < _; omega)]
      show 0 < p.toInt - 2
      omega
theorem mx_0 (v : Int32) : mx 0 v ≤ 0 → mx 0 v = 0 := fun h => by
  unfold mx at *
  by_cases z : 0 < v
  · rw [if_pos z] at h
    exact absurd z (Int32.not_lt.mpr h)
  · rw [if_neg z]
theorem JI_dy0 {n k : Nat} {M : Md} (hk : k < n) (h : JI n M) : JI n (mdy0 k M) := fun i hi => by
  by_cases z : i = k
  · subst z
    obtain ⟨o4, o5, f4, d45, f2, f3, h2, h1⟩ := h i hi
    unfold mdy0
    rw [show (tA M 3 i (mx 0 (M.1 3 i - 2))).1 4 i = M.1 4 i from tA_nk (by decide), show (tA M 3 i (mx 0 (M.1 3 i - 2))).1 5 i = M.1 5 i from tA_nk (by decide), show (tA M 3 i (mx 0 (M.1 3 i - 2))).1 2 i = M.1 2 i from tA_nk (by decide), show (tA M 3 i (mx 0 (M.1 3 i - 2))).1 1 i = M.1 1 i from tA_nk (by decide), show (tA M 3 i (mx 0 (M.1 3 i - 2))).1 3 i = mx 0 (M.1 3 i - 2) from tA_eq]
    exact ⟨o4, o5, f4, d45, fun q => ⟨(f2 q).1, by rw [(f2 q).2]; rfl⟩, mx_0 _, h2, h1⟩
  · exact JI_row hi h (fun q => tA_ne z)
theorem dy0_row {i : Nat} {q : Nat} (hq : q ≠ 3) (M : Md) : (mdy0 i M).1 q = M.1 q := if_neg hq
theorem dys_row {q : Nat} (hq : q ≠ 3) (M : Md) : ∀ m : Nat, (fr mdy0 m M).1 q = M.1 q
  | 0 => rfl
  | m + 1 => (dy0_row hq _).trans (dys_row hq M m)
theorem dys_i (M : Md) (m : Nat) : (fr mdy0 m M).2 = M.2 := by
  induction m with
  | zero => rfl
  | succ m ih => exact ih
theorem JI_dys {n : Nat} {M : Md} (h : JI n M) : ∀ m : Nat, m ≤ n → JI n (fr mdy0 m M)
  | 0, _ => h
  | m + 1, hm => JI_dy0 (by omega) (JI_dys h m (by omega))
theorem WB_dys {n : Nat} {M : Md} (h : WB n M) (m : Nat) : WB n (fr mdy0 m M) := WB_of (dys_row (by decide) M m) (dys_row (by decide) M m) h
theorem WB_Drop {n : Nat} {M : Md} (h : WB n M) : WB n (mDrop M) := WB_of (mDrop_row _ (by decide)) (mDrop_row _ (by decide)) h
theorem wU_wU (w : WF) (q : Nat) (a b : va_E) : wU (wU w q a) q b = wU w q b := by
  funext i
  by_cases h : i = q
  · rw [h, wU_s, wU_s]
  · rw [wU_n _ _ h, wU_n _ _ h, wU_n _ _ h]
theorem wR_wU {P : Nat → Prop} {w : WF} {q : Nat} {e : va_E} (hw : wR P w) (he : eR P e) : wR P (wU w q e) := fun i f h => by
  by_cases z : i = q
  · subst z
    rw [wU_s] at h
    cases h
    exact he
  · rw [wU_n _ _ z] at h
    exact hw i f h
/-- the new stone's places taken over: 201 + 2 n by 422, the stones' array 101 by 420 -/
def rq (n i : Nat) : Nat := if i = 201 + 2 * n then 422 else if i = 101 then 420 else i
theorem rq_s (n : Nat) : rq n (201 + 2 * n) = 422 := if_pos rfl
theorem rq_a (n : Nat) : rq n 101 = 420 := by unfold rq; rw [if_neg (by omega), if_pos rfl]
theorem rq_o {n i : Nat} (h : i ≠ 201 + 2 * n) (h2 : i ≠ 101) : rq n i = i := by unfold rq; rw [if_neg h, if_neg h2]
theorem nw_o {M : Md} {n : Nat} {w t q f o : Int32} {k i : Nat} (h : i ≠ n) : (mNew M n w t q f o).1 k i = M.1 k i := if_neg h
theorem nw_s {M : Md} {n : Nat} {w t q f o : Int32} (k : Nat) : (mNew M n w t q f o).1 k n = s7 w t q f o k := if_pos rfl
abbrev newE (w t q : Int32) : va_E := .inr (4, [.int w, .int t, .int 1, .int q, .ref 422, .int 0])
theorem nw_sto {M : Md} {n : Nat} {w t q f o : Int32} : stoE (mNew M n w t q f o) n = .inr (4, [.int w, .int t, .int 1, .int q, .ref (201 + 2 * n), .int 0]) := by
  unfold stoE
  rw [nw_s, nw_s, nw_s, nw_s, nw_s]
  rfl
theorem nw_stk {M : Md} {n : Nat} {w t q f o : Int32} {k : Nat} (h : k ≠ n) : stoE (mNew M n w t q f o) k = stoE M k := by
  unfold stoE
  rw [nw_o h, nw_o h, nw_o h, nw_o h, nw_o h]
theorem nw_hok {M : Md} {n : Nat} {w t q f o : Int32} {k : Nat} (h : k ≠ n) : holE (mNew M n w t q f o) k = holE M k := by
  unfold holE hL hF
  rw [nw_o h, nw_o h]
def addW (V : List va_E) (n r : Nat) (M : Md) (T : WF) : WF := gW V n r M (tU T 420 (some (rfE 2 (n + 1) (rfS n))))
def addX (V : List va_E) (n r : Nat) (M : Md) (T : WF) (w t q : Int32) : WF := wU (wU (wU (addW V n r M T) (200 + 2 * n) (newE w t q)) 420 (rfE 2 (n + 1) (rfS (n + 1)))) 100 (.inr (3, [.ref 420, .ref 102, .int (M.2.2.1 0 0)]))
theorem addW_R {V : List va_E} {n r : Nat} {M : Md} {T : WF} {q : Nat} (h40 : n < 40) (h30 : r ≤ 30) (hC : okC V) (hT : okT T) (hq : q = 200 + 2 * n ∨ q = 424) : wR (fun a => a ≠ q) (addW V n r M T) := fun i e h => by
  unfold addW at h
  by_cases h1 : i < 100
  · rw [gW_lo h1] at h
    exact (hC i e h).imp (fun a ha => by omega)
  · by_cases h2 : i < 400
    · rw [gW_mid (by omega) h2] at h
      rcases simw_cases h with ⟨-, rfl⟩ | ⟨-, rfl⟩ | ⟨-, rfl⟩ | ⟨k, hk, -, rfl⟩ | ⟨k, hk, -, rfl⟩ | ⟨k, hk, -, rfl⟩
      · exact ⟨by show 101 ≠ q; omega, by show 102 ≠ q; omega, trivial, trivial⟩
      · intro j a z
        unfold rfS at z
        split at z
        · cases z; omega
        · cases z
      · intro j a z
        unfold rfT at z
        split at z
        · cases z; omega
        · cases z
      · exact ⟨trivial, trivial, trivial, trivial, by show 201 + 2 * k ≠ q; omega, trivial, trivial⟩
      · trivial
      · trivial
    · rw [gW_hi (by omega)] at h
      by_cases h3 : i = 420
      · subst h3
        rw [tU_s] at h
        cases h
        intro j a z
        unfold rfS at z
        split at z
        · cases z; omega
        · cases z
      · rw [tU_n _ _ h3] at h
        exact (hT i e h).imp (fun a ha => by omega)
theorem add_ren {V : List va_E} {n r : Nat} {M : Md} {T : WF} {w t q f o : Int32} (h40 : n < 40) (h30 : r ≤ 30) (hC : okC V) (hT : okT T) (h20 : T 420 = none) (h22 : T 422 = some (holE (mNew M n w t q f o) n)) : (∀ i e, gW V (n + 1) r (mNew M n w t q f o) (tU T 422 none) i = some e → addX V n r M T w t q (rq n i) = some (rEf (rq n) e)) ∧ ∀ i j e f', gW V (n + 1) r (mNew M n w t q f o) (tU T 422 none) i = some e → gW V (n + 1) r (mNew M n w t q f o) (tU T 422 none) j = some f' → rq n i = rq n j → i = j := by
  have hne : ∀ i e, gW V (n + 1) r (mNew M n w t q f o) (tU T 422 none) i = some e → i ≠ 422 ∧ i ≠ 420 := fun i e h => by
    refine ⟨fun z => ?_, fun z => ?_⟩
    · subst z
      rw [gW_hi (by decide), tU_s] at h
      cases h
    · subst z
      rw [gW_hi (by decide), tU_n _ _ (by decide), h20] at h
      cases h
  unfold addX addW
  refine ⟨fun i e h => ?_, fun i j e f' hi hj hr => ?_⟩
  · have hiq := hne i e h
    by_cases h1 : i < 100
    · rw [gW_lo h1] at h
      rw [rq_o (by omega) (by omega), wU_n _ _ (by omega), wU_n _ _ (by omega), wU_n _ _ (by omega), gW_lo h1, h, rEf_id]
      exact (hC i e h).imp (fun a ha => rq_o (by omega) (by omega))
    · by_cases h2 : i < 400
      · rw [gW_mid (by omega) h2] at h
        rcases simw_cases h with ⟨rfl, rfl⟩ | ⟨rfl, rfl⟩ | ⟨rfl, rfl⟩ | ⟨k, hk, rfl, rfl⟩ | ⟨k, hk, rfl, rfl⟩ | ⟨k, hk, rfl, rfl⟩
        · rw [rq_o (by omega) (by omega), wU_s]
          show _ = some (Sum.inr (3, [Value.ref (rq n 101), Value.ref (rq n 102), _]))
          rw [rq_a, rq_o (by omega) (by omega)]
          rfl
        · rw [rq_a, wU_n _ _ (by omega), wU_s, rEf_id]
          intro j a z
          unfold rfS at z
          split at z
          · cases z
            exact rq_o (by omega) (by omega)
          · cases z
        · rw [rq_o (by omega) (by omega), wU_n _ _ (by omega), wU_n _ _ (by omega), wU_n _ _ (by omega), gW_102, rEf_id]
          intro j a z
          unfold rfT at z
          split at z
          · cases z
            exact rq_o (by omega) (by omega)
          · cases z
        · rw [rq_o (by omega) (by omega), wU_n _ _ (by omega), wU_n _ _ (by omega)]
          by_cases hko : k = n
          · subst hko
            rw [wU_s, nw_sto]
            show _ = some (Sum.inr (4, [_, _, _, _, Value.ref (rq k (201 + 2 * k)), _]))
            rw [rq_s]
            rfl
          · rw [wU_n _ _ (by omega), gW_st (by omega) (by omega), nw_stk hko, rEf_id]
            exact ⟨trivial, trivial, trivial, trivial, rq_o (by omega) (by omega), trivial, trivial⟩
        · by_cases hko : k = n
          · subst hko
            rw [rq_s, wU_n _ _ (by omega), wU_n _ _ (by omega), wU_n _ _ (by omega), gW_hi (by decide), tU_n _ _ (by decide), h22]
            rfl
          · rw [rq_o (by omega) (by omega), wU_n _ _ (by omega), wU_n _ _ (by omega), wU_n _ _ (by omega), gW_ho (by omega) (by omega), nw_hok hko]
            rfl
        · rw [rq_o (by omega) (by omega), wU_n _ _ (by omega), wU_n _ _ (by omega), wU_n _ _ (by omega), gW_sa (by omega) h30 hk]
          rfl
      · rw [gW_hi (by omega), tU_n _ _ hiq.1] at h
        rw [rq_o (by omega) (by omega), wU_n _ _ (by omega), wU_n _ _ (by omega), wU_n _ _ (by omega), gW_hi (by omega), tU_n _ _ hiq.2, h, rEf_id]
        exact (hT i e h).imp (fun a ha => rq_o (by omega) (by omega))
  · have h1 := hne i e hi
    have h2 := hne j f' hj
    unfold rq at hr
    repeat' split at hr
    all_goals omega
theorem upS : ∀ m : Nat, fr (fun i g => va_up g i (some (200 + 2 * i))) m (fun _ => none) = rfS m
  | 0 => by
    funext j
    rfl
  | m + 1 => by
    show va_up (fr (fun i g => va_up g i (some (200 + 2 * i))) m (fun _ => none)) m (some (200 + 2 * m)) = _
    rw [upS m]
    funext j
    show (if j = m then _ else if j < m then _ else _) = if j < m + 1 then _ else _
    by_cases h : j = m
    · rw [if_pos h, if_pos (by omega), h]
    · rw [if_neg h]
      by_cases h2 : j < m
      · rw [if_pos h2, if_pos (by omega)]
      · rw [if_neg h2, if_neg (by omega)]
theorem rfS_up (m : Nat) : va_up (rfS m) m (some (200 + 2 * m)) = rfS (m + 1) := by
  rw [← upS m, ← upS (m + 1)]
  rfl
theorem JI_new {n : Nat} {M : Md} {w t q f o : Int32} (h : JI n M) (hf : okH n f) (ho : okH n o) (hfo : f = -1 → o = -1) (hd : ¬ f = -1 → ¬ f = o) (hq : q ≤ 0 → q = 0) (ht : 0 ≤ t) : JI (n + 1) (mNew M n w t q f o) := fun i hi => by
  by_cases z : i = n
  · subst z
    rw [nw_s, nw_s, nw_s, nw_s, nw_s]
    exact ⟨hf, ho, hfo, hd, fun z => absurd (show (1 : Int32) = 0 from z) (by decide), hq, Or.inr rfl, ht⟩
  · rw [nw_o z, nw_o z, nw_o z, nw_o z, nw_o z]
    exact h i (by omega)
theorem WB_new {n : Nat} {M : Md} {w t q f o : Int32} (h : WB n M) (hw : ∃ a : Nat, a ≤ 20 ∧ w = nI a) : WB (n + 1) (mNew M n w t q f o) := fun i hi => by
  by_cases z : i = n
  · subst z
    rw [nw_s, nw_s]
    exact ⟨hw, 0, by omega, rfl⟩
  · rw [nw_o z, nw_o z]
    exact h i (by omega)
/-- the sky without stones -/
theorem gW_00 {V : List va_E} (hV : V.length ≤ 100) {w : WF} (h0 : ∀ i, i ≠ 100 → i ≠ 101 → i ≠ 102 → w i = V[i]?) (h1 : w 100 = some (simE M00)) (h2 : w 101 = some (rfE 2 0 (fun _ => none))) (h3 : w 102 = some (rfE 3 0 (fun _ => none))) : w = gW V 0 0 M00 (fun _ => none) := by
  funext i
  by_cases a : i = 100
  · rw [a, h1]; rfl
  · by_cases b : i = 101
    · rw [b, h2]; rfl
    · by_cases c : i = 102
      · rw [c, h3]; rfl
      · rw [h0 i a b c]
        by_cases d : i < 100
        · rw [gW_lo d]
        · rw [List.getElem?_eq_none (by omega)]
          by_cases e : i < 400
          · rw [gW_mid (by omega) e]
            unfold simw
            rw [if_neg a, if_neg b, if_neg c, if_neg (by omega), if_neg (by omega)]
          · rw [gW_hi (by omega)]
