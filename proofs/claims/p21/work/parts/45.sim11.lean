/-! giving way, on both sides -/
theorem Qk_drop (S : St) (h : S.2.2.2 = true) : (dropL S).2.2.2 = true := by
  unfold dropL
  refine fr_I (fun (S : St) => S.2.2.2 = true) (fun i S q => ?_) _ _ h
  unfold drop1
  split
  · split
    · exact q
    · split
      · exact (Qk_tearF (nI i)).1 _ rfl
      · exact q
  · exact q
theorem drop_id {n : Nat} {S : St} (h40 : n ≤ 40) (hn : S.2.2.1 0 = nI n) (h : NL n S) : dropL S = S := by
  unfold dropL
  rw [nn_eq hn h40]
  refine fr_id n (fun i hi => ?_)
  unfold drop1
  cases hh : S.2.1 i with
  | false => rw [if_neg (by decide)]
  | true =>
    rw [if_pos rfl]
    rcases h i hi hh with q | q
    · rw [if_pos q]
    · by_cases e : 0 < S.1 3 i
      · rw [if_pos e]
      · rw [if_neg e, if_neg q]
def BF (n : Nat) (K : St) (M : Md) : Prop := Rw n K M ∧ Hd n K ∧ Gd n K ∧ Pw n K ∧ (∀ i, i < n → 0 ≤ K.1 1 i) ∧ M.2.2.2 1 = nI n ∧ NL n K
def BR (n : Nat) (K : St) (M : Md) : Prop := BF n K M ∧ (K.2.2.2 = false → PL n 0 K (mRk M) ∧ Fl n K)
theorem measure_st (S : St) : (measure S).2.2.2 = false := by
  unfold measure
  generalize frD meas1 (nn S) (fr meas0 (nn S) S) = X
  rfl
theorem BR_1 {n : Nat} {K : St} {M : Md} (h40 : n ≤ 40) (h : BR n K M) : ∃ K1 : St, (if K.2.2.2 then measure K else K) = K1 ∧ PL n 0 K1 (mRk M) ∧ K1.2.2.2 = false ∧ Fl n K1 ∧ Gd n K1 ∧ K1.1 1 = K.1 1 ∧ NL n K1 := by
  obtain ⟨⟨a, b, c, d, e, f, g⟩, hl⟩ := h
  cases hs : K.2.2.2 with
  | true =>
    rw [if_pos rfl]
    refine ⟨measure K, rfl, PL_measure h40 a b c.2.2 f, measure_st K, Fl_measure h40 b c d e, Gd_measure h40 b c, (measure_k (k := 1) (by decide) (by decide) K).1, fun i hi => ?_⟩
    rw [(measure_k (k := 3) (by decide) (by decide) K).1, (measure_k (k := 3) (by decide) (by decide) K).2, (measure_45 K).1]
    exact g i hi
  | false =>
    rw [if_neg (by decide)]
    exact ⟨K, rfl, (hl hs).1, hs, (hl hs).2, c, rfl, g⟩
theorem gw_rel {n : Nat} (h40 : n ≤ 40) : ∀ (k : Nat) (K : St) (M : Md), BR n K M → BF n (gw k K) (mgw k M)
  | 0, _, _, h => h.1
  | k + 1, K, M, h => by
    obtain ⟨K1, hK1, hP, hs, hF, hG, hk, hnl⟩ := BR_1 h40 h
    have hB : gwB K = endO (tearO K1) := by unfold gwB; rw [hK1]
    have hR := RT_round h40 hP hs hF ((congrFun (mi_Rk M) 1).trans h.1.2.2.2.2.2.1)
    have hd : mRd M = fr mg1 n (mRk M, false) := by unfold mRd; rw [mN_eq h.1.2.2.2.2.2.1 h40]
    rw [← hd, ← hB] at hR
    have hst : ∀ i, i < n → 0 ≤ (gwB K).1 1 i := fun i hi => by
      rw [hB, k1_endO, k1_tearO, hk]
      exact h.1.2.2.2.2.1 i hi
    have hGB : Gd n (gwB K) := by rw [hB]; exact Gd_endO h40 (Gd_tearO h40 hG)
    have hfr : (gwB K).2.2.2 = false → gwB K = K1 := fun q => by
      rw [hB] at q ⊢
      exact fresh_same q
    unfold gw mgw
    generalize gwB K = S at hR hst hGB hfr ⊢
    generalize mRd M = T at hR ⊢
    obtain ⟨⟨r1, r2⟩, r3, r4⟩ := hR
    have hDT : DT n S T.1 := ⟨r1, r4, fun i hi => ⟨fun q => ((r3 i hi).1 q).2, (r3 i hi).2⟩⟩
    have hDD := DT_drop h40 hDT
    have hf : S.2.2.2 = T.2 := by rw [r2]; exact Bool.false_or _
    cases ht : T.2 with
    | true =>
      rw [ht] at hf
      rw [if_pos hf, if_pos rfl]
      exact gw_rel h40 k _ _ ⟨⟨hDD.1.1, hDD.1.2.1, Gd_drop h40 hGB, hDD.2.2, fun i hi => by rw [k1_drop]; exact hst i hi, hDD.2.1, NL_drop h40 hDT⟩, fun q => by rw [Qk_drop S hf] at q; cases q⟩
    | false =>
      rw [ht] at hf
      rw [if_neg (by rw [hf]; decide), if_neg (by decide)]
      have hnS : NL n S := by rw [hfr hf]; exact hnl
      rw [drop_id h40 hGB.2.2 hnS] at hDD
      exact ⟨hDD.1.1, hDD.1.2.1, hGB, hDD.2.2, hst, hDD.2.1, hnS⟩
