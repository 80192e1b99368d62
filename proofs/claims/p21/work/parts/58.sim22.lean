/-! mean answers alike; how it begins; what the reference's contracts ask -/
theorem sI_b {f : Nat → Int32} {b : Nat → Bool} : ∀ n : Nat, (∀ i, i < n → f i = bI (b i)) → ∃ c : Nat, c ≤ n ∧ sI f n = nI c
  | 0, _ => ⟨0, Nat.le_refl 0, rfl⟩
  | n + 1, h => by
    obtain ⟨c, hc, e⟩ := sI_b n (fun i hi => h i (by omega))
    rw [sI_s, e, h n (by omega)]
    cases b n with
    | true => exact ⟨c + 1, by omega, nI_1 c⟩
    | false => exact ⟨c, by omega, Int32.add_zero _⟩
theorem cnt_q {n r : Nat} {B : Sr} {K : St} {M : Md} (h : Sm n r B K M) : ∃ c : Nat, c ≤ n ∧ K.2.2.1 1 = nI c := by
  obtain ⟨c, hc, e⟩ := sI_b (f := M.1 2) (b := K.2.1) n (fun i hi => (h.1.1.1 i hi).2.2.1.symm)
  refine ⟨c, hc, ?_⟩
  rw [← h.hd, mHa_sI, mN_eq h.1.1.mn h.1.1.h40]
  exact e
theorem mean_ok {n r : Nat} {B : Sr} {K : St} {M : Md} (h : Sm n r B K M) (a : Int32) : ¬ K.2.2.1 1 = 0 → vf_n64 (FP.ddiv (FP.i2d a) (FP.i2d (K.2.2.1 1))) := by
  obtain ⟨c, hc, e⟩ := cnt_q h
  have h40 := h.1.1.h40
  rw [e]
  intro hz
  have h0 : c ≠ 0 := fun z => hz (by rw [z]; rfl)
  exact fp_mean a h0 (by omega)
theorem mean_q {n r : Nat} {B : Sr} {K : St} {M : Md} (h : Si n r B K M) : mMn M = cMn K ∧ Si n r B K (mRk (mI M 0 0)) ∧ (0 < K.2.2.1 1 → vf_n64 (FP.ddiv (FP.i2d (sLd K)) (FP.i2d (K.2.2.1 1)))) ∧ (¬ mHa (mRk (mI M 0 0)) = 0 → vf_n64 (FP.ddiv (FP.i2d (mSm (mRk (mI M 0 0)))) (FP.i2d (mHa (mRk (mI M 0 0)))))) := by
  obtain ⟨hS, hK⟩ := h
  have hS0 : Sm n r B K (mI M 0 0) := Sm_q (Mq_mI M 0) hS
  have hq := Sm_q (Mq_Rk _) hS0
  have hl : ∀ i, i < n → K.1 6 i = (mRk (mI M 0 0)).2.2.1 1 i := fun i hi => (load_q hS0 hi).1.symm
  unfold mMn
  generalize mRk (mI M 0 0) = X at hq hl ⊢
  have e1 : mSm X = sLd K := by
    unfold mSm sLd
    rw [mN_eq hq.1.1.mn hq.1.1.h40, nn_eq hq.1.1.kn hq.1.1.h40]
    refine fr_eq n 0 fun i s hi => ?_
    unfold mSm1 sLd1
    rw [hl i hi]
  refine ⟨?_, ⟨hq, hK⟩, fun z => mean_ok hq _ (fun y => by rw [y] at z; exact absurd z (by decide)), fun z => ?_⟩
  · unfold mMnR cMn
    rw [hq.hd, e1]
    obtain ⟨c, hc, e⟩ := cnt_q hq
    have h40 := hq.1.1.h40
    rw [e]
    by_cases z : c = 0
    · rw [z, if_pos (by decide), if_neg (by decide)]
    · have hz : ¬ nI c = 0 := fun y => z ((nI_eq (b := 0) (by omega) (by omega)).mp y)
      have hp : 0 < nI c := nI_lt (a := 0) (b := c) (by omega) (by omega)
      rw [if_neg hz, if_pos hp]
  · rw [hq.hd] at z ⊢
    exact mean_ok hq _ z
theorem Si_ok {n r : Nat} {B : Sr} {K : St} {M : Md} (h : Si n r B K M) : okM n M := fun i hi => by
  obtain ⟨-, -, -, -, r4, r5, -⟩ := h.1.1.1.1 i hi
  obtain ⟨o4, o5, -, -⟩ := h.1.1.1.2.1 i hi
  rw [← r4, ← r5]
  exact ⟨o4, o5⟩
theorem Si_00 : Si 0 0 R00 S00 M00 := by
  have no : ∀ (i : Nat) (q : Prop), i < 0 → q := fun i q hi => absurd hi (Nat.not_lt_zero _)
  have hP : Rw 0 S00 M00 := fun i hi => no i _ hi
  have hH : Hd 0 S00 := fun i hi => no i _ hi
  have hm : mHa M00 = 0 := by
    unfold mHa
    rw [mN_eq (M := M00) (n := 0) rfl (by omega)]
    rfl
  refine ⟨⟨⟨⟨hP, hH, ⟨fun i hi => no i _ hi, fun i hi => no i _ hi, rfl⟩, fun i hi => no i _ hi, fun i hi => no i _ hi, rfl, ⟨rfl, fun i hi => no i _ hi, hm.symm, rfl⟩, by omega, by omega, fun i hi => no i _ hi, rfl⟩, fun i hi => no i _ hi, fun _ => ⟨⟨fun i hi => no i _ hi, hH, rfl, fun i hi => no i _ hi, fun i hi => no i _ hi⟩, fun i hi => no i _ hi⟩⟩, rfl, fun i hi => no i _ hi⟩, fun j => ⟨(by decide : (0 : Int32) ≤ 60), fun _ => ⟨rfl, rfl⟩⟩⟩
