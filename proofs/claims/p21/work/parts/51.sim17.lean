/-! a stone cut loose; the copy; what is told -/
theorem cut_sim {n r i : Nat} {B : Sr} {K : St} {M : Md} (hi : i < n) (h : Sm n r B K M) : Sm n r B (cutL K (nI i)) (mGv (mDrop (tA (tA (tA M 3 i 0) 4 i (-1)) 5 i (-1)))) := by
  obtain ⟨⟨⟨h1, h2, h3, h4, h5, h6, h7, h40, h30, hx, hb⟩, -, -⟩, -, -⟩ := h
  unfold cutL endSpell
  rw [if_pos (has_nI h3.2.2 h40 hi), if_pos (has_nI h3.2.2 h40 hi), ix_nI (by omega)]
  refine gv_sim (Cr_drop ?_ rfl)
  have e3 : ∀ a, (uA (uA (uS (uA K 3 i 0) true) 4 i (-1)) 5 i (-1)).1 3 a = if a = i then 0 else K.1 3 a := fun _ => rfl
  have e4 : ∀ a, (uA (uA (uS (uA K 3 i 0) true) 4 i (-1)) 5 i (-1)).1 4 a = if a = i then -1 else K.1 4 a := fun _ => rfl
  have e5 : ∀ a, (uA (uA (uS (uA K 3 i 0) true) 4 i (-1)) 5 i (-1)).1 5 a = if a = i then -1 else K.1 5 a := fun _ => rfl
  have g3 : ∀ a, (tA (tA (tA M 3 i 0) 4 i (-1)) 5 i (-1)).1 3 a = if a = i then 0 else M.1 3 a := fun _ => rfl
  have g4 : ∀ a, (tA (tA (tA M 3 i 0) 4 i (-1)) 5 i (-1)).1 4 a = if a = i then -1 else M.1 4 a := fun _ => rfl
  have g5 : ∀ a, (tA (tA (tA M 3 i 0) 4 i (-1)) 5 i (-1)).1 5 a = if a = i then -1 else M.1 5 a := fun _ => rfl
  have h7' : WH n r B (uA (uA (uS (uA K 3 i 0) true) 4 i (-1)) 5 i (-1)) (tA (tA (tA M 3 i 0) 4 i (-1)) 5 i (-1)) := WH_keep ⟨rfl, rfl⟩ ⟨rfl, rfl, rfl, rfl⟩ h7
  refine ⟨fun a ha => ?_, fun a ha => ?_, ⟨fun a ha j hj q => ?_, fun a ha => ?_, h3.2.2⟩, fun a ha => ?_, fun a ha => h5 a ha, h6, h7', h40, h30, fun a ha => ?_, hb⟩
  · obtain ⟨r0, r1, r2, r3, r4, r5, r6⟩ := h1 a ha
    rw [e3, e4, e5, g3, g4, g5]
    by_cases z : a = i
    · simp only [if_pos z]; exact ⟨r0, r1, r2, trivial, trivial, trivial, r6⟩
    · rw [if_neg z, if_neg z, if_neg z, if_neg z, if_neg z, if_neg z]; exact ⟨r0, r1, r2, r3, r4, r5, r6⟩
  · rw [e4, e5]
    by_cases z : a = i
    · rw [if_pos z, if_pos z]; exact ⟨Or.inl rfl, Or.inl rfl, fun _ => rfl, fun _ => rfl⟩
    · rw [if_neg z, if_neg z]; exact h2 a ha
  · rw [e4, e5]
    by_cases z : a = i
    · rw [if_pos z, if_pos z]; exact ⟨m1_ne (by omega), m1_ne (by omega)⟩
    · rw [if_neg z, if_neg z]; exact h3.1 a ha j hj q
  · rw [e4, e5]
    by_cases z : a = i
    · rw [if_pos z, if_pos z]; exact fun q => absurd rfl q
    · rw [if_neg z, if_neg z]; exact h3.2.1 a ha
  · rw [e3]
    by_cases z : a = i
    · rw [if_pos z]; exact ⟨fun _ => rfl, fun _ => rfl⟩
    · rw [if_neg z]; exact h4 a ha
  · rw [e3, e4]
    by_cases z : a = i
    · rw [if_pos z, if_pos z]; exact fun _ => rfl
    · rw [if_neg z, if_neg z]; exact hx a ha
/-! the copy -/
def Eq8 (n : Nat) (K K' : St) : Prop := (∀ i, i < n → (∀ k, k < 8 → K'.1 k i = K.1 k i) ∧ K'.2.1 i = K.2.1 i) ∧ (∀ k, k < 3 → K'.2.2.1 k = K.2.2.1 k) ∧ K'.2.2.2 = K.2.2.2
theorem cp1_at (O : St) (i : Nat) (S : St) {k : Nat} (hk : k < 8) (j : Nat) : (cp1 O i S).1 k j = if j = i then O.1 k i else S.1 k j := by
  rcases (show k = 0 ∨ k = 1 ∨ k = 2 ∨ k = 3 ∨ k = 4 ∨ k = 5 ∨ k = 6 ∨ k = 7 by omega) with rfl | rfl | rfl | rfl | rfl | rfl | rfl | rfl <;> rfl
theorem cp1_h (O : St) (i : Nat) (S : St) (j : Nat) : (cp1 O i S).2.1 j = if j = i then O.2.1 i else S.2.1 j := rfl
theorem cp_st (O S : St) : ∀ m : Nat, ∀ i, i < m → (∀ k, k < 8 → (fr (cp1 O) m S).1 k i = O.1 k i) ∧ (fr (cp1 O) m S).2.1 i = O.2.1 i
  | 0, i, hi => absurd hi (Nat.not_lt_zero _)
  | m + 1, i, hi => by
    have ih := cp_st O S m
    show (∀ k, k < 8 → (cp1 O m (fr (cp1 O) m S)).1 k i = O.1 k i) ∧ (cp1 O m (fr (cp1 O) m S)).2.1 i = O.2.1 i
    generalize fr (cp1 O) m S = X at ih ⊢
    by_cases z : i = m
    · refine ⟨fun k hk => ?_, ?_⟩
      · rw [cp1_at O m X hk, if_pos z, z]
      · rw [cp1_h, if_pos z, z]
    · refine ⟨fun k hk => ?_, ?_⟩
      · rw [cp1_at O m X hk, if_neg z]; exact (ih i (by omega)).1 k hk
      · rw [cp1_h, if_neg z]; exact (ih i (by omega)).2
theorem copy_E {n : Nat} {K : St} (D : St) (h40 : n ≤ 40) (hn : K.2.2.1 0 = nI n) : Eq8 n K (copyF D K) := by
  have h := cp_st K D n
  unfold copyF
  rw [nn_eq hn h40]
  generalize fr (cp1 K) n D = X at h ⊢
  refine ⟨h, fun k hk => ?_, rfl⟩
  rcases (show k = 0 ∨ k = 1 ∨ k = 2 by omega) with rfl | rfl | rfl <;> rfl
theorem Sm_E {n r : Nat} {B : Sr} {K K' : St} {M : Md} (he : Eq8 n K K') (h : Sm n r B K M) : Sm n r B K' M := by
  obtain ⟨e1, e2, e3⟩ := he
  obtain ⟨⟨⟨h1, h2, h3, h4, h5, h6, h7, h40, h30, hx, hb⟩, hnl, hl⟩, hs, ht⟩ := h
  have g : ∀ k i, k < 8 → i < n → K'.1 k i = K.1 k i := fun k i hk hi => (e1 i hi).1 k hk
  have gh : ∀ i, i < n → K'.2.1 i = K.2.1 i := fun i hi => (e1 i hi).2
  have hl' := hl hs
  refine ⟨⟨⟨fun i hi => ?_, fun i hi => ?_, ⟨fun i hi j hj => ?_, fun i hi => ?_, ?_⟩, fun i hi => ?_, fun i hi => ?_, h6, ⟨h7.1, fun k hk => ?_, ?_, ?_⟩, h40, h30, fun i hi => ?_, hb⟩, fun i hi => ?_, fun _ => ⟨⟨fun i hi => ?_, fun i hi => ?_, ?_, fun j hj => ?_, fun j hj q => ?_⟩, fun i hi => ?_⟩⟩, by rw [e3]; exact hs, fun i hi => ⟨?_, ?_⟩⟩
  · rw [g 0 i (by decide) hi, g 1 i (by decide) hi, g 2 i (by decide) hi, g 3 i (by decide) hi, g 4 i (by decide) hi, g 5 i (by decide) hi, gh i hi]; exact h1 i hi
  · rw [g 4 i (by decide) hi, g 5 i (by decide) hi, gh i hi]; exact h2 i hi
  · rw [g 4 i (by decide) hi, g 5 i (by decide) hi, gh j hj]; exact h3.1 i hi j hj
  · rw [g 4 i (by decide) hi, g 5 i (by decide) hi]; exact h3.2.1 i hi
  · rw [e2 0 (by decide)]; exact h3.2.2
  · rw [g 3 i (by decide) hi, gh i hi]; exact h4 i hi
  · rw [g 1 i (by decide) hi]; exact h5 i hi
  · obtain ⟨b0, b1, ⟨ja, hja, ea⟩, ⟨jb, hjb, eb⟩, b4⟩ := h7.2.1 k hk
    refine ⟨b0, b1, ⟨ja, hja, ea⟩, ⟨jb, hjb, eb⟩, ?_⟩
    rw [b4]
    unfold goneK
    rw [ea, eb, ix_nI (by omega), ix_nI (by omega), gh ja hja, gh jb hjb]
  · rw [e2 1 (by decide)]; exact h7.2.2.1
  · rw [e2 2 (by decide)]; exact h7.2.2.2
  · rw [g 3 i (by decide) hi, g 4 i (by decide) hi]; exact hx i hi
  · rw [g 3 i (by decide) hi, g 4 i (by decide) hi, gh i hi]; exact hnl i hi
  · rw [g 0 i (by decide) hi, g 1 i (by decide) hi, g 2 i (by decide) hi, g 3 i (by decide) hi, g 4 i (by decide) hi, g 5 i (by decide) hi, gh i hi]; exact hl'.1.1 i hi
  · rw [g 4 i (by decide) hi, g 5 i (by decide) hi, gh i hi]; exact h2 i hi
  · rw [e2 0 (by decide)]; exact h3.2.2
  · rw [g 7 j (by decide) hj]; exact hl'.1.2.2.2.1 j hj
  · rw [g 6 j (by decide) hj]; exact hl'.1.2.2.2.2 j hj q
  · rw [g 7 i (by decide) hi, g 1 i (by decide) hi, g 3 i (by decide) hi, gh i hi]; exact hl'.2 i hi
  · rw [g 7 i (by decide) hi, g 1 i (by decide) hi]
    rcases (ht i hi).1 with z | z
    · exact Or.inl z
    · refine Or.inr fun a ha => ?_
      rw [g 4 a (by decide) ha, g 5 a (by decide) ha]; exact z a ha
  · rw [g 6 i (by decide) hi, g 3 i (by decide) hi]; exact (ht i hi).2
theorem copy_sim {n r : Nat} {B : Sr} {K : St} {M : Md} (D : St) (h : Sm n r B K M) : Sm n r B (copyF D K) M := Sm_E (copy_E D h.1.1.h40 h.1.1.kn) h
/-! what is told -/
theorem Sm.hd {n r : Nat} {B : Sr} {K : St} {M : Md} (h : Sm n r B K M) : mHa M = K.2.2.1 1 := h.1.1.WH.2.2.1.symm
theorem has_q {n : Nat} {K : St} {M : Md} (h40 : n ≤ 40) (hk : K.2.2.1 0 = nI n) (hm : M.2.2.2 1 = nI n) (x : Int32) : mHas M x = hasB K x := by
  cases h : hasB K x with
  | true =>
    obtain ⟨j, hj, rfl⟩ := has_ix hk h40 h
    exact isIn_nI hm (by omega) hj
  | false =>
    cases h2 : mHas M x with
    | false => rfl
    | true =>
      obtain ⟨j, hj, rfl⟩ := isIn_ix hm (by omega) h2
      rw [has_nI hk h40 hj] at h
      cases h
theorem hasR_q {r : Nat} {B : Sr} {M : Md} (h30 : r ≤ 30) (hk : B.2 0 = nI r) (hm : M.2.2.2 2 = nI r) (x : Int32) : mHasR M x = hasR B x := by
  cases h : hasR B x with
  | true =>
    obtain ⟨j, hj, rfl⟩ := has_ixR hk h30 h
    exact isIn_nI hm (by omega) hj
  | false =>
    cases h2 : mHasR M x with
    | false => rfl
    | true =>
      obtain ⟨j, hj, rfl⟩ := isIn_ix hm (by omega) h2
      rw [has_nIR hk h30 hj] at h
      cases h
theorem fr_eq {σ : Type} {f g : Nat → σ → σ} : ∀ (n : Nat) (s : σ), (∀ i s, i < n → f i s = g i s) → fr f n s = fr g n s
  | 0, _, _ => rfl
  | n + 1, s, h => by
    show f n (fr f n s) = g n (fr g n s)
    rw [fr_eq n s (fun i s hi => h i s (by omega)), h n _ (by omega)]
/-- nobody pulls at a fallen stone -/
theorem pull_0 {n r : Nat} {B : Sr} {K : St} {M : Md} (h : Sm n r B K M) {i : Nat} (hi : i < n) (hh : K.2.1 i = false) : K.1 7 i = 0 := by
  obtain ⟨⟨h1, hnl, hl⟩, hs, ht⟩ := h
  obtain ⟨-, -, -, d, -⟩ := (hl hs).1
  obtain ⟨-, -, -, d2, -⟩ := PL_measure h1.h40 h1.1 h1.2.1 h1.kn h1.mn
  obtain ⟨-, -, -, z⟩ := MZ_measure h1.h40 h1.2.1 h1.2.2.1.1 h1.kn
  rw [d i hi, ← d2 i hi]
  exact z i hi (by rw [(measure_k (k := 0) (by decide) (by decide) K).2]; exact hh)
theorem load_q {n r : Nat} {B : Sr} {K : St} {M : Md} (h : Sm n r B K M) {i : Nat} (hi : i < n) : (mRk M).2.2.1 1 i = K.1 6 i ∧ (mRk M).2.2.1 2 i = K.1 7 i := by
  obtain ⟨⟨h1, hnl, hl⟩, hs, ht⟩ := h
  obtain ⟨-, -, -, d, e⟩ := (hl hs).1
  exact ⟨(e i hi (Nat.zero_le _)).symm, (d i hi).symm⟩
theorem gone_q {n r : Nat} {B : Sr} {K : St} {M : Md} (h : Pr n r B K M) {k : Nat} (hk : k < r) : bI (goneR B K (nI k)) = M.2.1 2 k := by
  obtain ⟨b0, b1, ⟨ja, hja, ea⟩, ⟨jb, hjb, eb⟩, b4⟩ := h.WH.2.1 k hk
  have h40 := h.h40
  have h30 := h.h30
  rw [b4]
  unfold goneR goneK hangsB
  rw [has_nIR h.br h30 hk, ix_nI (by omega), b0, b1, ea, eb, has_nI h.kn h40 hja, has_nI h.kn h40 hjb]
  simp
theorem sky_q {n r : Nat} {B : Sr} {K : St} {M : Md} (h : Sm n r B K M) (w : Nat) (hw : w < 8) (hl : w = 7 → ∀ i, i < n → K.1 6 i = M.2.2.1 1 i) : mCt M w = cSky K B w := by
  have hp := h.1.1
  have h40 := hp.h40
  have h30 := hp.h30
  have eN : mN M = n := mN_eq hp.mn h40
  have eK : nn K = n := nn_eq hp.kn h40
  have hR : ∀ i, i < n → mHg M i = K.2.1 i := fun i hi => mHg_b hp.1 hi
  have hz : ∀ i, i < n → K.2.1 i = false → K.1 3 i = 0 := fun i hi q => (hp.2.2.2.1 i hi).1 q
  rcases (show w = 0 ∨ w = 1 ∨ w = 2 ∨ w = 3 ∨ w = 4 ∨ w = 5 ∨ w = 6 ∨ w = 7 by omega) with rfl | rfl | rfl | rfl | rfl | rfl | rfl | rfl
  · exact hp.WH.2.2.2.symm
  · exact hp.mn.trans hp.kn.symm
  · refine Eq.trans ?_ h.hd
    show fr (mc1 M 2) (mN M) 0 = fr (mHa1 M) (mN M) 0
    rw [eN]
    refine fr_eq n 0 fun i s hi => ?_
    unfold mc1 mHa1
    rw [hR i hi, ← (hp.1 i hi).2.2.1]
    cases K.2.1 i with
    | true => rw [if_pos rfl, if_pos rfl]; rfl
    | false => rw [if_neg (by decide)]; exact (Int32.add_zero s).symm
  · show fr (mc1 M 3) (mN M) 0 = fr (cSp1 K) (nn K) 0
    rw [eN, eK]
    refine fr_eq n 0 fun i s hi => ?_
    unfold mc1 cSp1
    rw [hR i hi, ← (hp.1 i hi).2.2.2.1]
    cases q : K.2.1 i with
    | true => rw [if_pos rfl]; rfl
    | false => rw [if_neg (by decide), hz i hi q]; exact (Int32.add_zero s).symm
  · show fr (mk4 M) (mR M) 0 = fr (left1 B K) (ix (B.2 0)) 0
    rw [mR_eq hp.mr h30, r_eq hp.br h30]
    refine fr_eq r 0 fun k s hk => ?_
    unfold mk4 left1
    rw [← gone_q hp hk]
    cases goneR B K (nI k) <;> rfl
  · show fr (mc1 M 5) (mN M) 0 = fr (sPw1 K) (nn K) 0
    rw [eN, eK]
    refine fr_eq n 0 fun i s hi => ?_
    unfold mc1 sPw1
    rw [hR i hi, ← (hp.1 i hi).2.2.2.1]
    cases q : K.2.1 i with
    | true => rw [if_pos rfl]; rfl
    | false => rw [if_neg (by decide), hz i hi q]; exact (Int32.add_zero s).symm
  · show fr (mc1 M 6) (mN M) 0 = fr (sPr1 K) (nn K) 0
    rw [eN, eK]
    refine fr_eq n 0 fun i s hi => ?_
    unfold mc1 sPr1
    rw [hR i hi, ← (hp.1 i hi).2.2.2.2.2.2]
    cases q : K.2.1 i with
    | true => rw [if_pos rfl]; rfl
    | false => rw [if_neg (by decide)]; exact (Int32.add_zero s).symm
  · show fr (mc1 M 7) (mN M) 0 = fr (sSl1 K) (nn K) 0
    rw [eN, eK]
    refine fr_eq n 0 fun i s hi => ?_
    unfold mc1 sSl1
    rw [hR i hi, ← (hp.1 i hi).2.2.2.1, ← hl rfl i hi]
    cases q : K.2.1 i with
    | true => rw [if_pos rfl]; rfl
    | false => rw [if_neg (by decide), hz i hi q]; exact (Int32.add_zero s).symm
theorem held_q {n r : Nat} {B : Sr} {K : St} {M : Md} (h : Sm n r B K M) {i : Nat} (hi : i < n) : (if mHg M i then mHf M i else 0) = heldBy K (nI i) := by
  have hp := h.1.1
  have h40 := hp.h40
  have key : ∀ a, a < n → ¬ (i < a ∧ K.2.1 a = true ∧ K.2.1 i = true) → ∀ s, held1 K (nI i) a s = s := fun a ha hn s => by
    obtain ⟨o4, o5, f4, f5⟩ := hp.2.1 a ha
    have no : ∀ y : Int32, (y = K.1 4 a ∨ y = K.1 5 a) → okH a y → ¬ y = nI i := fun y hy ho q => by
      rcases ho with e | ⟨j, hj, e⟩
      · exact nI_m1 (by omega) (q.symm.trans e)
      · have ej : j = i := (nI_eq (by omega) (by omega)).mp (e.symm.trans q)
        rw [ej] at hj
        cases z : K.2.1 i with
        | false =>
          have := hp.2.2.1.1 a ha i hi z
          rcases hy with e' | e'
          · exact this.1 (e' ▸ q)
          · exact this.2 (e' ▸ q)
        | true =>
          cases z2 : K.2.1 a with
          | true => exact hn ⟨hj, z2, z⟩
          | false =>
            have a4 := f4 z2
            have a5 := f5 a4
            rcases hy with e' | e'
            · exact nI_m1 (by omega) (q.symm.trans (e'.trans a4))
            · exact nI_m1 (by omega) (q.symm.trans (e'.trans a5))
    unfold held1
    rw [if_neg (no _ (Or.inl rfl) o4), if_neg (no _ (Or.inr rfl) o5)]
  have eR : heldBy K (nI i) = frA (held1 K (nI i)) (i + 1) (n - (i + 1)) 0 := by
    have e := fr_frA (held1 K (nI i)) (n - (i + 1)) (i + 1) 0
    rw [show i + 1 + (n - (i + 1)) = n by omega, fr_id (i + 1) (fun a ha => key a (by omega) (fun q => by omega) 0)] at e
    unfold heldBy
    rw [nn_eq hp.kn h40, e]
  rw [mHg_b hp.1 hi, eR]
  cases z : K.2.1 i with
  | true =>
    rw [if_pos rfl]
    unfold mHf
    rw [mN_eq hp.mn h40]
    refine frA_rel (fun (s t : Int32) => s = t) n (n - (i + 1)) (i + 1) 0 0 (by omega) (fun a s t ha hn q => ?_) rfl
    rw [q]
    unfold mhf1 heldB
    rw [mHg_b hp.1 hn, ← (hp.1 a hn).2.2.2.2.1, ← (hp.1 a hn).2.2.2.2.2.1]
    cases z2 : K.2.1 a with
    | false =>
      rw [key a hn (fun y => by rw [z2] at y; cases y.2.1)]
      simp
    | true =>
      unfold held1
      by_cases y4 : K.1 4 a = nI i
      · rw [if_pos y4]; simp [y4]
      · rw [if_neg y4]
        by_cases y5 : K.1 5 a = nI i
        · rw [if_pos y5]; simp [y5]
        · rw [if_neg y5]; simp [y4, y5]
  | false =>
    rw [if_neg (by decide)]
    have : ∀ k a, a + k ≤ n → frA (held1 K (nI i)) a k (0 : Int32) = 0 := by
      intro k
      induction k with
      | zero => intro a _; rfl
      | succ k ih =>
        intro a ha
        show frA (held1 K (nI i)) (a + 1) k (held1 K (nI i) a 0) = 0
        rw [key a (by omega) (fun y => by rw [z] at y; cases y.2.2)]
        exact ih (a + 1) (by omega)
    exact (this _ _ (by omega)).symm
theorem told_q {n r : Nat} {B : Sr} {K : St} {M : Md} (h : Sm n r B K M) {i w : Nat} (hi : i < n) (hw : w < 10) : mTold (mRk M) i w = tell K (nI i) (nI w) := by
  have h' : Sm n r B K (mRk M) := Sm_q (Mq_Rk M) h
  have hp := h'.1.1
  have h40 := hp.h40
  obtain ⟨l6, l7⟩ := load_q h hi
  obtain ⟨r0, r1, r2, r3, r4, r5, r6⟩ := hp.1 i hi
  have hh := held_q h' hi
  have hg : mHg (mRk M) i = K.2.1 i := mHg_b hp.1 hi
  unfold tell
  rw [if_pos (has_nI hp.kn h40 hi), show ix (nI w) = w from ix_nI (by omega)]
  rcases (show w = 0 ∨ w = 1 ∨ w = 2 ∨ w = 3 ∨ w = 4 ∨ w = 5 ∨ w = 6 ∨ w = 7 ∨ w = 8 ∨ w = 9 by omega) with rfl | rfl | rfl | rfl | rfl | rfl | rfl | rfl | rfl | rfl
  · show (mRk M).1 0 i = K.1 0 (ix (nI i)); rw [ix_nI (by omega), r0]
  · show (mRk M).1 1 i = K.1 1 (ix (nI i)); rw [ix_nI (by omega), r1]
  · show (mRk M).1 2 i = bI (K.2.1 (ix (nI i))); rw [ix_nI (by omega), r2]
  · show (mRk M).1 3 i = K.1 3 (ix (nI i)); rw [ix_nI (by omega), r3]
  · show (mRk M).1 4 i = K.1 4 (ix (nI i)); rw [ix_nI (by omega), r4]
  · show (mRk M).1 5 i = K.1 5 (ix (nI i)); rw [ix_nI (by omega), r5]
  · show (mRk M).1 6 i = K.1 2 (ix (nI i)); rw [ix_nI (by omega), r6]
  · show (mRk M).2.2.1 1 i = K.1 6 (ix (nI i)); rw [ix_nI (by omega), l6]
  · show (if mHg (mRk M) i then (mRk M).2.2.1 2 i else 0) = K.1 7 (ix (nI i))
    rw [ix_nI (by omega), hg, l7]
    cases z : K.2.1 i with
    | true => rw [if_pos rfl]
    | false => rw [if_neg (by decide), pull_0 h hi z]
  · exact hh
theorem topN_q {n r : Nat} {B : Sr} {K : St} {M : Md} (h : Sm n r B K M) : ∀ (k i : Nat), i < k → i < n → K.2.1 i = true → topN k K (nI i) = nI (mUp k M i)
  | 0, _, hk, _, _ => absurd hk (Nat.not_lt_zero _)
  | k + 1, i, hk, hi, hh => by
    have hp := h.1.1
    have h40 := hp.h40
    unfold topN mUp
    rw [if_pos (has_nI hp.kn h40 hi), ix_nI (by omega), ← (hp.1 i hi).2.2.2.2.1]
    obtain ⟨o4, -, -, -⟩ := hp.2.1 i hi
    have hx := hp.2.2.2.2.2.2.2.2.2.1 i hi
    by_cases e4 : K.1 4 i = -1
    · rw [if_pos e4, if_neg]
      intro q
      rcases h.1.2.1 i hi hh with y | y
      · exact absurd y (Int32.not_lt.mpr q)
      · exact y e4
    · rw [if_neg e4, if_pos (Int32.not_lt.mp (fun q => e4 (hx q)))]
      obtain ⟨j, hj, q4⟩ := okH_j o4 e4
      rw [q4, ix_nI (by omega)]
      refine topN_q h k j (by omega) (by omega) ?_
      cases z : K.2.1 j with
      | true => rfl
      | false => exact absurd q4 (hp.2.2.1.1 i hi j (by omega) z).1
theorem top_fallen {n r : Nat} {B : Sr} {K : St} {M : Md} (h : Sm n r B K M) {i : Nat} (hi : i < n) (hh : K.2.1 i = false) (k : Nat) : topN (k + 2) K (nI i) = -1 := by
  have hp := h.1.1
  have h40 := hp.h40
  unfold topN
  rw [if_pos (has_nI hp.kn h40 hi), ix_nI (by omega), (hp.2.2.2.1 i hi).1 hh, if_pos (by decide), (hp.2.1 i hi).2.2.1 hh]
  unfold topN hasB
  rw [show decide ((-1 : Int32) < 0) = true by decide]
  simp
