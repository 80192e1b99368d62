/-! the methods' answers: conjure, hang, prop, renew -/
def SK (n : Nat) (K : St) : Prop := ∀ j, K.1 2 j ≤ 60 ∧ (n ≤ j → K.1 2 j = 0 ∧ K.1 3 j = 0)
theorem SK_Sd {n : Nat} {K K' : St} (hs : Sd K K') (h : SK n K) : SK n K' := fun j => by
  obtain ⟨-, -, a2, -, -, a5⟩ := hs
  rw [a2]
  refine ⟨(h j).1, fun hj => ⟨((h j).2 hj).1, ?_⟩⟩
  rcases (a5 j).1 with q | q
  · rw [q]; exact ((h j).2 hj).2
  · exact q
/-- the class's object and the reference's, between two calls -/
def Si (n r : Nat) (B : Sr) (K : St) (M : Md) : Prop := Sm n r B K M ∧ SK n K
def eI : String := "java/lang/IndexOutOfBoundsException"
def eS : String := "java/lang/IllegalStateException"
/-- the number that tells which exception came: the first, the second, another -/
def kc (a b : String) (o : Option String) : Int32 := match o with
  | none => 0
  | some x => if x = a then 1 else if x = b then 2 else 3
theorem kc_AS1 : kc eA eS (some "java/lang/IllegalArgumentException") = 1 := by decide
theorem kc_AS2 : kc eA eS (some "java/lang/IllegalStateException") = 2 := by decide
theorem kc_AI1 : kc eA eI (some "java/lang/IllegalArgumentException") = 1 := by decide
theorem kc_AI2 : kc eA eI (some "java/lang/IndexOutOfBoundsException") = 2 := by decide
theorem kc_AI3 : kc eA eI (some "java/lang/IllegalStateException") = 3 := by decide
theorem kc_IA1 : kc eI eA (some "java/lang/IndexOutOfBoundsException") = 1 := by decide
theorem kc_IA2 : kc eI eA (some "java/lang/IllegalArgumentException") = 2 := by decide
theorem kc_IA3 : kc eI eA (some "java/lang/IllegalStateException") = 3 := by decide
theorem Si_q {n r : Nat} {B : Sr} {K : St} {M M' : Md} (hq : Mq M M') (h : Si n r B K M) : Si n r B K M' := ⟨Sm_q hq h.1, h.2⟩
theorem isInB_ge {v lo hi : Int32} (h : isInB v lo hi = true) : lo ≤ v ∧ v ≤ hi := by
  simp only [isInB, Bool.and_eq_true, Bool.not_eq_true', decide_eq_false_iff_not] at h
  exact ⟨Int32.not_lt.mp h.1, Int32.not_lt.mp h.2⟩
theorem full_q {n : Nat} {K : St} {M : Md} (h40 : n ≤ 40) (hk : K.2.2.1 0 = nI n) (hm : M.2.2.2 1 = nI n) : isFullB K = decide (M.2.2.2 1 = 40) := by
  unfold isFullB
  rw [hk, hm]
  by_cases z : n = 40
  · rw [z]; decide
  · have h1 : nI n < 40 := nI_lt (a := n) (b := 40) (by omega) (by omega)
    have h2 : ¬ nI n = 40 := fun q => z ((nI_eq (a := n) (b := 40) (by omega) (by omega)).mp q)
    simp [h1, h2]
/-- one stone more -/
theorem Cr_new {n r : Nat} {B : Sr} {K K1 : St} {M : Md} {w t p f o : Int32} (hS : Sm n r B K M) (hl : n < 40) (e0 : ∀ j, K1.1 0 j = if j = n then w else K.1 0 j) (e1 : ∀ j, K1.1 1 j = if j = n then t else K.1 1 j) (e2 : ∀ j, K1.1 2 j = if j = n then 0 else K.1 2 j) (e3 : ∀ j, K1.1 3 j = if j = n then p else K.1 3 j) (e4 : ∀ j, K1.1 4 j = if j = n then f else K.1 4 j) (e5 : ∀ j, K1.1 5 j = if j = n then o else K.1 5 j) (eh : ∀ j, K1.2.1 j = if j = n then true else K.2.1 j) (en : K1.2.2.1 0 = nI (n + 1)) (ec : K1.2.2.1 1 = K.2.2.1 1 + 1) (ed : K1.2.2.1 2 = K.2.2.1 2) (es : K1.2.2.2 = true) (c4 : okH n f) (c5 : okH n o) (cf : f = -1 → o = -1) (cd : ¬ f = -1 → ¬ f = o) (cn4 : ∀ j, j < n → f = nI j → K.2.1 j = true) (cn5 : ∀ j, j < n → o = nI j → K.2.1 j = true) (cp : p ≤ 0 → p = 0) (cx : 0 < p → f = -1) (cl : 0 < p ∨ ¬ f = -1) (ct : 0 ≤ t) : Cr (n + 1) r B K1 (mNew M n w t p f o) := by
  obtain ⟨⟨⟨h1, h2, h3, h4, h5, h6, h7, h40, h30, hx, hb⟩, hnl, hl'⟩, hs, ht⟩ := hS
  have m0 : ∀ k i, (mNew M n w t p f o).1 k i = if i = n then s7 w t p f o k else M.1 k i := fun _ _ => rfl
  have lift : ∀ x : Int32, okH n x → ∀ i, n ≤ i → okH i x := fun x hx i hi => by
    rcases hx with e | ⟨j, hj, e⟩
    · exact Or.inl e
    · exact Or.inr ⟨j, by omega, e⟩
  refine ⟨⟨fun i hi => ?_, fun i hi => ?_, ⟨fun i hi j hj q => ?_, fun i hi => ?_, en⟩, fun i hi => ?_, fun i hi => ?_, rfl, ⟨h7.1, fun k hk => ?_, ?_, ?_⟩, hl, h30, fun i hi => ?_, hb⟩, fun i hi => ?_, fun q => by rw [es] at q; cases q⟩
  · rw [m0, m0, m0, m0, m0, m0, m0, e0, e1, e2, e3, e4, e5, eh]
    by_cases z : i = n
    · simp only [if_pos z]; exact ⟨rfl, rfl, rfl, rfl, rfl, rfl, rfl⟩
    · simp only [if_neg z]; exact h1 i (by omega)
  · rw [e4, e5, eh]
    by_cases z : i = n
    · simp only [if_pos z]; rw [z]; exact ⟨c4, c5, fun q => (by cases q), cf⟩
    · simp only [if_neg z]; exact h2 i (by omega)
  · rw [eh] at q
    have hjn : ¬ j = n := fun z => by rw [if_pos z] at q; cases q
    rw [if_neg hjn] at q
    rw [e4, e5]
    by_cases z : i = n
    · rw [if_pos z, if_pos z]
      exact ⟨fun y => (by rw [cn4 j (by omega) y] at q; cases q), fun y => (by rw [cn5 j (by omega) y] at q; cases q)⟩
    · rw [if_neg z, if_neg z]; exact h3.1 i (by omega) j (by omega) q
  · rw [e4, e5]
    by_cases z : i = n
    · rw [if_pos z, if_pos z]; exact cd
    · rw [if_neg z, if_neg z]; exact h3.2.1 i (by omega)
  · rw [eh, e3]
    by_cases z : i = n
    · rw [if_pos z, if_pos z]; exact ⟨fun q => (by cases q), cp⟩
    · rw [if_neg z, if_neg z]; exact h4 i (by omega)
  · rw [e1]
    by_cases z : i = n
    · rw [if_pos z]; exact ct
    · rw [if_neg z]; exact h5 i (by omega)
  · obtain ⟨b0, b1, ⟨ja, hja, ea⟩, ⟨jb, hjb, eb⟩, b4⟩ := h7.2.1 k hk
    refine ⟨b0, b1, ⟨ja, by omega, ea⟩, ⟨jb, by omega, eb⟩, ?_⟩
    show M.2.1 2 k = bI (goneK K1 (M.2.1 0 k) (M.2.1 1 k))
    rw [b4]
    unfold goneK
    rw [ea, eb, ix_nI (by omega), ix_nI (by omega), eh, eh, if_neg (by omega), if_neg (by omega)]
  · rw [ec, h7.2.2.1, mHa_sI, mHa_sI]
    have en1 : mN (mNew M n w t p f o) = n + 1 := mN_eq (M := mNew M n w t p f o) (n := n + 1) rfl (by omega)
    rw [en1, mN_eq h6 h40, sI_s, m0, if_pos rfl]
    have : sI ((mNew M n w t p f o).1 2) n = sI (M.1 2) n := sI_congr n fun i hi => by rw [m0, if_neg (by omega)]
    rw [this]
    rfl
  · rw [ed]; exact h7.2.2.2
  · rw [e3, e4]
    by_cases z : i = n
    · rw [if_pos z, if_pos z]; exact cx
    · rw [if_neg z, if_neg z]; exact hx i (by omega)
  · rw [eh, e3, e4]
    by_cases z : i = n
    · simp only [if_pos z]; exact fun _ => cl
    · simp only [if_neg z]; exact hnl i (by omega)
theorem SK_new {n : Nat} {K K1 : St} (h : SK n K) (h2 : ∀ j, K1.1 2 j = if j = n then 0 else K.1 2 j) {p : Int32} (h3 : ∀ j, K1.1 3 j = if j = n then p else K.1 3 j) : SK (n + 1) K1 := fun j => by
  rw [h2, h3]
  by_cases z : j = n
  · rw [if_pos z]; exact ⟨by decide, fun q => by omega⟩
  · rw [if_neg z, if_neg z]; exact ⟨(h j).1, fun q => (h j).2 (by omega)⟩
theorem addH_at {n : Nat} {K : St} (hz : K.1 2 n = 0 ∧ K.1 3 n = 0) (w t f o : Int32) : (∀ j, (addH K n w t f o).1 0 j = if j = n then w else K.1 0 j) ∧ (∀ j, (addH K n w t f o).1 1 j = if j = n then t else K.1 1 j) ∧ (∀ j, (addH K n w t f o).1 2 j = if j = n then 0 else K.1 2 j) ∧ (∀ j, (addH K n w t f o).1 3 j = if j = n then 0 else K.1 3 j) ∧ (∀ j, (addH K n w t f o).1 4 j = if j = n then f else K.1 4 j) ∧ (∀ j, (addH K n w t f o).1 5 j = if j = n then o else K.1 5 j) ∧ (∀ j, (addH K n w t f o).2.1 j = if j = n then true else K.2.1 j) ∧ (addH K n w t f o).2.2.1 0 = nI (n + 1) ∧ (addH K n w t f o).2.2.1 1 = K.2.2.1 1 + 1 ∧ (addH K n w t f o).2.2.1 2 = K.2.2.1 2 ∧ (addH K n w t f o).2.2.2 = true := by
  refine ⟨fun _ => rfl, fun _ => rfl, fun j => ?_, fun j => ?_, fun _ => rfl, fun _ => rfl, fun _ => rfl, nI_1 n, rfl, rfl, rfl⟩
  · show K.1 2 j = _
    split
    · rename_i z; rw [z]; exact hz.1
    · rfl
  · show K.1 3 j = _
    split
    · rename_i z; rw [z]; exact hz.2
    · rfl
theorem conj_q {n r : Nat} {B : Sr} {K : St} {M : Md} (h : Si n r B K M) (w t q : Int32) : (mConj M w t q).1.2.2.2 0 = kc eA eS (cConj K w t q).1 ∧ ((cConj K w t q).1 = none → (mConj M w t q).2 = (cConj K w t q).2.1) ∧ ∃ n', Si n' r B (cConj K w t q).2.2 (mConj M w t q).1 := by
  obtain ⟨hS, hK⟩ := h
  have hS0 : Sm n r B K (mI M 0 0) := Sm_q (Mq_mI M 0) hS
  have hp := hS.1.1
  have h40 := hp.h40
  have hf := full_q h40 hp.kn hp.mn
  unfold mConj cConj
  by_cases hc : (isInB w 1 20 && isInB t 1 60 && isInB q 1 200) = true
  · rw [if_pos hc, if_pos hc]
    by_cases hz : M.2.2.2 1 = 40
    · rw [if_pos hz, if_pos (by rw [hf]; simp [hz])]
      exact ⟨kc_AS2.symm, fun q => (by cases q), n, Sm_q (Mq_mI _ 2) hS0, hK⟩
    · rw [if_neg hz, if_neg (by rw [hf]; simp [hz])]
      have hl : n < 40 := by
        rcases Nat.lt_or_ge n 40 with y | y
        · exact y
        · exact absurd (by rw [hp.mn, show n = 40 by omega]; rfl) hz
      simp only [Bool.and_eq_true] at hc
      have c1 := isInB_ge hc.1.1
      have c2 := isInB_ge hc.1.2
      have c3 := isInB_ge hc.2
      have p0 : 0 < q := Int32.lt_of_lt_of_le (by decide) c3.1
      rw [nn_eq hp.kn h40, mN_eq hp.mn h40]
      obtain ⟨a0, a1, a2, a3, a4, a5, ah, an, ac, ad, as⟩ := addH_at ((hK n).2 (Nat.le_refl n)) w t (-1) (-1)
      have b3 : ∀ j, (addP K n w t q).1 3 j = if j = n then q else K.1 3 j := fun j => by
        show (if j = n then q else (addH K n w t (-1) (-1)).1 3 j) = _
        by_cases z : j = n
        · rw [if_pos z, if_pos z]
        · rw [if_neg z, if_neg z, a3, if_neg z]
      have hCr : Cr (n + 1) r B (addP K n w t q) (mNew (mI M 0 0) n w t q (-1) (-1)) := Cr_new hS0 hl a0 a1 a2 b3 a4 a5 ah an ac ad as (Or.inl rfl) (Or.inl rfl) (fun _ => rfl) (fun z => absurd rfl z) (fun j hj z => absurd z (m1_ne (by omega))) (fun j hj z => absurd z (m1_ne (by omega))) (fun z => absurd p0 (Int32.not_lt.mpr z)) (fun _ => rfl) (Or.inl p0) (Int32.le_trans (by decide) c2.1)
      have hSK : SK (n + 1) (giveWay (addP K n w t q)) := SK_Sd (Sd_giveWay _) (SK_new hK a2 b3)
      have hG := gv_sim hCr
      have ht : (mGv (mNew (mI M 0 0) n w t q (-1) (-1))).2.2.2 0 = 0 := congrFun (mi_Gv (mNew (mI M 0 0) n w t q (-1) (-1))) 0
      unfold mStone
      generalize giveWay (addP K n w t q) = K' at hG hSK ⊢
      generalize mGv (mNew (mI M 0 0) n w t q (-1) (-1)) = M' at hG ht ⊢
      exact ⟨ht, fun _ => rfl, n + 1, hG, hSK⟩
  · rw [if_neg hc, if_neg hc]
    exact ⟨kc_AS1.symm, fun q => (by cases q), n, Sm_q (Mq_mI _ 1) hS0, hK⟩
theorem hangs_q {n r : Nat} {B : Sr} {K : St} {M : Md} (h : Sm n r B K M) {x : Int32} (hx : hasB K x = true) : mHg M (ix x) = hangsB K x := by
  obtain ⟨j, hj, rfl⟩ := has_ix h.1.1.kn h.1.1.h40 hx
  have h40 := h.1.1.h40
  unfold hangsB
  rw [hx, ix_nI (by omega), mHg_b h.1.1.1 hj]
  rfl
theorem hang_q {n r : Nat} {B : Sr} {K : St} {M : Md} (h : Si n r B K M) (w t f o : Int32) : (mHang M w t f o).1.2.2.2 0 = kc eA eI (cHang K w t f o).1 ∧ ((cHang K w t f o).1 = none → (mHang M w t f o).2 = (cHang K w t f o).2.1) ∧ ∃ n', Si n' r B (cHang K w t f o).2.2 (mHang M w t f o).1 := by
  obtain ⟨hS, hK⟩ := h
  have hS0 : Sm n r B K (mI M 0 0) := Sm_q (Mq_mI M 0) hS
  have hp := hS.1.1
  have h40 := hp.h40
  have hf := full_q h40 hp.kn hp.mn
  unfold mHang cHang
  by_cases hc : (isInB w 1 20 && isInB t 1 60) = false ∨ f = o
  · have hc' : isInB w 1 20 = false ∨ isInB t 1 60 = false ∨ f = o := by
      rcases hc with z | z
      · cases z1 : isInB w 1 20 with
        | false => exact Or.inl rfl
        | true => rw [z1] at z; exact Or.inr (Or.inl z)
      · exact Or.inr (Or.inr z)
    rw [if_pos hc, if_pos hc']
    exact ⟨kc_AI1.symm, fun q => (by cases q), n, Sm_q (Mq_mI _ 1) hS0, hK⟩
  · have c1 : isInB w 1 20 = true := by
      cases z : isInB w 1 20 with
      | true => rfl
      | false => exact absurd (Or.inl (by rw [z]; rfl)) hc
    have c2 : isInB t 1 60 = true := by
      cases z : isInB t 1 60 with
      | true => rfl
      | false => exact absurd (Or.inl (by rw [z, c1]; rfl)) hc
    have c3 : ¬ f = o := fun z => hc (Or.inr z)
    rw [if_neg hc, if_neg (by rw [c1, c2]; simp [c3]), has_q h40 hp.kn hS0.1.1.mn, has_q h40 hp.kn hS0.1.1.mn]
    by_cases hd : hasB K f = false ∨ ¬ o = -1 ∧ hasB K o = false
    · rw [if_pos hd, if_pos hd]
      exact ⟨kc_AI2.symm, fun q => (by cases q), n, Sm_q (Mq_mI _ 2) hS0, hK⟩
    · rw [if_neg hd, if_neg hd]
      have d1 : hasB K f = true := by
        cases z : hasB K f with
        | true => rfl
        | false => exact absurd (Or.inl z) hd
      have d2 : ¬ o = -1 → hasB K o = true := fun y => by
        cases z : hasB K o with
        | true => rfl
        | false => exact absurd (Or.inr ⟨y, z⟩) hd
      have g1 := hangs_q hS0 d1
      have g2 : ¬ o = -1 → mHg (mI M 0 0) (ix o) = hangsB K o := fun y => hangs_q hS0 (d2 y)
      have hiff : (M.2.2.2 1 = 40 ∨ mHg (mI M 0 0) (ix f) = false ∨ ¬ o = -1 ∧ mHg (mI M 0 0) (ix o) = false) ↔ (isFullB K = true ∨ hangsB K f = false ∨ ¬ o = -1 ∧ hangsB K o = false) := by
        rw [hf, g1, decide_eq_true_iff]
        constructor
        · rintro (z | z | z)
          · exact Or.inl z
          · exact Or.inr (Or.inl z)
          · exact Or.inr (Or.inr ⟨z.1, by rw [← g2 z.1]; exact z.2⟩)
        · rintro (z | z | z)
          · exact Or.inl z
          · exact Or.inr (Or.inl z)
          · exact Or.inr (Or.inr ⟨z.1, by rw [g2 z.1]; exact z.2⟩)
      by_cases he : isFullB K = true ∨ hangsB K f = false ∨ ¬ o = -1 ∧ hangsB K o = false
      · rw [if_pos he, if_pos (hiff.mpr he)]
        exact ⟨kc_AI3.symm, fun q => (by cases q), n, Sm_q (Mq_mI _ 3) hS0, hK⟩
      · rw [if_neg he, if_neg (fun z => he (hiff.mp z))]
        have hz : ¬ M.2.2.2 1 = 40 := fun z => he (Or.inl (by rw [hf]; simp [z]))
        have hl : n < 40 := by
          rcases Nat.lt_or_ge n 40 with y | y
          · exact y
          · exact absurd (by rw [hp.mn, show n = 40 by omega]; rfl) hz
        have e1 : hangsB K f = true := by
          cases z : hangsB K f with
          | true => rfl
          | false => exact absurd (Or.inr (Or.inl z)) he
        have e2 : ¬ o = -1 → hangsB K o = true := fun y => by
          cases z : hangsB K o with
          | true => rfl
          | false => exact absurd (Or.inr (Or.inr ⟨y, z⟩)) he
        obtain ⟨jf, hjf, rfl⟩ := has_ix hp.kn h40 d1
        have k1 : K.2.1 jf = true := by
          unfold hangsB at e1
          rw [d1, ix_nI (by omega)] at e1
          exact e1
        have ho : okH n o ∧ ∀ j, j < n → o = nI j → K.2.1 j = true := by
          by_cases y : o = -1
          · exact ⟨Or.inl y, fun j hj z => absurd (y.symm.trans z) (m1_ne (by omega))⟩
          · obtain ⟨jo, hjo, rfl⟩ := has_ix hp.kn h40 (d2 y)
            refine ⟨Or.inr ⟨jo, hjo, rfl⟩, fun j hj z => ?_⟩
            have ej := (nI_eq (by omega) (by omega)).mp z
            have e2' := e2 y
            unfold hangsB at e2'
            rw [d2 y, ix_nI (by omega), ej] at e2'
            exact e2'
        rw [nn_eq hp.kn h40, mN_eq hp.mn h40]
        obtain ⟨a0, a1, a2, a3, a4, a5, ah, an, ac, ad, as⟩ := addH_at ((hK n).2 (Nat.le_refl n)) w t (nI jf) o
        have nf : ¬ nI jf = -1 := nI_m1 (by omega)
        have hCr : Cr (n + 1) r B (addH K n w t (nI jf) o) (mNew (mI M 0 0) n w t 0 (nI jf) o) := Cr_new hS0 hl a0 a1 a2 a3 a4 a5 ah an ac ad as (Or.inr ⟨jf, hjf, rfl⟩) ho.1 (fun z => absurd z nf) (fun _ => c3) (fun j hj z => by rw [← (nI_eq (by omega) (by omega)).mp z]; exact k1) ho.2 (fun _ => rfl) (fun z => absurd z (by decide)) (Or.inr nf) (Int32.le_trans (by decide) (isInB_ge c2).1)
        have hSK : SK (n + 1) (giveWay (addH K n w t (nI jf) o)) := SK_Sd (Sd_giveWay _) (SK_new hK a2 a3)
        have hG := gv_sim hCr
        have ht : (mGv (mNew (mI M 0 0) n w t 0 (nI jf) o)).2.2.2 0 = 0 := congrFun (mi_Gv (mNew (mI M 0 0) n w t 0 (nI jf) o)) 0
        unfold mStone
        generalize giveWay (addH K n w t (nI jf) o) = K' at hG hSK ⊢
        generalize mGv (mNew (mI M 0 0) n w t 0 (nI jf) o) = M' at hG ht ⊢
        exact ⟨ht, fun _ => rfl, n + 1, hG, hSK⟩
theorem Cr_prop {n r i : Nat} {B : Sr} {K : St} {M : Md} (v : Int32) (h : Sm n r B K M) : Cr n r B (uS (uA K 2 i v) true) (tA M 6 i v) := by
  obtain ⟨⟨⟨h1, h2, h3, h4, h5, h6, h7, h40, h30, hx, hb⟩, hnl, -⟩, -, -⟩ := h
  have h7' : WH n r B (uS (uA K 2 i v) true) (tA M 6 i v) := WH_keep ⟨rfl, rfl⟩ ⟨rfl, rfl, rfl, rfl⟩ h7
  refine ⟨⟨fun a ha => ?_, h2, h3, h4, h5, h6, h7', h40, h30, hx, hb⟩, hnl, fun q => by cases q⟩
  obtain ⟨r0, r1, r2, r3, r4, r5, r6⟩ := h1 a ha
  refine ⟨r0, r1, r2, r3, r4, r5, ?_⟩
  show (if a = i then v else K.1 2 a) = (if a = i then v else M.1 6 a)
  rw [r6]
theorem SK_prop {n i : Nat} {K : St} {v : Int32} (hi : i < n) (hv : v ≤ 60) (h : SK n K) : SK n (uS (uA K 2 i v) true) := fun j => by
  have e2 : (uS (uA K 2 i v) true).1 2 j = if j = i then v else K.1 2 j := rfl
  have e3 : (uS (uA K 2 i v) true).1 3 j = K.1 3 j := rfl
  rw [e2, e3]
  by_cases z : j = i
  · rw [if_pos z]; exact ⟨hv, fun q => by omega⟩
  · rw [if_neg z]; exact h j
theorem prop_q {n r : Nat} {B : Sr} {K : St} {M : Md} (h : Si n r B K M) (x v : Int32) : (mProp M x v).1.2.2.2 0 = kc eI eA (cProp K x v).1 ∧ ((cProp K x v).1 = none → (mProp M x v).2 = (cProp K x v).2.1) ∧ Si n r B (cProp K x v).2.2 (mProp M x v).1 := by
  obtain ⟨hS, hK⟩ := h
  have hS0 : Sm n r B K (mI M 0 0) := Sm_q (Mq_mI M 0) hS
  have hp := hS0.1.1
  have h40 := hp.h40
  unfold mProp cProp
  rw [has_q h40 hp.kn hp.mn]
  by_cases c1 : hasB K x = false
  · rw [if_pos c1, if_pos c1]
    exact ⟨kc_IA1.symm, fun q => (by cases q), Sm_q (Mq_mI _ 1) hS0, hK⟩
  · rw [if_neg c1, if_neg c1]
    have d1 : hasB K x = true := by
      cases z : hasB K x with
      | true => rfl
      | false => exact absurd z c1
    by_cases c2 : isInB v 0 60 = false
    · rw [if_pos c2, if_pos c2]
      exact ⟨kc_IA2.symm, fun q => (by cases q), Sm_q (Mq_mI _ 2) hS0, hK⟩
    · rw [if_neg c2, if_neg c2, hangs_q hS0 d1]
      have d2 : isInB v 0 60 = true := by
        cases z : isInB v 0 60 with
        | true => rfl
        | false => exact absurd z c2
      by_cases c3 : hangsB K x = false
      · rw [if_pos c3, if_pos c3]
        exact ⟨kc_IA3.symm, fun q => (by cases q), Sm_q (Mq_mI _ 3) hS0, hK⟩
      · rw [if_neg c3, if_neg c3]
        obtain ⟨j, hj, rfl⟩ := has_ix hp.kn h40 d1
        unfold setProp
        rw [if_pos d1, ix_nI (by omega)]
        have hG := gv_sim (Cr_prop (i := j) v hS0)
        have hSK := SK_Sd (Sd_giveWay _) (SK_prop hj (isInB_ge d2).2 hK)
        have ht : (mGv (tA (mI M 0 0) 6 j v)).2.2.2 0 = 0 := congrFun (mi_Gv (tA (mI M 0 0) 6 j v)) 0
        generalize giveWay (uS (uA K 2 j v) true) = K' at hG hSK ⊢
        generalize mGv (tA (mI M 0 0) 6 j v) = M' at hG ht ⊢
        refine ⟨ht, fun _ => ?_, hG, hSK⟩
        show mHa (mI M 0 0) - mHa M' = K.2.2.1 1 - K'.2.2.1 1
        rw [hS0.hd, hG.hd]
theorem renew_q {n r : Nat} {B : Sr} {K : St} {M : Md} (h : Si n r B K M) (x v : Int32) : (mRenew M x v).1.2.2.2 0 = kc eI eA (cRenew K x v).1 ∧ ((cRenew K x v).1 = none → (mRenew M x v).2 = (cRenew K x v).2.1) ∧ Si n r B (cRenew K x v).2.2 (mRenew M x v).1 := by
  obtain ⟨hS, hK⟩ := h
  have hS0 : Sm n r B K (mI M 0 0) := Sm_q (Mq_mI M 0) hS
  have hSR : Sm n r B K (mRk (mI M 0 0)) := Sm_q (Mq_Rk _) hS0
  have hp := hS0.1.1
  have h40 := hp.h40
  unfold mRenew cRenew
  rw [has_q h40 hp.kn hp.mn]
  by_cases c1 : hasB K x = false
  · rw [if_pos c1, if_pos c1]
    exact ⟨kc_IA1.symm, fun q => (by cases q), Sm_q (Mq_mI _ 1) hS0, hK⟩
  · rw [if_neg c1, if_neg c1]
    have d1 : hasB K x = true := by
      cases z : hasB K x with
      | true => rfl
      | false => exact absurd z c1
    by_cases c2 : isInB v 1 200 = false
    · rw [if_pos c2, if_pos c2]
      exact ⟨kc_IA2.symm, fun q => (by cases q), Sm_q (Mq_mI _ 2) hS0, hK⟩
    · rw [if_neg c2, if_neg c2]
      have d2 : isInB v 1 200 = true := by
        cases z : isInB v 1 200 with
        | true => rfl
        | false => exact absurd z c2
      obtain ⟨j, hj, rfl⟩ := has_ix hp.kn h40 d1
      have hz := hp.2.2.2.1 j hj
      have r3 : K.1 3 j = M.1 3 j := (hp.1 j hj).2.2.2.1
      have hsp : hasSpellB K (nI j) = !decide (K.1 3 j ≤ 0) := by
        unfold hasSpellB
        rw [d1, ix_nI (by omega)]
        rfl
      have l6 : (mRk (mI M 0 0)).2.2.1 1 j = K.1 6 j := (load_q hS0 hj).1
      rw [hsp, ix_nI (by omega), ← r3, l6]
      by_cases c3 : K.1 3 j = 0
      · rw [if_pos c3, if_pos (by rw [c3]; decide)]
        exact ⟨kc_IA3.symm, fun q => (by cases q), Sm_q (Mq_mI _ 3) hSR, hK⟩
      · have c3' : ¬ K.1 3 j ≤ 0 := fun q => c3 (hz.2 q)
        have hc3 : ¬ (!decide (K.1 3 j ≤ 0)) = false := by simp [c3']
        rw [if_neg c3, if_neg hc3]
        by_cases c4 : K.1 6 j ≤ v
        · rw [if_pos c4, if_pos c4]
          have t0 : (mRk (mI M 0 0)).2.2.2 0 = 0 := congrFun (mi_Rk (mI M 0 0)) 0
          refine ⟨t0, fun _ => rfl, ?_⟩
          have v0 : 0 < v := Int32.lt_of_lt_of_le (by decide) (isInB_ge d2).1
          have hpw : 0 < K.1 3 j := Int32.not_le.mp c3'
          obtain ⟨⟨⟨h1, h2, h3, h4, h5, h6, h7, -, h30, hx, hb⟩, hnl, hl⟩, hs, ht⟩ := hSR
          have hl' := hl hs
          generalize mRk (mI M 0 0) = X at h1 h6 h7 hl'
          have e3 : ∀ a, (uA K 3 j v).1 3 a = if a = j then v else K.1 3 a := fun _ => rfl
          have hR : Rw n (uA K 3 j v) (tA X 3 j v) := fun a ha => by
            obtain ⟨r0, r1, r2, r3, r4, r5, r6⟩ := h1 a ha
            refine ⟨r0, r1, r2, ?_, r4, r5, r6⟩
            show (if a = j then v else K.1 3 a) = (if a = j then v else X.1 3 a)
            rw [r3]
          have hP : PL n 0 (uA K 3 j v) (mRk (tA X 3 j v)) := PL_3 hl'.1 (fun k hk => if_neg hk) rfl rfl hR ⟨rfl, fun k hk => if_neg hk⟩
          have hhj : K.2.1 j = true := by
            cases z : K.2.1 j with
            | true => rfl
            | false => exact absurd ((h4 j hj).1 z) c3
          have h7' : WH n r B (uA K 3 j v) (tA X 3 j v) := WH_keep ⟨rfl, rfl⟩ ⟨rfl, rfl, rfl, rfl⟩ h7
          refine ⟨⟨⟨⟨hR, h2, h3, fun a ha => ?_, h5, h6, h7', h40, h30, fun a ha => ?_, hb⟩, fun a ha q => ?_, fun _ => ⟨hP, fun a ha => ?_⟩⟩, hs, fun a ha => ?_⟩, fun a => ?_⟩
          · rw [e3]
            by_cases z : a = j
            · rw [if_pos z]
              refine ⟨fun q => ?_, fun q => absurd v0 (Int32.not_lt.mpr q)⟩
              have q' : K.2.1 a = false := q
              rw [z, hhj] at q'; cases q'
            · rw [if_neg z]; exact h4 a ha
          · rw [e3]
            intro q
            show K.1 4 a = -1
            by_cases z : a = j
            · rw [z]; exact hx j hj hpw
            · rw [if_neg z] at q; exact hx a ha q
          · rw [e3]
            by_cases z : a = j
            · rw [if_pos z]; exact Or.inl v0
            · rw [if_neg z]; exact hnl a ha q
          · rw [e3]
            by_cases z : a = j
            · rw [if_pos z]
              refine ⟨fun q => ?_, fun q => absurd v0 (Int32.not_lt.mpr q)⟩
              have q' : K.2.1 a = false := q
              rw [z, hhj] at q'; cases q'
            · rw [if_neg z]; exact hl'.2 a ha
          · refine ⟨(ht a ha).1, ?_⟩
            rw [e3]
            show (if a = j then v else K.1 3 a) ≤ 0 ∨ K.1 6 a ≤ (if a = j then v else K.1 3 a)
            by_cases z : a = j
            · rw [if_pos z, z]; exact Or.inr c4
            · rw [if_neg z]; exact (ht a ha).2
          · rw [e3]
            refine ⟨(hK a).1, fun q => ⟨((hK a).2 q).1, ?_⟩⟩
            rw [if_neg (by omega)]; exact ((hK a).2 q).2
        · rw [if_neg c4, if_neg c4]
          exact ⟨kc_IA3.symm, fun q => (by cases q), Sm_q (Mq_mI _ 3) hSR, hK⟩
