/-! what falls: the ways, how many hang -/
def sI (f : Nat → Int32) (n : Nat) : Int32 := fr (fun j a => a + f j) n 0
theorem sI_s (f : Nat → Int32) (n : Nat) : sI f (n + 1) = sI f n + f n := rfl
theorem sI_congr {f g : Nat → Int32} : ∀ (n : Nat), (∀ i, i < n → f i = g i) → sI f n = sI g n
  | 0, _ => rfl
  | n + 1, h => by rw [sI_s, sI_s, sI_congr n (fun i hi => h i (by omega)), h n (by omega)]
theorem mHa_sI (M : Md) : mHa M = sI (M.1 2) (mN M) := rfl
theorem i32_1 (a b c d : Int32) : a + b + (c + d) = a + c + b + d := by
  rw [Int32.add_assoc, ← Int32.add_assoc b c d, Int32.add_comm b c, Int32.add_assoc c b d, ← Int32.add_assoc a c, ← Int32.add_assoc]
theorem sI_upd (f : Nat → Int32) (i : Nat) (v : Int32) : ∀ (n : Nat), i < n → sI (upd f i v) n + f i = sI f n + v
  | 0, h => absurd h (Nat.not_lt_zero _)
  | n + 1, h => by
    rw [sI_s, sI_s]
    by_cases z : i = n
    · have e1 : sI (upd f i v) n = sI f n := sI_congr n (fun j hj => if_neg (by omega))
      have e2 : upd f i v n = v := if_pos z.symm
      rw [e1, e2, z, Int32.add_assoc, Int32.add_comm v, Int32.add_assoc]
    · have e2 : upd f i v n = f n := if_neg (fun q => z q.symm)
      have ih := sI_upd f i v n (by omega)
      rw [e2, Int32.add_assoc, Int32.add_comm (f n), ← Int32.add_assoc, ih, Int32.add_assoc, Int32.add_comm v, Int32.add_assoc]
theorem FK (f : Nat) (X : Md) : ∀ m : Nat, (fr (mfk f) m X).1 = X.1 ∧ (fr (mfk f) m X).2.2 = X.2.2 ∧ (fr (mfk f) m X).2.1 0 = X.2.1 0 ∧ (fr (mfk f) m X).2.1 1 = X.2.1 1 ∧ ∀ k, (fr (mfk f) m X).2.1 2 k = if k < m ∧ (X.2.1 0 k = nI f ∨ X.2.1 1 k = nI f) then 1 else X.2.1 2 k
  | 0 => ⟨rfl, rfl, rfl, rfl, fun k => by rw [if_neg (fun q => absurd q.1 (Nat.not_lt_zero _))]; rfl⟩
  | m + 1 => by
    obtain ⟨a, b, c, d, e⟩ := FK f X m
    show (mfk f m (fr (mfk f) m X)).1 = X.1 ∧ (mfk f m (fr (mfk f) m X)).2.2 = X.2.2 ∧ (mfk f m (fr (mfk f) m X)).2.1 0 = X.2.1 0 ∧ (mfk f m (fr (mfk f) m X)).2.1 1 = X.2.1 1 ∧ ∀ k, (mfk f m (fr (mfk f) m X)).2.1 2 k = if k < m + 1 ∧ (X.2.1 0 k = nI f ∨ X.2.1 1 k = nI f) then 1 else X.2.1 2 k
    generalize fr (mfk f) m X = Y at a b c d e ⊢
    have g : ∀ k, (wA Y 2 m 1).2.1 2 k = if k = m then 1 else Y.2.1 2 k := fun _ => rfl
    unfold mfk
    rw [c, d]
    by_cases h0 : X.2.1 0 m = nI f
    · rw [if_pos h0]
      refine ⟨a, b, c, d, fun k => ?_⟩
      rw [g]
      by_cases z : k = m
      · rw [if_pos z, if_pos ⟨by omega, Or.inl (by rw [z]; exact h0)⟩]
      · rw [if_neg z, e]
        by_cases y : k < m ∧ (X.2.1 0 k = nI f ∨ X.2.1 1 k = nI f)
        · rw [if_pos y, if_pos ⟨by omega, y.2⟩]
        · rw [if_neg y, if_neg (fun q => y ⟨by omega, q.2⟩)]
    · rw [if_neg h0]
      by_cases h1 : X.2.1 1 m = nI f
      · rw [if_pos h1]
        refine ⟨a, b, c, d, fun k => ?_⟩
        rw [g]
        by_cases z : k = m
        · rw [if_pos z, if_pos ⟨by omega, Or.inr (by rw [z]; exact h1)⟩]
        · rw [if_neg z, e]
          by_cases y : k < m ∧ (X.2.1 0 k = nI f ∨ X.2.1 1 k = nI f)
          · rw [if_pos y, if_pos ⟨by omega, y.2⟩]
          · rw [if_neg y, if_neg (fun q => y ⟨by omega, q.2⟩)]
      · rw [if_neg h1]
        refine ⟨a, b, c, d, fun k => ?_⟩
        rw [e]
        by_cases y : k < m ∧ (X.2.1 0 k = nI f ∨ X.2.1 1 k = nI f)
        · rw [if_pos y, if_pos ⟨by omega, y.2⟩]
        · rw [if_neg y, if_neg (fun q => y ⟨by
            have : ¬ k = m := fun z => by
              rw [z] at q
              rcases q.2 with w | w
              · exact h0 w
              · exact h1 w
            omega, q.2⟩)]
theorem WH_fall {n r i : Nat} {B : Sr} {K : St} {M : Md} (h40 : n ≤ 40) (h30 : r ≤ 30) (hi : i < n) (hn : M.2.2.2 1 = nI n) (h1 : M.1 2 i = 1) (h : WH n r B K M) : WH n r B (tearF (uS (uI (uH K i false) 1 (K.2.2.1 1 - 1)) true) (nI i)) (mFall M i) := by
  have hK := Hs_tearF (uS (uI (uH K i false) 1 (K.2.2.1 1 - 1)) true) (nI i)
  generalize tearF (uS (uI (uH K i false) 1 (K.2.2.1 1 - 1)) true) (nI i) = K' at hK ⊢
  obtain ⟨k1, k2⟩ := hK
  have k1' : ∀ j, K'.2.1 j = if j = i then false else K.2.1 j := fun j => congrFun k1 j
  have k21 : K'.2.2.1 1 = K.2.2.1 1 - 1 := congrFun k2 1
  have k22 : K'.2.2.1 2 = K.2.2.1 2 := congrFun k2 2
  obtain ⟨a, b, c, d⟩ := h
  obtain ⟨m1, m2, m3, m4⟩ := Hm_Fl M i
  have m2' : (mFl M i).2.2.2 = M.2.2.2 := m2
  have m1' : (mFl M i).2.1 = M.2.1 := m1
  have m4' : (mFl M i).2.2.1 0 = M.2.2.1 0 := m4
  have m3' : (mFl M i).1 2 = upd (M.1 2) i 0 := m3
  unfold mFall
  rw [mR_eq a h30]
  generalize mFl M i = X at m1' m2' m3' m4' ⊢
  obtain ⟨x1, x2, x3, x4, x5⟩ := FK i X r
  generalize fr (mfk i) r X = Y at x1 x2 x3 x4 x5 ⊢
  have y2 : Y.2.2.2 = M.2.2.2 := by rw [x2]; exact m2'
  refine ⟨by rw [y2]; exact a, fun k hk => ?_, ?_, ?_⟩
  · obtain ⟨b0, b1, ⟨ja, hja, ea⟩, ⟨jb, hjb, eb⟩, b4⟩ := b k hk
    rw [x3, x4, x5, m1', ea, eb]
    rw [ea] at b0
    rw [eb] at b1
    refine ⟨b0, b1, ⟨ja, hja, rfl⟩, ⟨jb, hjb, rfl⟩, ?_⟩
    rw [ea, eb] at b4
    unfold goneK at b4 ⊢
    rw [ix_nI (by omega), ix_nI (by omega)] at b4 ⊢
    rw [k1', k1']
    by_cases z : ja = i
    · rw [if_pos ⟨hk, Or.inl (by rw [z])⟩, if_pos z]; rfl
    · rw [if_neg z]
      by_cases y : jb = i
      · rw [if_pos ⟨hk, Or.inr (by rw [y])⟩, if_pos y]
        cases K.2.1 ja <;> rfl
      · rw [if_neg y, if_neg, b4]
        rintro ⟨-, q | q⟩
        · exact z ((nI_eq (by omega) (by omega)).mp q)
        · exact y ((nI_eq (by omega) (by omega)).mp q)
  · have hN : mN Y = n := mN_eq (by rw [y2]; exact hn) h40
    have hN2 : mN M = n := mN_eq hn h40
    rw [mHa_sI, hN, x1, m3', k21, c, mHa_sI, hN2]
    have e := sI_upd (M.1 2) i 0 n hi
    rw [h1, Int32.add_zero] at e
    rw [← e, Int32.add_sub_cancel]
  · rw [k22, d, x2]
    exact (congrFun m4' 0).symm
theorem WH_1 {n r i : Nat} {B : Sr} {K : St} {M : Md} (h40 : n ≤ 40) (h30 : r ≤ 30) (hi : i < n) (h : DT n K M) (hw : WH n r B K M) : WH n r B (drop1 i K) (md1 i M) := by
  obtain ⟨h1, h2, h3⟩ := h
  obtain ⟨-, -, r2, r3, r4, -, -⟩ := h1.1 i hi
  unfold drop1 md1
  rw [mHg_b h1.1 hi, ← r3, ← r4]
  cases hh : K.2.1 i with
  | false =>
    rw [if_neg (by decide), if_neg (by decide)]
    exact hw
  | true =>
    rw [if_pos rfl, if_pos rfl]
    by_cases e0 : 0 < K.1 3 i
    · have z0 : ¬ K.1 3 i = 0 := fun q => by rw [q] at e0; exact absurd e0 (by decide)
      rw [if_pos e0, if_neg z0]
      exact hw
    · have z0 : K.1 3 i = 0 := (h3 i hi).2 (Int32.not_lt.mp e0)
      rw [if_neg e0, if_pos z0]
      by_cases e4 : K.1 4 i = -1
      · rw [if_pos e4, if_pos e4]
        exact WH_fall h40 h30 hi h2 (by rw [← r2, hh]; rfl) hw
      · rw [if_neg e4, if_neg e4]
        exact hw
theorem WH_drop {n r : Nat} {B : Sr} {K : St} {M : Md} (h40 : n ≤ 40) (h30 : r ≤ 30) (h : DT n K M) (hw : WH n r B K M) : WH n r B (dropL K) (mDrop M) := by
  unfold dropL mDrop
  rw [nn_eq h.1.2.2.1 h40, mN_eq h.2.1 h40]
  exact (fr_rel (f := drop1) (g := md1) (fun K M => DT n K M ∧ WH n r B K M) n K M (fun i s t hi q => ⟨DT_1 h40 hi q.1, WH_1 h40 h30 hi q.1 q.2⟩) ⟨h, hw⟩).2
/-! giving way, whole -/
theorem PL_new {n : Nat} {K : St} {M M' : Md} (h40 : n ≤ 40) (h : PL n 0 K (mRk M)) (h1 : Rw n K M') (h2 : M.2.2.2 1 = nI n) (h3 : M'.2.2.2 1 = nI n) : PL n 0 K (mRk M') := by
  obtain ⟨a, b, c, d, e⟩ := h
  have hR : Rw n K M := fun i hi => by
    have := a i hi
    rw [mt_Rk] at this
    exact this
  obtain ⟨-, -, -, d1, e1⟩ := PL_measure h40 hR b c h2
  obtain ⟨-, -, -, d2, e2⟩ := PL_measure h40 h1 b c h3
  refine ⟨fun i hi => by rw [mt_Rk]; exact h1 i hi, b, c, fun j hj => ?_, fun j hj q => ?_⟩
  · rw [d j hj, ← d1 j hj, d2 j hj]
  · rw [e j hj q, ← e1 j hj q, e2 j hj q]
def GE (n r : Nat) (B : Sr) (K : St) (M : Md) : Prop := BF n K M ∧ WH n r B K M
def GZ (n : Nat) (K : St) (M : Md) : Prop := K.2.2.2 = false ∧ PL n 0 K (mRk M) ∧ Fl n K ∧ endO (tearO K) = K
theorem gw_full {n r : Nat} {B : Sr} (h40 : n ≤ 40) (h30 : r ≤ 30) : ∀ (k : Nat) (K : St) (M : Md), BR n K M → WH n r B K M → GE n r B (gw k K) (mgw k M) ∧ (mu n M < k → GZ n (gw k K) (mgw k M))
  | 0, _, _, h, hw => ⟨⟨h.1, hw⟩, fun q => absurd q (Nat.not_lt_zero _)⟩
  | k + 1, K, M, h, hw => by
    have hnM := h.1.2.2.2.2.2.1
    obtain ⟨K1, hK1, hP, hs, hF, hG, hk, hnl⟩ := BR_1 h40 h
    have hB : gwB K = endO (tearO K1) := by unfold gwB; rw [hK1]
    have hR := RT_round h40 hP hs hF ((congrFun (mi_Rk M) 1).trans hnM)
    have hd : mRd M = fr mg1 n (mRk M, false) := by unfold mRd; rw [mN_eq hnM h40]
    rw [← hd, ← hB] at hR
    have hst : ∀ i, i < n → 0 ≤ (gwB K).1 1 i := fun i hi => by
      rw [hB, k1_endO, k1_tearO, hk]
      exact h.1.2.2.2.2.1 i hi
    have hGB : Gd n (gwB K) := by rw [hB]; exact Gd_endO h40 (Gd_tearO h40 hG)
    have hfr : (gwB K).2.2.2 = false → gwB K = K1 := fun q => by
      rw [hB] at q ⊢
      exact fresh_same q
    have hset : (gwB K).2.2.2 = false → endO (tearO (gwB K)) = gwB K := fun q => by
      have e := hfr q
      rw [hB] at e
      rw [hB, e]
      exact e
    have hww : WH n r B (gwB K) (mRd M).1 := WH_keep (Hs_gwB K) (Hm_Rd M) hw
    have hmu : (mRd M).2 = true → mu n M < k + 1 → mu n (mDrop (mRd M).1) < k := fun q z => mu_round hnM h40 q z
    unfold gw mgw
    generalize gwB K = S at hR hst hGB hfr hset hww ⊢
    generalize mRd M = T at hR hww hmu ⊢
    obtain ⟨⟨r1, r2⟩, r3, r4⟩ := hR
    have hDT : DT n S T.1 := ⟨r1, r4, fun i hi => ⟨fun q => ((r3 i hi).1 q).2, (r3 i hi).2⟩⟩
    have hDD := DT_drop h40 hDT
    have hDW := WH_drop h40 h30 hDT hww
    have hf : S.2.2.2 = T.2 := by rw [r2]; exact Bool.false_or _
    cases ht : T.2 with
    | true =>
      rw [ht] at hf
      rw [if_pos hf, if_pos rfl]
      obtain ⟨x, y⟩ := gw_full (B := B) h40 h30 k (dropL S) (mDrop T.1) ⟨⟨hDD.1.1, hDD.1.2.1, Gd_drop h40 hGB, hDD.2.2, fun i hi => by rw [k1_drop]; exact hst i hi, hDD.2.1, NL_drop h40 hDT⟩, fun q => by rw [Qk_drop S hf] at q; cases q⟩ hDW
      exact ⟨x, fun z => y (hmu ht z)⟩
    | false =>
      rw [ht] at hf
      rw [if_neg (by rw [hf]; decide), if_neg (by decide)]
      have hnS : NL n S := by rw [hfr hf]; exact hnl
      rw [drop_id h40 hGB.2.2 hnS] at hDD hDW
      refine ⟨⟨⟨hDD.1.1, hDD.1.2.1, hGB, hDD.2.2, hst, hDD.2.1, hnS⟩, hDW⟩, fun _ => ⟨hf, ?_, r3, hset hf⟩⟩
      have e := hfr hf
      rw [← e] at hP
      exact PL_new h40 hP hDD.1.1 hnM hDD.2.1
