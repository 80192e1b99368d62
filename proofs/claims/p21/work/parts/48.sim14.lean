/-! the class's stones and the reference's, between calls -/
def SX (n : Nat) (K : St) : Prop := ∀ i, i < n → 0 < K.1 3 i → K.1 4 i = -1
/-- settled: who is pulled beyond its strength has nobody from it; no spell is weaker than its load -/
def ST (n : Nat) (K : St) : Prop := ∀ i, i < n → (K.1 7 i ≤ K.1 1 i ∨ ∀ a, a < n → ¬ K.1 4 a = nI i ∧ ¬ K.1 5 a = nI i) ∧ (K.1 3 i ≤ 0 ∨ K.1 6 i ≤ K.1 3 i)
theorem Qk_each {f : Nat → St → St} (h : ∀ i, Qk (f i)) : ∀ (n : Nat) (S : St), (fr f n S).2.2.2 = false → ∀ i, i < n → f i S = S
  | 0, _, _ => fun i hi => absurd hi (Nat.not_lt_zero _)
  | n + 1, S, hS => fun i hi => by
    have hS' : (f n (fr f n S)).2.2.2 = false := hS
    have h0 : (fr f n S).2.2.2 = false := by
      cases q : (fr f n S).2.2.2 with
      | false => rfl
      | true => rw [(h n).1 _ q] at hS'; cases hS'
    have e0 : fr f n S = S := by
      rcases (Qk_fr h n).2 S with q | q
      · exact q
      · rw [q] at h0; cases h0
    by_cases z : i = n
    · rw [e0] at hS'
      rw [z]
      rcases (h n).2 S with q | q
      · exact q
      · rw [q] at hS'; cases hS'
    · exact Qk_each h n S h0 i (by omega)
theorem ST_of {n : Nat} {K : St} (h40 : n ≤ 40) (hn : K.2.2.1 0 = nI n) (hs : K.2.2.2 = false) (h : endO (tearO K) = K) : ST n K := by
  have e2 : (endO (tearO K)).2.2.2 = false := by rw [h]; exact hs
  have e1 : (tearO K).2.2.2 = false := by
    cases q : (tearO K).2.2.2 with
    | false => rfl
    | true =>
      have : (endO (tearO K)).2.2.2 = true := (Qk_fr Qk_endO1 (nn (tearO K))).1 _ q
      rw [this] at e2; cases e2
  have t0 : tearO K = K := by
    rcases (Qk_fr Qk_tearO1 (nn K)).2 K with q | q
    · exact q
    · have : (tearO K).2.2.2 = true := q
      rw [this] at e1; cases e1
  have k1 : ∀ i, i < n → tearO1 i K = K := fun i hi => by
    have e1' : (fr tearO1 (nn K) K).2.2.2 = false := e1
    rw [nn_eq hn h40] at e1'
    exact Qk_each Qk_tearO1 n K e1' i hi
  have k2 : ∀ i, i < n → endO1 i K = K := fun i hi => by
    rw [t0] at e2
    have e2' : (fr endO1 (nn K) K).2.2.2 = false := e2
    rw [nn_eq hn h40] at e2'
    exact Qk_each Qk_endO1 n K e2' i hi
  intro i hi
  refine ⟨?_, ?_⟩
  · by_cases z : K.1 7 i ≤ K.1 1 i
    · exact Or.inl z
    · refine Or.inr fun a ha => ?_
      have e := k1 i hi
      unfold tearO1 at e
      rw [if_neg z] at e
      have e' : (fr (tear1 (nI i)) (nn K) K).2.2.2 = false := by
        show (tearF K (nI i)).2.2.2 = false
        rw [e]; exact hs
      rw [nn_eq hn h40] at e'
      have g := Qk_each (Qk_tear1 (nI i)) n K e' a ha
      refine ⟨fun q => ?_, fun q => ?_⟩
      · unfold tear1 at g
        rw [if_pos q] at g
        have : (uS (uA (uA K 4 a (K.1 5 a)) 5 a (-1)) true).2.2.2 = K.2.2.2 := by rw [g]
        rw [hs] at this; cases this
      · unfold tear1 at g
        by_cases y : K.1 4 a = nI i
        · rw [if_pos y] at g
          have : (uS (uA (uA K 4 a (K.1 5 a)) 5 a (-1)) true).2.2.2 = K.2.2.2 := by rw [g]
          rw [hs] at this; cases this
        · rw [if_neg y, if_pos q] at g
          have : (uS (uA K 5 a (-1)) true).2.2.2 = K.2.2.2 := by rw [g]
          rw [hs] at this; cases this
  · by_cases z : K.1 3 i ≤ 0
    · exact Or.inl z
    · refine Or.inr ?_
      by_cases y : K.1 6 i ≤ K.1 3 i
      · exact y
      · exfalso
        have g := k2 i hi
        rw [endO1_eq, if_neg z, if_neg y, if_pos (has_nI hn h40 hi)] at g
        have : (sE (ix (nI i)) K).2.2.2 = K.2.2.2 := by rw [g]
        rw [hs] at this; cases this
theorem ST_id {n : Nat} {K : St} (h40 : n ≤ 40) (hn : K.2.2.1 0 = nI n) (h : ST n K) : endO (tearO K) = K := by
  have t0 : tearO K = K := by
    unfold tearO
    rw [nn_eq hn h40]
    refine fr_id n fun i hi => ?_
    unfold tearO1
    rcases (h i hi).1 with z | z
    · rw [if_pos z]
    · by_cases y : K.1 7 i ≤ K.1 1 i
      · rw [if_pos y]
      · rw [if_neg y]
        unfold tearF
        rw [nn_eq hn h40]
        refine fr_id n fun a ha => ?_
        unfold tear1
        rw [if_neg (z a ha).1, if_neg (z a ha).2]
  rw [t0]
  unfold endO
  rw [nn_eq hn h40]
  refine fr_id n fun i hi => ?_
  unfold endO1
  rcases (h i hi).2 with z | z
  · rw [if_pos z]
  · by_cases y : K.1 3 i ≤ 0
    · rw [if_pos y]
    · rw [if_neg y, if_pos z]
theorem gw_id {K : St} (hs : K.2.2.2 = false) (h : endO (tearO K) = K) (k : Nat) : gw (k + 1) K = K := by
  have e : gwB K = K := by
    unfold gwB
    rw [hs, if_neg (by decide)]
    exact h
  unfold gw
  rw [e, if_neg (by rw [hs]; decide)]
theorem gv_id {K : St} (hs : K.2.2.2 = false) (h : endO (tearO K) = K) : giveWay K = K := by
  rw [← gw_def]
  exact gw_id hs h 999
/-- what holds on both sides wherever a method stands -/
def Pr (n r : Nat) (B : Sr) (K : St) (M : Md) : Prop := Rw n K M ∧ Hd n K ∧ Gd n K ∧ Pw n K ∧ (∀ i, i < n → 0 ≤ K.1 1 i) ∧ M.2.2.2 1 = nI n ∧ WH n r B K M ∧ n ≤ 40 ∧ r ≤ 30 ∧ SX n K ∧ B.2 0 = nI r
/-- and nothing is loose; if the loads are fresh they are right -/
def Cr (n r : Nat) (B : Sr) (K : St) (M : Md) : Prop := Pr n r B K M ∧ NL n K ∧ (K.2.2.2 = false → PL n 0 K (mRk M) ∧ Fl n K)
/-- and all is settled -/
def Sm (n r : Nat) (B : Sr) (K : St) (M : Md) : Prop := Cr n r B K M ∧ K.2.2.2 = false ∧ ST n K
theorem Cr.BR {n r : Nat} {B : Sr} {K : St} {M : Md} (h : Cr n r B K M) : BR n K M := ⟨⟨h.1.1, h.1.2.1, h.1.2.2.1, h.1.2.2.2.1, h.1.2.2.2.2.1, h.1.2.2.2.2.2.1, h.2.1⟩, h.2.2⟩
theorem Pr.WH {n r : Nat} {B : Sr} {K : St} {M : Md} (h : Pr n r B K M) : WH n r B K M := h.2.2.2.2.2.2.1
theorem Pr.mn {n r : Nat} {B : Sr} {K : St} {M : Md} (h : Pr n r B K M) : M.2.2.2 1 = nI n := h.2.2.2.2.2.1
theorem Pr.kn {n r : Nat} {B : Sr} {K : St} {M : Md} (h : Pr n r B K M) : K.2.2.1 0 = nI n := h.2.2.1.2.2
theorem Pr.h40 {n r : Nat} {B : Sr} {K : St} {M : Md} (h : Pr n r B K M) : n ≤ 40 := h.2.2.2.2.2.2.2.1
theorem Pr.h30 {n r : Nat} {B : Sr} {K : St} {M : Md} (h : Pr n r B K M) : r ≤ 30 := h.2.2.2.2.2.2.2.2.1
theorem Pr.mr {n r : Nat} {B : Sr} {K : St} {M : Md} (h : Pr n r B K M) : M.2.2.2 2 = nI r := h.WH.1
theorem Pr.br {n r : Nat} {B : Sr} {K : St} {M : Md} (h : Pr n r B K M) : B.2 0 = nI r := h.2.2.2.2.2.2.2.2.2.2
theorem SX_Sd {n : Nat} {K K' : St} (h : Hd n K) (hs : Sd K K') (hx : SX n K) : SX n K' := fun i hi q => by
  obtain ⟨a, b⟩ := hs.2.2.2.2.2 i
  rcases a with a | a
  · rw [a] at q
    have e4 := hx i hi q
    exact (b e4 ((h i hi).2.2.2 e4)).1
  · rw [a] at q; exact absurd q (by decide)
/-- M' has the rows, the ways, the day and the numbers of M -/
def Mq (M M' : Md) : Prop := M'.1 = M.1 ∧ M'.2.1 = M.2.1 ∧ M'.2.2.2 1 = M.2.2.2 1 ∧ M'.2.2.2 2 = M.2.2.2 2 ∧ M'.2.2.1 0 0 = M.2.2.1 0 0
theorem Mq_Rk (M : Md) : Mq M (mRk M) := by
  obtain ⟨a, b, c, d⟩ := Hm_Rk M
  exact ⟨mt_Rk M, a, congrFun b 1, congrFun b 2, congrFun d 0⟩
theorem Mq_mI (M : Md) (x : Int32) : Mq M (mI M 0 x) := ⟨rfl, rfl, rfl, rfl, rfl⟩
theorem Mq.tr {M M1 M2 : Md} (h1 : Mq M M1) (h2 : Mq M1 M2) : Mq M M2 := ⟨h2.1.trans h1.1, h2.2.1.trans h1.2.1, h2.2.2.1.trans h1.2.2.1, h2.2.2.2.1.trans h1.2.2.2.1, h2.2.2.2.2.trans h1.2.2.2.2⟩
theorem mHa_q {M M' : Md} (h : Mq M M') : mHa M' = mHa M := by
  have e : mHa1 M' = mHa1 M := by
    funext i a
    unfold mHa1
    rw [h.1]
  unfold mHa mN
  rw [e, h.2.2.1]
theorem Pr_q {n r : Nat} {B : Sr} {K : St} {M M' : Md} (hq : Mq M M') (h : Pr n r B K M) : Pr n r B K M' := by
  obtain ⟨h1, h2, h3, h4, h5, h6, h7, h8, h9, h10, h11⟩ := h
  have hh := mHa_q hq
  obtain ⟨q1, q2, q3, q4, q5⟩ := hq
  refine ⟨fun i hi => ?_, h2, h3, h4, h5, q3.trans h6, ⟨q4.trans h7.1, fun k hk => ?_, h7.2.2.1.trans hh.symm, h7.2.2.2.trans q5.symm⟩, h8, h9, h10, h11⟩
  · rw [q1]; exact h1 i hi
  · rw [q2]; exact h7.2.1 k hk
theorem Cr_q {n r : Nat} {B : Sr} {K : St} {M M' : Md} (hq : Mq M M') (h : Cr n r B K M) : Cr n r B K M' := by
  obtain ⟨h1, h2, h3⟩ := h
  have hp := Pr_q hq h1
  exact ⟨hp, h2, fun q => ⟨PL_new h1.h40 (h3 q).1 hp.1 h1.mn hp.mn, (h3 q).2⟩⟩
theorem Sm_q {n r : Nat} {B : Sr} {K : St} {M M' : Md} (hq : Mq M M') (h : Sm n r B K M) : Sm n r B K M' := ⟨Cr_q hq h.1, h.2⟩
/-- giving way -/
theorem gv_sim {n r : Nat} {B : Sr} {K : St} {M : Md} (h : Cr n r B K M) : Sm n r B (giveWay K) (mGv M) := by
  have h40 := h.1.h40
  have h30 := h.1.h30
  have hS := Sd_giveWay K
  obtain ⟨⟨x1, x2⟩, x3⟩ := gw_full (B := B) h40 h30 1000 K M h.BR h.1.WH
  have hmu : mu n M < 1000 := Nat.lt_of_le_of_lt (mu_le n M) (by omega)
  obtain ⟨y1, y2, y3, y4⟩ := x3 hmu
  have hb := h.1.br
  have hx := SX_Sd h.1.2.1 hS h.1.2.2.2.2.2.2.2.2.2.1
  unfold mGv
  rw [gw_def] at x1 x2 y1 y2 y3 y4
  generalize giveWay K = K' at x1 x2 y1 y2 y3 y4 hx ⊢
  generalize mgw 1000 M = M' at x1 x2 y2 ⊢
  obtain ⟨z1, z2, z3, z4, z5, z6, z7⟩ := x1
  exact Sm_q (Mq_Rk M') ⟨⟨⟨z1, z2, z3, z4, z5, z6, x2, h40, h30, hx, hb⟩, z7, fun _ => ⟨y2, y3⟩⟩, y1, ST_of h40 z3.2.2 y1 y4⟩
/-- giving way where all is settled -/
theorem gv_same {n r : Nat} {B : Sr} {K : St} {M : Md} (h : Sm n r B K M) : giveWay K = K := gv_id h.2.1 (ST_id h.1.1.h40 h.1.1.kn h.2.2)
theorem Sm_same {n r : Nat} {B : Sr} {K : St} {M : Md} (h : Sm n r B K M) : Sm n r B K (mGv M) := by
  have := gv_sim h.1
  rw [gv_same h] at this
  exact this
