/-! the methods' answers: steps -/
def DR (n : Nat) (B0 : Sr) (M0 : Md) (B : Sr) (M : Md) : Prop := B.1 0 = B0.1 0 ∧ B.1 1 = B0.1 1 ∧ B.2 = B0.2 ∧ M.1 = M0.1 ∧ M.2.1 = M0.2.1 ∧ M.2.2.2 = M0.2.2.2 ∧ M.2.2.1 0 = M0.2.2.1 0 ∧ ∀ j, j < n → B.1 2 j = M.2.2.1 3 j
def LV (n d : Nat) (B : Sr) : Prop := ∀ j, j < n → B.1 2 j = -1 ∨ ∃ e : Nat, e ≤ d ∧ B.1 2 j = nI e
def un (B : Sr) (j : Nat) : Nat := if B.1 2 j = -1 then 1 else 0
def U (n : Nat) (B : Sr) : Nat := sumN (un B) n
theorem DR_put {n : Nat} {B0 B : Sr} {M0 M : Md} (j : Nat) {v v' : Int32} (hv : v = v') (h : DR n B0 M0 B M) : DR n B0 M0 (vA B 2 j v) (aA M 3 j v') := by
  obtain ⟨a, b, c, d, e, f, g, k⟩ := h
  refine ⟨a, b, c, d, e, f, g, fun i hi => ?_⟩
  show (if i = j then v else B.1 2 i) = (if i = j then v' else M.2.2.1 3 i)
  rw [hv, k i hi]
theorem LV_put {n d : Nat} {B : Sr} (j : Nat) (h : LV n d B) : LV n d (vA B 2 j (nI d)) := fun i hi => by
  have e : (vA B 2 j (nI d)).1 2 i = if i = j then nI d else B.1 2 i := rfl
  rw [e]
  by_cases z : i = j
  · rw [if_pos z]; exact Or.inr ⟨d, Nat.le_refl d, rfl⟩
  · rw [if_neg z]; exact h i hi
theorem U_put {n j d : Nat} {B : Sr} (hj : j < n) (hd : d < 2 ^ 31) (h : B.1 2 j = -1) : U n (vA B 2 j (nI d)) < U n B := by
  have e : ∀ i, un (vA B 2 j (nI d)) i = if (if i = j then nI d else B.1 2 i) = -1 then 1 else 0 := fun _ => rfl
  have e2 : ∀ i, un B i = if B.1 2 i = -1 then 1 else 0 := fun _ => rfl
  refine sumN_lt n j hj (fun i hi => ?_) ?_
  · rw [e, e2]
    by_cases z : i = j
    · rw [if_pos z, if_neg (nI_m1 hd)]; exact Nat.zero_le _
    · rw [if_neg z]; exact Nat.le_refl _
  · rw [e, e2, if_pos rfl, if_neg (nI_m1 hd), if_pos h]
    exact Nat.zero_lt_one
theorem stepB_at {n ja jb : Nat} {B : Sr} {d : Int32} (h40 : n ≤ 40) (ha : ja < n) (hb : jb < n) : stepB B (nI ja) (nI jb) d = (decide (B.1 2 ja = d) && decide (B.1 2 jb = -1)) := by
  have hp : ∀ j, j < n → placeB (nI j) = true := fun j hj => by
    unfold placeB
    have h1 : ¬ nI j < 0 := nI_pos (by omega)
    have h2 : ¬ (40 : Int32) ≤ nI j := nI_ge (b := 40) (by omega) (by omega)
    simp [h1, h2]
  unfold stepB
  rw [hp ja ha, hp jb hb, ix_nI (by omega), ix_nI (by omega)]
  rfl
theorem edge_q {n r k d : Nat} {B0 : Sr} {K : St} {M0 : Md} (hS : Sm n r B0 K M0) (hk : k < r) (hd : d + 1 < 2 ^ 31) (T : Sr × Bool) (M : Md) (h : DR n B0 M0 T.1 M) (hL : LV n (d + 1) T.1) : DR n B0 M0 (reach1 K (nI d) k T).1 (mst1 d k M) ∧ LV n (d + 1) (reach1 K (nI d) k T).1 ∧ (reach1 K (nI d) k T = T ∨ ((reach1 K (nI d) k T).2 = true ∧ U n (reach1 K (nI d) k T).1 < U n T.1)) := by
  have hp := hS.1.1
  have h40 := hp.h40
  have h30 := hp.h30
  obtain ⟨p0, p1, ⟨ja, hja, ea⟩, ⟨jb, hjb, eb⟩, p4⟩ := hp.WH.2.1 k hk
  have hg := gone_q hp hk
  obtain ⟨a, b, c, m1, m2, m3, m4, dd⟩ := h
  have h : DR n B0 M0 T.1 M := ⟨a, b, c, m1, m2, m3, m4, dd⟩
  have eg : goneR T.1 K (nI k) = goneR B0 K (nI k) := by
    unfold goneR hasR
    rw [a, b, c]
  unfold reach1 mst1
  rw [eg, m2, ← hg]
  cases z : goneR B0 K (nI k) with
  | true =>
    rw [if_pos rfl, if_pos (show bI true = 1 from rfl)]
    exact ⟨h, hL, Or.inl rfl⟩
  | false =>
    rw [if_neg (by decide), if_neg (show ¬ bI false = 1 by decide)]
    have ra : rchA T (nI d) k = stepP T.1 (T.1.1 0 k) (T.1.1 1 k) (nI d) := rfl
    rw [ra, a, b, p0, p1, ea, eb, stepB_at h40 hja hjb]
    unfold mstA
    rw [m2, ea, eb, ix_nI (by omega), ix_nI (by omega), ← dd ja hja, ← dd jb hjb]
    by_cases c1 : T.1.1 2 ja = nI d ∧ T.1.1 2 jb = -1
    · rw [if_pos (by simp [c1.1, c1.2]), if_pos c1.1, if_pos c1.2]
      have es : stepP T.1 (nI ja) (nI jb) (nI d) = vA T.1 2 jb (nI d + 1) := by
        unfold stepP
        rw [stepB_at h40 hja hjb, if_pos (by simp [c1.1, c1.2]), ix_nI (by omega)]
      rw [es]
      have hm : mstB d k (aA M 3 jb (nI (d + 1))) = aA M 3 jb (nI (d + 1)) := by
        unfold mstB
        rw [show (aA M 3 jb (nI (d + 1))).2.1 = M0.2.1 from m2, ea, eb, ix_nI (by omega), ix_nI (by omega)]
        rw [if_neg]
        show ¬ (if jb = jb then nI (d + 1) else M.2.2.1 3 jb) = nI d
        rw [if_pos rfl]
        intro q
        have := (nI_eq (by omega) (by omega)).mp q
        omega
      rw [hm]
      refine ⟨DR_put jb (nI_1 d) h, ?_, Or.inr ⟨rfl, ?_⟩⟩
      · show LV n (d + 1) (vA T.1 2 jb (nI d + 1))
        rw [nI_1]
        exact LV_put jb hL
      · show U n (vA T.1 2 jb (nI d + 1)) < U n T.1
        rw [nI_1]
        exact U_put hjb hd c1.2
    · have e1 : (decide (T.1.1 2 ja = nI d) && decide (T.1.1 2 jb = -1)) = false := by
        by_cases q1 : T.1.1 2 ja = nI d
        · have q2 : ¬ T.1.1 2 jb = -1 := fun q2 => c1 ⟨q1, q2⟩
          simp [q2]
        · simp [q1]
      have es : stepP T.1 (nI ja) (nI jb) (nI d) = T.1 := by
        unfold stepP
        rw [stepB_at h40 hja hjb, e1, if_neg (by decide)]
      have hmA : (if T.1.1 2 ja = nI d then if T.1.1 2 jb = -1 then aA M 3 jb (nI (d + 1)) else M else M) = M := by
        by_cases q1 : T.1.1 2 ja = nI d
        · rw [if_pos q1, if_neg (fun q2 => c1 ⟨q1, q2⟩)]
        · rw [if_neg q1]
      rw [e1, if_neg (by decide), es, hmA, a, b, p0, p1, ea, eb, stepB_at h40 hjb hja]
      unfold mstB
      rw [m2, ea, eb, ix_nI (by omega), ix_nI (by omega), ← dd ja hja, ← dd jb hjb]
      by_cases c2 : T.1.1 2 jb = nI d ∧ T.1.1 2 ja = -1
      · rw [if_pos (by simp [c2.1, c2.2]), if_pos c2.1, if_pos c2.2]
        have es2 : stepP T.1 (nI jb) (nI ja) (nI d) = vA T.1 2 ja (nI d + 1) := by
          unfold stepP
          rw [stepB_at h40 hjb hja, if_pos (by simp [c2.1, c2.2]), ix_nI (by omega)]
        rw [es2]
        refine ⟨DR_put ja (nI_1 d) h, ?_, Or.inr ⟨rfl, ?_⟩⟩
        · show LV n (d + 1) (vA T.1 2 ja (nI d + 1))
          rw [nI_1]
          exact LV_put ja hL
        · show U n (vA T.1 2 ja (nI d + 1)) < U n T.1
          rw [nI_1]
          exact U_put hja hd c2.2
      · have e2 : (decide (T.1.1 2 jb = nI d) && decide (T.1.1 2 ja = -1)) = false := by
          by_cases q1 : T.1.1 2 jb = nI d
          · have q2 : ¬ T.1.1 2 ja = -1 := fun q2 => c2 ⟨q1, q2⟩
            simp [q2]
          · simp [q1]
        have es2 : stepP T.1 (nI jb) (nI ja) (nI d) = T.1 := by
          unfold stepP
          rw [stepB_at h40 hjb hja, e2, if_neg (by decide)]
        have hmB : (if T.1.1 2 jb = nI d then if T.1.1 2 ja = -1 then aA M 3 ja (nI (d + 1)) else M else M) = M := by
          by_cases q1 : T.1.1 2 jb = nI d
          · rw [if_pos q1, if_neg (fun q2 => c2 ⟨q1, q2⟩)]
          · rw [if_neg q1]
        rw [e2, if_neg (by decide), es2, hmB]
        exact ⟨h, hL, Or.inl rfl⟩
theorem round_q {n r d : Nat} {B0 : Sr} {K : St} {M0 : Md} (hS : Sm n r B0 K M0) (hd : d + 1 < 2 ^ 31) (B : Sr) (M : Md) (h : DR n B0 M0 B M) (hL : LV n (d + 1) B) : ∀ m : Nat, m ≤ r → DR n B0 M0 (fr (reach1 K (nI d)) m (B, false)).1 (fr (mst1 d) m M) ∧ LV n (d + 1) (fr (reach1 K (nI d)) m (B, false)).1 ∧ (fr (reach1 K (nI d)) m (B, false) = (B, false) ∨ ((fr (reach1 K (nI d)) m (B, false)).2 = true ∧ U n (fr (reach1 K (nI d)) m (B, false)).1 < U n B))
  | 0, _ => ⟨h, hL, Or.inl rfl⟩
  | m + 1, hm => by
    obtain ⟨a, b, c⟩ := round_q hS hd B M h hL m (by omega)
    show DR n B0 M0 (reach1 K (nI d) m (fr (reach1 K (nI d)) m (B, false))).1 (mst1 d m (fr (mst1 d) m M)) ∧ LV n (d + 1) (reach1 K (nI d) m (fr (reach1 K (nI d)) m (B, false))).1 ∧ (reach1 K (nI d) m (fr (reach1 K (nI d)) m (B, false)) = (B, false) ∨ ((reach1 K (nI d) m (fr (reach1 K (nI d)) m (B, false))).2 = true ∧ U n (reach1 K (nI d) m (fr (reach1 K (nI d)) m (B, false))).1 < U n B))
    generalize fr (reach1 K (nI d)) m (B, false) = T at a b c ⊢
    generalize fr (mst1 d) m M = X at a ⊢
    obtain ⟨x, y, z⟩ := edge_q hS (show m < r by omega) hd T X a b
    refine ⟨x, y, ?_⟩
    rcases z with z | z
    · rw [z]; exact c
    · refine Or.inr ⟨z.1, ?_⟩
      rcases c with c | c
      · rw [c] at z
        rw [c]; exact z.2
      · exact Nat.lt_trans z.2 c.2
/-- where no stone is so far, nothing is reached -/
theorem stuck_q {n r : Nat} {B0 B : Sr} {K : St} {M0 M : Md} {d0 : Nat} (t : Nat) (hS : Sm n r B0 K M0) (h : DR n B0 M0 B M) (hL : LV n d0 B) : ∀ (k d : Nat), d0 < d → d + k < 2 ^ 31 → mSt t r k d M = M
  | 0, _, _, _ => rfl
  | k + 1, d, h1, h2 => by
    have hp := hS.1.1
    have h40 := hp.h40
    have key : fr (mst1 d) r M = M := fr_id r fun i hi => by
      obtain ⟨p0, p1, ⟨ja, hja, ea⟩, ⟨jb, hjb, eb⟩, p4⟩ := hp.WH.2.1 i hi
      obtain ⟨a, b, c, m1, m2, m3, m4, dd⟩ := h
      have no : ∀ j, j < n → ¬ M.2.2.1 3 j = nI d := fun j hj q => by
        rw [← dd j hj] at q
        rcases hL j hj with y | ⟨e, he, y⟩
        · exact nI_m1 (by omega) (q.symm.trans y)
        · have := (nI_eq (by omega) (by omega)).mp (q.symm.trans y)
          omega
      have eA : mstA d i M = M := by
        unfold mstA
        rw [m2, ea, ix_nI (by omega), if_neg (no ja hja)]
      have eB : mstB d i M = M := by
        unfold mstB
        rw [m2, eb, ix_nI (by omega), if_neg (no jb hjb)]
      unfold mst1
      rw [eA, eB]
      split <;> rfl
    unfold mSt
    rw [key]
    split
    · exact stuck_q t hS h hL k (d + 1) (by omega) (by omega)
    · rfl
theorem U_pos {n t : Nat} {B : Sr} (ht : t < n) (h : B.1 2 t = -1) : 0 < U n B := by
  have h1 : U n (vA B 2 t (nI 0)) < U n B := U_put ht (by omega) h
  omega
theorem bfs_q {n r t : Nat} {B0 : Sr} {K : St} {M0 : Md} (hS : Sm n r B0 K M0) (ht : t < n) : ∀ (ka kb d : Nat) (B : Sr) (M : Md), DR n B0 M0 B M → LV n d B → U n B ≤ ka → U n B ≤ kb → d + ka + kb + 1 < 2 ^ 31 → (∃ B' M', DR n B0 M0 B' M' ∧ True) ∧ (bfs K t ka d B).1 2 t = (mSt t r kb d M).2.2.1 3 t ∧ (bfs K t ka d B).1 0 = B0.1 0 ∧ (bfs K t ka d B).1 1 = B0.1 1 ∧ (bfs K t ka d B).2 = B0.2 ∧ Mq M0 (mSt t r kb d M) ∧ (mSt t r kb d M).2.2.2 = M0.2.2.2
  | ka, kb, d, B, M, h, hL, ha, hb, hd => by
    have hMq : ∀ X : Md, ∀ Y : Sr, DR n B0 M0 Y X → Mq M0 X := fun X Y g => ⟨g.2.2.2.1, g.2.2.2.2.1, by rw [g.2.2.2.2.2.1], by rw [g.2.2.2.2.2.1], by rw [g.2.2.2.2.2.2.1]⟩
    by_cases c : B.1 2 t = -1
    · have hu := U_pos ht c
      obtain ⟨ka, rfl⟩ : ∃ m, ka = m + 1 := ⟨ka - 1, by omega⟩
      obtain ⟨kb, rfl⟩ : ∃ m, kb = m + 1 := ⟨kb - 1, by omega⟩
      have cM : M.2.2.1 3 t = -1 := by rw [← h.2.2.2.2.2.2.2 t ht]; exact c
      have hL1 : LV n (d + 1) B := fun j hj => by
        rcases hL j hj with y | ⟨e, he, y⟩
        · exact Or.inl y
        · exact Or.inr ⟨e, by omega, y⟩
      obtain ⟨x, y, z⟩ := round_q hS (by omega) B M h hL1 r (Nat.le_refl r)
      unfold bfs mSt reachF
      rw [if_pos c, if_pos cM, show ix (B.2 0) = r from r_eq (by rw [h.2.2.1]; exact hS.1.1.br) hS.1.1.h30]
      generalize fr (reach1 K (nI d)) r (B, false) = T at x y z ⊢
      generalize fr (mst1 d) r M = X at x ⊢
      rcases z with z | ⟨z1, z2⟩
      · rw [z] at x ⊢
        rw [if_neg (show ¬ false = true by decide)]
        have es := stuck_q t hS x hL kb (d + 1) (by omega) (by omega)
        rw [es]
        exact ⟨⟨B, X, x, trivial⟩, x.2.2.2.2.2.2.2 t ht, x.1, x.2.1, x.2.2.1, hMq X _ x, x.2.2.2.2.2.1⟩
      · rw [if_pos z1]
        exact bfs_q hS ht ka kb (d + 1) T.1 X x y (by omega) (by omega) (by omega)
    · have cM : ¬ M.2.2.1 3 t = -1 := by rw [← h.2.2.2.2.2.2.2 t ht]; exact c
      have e1 : bfs K t ka d B = B := by
        cases ka with
        | zero => rfl
        | succ ka => unfold bfs; rw [if_neg c]
      have e2 : mSt t r kb d M = M := by
        cases kb with
        | zero => rfl
        | succ kb => unfold mSt; rw [if_neg cM]
      rw [e1, e2]
      exact ⟨⟨B, M, h, trivial⟩, h.2.2.2.2.2.2.2 t ht, h.1, h.2.1, h.2.2.1, hMq M _ h, h.2.2.2.2.2.1⟩
termination_by ka => ka
theorem clr_st (B : Sr) : ∀ m : Nat, (fr clr1 m B).1 0 = B.1 0 ∧ (fr clr1 m B).1 1 = B.1 1 ∧ (fr clr1 m B).2 = B.2 ∧ ∀ j, j < m → (fr clr1 m B).1 2 j = -1
  | 0 => ⟨rfl, rfl, rfl, fun j hj => absurd hj (Nat.not_lt_zero _)⟩
  | m + 1 => by
    obtain ⟨a, b, c, d⟩ := clr_st B m
    refine ⟨a, b, c, fun j hj => ?_⟩
    show (if j = m then (-1 : Int32) else (fr clr1 m B).1 2 j) = -1
    by_cases z : j = m
    · rw [if_pos z]
    · rw [if_neg z]; exact d j (by omega)
theorem aw_st (x : Nat) (M : Md) : ∀ m : Nat, (fr (maw0 x) m M).1 = M.1 ∧ (fr (maw0 x) m M).2.1 = M.2.1 ∧ (fr (maw0 x) m M).2.2.2 = M.2.2.2 ∧ (fr (maw0 x) m M).2.2.1 0 = M.2.2.1 0 ∧ ∀ j, j < m → (fr (maw0 x) m M).2.2.1 3 j = if nI j = nI x then 0 else -1
  | 0 => ⟨rfl, rfl, rfl, rfl, fun j hj => absurd hj (Nat.not_lt_zero _)⟩
  | m + 1 => by
    obtain ⟨a, b, c, e, d⟩ := aw_st x M m
    refine ⟨a, b, c, e, fun j hj => ?_⟩
    show (if j = m then (if nI m = nI x then 0 else -1) else (fr (maw0 x) m M).2.2.1 3 j) = _
    by_cases z : j = m
    · rw [if_pos z, z]
    · rw [if_neg z]; exact d j (by omega)
theorem sumN_1 (f : Nat → Nat) (h : ∀ i, f i ≤ 1) (n : Nat) : sumN f n ≤ n := by
  have := sumN_le_c (f := f) (c := 1) n (fun i _ => h i)
  omega
theorem fewP_ex (B : Sr) (K : St) {jx jy : Nat} (hx : jx < 2 ^ 31) (hy : jy < 2 ^ 31) : ∃ X : Sr, fewP B K (nI jx) (nI jy) = bfs K jy 40 0 (vA X 2 jx 0) ∧ X.1 0 = B.1 0 ∧ X.1 1 = B.1 1 ∧ X.2 = B.2 ∧ ∀ j, j < 40 → X.1 2 j = -1 := by
  refine ⟨fr clr1 40 B, ?_, clr_st B 40⟩
  rw [← bfs_def, ix_nI hx, ix_nI hy]
theorem mStR_ex (M : Md) {n r jx jy : Nat} (hx : jx < 2 ^ 31) (hy : jy < 2 ^ 31) (hn : M.2.2.2 1 = nI n) (hr : M.2.2.2 2 = nI r) (h40 : n ≤ 40) (h30 : r ≤ 30) : ∃ Y : Md, mStR M (nI jx) (nI jy) = mSt jy r n 0 Y ∧ Y.1 = (mI M 0 0).1 ∧ Y.2.1 = (mI M 0 0).2.1 ∧ Y.2.2.2 = (mI M 0 0).2.2.2 ∧ Y.2.2.1 0 = (mI M 0 0).2.2.1 0 ∧ ∀ j, j < n → Y.2.2.1 3 j = if nI j = nI jx then 0 else -1 := by
  refine ⟨fr (maw0 jx) n (mI M 0 0), ?_, aw_st jx (mI M 0 0) n⟩
  unfold mStR
  rw [ix_nI hx, ix_nI hy, mN_eq hn h40, mR_eq hr h30]
theorem few_q {n r jx jy : Nat} {B : Sr} {K : St} {M : Md} (hS : Sm n r B K M) (hx : jx < n) (hy : jy < n) : (fewP B K (nI jx) (nI jy)).1 2 jy = (mStR M (nI jx) (nI jy)).2.2.1 3 jy ∧ (fewP B K (nI jx) (nI jy)).1 0 = B.1 0 ∧ (fewP B K (nI jx) (nI jy)).1 1 = B.1 1 ∧ (fewP B K (nI jx) (nI jy)).2 = B.2 ∧ Mq (mI M 0 0) (mStR M (nI jx) (nI jy)) ∧ (mStR M (nI jx) (nI jy)).2.2.2 = (mI M 0 0).2.2.2 := by
  have hS0 : Sm n r B K (mI M 0 0) := Sm_q (Mq_mI M 0) hS
  have hp := hS.1.1
  have h40 := hp.h40
  obtain ⟨X, eF, a, b, c, d⟩ := fewP_ex B K (show jx < 2 ^ 31 by omega) (show jy < 2 ^ 31 by omega)
  obtain ⟨Y, eS, a', b', c', e', d'⟩ := mStR_ex M (show jx < 2 ^ 31 by omega) (show jy < 2 ^ 31 by omega) hp.mn hp.mr h40 hp.h30
  rw [eF, eS]
  have e2 : ∀ j, (vA X 2 jx 0).1 2 j = if j = jx then 0 else X.1 2 j := fun _ => rfl
  have hDR : DR n B (mI M 0 0) (vA X 2 jx 0) Y := ⟨a, b, c, a', b', c', e', fun j hj => by
    rw [e2, d' j hj]
    by_cases z : j = jx
    · rw [if_pos z, if_pos (by rw [z])]
    · rw [if_neg z, if_neg (fun q => z ((nI_eq (by omega) (by omega)).mp q))]
      exact d j (by omega)⟩
  have hLV : LV n 0 (vA X 2 jx 0) := fun j hj => by
    rw [e2]
    by_cases z : j = jx
    · rw [if_pos z]; exact Or.inr ⟨0, Nat.le_refl 0, rfl⟩
    · rw [if_neg z]; exact Or.inl (d j (by omega))
  have hU : U n (vA X 2 jx 0) ≤ n := sumN_1 _ (fun i => by
    unfold un
    split
    · exact Nat.le_refl 1
    · exact Nat.zero_le 1) n
  generalize vA X 2 jx 0 = Z at hDR hLV hU ⊢
  obtain ⟨-, g⟩ := bfs_q hS0 hy 40 n 0 Z Y hDR hLV (by omega) hU (by omega)
  exact g
theorem steps_q {n r : Nat} {B : Sr} {K : St} {M : Md} (h : Si n r B K M) (x y : Int32) : (mSteps M x y).1.2.2.2 0 = kc eI eA (cSteps K B x y).1 ∧ ((cSteps K B x y).1 = none → (mSteps M x y).2 = (cSteps K B x y).2.1) ∧ Si n r (cSteps K B x y).2.2 K (mSteps M x y).1 := by
  obtain ⟨hS, hK⟩ := h
  have hS0 : Sm n r B K (mI M 0 0) := Sm_q (Mq_mI M 0) hS
  have hp := hS0.1.1
  have h40 := hp.h40
  unfold mSteps cSteps
  rw [has_q h40 hp.kn hp.mn, has_q h40 hp.kn hp.mn]
  by_cases c1 : hasB K x = false ∨ hasB K y = false
  · rw [if_pos c1, if_pos c1]
    exact ⟨kc_IA1.symm, fun q => (by cases q), Sm_q (Mq_mI _ 1) hS0, hK⟩
  · rw [if_neg c1, if_neg c1]
    have d1 : hasB K x = true := bT (fun z => c1 (Or.inl z))
    have d2 : hasB K y = true := bT (fun z => c1 (Or.inr z))
    rw [hangs_q hS0 d1, hangs_q hS0 d2]
    by_cases c2 : hangsB K x = false ∨ hangsB K y = false
    · rw [if_pos c2, if_pos c2]
      exact ⟨rfl, fun _ => rfl, hS0, hK⟩
    · rw [if_neg c2, if_neg c2]
      unfold fewV fewQ
      rw [if_pos d1, if_pos d2, if_pos d1, if_pos d2]
      obtain ⟨jx, hjx, rfl⟩ := has_ix hp.kn h40 d1
      obtain ⟨jy, hjy, rfl⟩ := has_ix hp.kn h40 d2
      obtain ⟨e1, e2, e3, e4, e5, e6⟩ := few_q hS hjx hjy
      rw [ix_nI (show jy < 2 ^ 31 by omega)]
      generalize fewP B K (nI jx) (nI jy) = B' at e1 e2 e3 e4 ⊢
      generalize mStR M (nI jx) (nI jy) = M' at e1 e5 e6 ⊢
      have hS' := Sm_q e5 hS0
      obtain ⟨w1, w2, w3, w4⟩ := hS'.1.1.WH
      refine ⟨congrFun e6 0, fun _ => e1.symm, Sm_w hS' ⟨w1, fun k hk => ?_, w3, w4⟩ rfl rfl hp.h30 (by rw [e4]; exact hp.br), hK⟩
      rw [e2, e3]
      exact w2 k hk
