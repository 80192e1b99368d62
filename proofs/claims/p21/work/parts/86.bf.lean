/-! steps: what the class's search tells -/
def un (B : Sr) (j : Nat) : Nat := if B.1 2 j = -1 then 1 else 0
def U (n : Nat) (B : Sr) : Nat := sumN (un B) n
theorem U_put {n j d : Nat} {B : Sr} (hj : j < n) (hd : d < 2 ^ 31) (h : B.1 2 j = -1) : U n (vA B 2 j (nI d)) < U n B := by
  have e : ∀ i, un (vA B 2 j (nI d)) i = if (if i = j then nI d else B.1 2 i) = -1 then 1 else 0 := fun _ => rfl
  have e2 : ∀ i, un B i = if B.1 2 i = -1 then 1 else 0 := fun _ => rfl
  refine sumN_lt n j hj (fun i hi => ?_) ?_
  · rw [e, e2]
    by_cases z : i = j
    · rw [if_pos z, if_neg (nI_m1 hd)]; exact Nat.zero_le _
    · rw [if_neg z]; exact Nat.le_refl _
  · rw [e, e2, if_pos rfl, if_neg (nI_m1 hd), if_pos h]
    exact Nat.zero_lt_one
theorem sumN_1 (f : Nat → Nat) (h : ∀ i, f i ≤ 1) (n : Nat) : sumN f n ≤ n := by
  have := sumN_le_c (f := f) (c := 1) n (fun i _ => h i)
  omega
theorem U_pos {n t : Nat} {B : Sr} (ht : t < n) (h : B.1 2 t = -1) : 0 < U n B := by
  have h1 : U n (vA B 2 t (nI 0)) < U n B := U_put ht (by omega) h
  omega
theorem stepB_at {n ja jb : Nat} {B : Sr} {d : Int32} (h40 : n ≤ 40) (ha : ja < n) (hb : jb < n) : stepB B (nI ja) (nI jb) d = (decide (B.1 2 ja = d) && decide (B.1 2 jb = -1)) := by
  have hp : ∀ j, j < n → placeB (nI j) = true := fun j hj => by
    unfold placeB
    have h1 : ¬ nI j < 0 := nI_pos (by omega)
    have h2 : ¬ (40 : Int32) ≤ nI j := nI_ge (b := 40) (by omega) (by omega)
    simp [h1, h2]
  unfold stepB
  rw [hp ja ha, hp jb hb, ix_nI (by omega), ix_nI (by omega)]
  rfl
/-- the ends of the ways -/
def Ends (n r : Nat) (B : Sr) : Prop := B.2 0 = nI r ∧ ∀ k, k < r → (∃ j, j < n ∧ B.1 0 k = nI j) ∧ ∃ j, j < n ∧ B.1 1 k = nI j
/-- two stones that a standing stair joins -/
def Ed (r : Nat) (B : Sr) (K : St) (i j : Nat) : Prop := ∃ k, k < r ∧ goneR B K (nI k) = false ∧ ((B.1 0 k = nI i ∧ B.1 1 k = nI j) ∨ (B.1 0 k = nI j ∧ B.1 1 k = nI i))
def Wk (n r : Nat) (B : Sr) (K : St) (s : Nat) : Nat → Nat → Prop
  | 0, j => j = s
  | d + 1, j => ∃ i, i < n ∧ Wk n r B K s d i ∧ Ed r B K i j
def Sam (B0 B : Sr) : Prop := B.1 0 = B0.1 0 ∧ B.1 1 = B0.1 1 ∧ B.2 = B0.2
theorem gone_Sam {B0 B : Sr} {K : St} {x : Int32} (h : Sam B0 B) : goneR B K x = goneR B0 K x := by
  obtain ⟨a, b, c⟩ := h
  unfold goneR hasR
  rw [a, b, c]
theorem Sam_put {B0 B : Sr} {j : Nat} {v : Int32} (h : Sam B0 B) : Sam B0 (vA B 2 j v) := h
section BF
variable {n r : Nat} {B0 : Sr} {K : St}
theorem edge_at {d k : Nat} (h40 : n ≤ 40) (hE : Ends n r B0) (hk : k < r) (T : Sr × Bool) (hS : Sam B0 T.1) {ja jb : Nat} (ha : ja < n) (hb : jb < n) (ea : B0.1 0 k = nI ja) (eb : B0.1 1 k = nI jb) : reach1 K (nI d) k T = if goneR B0 K (nI k) = true then T else if T.1.1 2 ja = nI d ∧ T.1.1 2 jb = -1 then (vA T.1 2 jb (nI (d + 1)), true) else if T.1.1 2 jb = nI d ∧ T.1.1 2 ja = -1 then (vA T.1 2 ja (nI (d + 1)), true) else T := by
  obtain ⟨a, b, c⟩ := hS
  have ra : rchA T (nI d) k = stepP T.1 (nI ja) (nI jb) (nI d) := by
    show stepP T.1 (T.1.1 0 k) (T.1.1 1 k) (nI d) = _
    rw [a, b, ea, eb]
  unfold reach1
  rw [gone_Sam ⟨a, b, c⟩, ra, a, b, ea, eb, stepB_at h40 ha hb]
  cases z : goneR B0 K (nI k) with
  | true => rw [if_pos rfl, if_pos rfl]
  | false =>
    rw [if_neg (show ¬ (false = true) by decide), if_neg (show ¬ (false = true) by decide)]
    by_cases c1 : T.1.1 2 ja = nI d ∧ T.1.1 2 jb = -1
    · have e1 : (decide (T.1.1 2 ja = nI d) && decide (T.1.1 2 jb = -1)) = true := by simp [c1.1, c1.2]
      rw [if_pos e1, if_pos c1]
      unfold stepP
      rw [stepB_at h40 ha hb, if_pos e1, ix_nI (by omega), nI_1]
    · have e1 : (decide (T.1.1 2 ja = nI d) && decide (T.1.1 2 jb = -1)) = false := by
        cases y : (decide (T.1.1 2 ja = nI d) && decide (T.1.1 2 jb = -1)) with
        | false => rfl
        | true =>
          simp only [Bool.and_eq_true, decide_eq_true_eq] at y
          exact absurd y c1
      have es : stepP T.1 (nI ja) (nI jb) (nI d) = T.1 := by
        unfold stepP
        rw [stepB_at h40 ha hb, e1, if_neg (by decide)]
      rw [e1, if_neg (by decide), if_neg c1, es, a, b, ea, eb, stepB_at h40 hb ha]
      by_cases c2 : T.1.1 2 jb = nI d ∧ T.1.1 2 ja = -1
      · have e2 : (decide (T.1.1 2 jb = nI d) && decide (T.1.1 2 ja = -1)) = true := by simp [c2.1, c2.2]
        rw [if_pos e2, if_pos c2]
        unfold stepP
        rw [stepB_at h40 hb ha, if_pos e2, ix_nI (by omega), nI_1]
      · have e2 : (decide (T.1.1 2 jb = nI d) && decide (T.1.1 2 ja = -1)) = false := by
          cases y : (decide (T.1.1 2 jb = nI d) && decide (T.1.1 2 ja = -1)) with
          | false => rfl
          | true =>
            simp only [Bool.and_eq_true, decide_eq_true_eq] at y
            exact absurd y c2
        rw [e2, if_neg (by decide), if_neg c2]
        unfold stepP
        rw [stepB_at h40 hb ha, e2, if_neg (by decide)]
/-- where a round stands behind m stairs -/
def Rd9 (n r d m : Nat) (B0 : Sr) (K : St) (B : Sr) (T : Sr × Bool) : Prop := Sam B0 T.1 ∧ (∀ j, j < n → (¬ B.1 2 j = -1 → T.1.1 2 j = B.1 2 j) ∧ (B.1 2 j = -1 → (T.1.1 2 j = -1 ∧ ∀ k i, k < m → i < n → goneR B0 K (nI k) = false → B.1 2 i = nI d → ¬ ((B0.1 0 k = nI i ∧ B0.1 1 k = nI j) ∨ (B0.1 0 k = nI j ∧ B0.1 1 k = nI i))) ∨ (T.1.1 2 j = nI (d + 1) ∧ ∃ i, i < n ∧ B.1 2 i = nI d ∧ Ed r B0 K i j))) ∧ (T.2 = false → T = (B, false)) ∧ (T.2 = true → U n T.1 < U n B)
theorem rd9_put {d m : Nat} {B : Sr} {T : Sr × Bool} (hd : d + 1 < 2 ^ 31) (hm : m < r) (hg : goneR B0 K (nI m) = false) {i0 j0 : Nat} (hi : i0 < n) (hj : j0 < n) (he : (B0.1 0 m = nI i0 ∧ B0.1 1 m = nI j0) ∨ (B0.1 0 m = nI j0 ∧ B0.1 1 m = nI i0)) (h40 : n ≤ 40) (h : Rd9 n r d m B0 K B T) (c1 : T.1.1 2 i0 = nI d) (c2 : T.1.1 2 j0 = -1) : Rd9 n r d (m + 1) B0 K B (vA T.1 2 j0 (nI (d + 1)), true) := by
  obtain ⟨hS, hL, hF, hT⟩ := h
  have ev : ∀ j, (vA T.1 2 j0 (nI (d + 1))).1 2 j = if j = j0 then nI (d + 1) else T.1.1 2 j := fun _ => rfl
  have bi : B.1 2 i0 = nI d := by
    by_cases z : B.1 2 i0 = -1
    · rcases (hL i0 hi).2 z with ⟨y, -⟩ | ⟨y, -⟩
      · exact absurd (c1.symm.trans y) (nI_m1 (by omega))
      · have := (nI_eq (by omega) (by omega)).mp (c1.symm.trans y)
        omega
    · rw [← (hL i0 hi).1 z]; exact c1
  have bj : B.1 2 j0 = -1 := by
    by_cases z : B.1 2 j0 = -1
    · exact z
    · rw [(hL j0 hj).1 z] at c2; exact absurd c2 z
  refine ⟨Sam_put hS, fun j hjn => ⟨fun q => ?_, fun q => ?_⟩, fun q => absurd (show true = false from q) (by decide), fun _ => ?_⟩
  · show (vA T.1 2 j0 (nI (d + 1))).1 2 j = _
    rw [ev, if_neg (fun z => q (by rw [z]; exact bj))]
    exact (hL j hjn).1 q
  · show ((vA T.1 2 j0 (nI (d + 1))).1 2 j = -1 ∧ _) ∨ ((vA T.1 2 j0 (nI (d + 1))).1 2 j = _ ∧ _)
    rw [ev]
    by_cases z : j = j0
    · rw [if_pos z]
      exact Or.inr ⟨rfl, i0, hi, bi, m, hm, hg, by rw [z]; exact he⟩
    · rw [if_neg z]
      rcases (hL j hjn).2 q with ⟨y, w⟩ | y
      · refine Or.inl ⟨y, fun k i hk hin hgk hbi hee => ?_⟩
        by_cases hkm : k = m
        · subst hkm
          have ne : ∀ a b : Nat, a < n → b < n → nI a = nI b → a = b := fun a b ha hb e => (nI_eq (by omega) (by omega)).mp e
          rcases he with ⟨e1, e2⟩ | ⟨e1, e2⟩ <;> rcases hee with ⟨f1, f2⟩ | ⟨f1, f2⟩
          · exact z (ne _ _ hjn hj (f2.symm.trans e2))
          · have a1 := ne _ _ hjn hi (f1.symm.trans e1)
            rw [a1, bi] at q
            exact nI_m1 (by omega) q
          · have a1 := ne _ _ hjn hi (f2.symm.trans e2)
            rw [a1, bi] at q
            exact nI_m1 (by omega) q
          · exact z (ne _ _ hjn hj (f1.symm.trans e1))
        · exact w k i (by omega) hin hgk hbi hee
      · exact Or.inr y
  · have u1 : U n (vA T.1 2 j0 (nI (d + 1))) < U n T.1 := U_put hj hd c2
    cases z : T.2 with
    | true => have := hT z; exact Nat.lt_trans u1 this
    | false =>
      have e := hF z
      rw [e] at u1
      rw [e]
      exact u1
theorem rd9_keep {d m : Nat} {B : Sr} {T : Sr × Bool} (hd : d + 1 < 2 ^ 31) (h40 : n ≤ 40) (h : Rd9 n r d m B0 K B T) (hno : goneR B0 K (nI m) = false → ∀ i j, i < n → j < n → ((B0.1 0 m = nI i ∧ B0.1 1 m = nI j) ∨ (B0.1 0 m = nI j ∧ B0.1 1 m = nI i)) → ¬ (T.1.1 2 i = nI d ∧ T.1.1 2 j = -1)) : Rd9 n r d (m + 1) B0 K B T := by
  obtain ⟨hS, hL, hF, hT⟩ := h
  refine ⟨hS, fun j hj => ⟨(hL j hj).1, fun q => ?_⟩, hF, hT⟩
  rcases (hL j hj).2 q with ⟨y, w⟩ | y
  · refine Or.inl ⟨y, fun k i hk hi hg hb he => ?_⟩
    by_cases hkm : k = m
    · subst hkm
      have ti : T.1.1 2 i = nI d := by rw [(hL i hi).1 (by rw [hb]; exact nI_m1 (by omega))]; exact hb
      exact hno hg i j hi hj he ⟨ti, y⟩
    · exact w k i (by omega) hi hg hb he
  · exact Or.inr y
theorem rd9_all {d : Nat} {B : Sr} (hd : d + 1 < 2 ^ 31) (h40 : n ≤ 40) (h30 : r ≤ 30) (hE : Ends n r B0) (hS : Sam B0 B) : ∀ m : Nat, m ≤ r → Rd9 n r d m B0 K B (fr (reach1 K (nI d)) m (B, false))
  | 0, _ => ⟨hS, fun j hj => ⟨fun _ => rfl, fun q => Or.inl ⟨q, fun k i hk => absurd hk (Nat.not_lt_zero _)⟩⟩, fun _ => rfl, fun q => absurd (show false = true from q) (by decide)⟩
  | m + 1, hm => by
    have ih := rd9_all hd h40 h30 hE hS m (by omega)
    show Rd9 n r d (m + 1) B0 K B (reach1 K (nI d) m (fr (reach1 K (nI d)) m (B, false)))
    generalize fr (reach1 K (nI d)) m (B, false) = T at ih ⊢
    obtain ⟨⟨ja, ha, ea⟩, ⟨jb, hb, eb⟩⟩ := hE.2 m (by omega)
    rw [edge_at h40 hE (by omega) T ih.1 ha hb ea eb]
    have ne : ∀ a b : Nat, a < n → b < n → nI a = nI b → a = b := fun a b ha hb e => (nI_eq (by omega) (by omega)).mp e
    cases z : goneR B0 K (nI m) with
    | true =>
      rw [if_pos rfl]
      exact rd9_keep hd h40 ih (fun q => by rw [z] at q; cases q)
    | false =>
      rw [if_neg (by decide)]
      by_cases c1 : T.1.1 2 ja = nI d ∧ T.1.1 2 jb = -1
      · rw [if_pos c1]
        exact rd9_put hd (by omega) z ha hb (Or.inl ⟨ea, eb⟩) h40 ih c1.1 c1.2
      · rw [if_neg c1]
        by_cases c2 : T.1.1 2 jb = nI d ∧ T.1.1 2 ja = -1
        · rw [if_pos c2]
          exact rd9_put hd (by omega) z hb ha (Or.inr ⟨ea, eb⟩) h40 ih c2.1 c2.2
        · rw [if_neg c2]
          refine rd9_keep hd h40 ih (fun _ i j hi hj he q => ?_)
          rcases he with ⟨e1, e2⟩ | ⟨e1, e2⟩
          · have a1 := ne _ _ ha hi (ea.symm.trans e1)
            have a2 := ne _ _ hb hj (eb.symm.trans e2)
            subst a1; subst a2
            exact c1 q
          · have a1 := ne _ _ ha hj (ea.symm.trans e1)
            have a2 := ne _ _ hb hi (eb.symm.trans e2)
            subst a1; subst a2
            exact c2 q
/-- levels up to d are right -/
def LvI (n r d s : Nat) (B0 : Sr) (K : St) (B : Sr) : Prop := Sam B0 B ∧ ∀ j, j < n → (B.1 2 j = -1 ∧ ∀ e, e ≤ d → ¬ Wk n r B0 K s e j) ∨ ∃ e, e ≤ d ∧ B.1 2 j = nI e ∧ Wk n r B0 K s e j ∧ ∀ f, f < e → ¬ Wk n r B0 K s f j
theorem Lv_val {d s i : Nat} {B : Sr} (hd : d < 2 ^ 31) (h : LvI n r d s B0 K B) (hi : i < n) : B.1 2 i = nI d ↔ Wk n r B0 K s d i ∧ ∀ f, f < d → ¬ Wk n r B0 K s f i := by
  rcases h.2 i hi with ⟨a, b⟩ | ⟨e, he, a, b, c⟩
  · rw [a]
    exact ⟨fun q => absurd q.symm (nI_m1 hd), fun q => absurd q.1 (b d (Nat.le_refl d))⟩
  · rw [a]
    refine ⟨fun q => ?_, fun q => ?_⟩
    · have := (nI_eq (by omega) hd).mp q
      subst this
      exact ⟨b, c⟩
    · by_cases z : e = d
      · rw [z]
      · exact absurd b (q.2 e (by omega))
theorem Lv_round {d s : Nat} {B : Sr} (hd : d + 1 < 2 ^ 31) (h40 : n ≤ 40) (h30 : r ≤ 30) (hE : Ends n r B0) (h : LvI n r d s B0 K B) : LvI n r (d + 1) s B0 K (fr (reach1 K (nI d)) r (B, false)).1 := by
  have hR := rd9_all (K := K) hd h40 h30 hE h.1 r (Nat.le_refl r)
  generalize fr (reach1 K (nI d)) r (B, false) = T at hR ⊢
  obtain ⟨hS, hL, -, -⟩ := hR
  refine ⟨hS, fun j hj => ?_⟩
  rcases h.2 j hj with ⟨a, b⟩ | ⟨e, he, a, b, c⟩
  · rcases (hL j hj).2 a with ⟨y, w⟩ | ⟨y, i, hi, bi, ed⟩
    · refine Or.inl ⟨y, fun e he q => ?_⟩
      by_cases z : e = d + 1
      · subst z
        obtain ⟨i, hi, wi, k, hk, hg, ee⟩ := q
        refine w k i hk hi hg ((Lv_val (by omega) h hi).mpr ⟨wi, fun f hf wf => ?_⟩) ee
        exact b (f + 1) (by omega) ⟨i, hi, wf, k, hk, hg, ee⟩
      · exact b e (by omega) q
    · exact Or.inr ⟨d + 1, Nat.le_refl _, y, ⟨i, hi, ((Lv_val (by omega) h hi).mp bi).1, ed⟩, fun f hf => b f (by omega)⟩
  · refine Or.inr ⟨e, by omega, ?_, b, c⟩
    rw [(hL j hj).1 (by rw [a]; exact nI_m1 (by omega))]
    exact a
/-- what a stone's steps are -/
def StV (n r s t : Nat) (B0 : Sr) (K : St) (v : Int32) : Prop := (v = -1 ∧ ∀ e, ¬ Wk n r B0 K s e t) ∨ ∃ e, e < 100 ∧ v = nI e ∧ Wk n r B0 K s e t ∧ ∀ f, f < e → ¬ Wk n r B0 K s f t
theorem Wk_stuck {d s : Nat} (hno : ∀ j, j < n → Wk n r B0 K s (d + 1) j → ∃ e, e ≤ d ∧ Wk n r B0 K s e j) : ∀ (e j : Nat), j < n → Wk n r B0 K s e j → ∃ f, f ≤ d ∧ Wk n r B0 K s f j
  | 0, j, _, h => ⟨0, Nat.zero_le _, h⟩
  | e + 1, j, hj, ⟨i, hi, wi, ed⟩ => by
    obtain ⟨f, hf, wf⟩ := Wk_stuck hno e i hi wi
    by_cases z : f = d
    · subst z
      exact hno j hj ⟨i, hi, wf, ed⟩
    · exact ⟨f + 1, by omega, i, hi, wf, ed⟩
theorem bfs_spec {s t : Nat} (h40 : n ≤ 40) (h30 : r ≤ 30) (hE : Ends n r B0) (ht : t < n) : ∀ (k d : Nat) (B : Sr), LvI n r d s B0 K B → U n B ≤ k → d + k < 100 → Sam B0 (bfs K t k d B) ∧ StV n r s t B0 K ((bfs K t k d B).1 2 t)
  | k, d, B, h, hU, hd => by
    by_cases c : B.1 2 t = -1
    · have hu := U_pos ht c
      obtain ⟨k, rfl⟩ : ∃ m, k = m + 1 := ⟨k - 1, by omega⟩
      have hn := Lv_round (by omega) h40 h30 hE h
      have hR := rd9_all (K := K) (d := d) (by omega) h40 h30 hE h.1 r (Nat.le_refl r)
      unfold bfs reachF
      rw [if_pos c, show ix (B.2 0) = r from r_eq (by rw [h.1.2.2]; exact hE.1) h30]
      generalize fr (reach1 K (nI d)) r (B, false) = T at hn hR ⊢
      cases z : T.2 with
      | true =>
        rw [if_pos rfl]
        exact bfs_spec h40 h30 hE ht k (d + 1) T.1 hn (by have := hR.2.2.2 z; omega) (by omega)
      | false =>
        rw [if_neg (by decide)]
        have e := hR.2.2.1 z
        rw [e] at hn ⊢
        refine ⟨h.1, Or.inl ⟨c, fun e9 q => ?_⟩⟩
        obtain ⟨f, hf, wf⟩ := Wk_stuck (d := d) (fun j hj wj => by
          rcases h.2 j hj with ⟨a, b⟩ | ⟨e2, he2, a, b, -⟩
          · rcases hn.2 j hj with ⟨a2, b2⟩ | ⟨e3, he3, a3, b3, -⟩
            · exact absurd wj (b2 (d + 1) (Nat.le_refl _))
            · exact absurd (a3.symm.trans a) (nI_m1 (by omega))
          · exact ⟨e2, he2, b⟩) e9 t ht q
        rcases h.2 t ht with ⟨-, b⟩ | ⟨e2, he2, a, -, -⟩
        · exact b f hf wf
        · exact nI_m1 (by omega) (a.symm.trans c)
    · have e1 : bfs K t k d B = B := by
        cases k with
        | zero => rfl
        | succ k => unfold bfs; rw [if_neg c]
      rw [e1]
      refine ⟨h.1, ?_⟩
      rcases h.2 t ht with ⟨a, -⟩ | ⟨e, he, a, b, cc⟩
      · exact absurd a c
      · exact Or.inr ⟨e, by omega, a, b, cc⟩
  termination_by k => k
theorem clr_st (B : Sr) : ∀ m : Nat, Sam B (fr clr1 m B) ∧ ∀ j, j < m → (fr clr1 m B).1 2 j = -1
  | 0 => ⟨⟨rfl, rfl, rfl⟩, fun j hj => absurd hj (Nat.not_lt_zero _)⟩
  | m + 1 => by
    obtain ⟨a, d⟩ := clr_st B m
    refine ⟨a, fun j hj => ?_⟩
    show (if j = m then (-1 : Int32) else (fr clr1 m B).1 2 j) = -1
    by_cases z : j = m
    · rw [if_pos z]
    · rw [if_neg z]; exact d j (by omega)
theorem few_spec {s t : Nat} (h40 : n ≤ 40) (h30 : r ≤ 30) (hE : Ends n r B0) (hs : s < n) (ht : t < n) : Sam B0 (fewP B0 K (nI s) (nI t)) ∧ StV n r s t B0 K ((fewP B0 K (nI s) (nI t)).1 2 t) := by
  rw [← bfs_def, ix_nI (by omega), ix_nI (by omega)]
  obtain ⟨a, b⟩ := clr_st B0 40
  have e2 : ∀ j, (vA (fr clr1 40 B0) 2 s 0).1 2 j = if j = s then 0 else (fr clr1 40 B0).1 2 j := fun _ => rfl
  refine bfs_spec h40 h30 hE ht 40 0 _ ⟨Sam_put a, fun j hj => ?_⟩ ?_ (by omega)
  · rw [e2]
    by_cases z : j = s
    · rw [if_pos z]; exact Or.inr ⟨0, Nat.le_refl 0, rfl, z, fun f hf => absurd hf (Nat.not_lt_zero _)⟩
    · rw [if_neg z]
      refine Or.inl ⟨b j (by omega), fun e he q => ?_⟩
      obtain rfl : e = 0 := by omega
      exact z q
  · refine Nat.le_trans (sumN_1 _ (fun i => ?_) n) h40
    unfold un
    split
    · exact Nat.le_refl 1
    · exact Nat.zero_le 1
end BF
