/-! the law's checks of every stair: numbers -/
def ab (x : Int32) : Int32 := if 0 ≤ x then x else 0 - x
section SA
variable {n r : Nat} {B B0 : Sr} {K : St} {M : Md}
theorem Df_dy (h : LI n r B K M) (hd : Df r M) : Df r (mDy M) := by
  have h3 : Df r (mGv (mDrop (fr mdy0 (mN M) M))) := Df_Gv (Df_of (M := M) (by rw [mDrop_w _ (by decide), dys_i]) (by rw [mDrop_w _ (by decide), dys_i]) hd)
  rw [mDy_eq]
  generalize mGv (mDrop (fr mdy0 (mN M) M)) = Z at h3 ⊢
  exact Df_of (M := Z) rfl rfl h3
theorem LI_Sam (h : LI n r B K M) (hS : Sam B B0) : LI n r B0 K M := by
  obtain ⟨a, b, c⟩ := hS
  obtain ⟨⟨⟨⟨⟨p1, p2, p3, p4, p5, p6, ⟨w1, w2, w3⟩, p8, p9, p10, p11⟩, s2, s3⟩, s4⟩, s5⟩, hr⟩ := h
  exact ⟨⟨⟨⟨⟨p1, p2, p3, p4, p5, p6, ⟨w1, fun k hk => by rw [a, b]; exact w2 k hk, w3⟩, p8, p9, p10, by rw [c]; exact p11⟩, s2, s3⟩, s4⟩, s5⟩, hr⟩
theorem LI_way (h : LI n r B K M) {k : Nat} (hk : k < r) : ∃ ja jb : Nat, ja < n ∧ jb < n ∧ M.2.1 0 k = nI ja ∧ M.2.1 1 k = nI jb ∧ B.1 0 k = nI ja ∧ B.1 1 k = nI jb ∧ goneR B K (nI k) = (!K.2.1 ja || !K.2.1 jb) ∧ M.2.1 2 k = bI (!K.2.1 ja || !K.2.1 jb) := by
  have h40 := h.h40
  obtain ⟨p0, p1, ⟨ja, hja, ea⟩, ⟨jb, hjb, eb⟩, p4⟩ := h.1.1.1.1.WH.2.1 k hk
  have hg := gone_q h.1.1.1.1 hk
  have e : goneK K (M.2.1 0 k) (M.2.1 1 k) = (!K.2.1 ja || !K.2.1 jb) := by
    unfold goneK
    rw [ea, eb, ix_nI (by omega), ix_nI (by omega)]
  refine ⟨ja, jb, hja, hjb, ea, eb, p0.trans ea, p1.trans eb, ?_, by rw [p4, e]⟩
  rw [← e]
  rw [p4] at hg
  cases x : goneR B K (nI k) <;> cases y : goneK K (M.2.1 0 k) (M.2.1 1 k) <;> rw [x, y] at hg <;> first | rfl | exact absurd hg (by decide)
theorem LI_Ends (h : LI n r B K M) : Ends n r B := ⟨h.br, fun k hk => by
  obtain ⟨ja, jb, hja, hjb, -, -, e0, e1, -⟩ := LI_way h hk
  exact ⟨⟨ja, hja, e0⟩, jb, hjb, e1⟩⟩
theorem Ed_sym {i j : Nat} (h : Ed r B K i j) : Ed r B K j i := by
  obtain ⟨k, hk, hg, e⟩ := h
  exact ⟨k, hk, hg, e.symm⟩
theorem Ed_Sam {i j : Nat} (hS : Sam B B0) (h : Ed r B0 K i j) : Ed r B K i j := by
  obtain ⟨k, hk, hg, e⟩ := h
  rw [gone_Sam hS] at hg
  rw [hS.1, hS.2.1] at e
  exact ⟨k, hk, hg, e⟩
/-- steps, as the class tells them -/
def spV (n r s t : Nat) (B : Sr) (K : St) (v : Int32) : Prop := if K.2.1 s = true ∧ K.2.1 t = true then StV n r s t B K v else v = -1
theorem go_steps (h : LI n r B K M) {s t : Nat} (hs : s < n) (ht : t < n) : (cSteps K B (nI s) (nI t)).1 = none ∧ Sam B (cSteps K B (nI s) (nI t)).2.2 ∧ spV n r s t B K (cSteps K B (nI s) (nI t)).2.1 := by
  have h40 := h.h40
  have gs : hasB K (nI s) = true := has_nI h.kn h40 hs
  have gt : hasB K (nI t) = true := has_nI h.kn h40 ht
  have hs9 : hangsB K (nI s) = K.2.1 s := by unfold hangsB; rw [gs, ix_nI (by omega)]; rfl
  have ht9 : hangsB K (nI t) = K.2.1 t := by unfold hangsB; rw [gt, ix_nI (by omega)]; rfl
  unfold cSteps spV
  rw [gs, gt, hs9, ht9, if_neg (by decide)]
  by_cases c : K.2.1 s = true ∧ K.2.1 t = true
  · rw [if_neg (by rw [c.1, c.2]; decide), if_pos c]
    obtain ⟨a, b⟩ := few_spec (K := K) h40 h.h30 (LI_Ends h) hs ht
    have e1 : fewV B K (nI s) (nI t) = (fewP B K (nI s) (nI t)).1 2 t := by
      unfold fewV
      rw [gs, gt, if_pos rfl, if_pos rfl, ix_nI (by omega)]
    have e2 : fewQ B K (nI s) (nI t) = fewP B K (nI s) (nI t) := by
      unfold fewQ
      rw [gs, gt, if_pos rfl, if_pos rfl]
    refine ⟨rfl, ?_, ?_⟩
    · show Sam B (fewQ B K (nI s) (nI t))
      rw [e2]; exact a
    · show StV n r s t B K (fewV B K (nI s) (nI t))
      rw [e1]; exact b
  · rw [if_neg c, if_pos]
    · exact ⟨rfl, ⟨rfl, rfl, rfl⟩, rfl⟩
    · cases x : K.2.1 s with
      | false => exact Or.inl rfl
      | true =>
        cases y : K.2.1 t with
        | false => exact Or.inr rfl
        | true => exact absurd ⟨x, y⟩ c
theorem Wk_Sam {s : Nat} (hS : Sam B B0) : ∀ (e j : Nat), Wk n r B0 K s e j → Wk n r B K s e j
  | 0, _, h => h
  | e + 1, j, ⟨i, hi, w, ed⟩ => ⟨i, hi, Wk_Sam hS e i w, Ed_Sam hS ed⟩
theorem Sam_sym (hS : Sam B B0) : Sam B0 B := ⟨hS.1.symm, hS.2.1.symm, hS.2.2.symm⟩
theorem Sam_tr {B1 : Sr} (h1 : Sam B B0) (h2 : Sam B0 B1) : Sam B B1 := ⟨h2.1.trans h1.1, h2.2.1.trans h1.2.1, h2.2.2.trans h1.2.2⟩
theorem spV_Sam {s t : Nat} {v : Int32} (hS : Sam B B0) (h : spV n r s t B0 K v) : spV n r s t B K v := by
  unfold spV at *
  by_cases z : K.2.1 s = true ∧ K.2.1 t = true
  · rw [if_pos z] at h ⊢
    rcases h with ⟨a, b⟩ | ⟨e, he, a, b, c⟩
    · exact Or.inl ⟨a, fun e q => b e (Wk_Sam (Sam_sym hS) e t q)⟩
    · exact Or.inr ⟨e, he, a, Wk_Sam hS e t b, fun f hf q => c f hf (Wk_Sam (Sam_sym hS) f t q)⟩
  · rw [if_neg z] at h ⊢
    exact h
/-- along a stair: one step -/
theorem sp_one {a b : Nat} {v : Int32} (ha : a < n) (hab : a ≠ b) (ka : K.2.1 a = true) (kb : K.2.1 b = true) (ed : Ed r B K a b) (h : spV n r a b B K v) : v = 1 := by
  unfold spV at h
  rw [if_pos ⟨ka, kb⟩] at h
  have w : Wk n r B K a 1 b := ⟨a, ha, rfl, ed⟩
  rcases h with ⟨-, q⟩ | ⟨e, he, q, w2, c⟩
  · exact absurd w (q 1)
  · by_cases e1 : e = 1
    · rw [q, e1]; rfl
    · by_cases e0 : e = 0
      · subst e0
        exact absurd w2.symm hab
      · exact absurd w (c 1 (by omega))
/-- the ends of a stair are reached alike, at most a step apart -/
theorem sp_two {s a b : Nat} {va vb : Int32} (ha : a < n) (hb : b < n) (ka : K.2.1 a = true) (kb : K.2.1 b = true) (ed : Ed r B K a b) (h1 : spV n r s a B K va) (h2 : spV n r s b B K vb) : (va < 0 ↔ vb < 0) ∧ ab (va - vb) ≤ 1 := by
  unfold spV at h1 h2
  by_cases ks : K.2.1 s = true
  · rw [if_pos ⟨ks, ka⟩] at h1
    rw [if_pos ⟨ks, kb⟩] at h2
    have up : ∀ e, Wk n r B K s e a → Wk n r B K s (e + 1) b := fun e w => ⟨a, ha, w, ed⟩
    have dn : ∀ e, Wk n r B K s e b → Wk n r B K s (e + 1) a := fun e w => ⟨b, hb, w, Ed_sym ed⟩
    rcases h1 with ⟨e1, q1⟩ | ⟨e, he, e1, w1, c1⟩
    · rcases h2 with ⟨e2, -⟩ | ⟨f, hf, e2, w2, c2⟩
      · rw [e1, e2]; exact ⟨Iff.rfl, by decide⟩
      · exact absurd (dn f w2) (q1 _)
    · rcases h2 with ⟨e2, q2⟩ | ⟨f, hf, e2, w2, c2⟩
      · exact absurd (up e w1) (q2 _)
      · have x1 : f ≤ e + 1 := Nat.not_lt.mp fun q => c2 _ q (up e w1)
        have x2 : e ≤ f + 1 := Nat.not_lt.mp fun q => c1 _ q (dn f w2)
        rw [e1, e2]
        refine ⟨⟨fun q => absurd q (nI_pos (by omega)), fun q => absurd q (nI_pos (by omega))⟩, ?_⟩
        rcases (show e = f ∨ e = f + 1 ∨ f = e + 1 by omega) with rfl | rfl | rfl
        · rw [Int32.sub_self]; decide
        · rw [show nI (f + 1) - nI f = 1 from by rw [sub_nI (by omega), Nat.add_sub_cancel_left]; rfl]; decide
        · rw [show nI e - nI (e + 1) = -1 from by
            have z := sub_nI (show e ≤ e + 1 by omega)
            rw [Nat.add_sub_cancel_left] at z
            have z2 : nI e - nI (e + 1) = -(nI (e + 1) - nI e) := (Int32.neg_sub).symm
            rw [z2, z]; rfl]
          decide
  · rw [if_neg (fun q => ks q.1)] at h1 h2
    rw [h1, h2]
    exact ⟨Iff.rfl, by decide⟩
end SA
