/-! giving way, walked -/
theorem mt1_row (f i : Nat) (T : Md × Bool) {q : Nat} (h : q ≠ 4 ∧ q ≠ 5) : (mt1 f i T).1.1 q = T.1.1 q := by
  unfold mt1
  split
  · split
    · split
      · show (if q = 5 then _ else (if q = 4 then _ else T.1.1 q)) = _
        rw [if_neg h.2, if_neg h.1]
      · show (if q = 5 then _ else T.1.1 q) = _
        rw [if_neg h.2]
    · rfl
  · rfl
theorem frA_row (f : Nat) {q : Nat} (h : q ≠ 4 ∧ q ≠ 5) : ∀ (k a : Nat) (T : Md × Bool), (frA (mt1 f) a k T).1.1 q = T.1.1 q
  | 0, _, _ => rfl
  | k + 1, a, T => (frA_row f h k (a + 1) _).trans (mt1_row f a T h)
theorem md1_row (i : Nat) (M : Md) {q : Nat} (h : q ≠ 2 ∧ q ≠ 3 ∧ q ≠ 4 ∧ q ≠ 5) : (md1 i M).1 q = M.1 q := by
  have hf : (mFall M i).1 q = M.1 q := by
    unfold mFall
    rw [mT_fr (mt_fk i)]
    unfold mFl
    show (if q = 5 then _ else (if q = 4 then _ else (if q = 3 then _ else (mTear (tA M 2 i 0) i).1.1 q))) = _
    rw [if_neg h.2.2.2, if_neg h.2.2.1, if_neg h.2.1]
    unfold mTear
    rw [frA_row i ⟨h.2.2.1, h.2.2.2⟩]
    exact if_neg h.1
  unfold md1
  split
  · split
    · split
      · exact hf
      · rfl
    · rfl
  · rfl
theorem mDrop_row (M : Md) {q : Nat} (h : q ≠ 2 ∧ q ≠ 3 ∧ q ≠ 4 ∧ q ≠ 5) : (mDrop M).1 q = M.1 q := by
  unfold mDrop
  have : ∀ m, (fr md1 m M).1 q = M.1 q := fun m => by
    induction m with
    | zero => rfl
    | succ m ih => exact (md1_row m _ h).trans ih
  exact this _
theorem mg1_row (k : Nat) (T : Md × Bool) {q : Nat} (h : q ≠ 3 ∧ q ≠ 4 ∧ q ≠ 5) : (mg1 k T).1.1 q = T.1.1 q := by
  have h0 : (mg0 k T).1.1 q = T.1.1 q := by
    unfold mg0
    split
    · rfl
    · exact frA_row k ⟨h.2.1, h.2.2⟩ _ _ (T.1, false)
  unfold mg1
  split
  · unfold mgE
    split
    · exact h0
    · split
      · show (if q = 3 then _ else (mg0 k T).1.1 q) = _
        rw [if_neg h.1]
        exact h0
      · exact h0
  · rfl
theorem mRd_row (M : Md) {q : Nat} (h : q ≠ 3 ∧ q ≠ 4 ∧ q ≠ 5) : (mRd M).1.1 q = M.1 q := by
  unfold mRd
  have : ∀ m, (fr mg1 m (mRk M, false)).1.1 q = M.1 q := fun m => by
    induction m with
    | zero => show (mRk M).1 q = _; rw [mt_Rk]
    | succ m ih => exact (mg1_row m _ h).trans ih
  exact this _
theorem WB_round {n : Nat} {M : Md} (h : WB n M) : WB n (mDrop (mRd M).1) := WB_of ((mDrop_row _ (by decide)).trans (mRd_row M (by decide))) ((mDrop_row _ (by decide)).trans (mRd_row M (by decide))) h
def t5 (T : WF) : WF := fun i => if 410 ≤ i ∧ i ≤ 414 then none else T i
def tG (T : WF) (n : Nat) (z1 z2 : Nat → Bool) (f g : Nat → Int32) : WF := fun i => if i = 413 then some (.inl (1, n, .inl (fun j => bI (z1 j)))) else if i = 414 then some (.inl (1, n, .inl (fun j => bI (z2 j)))) else if i = 410 then tF n f else if i = 411 then tF n g else if i = 412 then some (rfE 3 2 r2) else t5 T i
theorem t5_less (T : WF) : ∀ i e, t5 T i = some e → T i = some e := fun i e h => by
  unfold t5 at h
  split at h
  · cases h
  · exact h
theorem okT_5 {T : WF} (h : okT T) : okT (t5 T) := fun i e q => h i e (t5_less T i e q)
theorem t5_o {T : WF} {i : Nat} (h : i < 410 ∨ 414 < i) : t5 T i = T i := if_neg (by omega)
theorem tG_of {T : WF} {n : Nat} {f g : Nat → Int32} : tRf (tU (tU (t5 T) 413 (some (.inl (1, n, .inl (fun _ => 0))))) 414 (some (.inl (1, n, .inl (fun _ => 0))))) n f g = tG T n (fun _ => false) (fun _ => false) f g := by
  funext i
  unfold tRf tR tG
  by_cases h2 : i = 412
  · subst h2; rfl
  · rw [tU_n _ _ h2]
    by_cases h1 : i = 411
    · subst h1; rfl
    · rw [tU_n _ _ h1]
      by_cases h0 : i = 410
      · subst h0; rfl
      · rw [tU_n _ _ h0]
        unfold t3
        rw [if_neg (by omega)]
        by_cases h4 : i = 414
        · subst h4; rfl
        · rw [tU_n _ _ h4]
          by_cases h3 : i = 413
          · subst h3; rfl
          · rw [tU_n _ _ h3, if_neg h3, if_neg h4, if_neg h0, if_neg h1, if_neg h2]
theorem tG_less (T : WF) (n : Nat) (z1 z2 : Nat → Bool) (f g : Nat → Int32) : ∀ i e, t5 T i = some e → tG T n z1 z2 f g i = some e := fun i e h => by
  unfold tG
  have : ¬ (410 ≤ i ∧ i ≤ 414) := fun z => by
    unfold t5 at h
    rw [if_pos z] at h
    cases h
  rw [if_neg (by omega), if_neg (by omega), if_neg (by omega), if_neg (by omega), if_neg (by omega)]
  exact h
theorem tG_w1 {V : List va_E} {n r : Nat} {M : Md} {T : WF} {z1 z2 : Nat → Bool} {f g : Nat → Int32} (k : Nat) (b : Bool) : wU (gW V n r M (tG T n z1 z2 f g)) 413 (.inl (1, n, .inl (fun j => bI (if j = k then b else z1 j)))) = gW V n r M (tG T n (ub z1 k b) z2 f g) := by
  rw [gW_tU (by decide)]
  congr 1
  funext i
  by_cases h : i = 413
  · subst h; rfl
  · rw [tU_n _ _ h]
    unfold tG
    rw [if_neg h, if_neg h]
theorem tG_w2 {V : List va_E} {n r : Nat} {M : Md} {T : WF} {z1 z2 : Nat → Bool} {f g : Nat → Int32} (k : Nat) (b : Bool) : wU (gW V n r M (tG T n z1 z2 f g)) 414 (.inl (1, n, .inl (fun j => bI (if j = k then b else z2 j)))) = gW V n r M (tG T n z1 (ub z2 k b) f g) := by
  rw [gW_tU (by decide)]
  congr 1
  funext i
  by_cases h : i = 414
  · subst h; rfl
  · rw [tU_n _ _ h]
    unfold tG
    by_cases h3 : i = 413
    · rw [if_pos h3, if_pos h3]
    · rw [if_neg h3, if_neg h3, if_neg h, if_neg h]
theorem okT_G {T : WF} (h : okT T) {n : Nat} {z1 z2 : Nat → Bool} {f g : Nat → Int32} : okT (tG T n z1 z2 f g) := fun i e q => by
  unfold tG at q
  split at q
  · cases q; trivial
  · split at q
    · cases q; trivial
    · split at q
      · cases q; trivial
      · split at q
        · cases q; trivial
        · split at q
          · next h2 =>
            cases q
            intro j a z
            refine ⟨h2, ?_⟩
            unfold r2 va_up at z
            split at z
            · cases z; exact Or.inr rfl
            · split at z
              · cases z; exact Or.inl rfl
              · cases z
          · exact okT_5 h i e q
theorem Gv_W {V : List va_E} {n r : Nat} {M : Md} {T : WF} : gW V n r (mGv M) T = gW V n r (mgw 1000 M) T := by
  unfold mGv
  exact gW_eq (mt_Rk _) (Hm_Rk _).1 (Hm_Rk _).2.2.2
theorem mus_le {n : Nat} {M : Md} (h40 : n ≤ 40) : mu n M ≤ 120 := Nat.le_trans (mu_le n M) (by omega)
section YZ
variable {p : Program} {l : Launch} {e : Env} {R : Room} {s : State} {m : MethodId} {args : Array Value} {below : List Frame} {meth : Method} {c : Code} {cc : ByteArray} {nL : Nat} {own : String} {G : gG} {A : Nat → Prop} {h h0 : Nat → Nat} {Q : State → Prop} {k n : Nat} {w w' : WF} {pc : Nat} {L L' : List (Nat × Value)} {st st' rest : List Value}
theorem Y_zsN (C : Cx p s m args c cc nL own G A) {q N j : Nat} {f : Nat → Bool} {b : Bool} {x : Int32} (d : decode cc pc = .ok (.bastore, 1)) (he : w q = some (.inl (1, N, .inl (fun i => bI (f i))))) (hx : x = bI b) (hj : j < N) (hN : N < 2 ^ 31) (hw : wU w q (.inl (1, N, .inl (fun i => bI (if i = j then b else f i)))) = w') (kk : Y p l e R s m args below meth c nL G A h Q k n w' (pc + 1) L st) : Y p l e R s m args below meth c nL G A h Q k n w pc L (.int x :: .int (nI j) :: .ref q :: st) := Y_zast C d he (vp_in_nI hj hN) (by rw [nI_clamp (Nat.lt_trans hj hN), hx, upd_bI]) hw kk
end YZ
set_option maxHeartbeats 4000000 in
set_option maxRecDepth 20000 in
theorem c_X3_giveWay {V : List va_E} {n r : Nat} {M : Md} {T : WF} (h40 : n ≤ 40) (h30 : r ≤ 30) (hC : okC V) (hT : okT T) (h23 : T 423 = none) (hn : M.2.2.2 1 = nI n) (hrr : M.2.2.2 2 = nI r) (hJ : JI n M) (hB : WB n M) : CTm yX3_giveWay cX3_giveWay 10 none 3 730 19800 [.ref 100] (gW V n r M T) (fun i => (i < 200 ∨ 280 ≤ i ∨ i % 2 = 0) ∧ i ≠ 423 ∧ (i < 410 ∨ 414 < i)) (fun r' w' => r' = none ∧ w' = gW V n r (mGv M) (t5 T)) := by
  refine CTm_of (L := [(0, .ref 100)]) (by decide) (fun _ => rfl) (fun _ => Nat.le_of_ble_eq_true rfl) ?_
  intro p l e s m args below meth c G h A b N xs C S hr hlk hnm
  refine Y_less (w' := gW V n r M (t5 T)) (gW_less (t5_less T)) ?_
  refine Y_iconst C (v := 1) dX3_giveWay_0 (by decide) ?_
  refine Y_istore_n C (L' := [(1, .int 1), (0, .ref 100)]) dX3_giveWay_1 rfl (by decide) rfl ?_
  refine Y_pc (L := [(1, .int (bI true)), (0, .ref 100)]) rfl ?_
  have m120 := mus_le (M := M) h40
  refine Y_widen (k' := 5 * 0 + (mu n M - mu n M)) (n' := 162 * 0 + (mu n M - mu n M)) (Nat.zero_le _) (Nat.zero_le _) ?_
  refine Zind (σ := Md × Bool) (fun k S1 => ∀ (hv : Nat → Nat) (t : Nat), (∀ x, (fun i => (i < 200 ∨ 280 ≤ i ∨ i % 2 = 0) ∧ i ≠ 423 ∧ (i < 410 ∨ 414 < i)) x → hv x = h x) → JI n S1.1 → WB n S1.1 → S1.1.2.2.2 = M.2.2.2 → mu n S1.1 ≤ mu n M → (S1.2 = true → mgw k S1.1 = mgw 1000 M ∧ mu n S1.1 < k ∧ t + mu n S1.1 ≤ mu n M) → (S1.2 = false → S1.1 = mgw 1000 M ∧ t ≤ mu n M + 1) → Y p l e _ s m args below meth c 10 G A hv _ (5 * t + (mu n M - mu n S1.1)) (162 * t + (mu n M - mu n S1.1)) (gW V n r S1.1 (t5 T)) 2 [(1, .int (bI S1.2)), (0, .ref 100)] []) 1000 (M, true) (fun S1 hv t av hJX hBX hiX hmX hg he => ?_) (fun k S1 ih hv t av hJX hBX hiX hmX hg he => ?_) h 0 (fun _ _ => rfl) hJ hB rfl (Nat.le_refl _) (fun _ => ⟨rfl, (by show mu n M < 1000; omega), (by show 0 + mu n M ≤ mu n M; omega)⟩) (fun z => by cases z)
  · have hgo : S1.2 = false := by cases z : S1.2 with | false => rfl | true => exact absurd (hg z).2.1 (Nat.not_lt_zero _)
    refine Y_iload_n C dX3_giveWay_2 rfl rfl ?_
    refine Y_if_eq C 252 dX3_giveWay_3 (by decide) (fun cc1 => ?_) (fun cc1 => absurd (bI_0.mpr hgo) cc1)
    obtain ⟨e1, e2⟩ := he hgo
    refine Y_sub (L' := []) (by simp) ?_
    refine Y_widen (k' := 730) (n' := 19800) (by omega) (by omega) ?_
    exact Y_vret C hr hlk dX3_giveWay_252 (fun i hi => (av i (by first | trivial | exact hi | ((try (dsimp only at hi)); (try dsimp only); omega)))) ⟨rfl, by rw [Gv_W, e1]⟩
  · by_cases hgo : S1.2 = false
    · refine Y_iload_n C dX3_giveWay_2 rfl rfl ?_
      refine Y_if_eq C 252 dX3_giveWay_3 (by decide) (fun cc2 => ?_) (fun cc2 => absurd (bI_0.mpr hgo) cc2)
      obtain ⟨e1, e2⟩ := he hgo
      refine Y_sub (L' := []) (by simp) ?_
      refine Y_widen (k' := 730) (n' := 19800) (by omega) (by omega) ?_
      exact Y_vret C hr hlk dX3_giveWay_252 (fun i hi => (av i (by first | trivial | exact hi | ((try (dsimp only at hi)); (try dsimp only); omega)))) ⟨rfl, by rw [Gv_W, e1]⟩
    · have hgo := bT hgo
      obtain ⟨g1, g2, g3⟩ := hg hgo
      have hnX : S1.1.2.2.2 1 = nI n := by rw [hiX]; exact hn
      have hrX : S1.1.2.2.2 2 = nI r := by rw [hiX]; exact hrr
      refine Y_iload_n C dX3_giveWay_2 rfl rfl ?_
      refine Y_if_eq C 252 dX3_giveWay_3 (by decide) (fun cc3 => absurd cc3 (bI_n0.mpr hgo)) (fun cc3 => ?_)
      refine Y_iconst C (v := 0) dX3_giveWay_6 (by decide) ?_
      refine Y_istore_n C (L' := [(1, .int 0), (0, .ref 100)]) dX3_giveWay_7 rfl (by decide) rfl ?_
      refine Y_aload_n C dX3_giveWay_8 rfl rfl ?_
      refine Y_get C K3 (v := .ref 101) 0 dX3_giveWay_9 gW_100 (by decide) g_577 rfl rfl ?_
      refine Y_alen C (i := 2) (v := nI n) dX3_giveWay_12 gW_101 rfl rfl ?_
      refine Y_newz C (N := n) 413 dX3_giveWay_13 g_86 (nI_pos (by omega)) (nI_clamp (by omega)) (by show n * 1 ≤ _; omega) ⟨by show _ ≤ 730; omega, by show _ ≤ 19800; omega⟩ (gW_N h40 h30 hC (okT_5 hT) (by decide)) ⟨trivial, (by first | trivial | (unfold vR; (try dsimp only); omega)), trivial⟩ trivial (fun h4 ag4 => ?_)
      refine Y_eq (gW_tU (by decide)) ?_
      refine Y_astore_n C (L' := [(2, .ref 413), (1, .int 0), (0, .ref 100)]) dX3_giveWay_15 rfl (by decide) rfl ?_
      refine Y_aload_n C dX3_giveWay_16 rfl rfl ?_
      refine Y_get C K3 (v := .ref 101) 0 dX3_giveWay_17 gW_100 (by decide) g_577 rfl rfl ?_
      refine Y_alen C (i := 2) (v := nI n) dX3_giveWay_20 gW_101 rfl rfl ?_
      refine Y_newz C (N := n) 414 dX3_giveWay_21 g_86 (nI_pos (by omega)) (nI_clamp (by omega)) (by show n * 1 ≤ _; omega) ⟨by show _ ≤ 730; omega, by show _ ≤ 19800; omega⟩ (gW_N h40 h30 hC (okT_U (okT_5 hT)) (by decide)) ⟨(by first | trivial | (unfold vR; (try dsimp only); omega)), trivial, (by first | trivial | (unfold vR; (try dsimp only); omega)), trivial⟩ trivial (fun h5 ag5 => ?_)
      refine Y_eq (gW_tU (by decide)) ?_
      refine Y_astore_n C (L' := [(3, .ref 414), (2, .ref 413), (1, .int 0), (0, .ref 100)]) dX3_giveWay_23 rfl (by decide) rfl ?_
      refine Y_aload_n C dX3_giveWay_24 rfl rfl ?_
      refine Y_callM C S (c_X3_reckon (V := V) (r := r) h40 h30 hC (okT_U (okT_U (okT_5 hT))) hnX hJX hBX) m_X3_reckon K3 g_393 dX3_giveWay_25 gW_100 rfl rfl ⟨Nat.le_of_ble_eq_true rfl, Nat.le_of_ble_eq_true rfl⟩ ⟨by show _ ≤ 730; omega, by show _ ≤ 19800; omega⟩ (Nat.le_of_ble_eq_true rfl) ⟨(by first | trivial | (unfold vR; (try dsimp only); omega)), (by first | trivial | (unfold vR; (try dsimp only); omega)), trivial, (by first | trivial | (unfold vR; (try dsimp only); omega)), trivial⟩ trivial (fun h6 r6 w6 ag6 F6 => ?_)
      obtain ⟨rfl, f, g, hf, hgg, rfl⟩ := F6
      refine Y_stk [.ref 412] rfl ?_
      refine Y_eq (congrArg _ tG_of) ?_
      refine Y_widen (k' := 5 * t + 5 + (mu n M - mu n S1.1)) (n' := 162 * t + 162 + (mu n M - mu n S1.1)) (by omega) (by omega) ?_
      refine Y_astore C (L' := [(4, .ref 412), (3, .ref 414), (2, .ref 413), (1, .int (bI F0s.2.2)), (0, .ref 100)]) dX3_giveWay_28 (by decide) rfl ?_
      refine Y_iconst C (v := nI 0) dX3_giveWay_30 (by decide) ?_
      refine Y_istore C (L' := [(5, .int (nI 0)), (4, .ref 412), (3, .ref 414), (2, .ref 413), (1, .int (bI F0s.2.2)), (0, .ref 100)]) dX3_giveWay_31 (by decide) rfl ?_
      refine Y_pc (L := [(5, .int (nI 0)), (4, .ref 412), (3, .ref 414), (2, .ref 413), (1, .int (bI F0s.2.2)), (0, .ref 100)]) rfl ?_
      refine Zfor (σ := FS) (fun i7 X7 => Y p l e _ s m args below meth c 10 G A h6 _ (5 * t + 5 + (mu n M - mu n S1.1)) (162 * t + 162 + (mu n M - mu n S1.1)) (gW V n r S1.1 (tG T n X7.1 X7.2.1 f g)) 33 [(5, .int (nI i7)), (4, .ref 412), (3, .ref 414), (2, .ref 413), (1, .int (bI X7.2.2)), (0, .ref 100)] []) (fun i7 X7 => True) (gF S1.1) n F0s trivial (fun _ _ _ _ => trivial) (fun X7 hX7 eX7 => ?_) (fun i7 X7 hi7 hX7 hX7' kk7 => ?_)
      · skip
        refine Y_iload C dX3_giveWay_33 rfl ?_
        refine Y_aload_n C dX3_giveWay_35 rfl rfl ?_
        refine Y_get C K3 (v := .ref 101) 0 dX3_giveWay_36 gW_100 (by decide) g_577 rfl rfl ?_
        refine Y_alen C (i := 2) (v := nI n) dX3_giveWay_39 gW_101 rfl rfl ?_
        refine Y_icmp_ge C 160 dX3_giveWay_40 (by decide) (fun cc8 => ?_) (fun cc8 => absurd (Int32.le_refl _) cc8)
        refine Y_iconst C (v := nI 0) dX3_giveWay_160 (by decide) ?_
        refine Y_istore C (L' := [(5, .int (nI 0)), (4, .ref 412), (3, .ref 414), (2, .ref 413), (1, .int (bI X7.2.2)), (0, .ref 100)]) dX3_giveWay_161 (by decide) rfl ?_
        obtain ⟨sA, sG⟩ := gF_at S1.1 n
        rw [← eX7] at sA sG
        have hgE := go_eq h40 hnX hJX hBX
        rw [← eX7] at hgE
        refine Y_eq (w' := gW V n r (mRk S1.1) (tG T n X7.1 X7.2.1 f g)) (gW_eq (mt_Rk _) (Hm_Rk _).1 (Hm_Rk _).2.2.2).symm ?_
        refine Y_widen (k' := 5 * t + 5 + (mu n M - mu n (mRk S1.1, false).1)) (n' := 162 * t + 162 + (mu n M - mu n (mRk S1.1, false).1)) (by rw [show mu n (mRk S1.1, false).1 = mu n S1.1 from mu_of (mt_Rk _)]; exact Nat.le_refl _) (by rw [show mu n (mRk S1.1, false).1 = mu n S1.1 from mu_of (mt_Rk _)]; exact Nat.le_refl _) ?_
        refine Zfor (σ := Md × Bool) (fun i9 X9 => ∀ hv9 : Nat → Nat, (∀ x, (fun i => (i < 200 ∨ 280 ≤ i ∨ i % 2 = 0) ∧ i ≠ 423 ∧ (i < 410 ∨ 414 < i)) x → hv9 x = h x) → Y p l e _ s m args below meth c 10 G A hv9 _ (5 * t + 5 + (mu n M - mu n X9.1)) (162 * t + 162 + (mu n M - mu n X9.1)) (gW V n r X9.1 (tG T n X7.1 X7.2.1 f g)) 163 [(5, .int (nI i9)), (4, .ref 412), (3, .ref 414), (2, .ref 413), (1, .int (bI X7.2.2)), (0, .ref 100)] []) (fun i9 X9 => RS n i9 S1.1 X9 ∧ mu n X9.1 ≤ mu n S1.1) mg1 n (mRk S1.1, false) (⟨RS_0 hJX, Nat.le_of_eq (mu_of (mt_Rk _))⟩) (fun k Z hk hZ => ⟨RS_s h40 hnX hk hZ.1, Nat.le_trans (less_g1 hk (by rw [hZ.1.2.1, mi_Rk]; exact hnX) h40).1 hZ.2⟩) (fun X9 hX9 eX9 => ?_) (fun i9 X9 hi9 hX9 hX9' kk9 => ?_) h6 (fun i hi => ((ag6 i (by first | trivial | exact hi | ((try (dsimp only at hi)); (try dsimp only); omega))).trans ((ag5 i (by first | trivial | exact hi | ((try (dsimp only at hi)); (try dsimp only); omega))).trans ((ag4 i (by first | trivial | exact hi | ((try (dsimp only at hi)); (try dsimp only); omega))).trans (av i (by first | trivial | exact hi | ((try (dsimp only at hi)); (try dsimp only); omega)))))))
        · intro hv9 av9
          obtain ⟨hRS, hmZ⟩ := hX9
          refine Y_iload C dX3_giveWay_163 rfl ?_
          refine Y_aload_n C dX3_giveWay_165 rfl rfl ?_
          refine Y_get C K3 (v := .ref 101) 0 dX3_giveWay_166 gW_100 (by decide) g_577 rfl rfl ?_
          refine Y_alen C (i := 2) (v := nI n) dX3_giveWay_169 gW_101 rfl rfl ?_
          refine Y_icmp_ge C 245 dX3_giveWay_170 (by decide) (fun cc10 => ?_) (fun cc10 => absurd (Int32.le_refl _) cc10)
          refine Y_aload_n C dX3_giveWay_245 rfl rfl ?_
          have eR : X9 = mRd S1.1 := by rw [eX9]; unfold mRd; rw [mN_eq hnX h40]
          have hiZ : X9.1.2.2.2 = M.2.2.2 := by rw [eR, mi_Rd]; exact hiX
          have hnZ : X9.1.2.2.2 1 = nI n := by rw [hiZ]; exact hn
          have hrZ : X9.1.2.2.2 2 = nI r := by rw [hiZ]; exact hrr
          have mD := mu_Drop hnZ h40
          refine Y_callM C S (c_X3_drop (V := V) (T := tG T n X7.1 X7.2.1 f g) h40 h30 hC (okT_G hT) ((t5_o (by decide)).trans h23) hnZ hrZ hRS.1) m_X3_drop K3 g_377 dX3_giveWay_246 gW_100 rfl rfl ⟨Nat.le_of_ble_eq_true rfl, Nat.le_of_ble_eq_true rfl⟩ ⟨by show _ ≤ 730; omega, by show _ ≤ 19800; omega⟩ (Nat.le_of_ble_eq_true rfl) ⟨trivial, (by first | trivial | (unfold vR; (try dsimp only); omega)), (by first | trivial | (unfold vR; (try dsimp only); omega)), (by first | trivial | (unfold vR; (try dsimp only); omega)), trivial, (by first | trivial | (unfold vR; (try dsimp only); omega)), trivial⟩ trivial (fun h11 r11 w11 ag11 F11 => ?_)
          obtain ⟨rfl, rfl⟩ := F11
          refine Y_stk [] rfl ?_
          refine Y_goto C 2 dX3_giveWay_249 (by decide) ?_
          refine Y_less (w' := gW V n r (mDrop X9.1) (t5 T)) (gW_less (tG_less T n _ _ f g)) ?_
          refine Y_sub (L' := [(1, .int (bI X7.2.2)), (0, .ref 100)]) (by simp) ?_
          have eX : mDrop X9.1 = mDrop (mRd S1.1).1 := by rw [eR]
          refine Y_widen (k' := 5 * (t + 1) + (mu n M - mu n (mDrop X9.1))) (n' := 162 * (t + 1) + (mu n M - mu n (mDrop X9.1))) (by omega) (by omega) ?_
          refine ih (mDrop X9.1, X7.2.2) h11 (t + 1) (fun i hi => ((ag11 i (by first | trivial | exact hi | ((try (dsimp only at hi)); (try dsimp only); omega))).trans (av9 i (by first | trivial | exact hi | ((try (dsimp only at hi)); (try dsimp only); omega))))) (JI_Drop h40 h30 hnZ hrZ hRS.1) (by show WB n (mDrop X9.1); rw [eX]; exact WB_round hBX) (by show (mDrop X9.1).2.2.2 = _; rw [mi_Drop]; exact hiZ) (by show mu n (mDrop X9.1) ≤ _; omega) (fun z => ?_) (fun z => ?_)
          · have z2 : (mRd S1.1).2 = true := hgE.trans z
            have q1 := mu_round (k := k) hnX h40 z2 g2
            have q2 := mu_round (k := mu n S1.1) hnX h40 z2 (Nat.lt_succ_self _)
            rw [← eX] at q1 q2
            refine ⟨?_, q1, by show t + 1 + mu n (mDrop X9.1) ≤ mu n M; omega⟩
            rw [← g1]; show mgw k (mDrop X9.1) = mgw (k + 1) S1.1; rw [mgw, if_pos z2, eX]
          · have z2 : (mRd S1.1).2 = false := hgE.trans z
            refine ⟨?_, by omega⟩
            rw [← g1]; show mDrop X9.1 = mgw (k + 1) S1.1; rw [mgw, if_neg (by rw [z2]; decide), eX]
        · intro hv9 av9
          obtain ⟨hRS, hmZ⟩ := hX9
          have eM := mg1_eq h40 hnX hi9 hRS
          have s1 : (if S1.1.1 2 i9 = 0 then false else tkF S1.1 i9) = X7.1 i9 := by rw [(sA i9).1]; by_cases z : S1.1.1 2 i9 = 0 <;> simp [z, hi9]
          have s2 : (if S1.1.1 2 i9 = 0 then false else ekF S1.1 i9) = X7.2.1 i9 := by rw [(sA i9).2]; by_cases z : S1.1.1 2 i9 = 0 <;> simp [z, hi9]
          rw [s1, s2] at eM
          obtain ⟨hJZ, h2Z, -, -⟩ := hRS
          have hk31 : i9 < 2 ^ 31 := by omega
          refine Y_iload C dX3_giveWay_163 rfl ?_
          refine Y_aload_n C dX3_giveWay_165 rfl rfl ?_
          refine Y_get C K3 (v := .ref 101) 0 dX3_giveWay_166 gW_100 (by decide) g_577 rfl rfl ?_
          refine Y_alen C (i := 2) (v := nI n) dX3_giveWay_169 gW_101 rfl rfl ?_
          refine Y_icmp_ge C 245 dX3_giveWay_170 (by decide) (fun cc12 => absurd cc12 (nI_ge hi9 (by omega))) (fun cc12 => ?_)
          refine Y_aload_n C dX3_giveWay_173 rfl rfl ?_
          refine Y_get C K3 (v := .ref 101) 0 dX3_giveWay_174 gW_100 (by decide) g_577 rfl rfl ?_
          refine Y_astore C (L' := [(6, .ref 101), (5, .int (nI i9)), (4, .ref 412), (3, .ref 414), (2, .ref 413), (1, .int (bI X7.2.2)), (0, .ref 100)]) dX3_giveWay_177 (by decide) rfl ?_
          refine Y_aload C dX3_giveWay_179 rfl ?_
          refine Y_alen C (i := 2) (v := nI n) dX3_giveWay_181 gW_101 rfl rfl ?_
          refine Y_istore C (L' := [(7, .int (nI n)), (6, .ref 101), (5, .int (nI i9)), (4, .ref 412), (3, .ref 414), (2, .ref 413), (1, .int (bI X7.2.2)), (0, .ref 100)]) dX3_giveWay_182 (by decide) rfl ?_
          refine Y_iconst C (v := nI 0) dX3_giveWay_184 (by decide) ?_
          refine Y_istore C (L' := [(8, .int (nI 0)), (7, .int (nI n)), (6, .ref 101), (5, .int (nI i9)), (4, .ref 412), (3, .ref 414), (2, .ref 413), (1, .int (bI X7.2.2)), (0, .ref 100)]) dX3_giveWay_185 (by decide) rfl ?_
          refine Zfor (σ := Md) (fun i13 X13 => ∀ hv13 : Nat → Nat, (∀ x, (fun i => (i < 200 ∨ 280 ≤ i ∨ i % 2 = 0) ∧ i ≠ 423 ∧ (i < 410 ∨ 414 < i)) x → hv13 x = h x) → Y p l e _ s m args below meth c 10 G A hv13 _ (5 * t + 5 + (mu n M - mu n X13)) (162 * t + 162 + (mu n M - mu n X13)) (gW V n r X13 (tG T n X7.1 X7.2.1 f g)) 187 [(8, .int (nI i13)), (7, .int (nI n)), (6, .ref 101), (5, .int (nI i9)), (4, .ref 412), (3, .ref 414), (2, .ref 413), (1, .int (bI X7.2.2)), (0, .ref 100)] []) (fun i13 X13 => JI n X13 ∧ mu n X13 ≤ mu n X9.1) (jT (X7.1 i9) i9) n X9.1 (⟨hJZ, Nat.le_refl _⟩) (fun o X ho hX => by unfold jT; split; exact ⟨JI_jL ho hk31 hX.1, Nat.le_trans (mu_jL1 ho hk31) hX.2⟩; exact hX) (fun X13 hX13 eX13 => ?_) (fun i13 X13 hi13 hX13 hX13' kk13 => ?_) hv9 (fun i hi => (av9 i (by first | trivial | exact hi | ((try (dsimp only at hi)); (try dsimp only); omega))))
          · intro hv13 av13
            obtain ⟨hJW, hmW⟩ := hX13
            refine Y_iload C dX3_giveWay_187 rfl ?_
            refine Y_iload C dX3_giveWay_189 rfl ?_
            refine Y_icmp_ge C 221 dX3_giveWay_191 (by decide) (fun cc14 => ?_) (fun cc14 => absurd (Int32.le_refl _) cc14)
            refine Y_aload_n C dX3_giveWay_221 rfl rfl ?_
            refine Y_iload C dX3_giveWay_222 rfl ?_
            refine Y_zald C (v := bI (X7.2.1 i9)) dX3_giveWay_224 ((gW_hi (by decide)).trans rfl) (vp_in_nI hi9 (by omega)) (by rw [nI_clamp (by omega)] <;> rfl) ?_
            refine Y_if_eq C 239 dX3_giveWay_225 (by decide) (fun cc15 => ?_) (fun cc15 => ?_)
            · refine Y_iinc C (L' := [(5, .int (nI (i9 + 1))), (8, .int (nI n)), (7, .int (nI n)), (6, .ref 101), (4, .ref 412), (3, .ref 414), (2, .ref 413), (1, .int (bI X7.2.2)), (0, .ref 100)]) (v := nI (i9 + 1)) dX3_giveWay_239 rfl (nI_inc _) (by decide) rfl ?_
              refine Y_goto C 163 dX3_giveWay_242 (by decide) ?_
              rw [show (mg1 i9 X9).1 = X13 from by rw [eM]; unfold jB; rw [if_neg (by rw [bI_0.mp cc15]; decide), eX13]] at kk9
              exact Y_sub (by simp [bI_t, bI_f]) (kk9 hv13 (fun i hi => (av13 i (by first | trivial | exact hi | ((try (dsimp only at hi)); (try dsimp only); omega)))))
            · refine Y_aload_n C dX3_giveWay_228 rfl rfl ?_
              refine Y_get C K3 (v := .ref 101) 0 dX3_giveWay_229 gW_100 (by decide) g_577 rfl rfl ?_
              refine Y_iload C dX3_giveWay_232 rfl ?_
              refine Y_aaldq C (j := 200 + 2 * i9) dX3_giveWay_234 gW_101 (vp_in_nI hi9 (by omega)) (by rw [nI_clamp (by omega)]; exact rfS_at hi9) ?_
              refine Y_iconst C (v := 0) dX3_giveWay_235 (by decide) ?_
              refine Y_put C K4 3 dX3_giveWay_236 (gW_st h40 hi9) (by decide) g_454 rfl rfl (K4.2.2.1 3 (by decide)) rfl rfl (Nat.le_of_ble_eq_true rfl) (w' := gW V n r (tA X13 3 i9 0) (tG T n X7.1 X7.2.1 f g)) (gW_tA h40 (by decide) hi9 (stoE_3 _ _ _).symm) ?_
              have gp : mu n (tA X13 3 i9 0) ≤ mu n X13 := mu_put (muAt_3 (by simp))
              refine Y_widen (k' := 5 * t + 5 + (mu n M - mu n (tA X13 3 i9 0))) (n' := 162 * t + 162 + (mu n M - mu n (tA X13 3 i9 0))) (by omega) (by omega) ?_
              refine Y_iinc C (L' := [(5, .int (nI (i9 + 1))), (8, .int (nI n)), (7, .int (nI n)), (6, .ref 101), (4, .ref 412), (3, .ref 414), (2, .ref 413), (1, .int (bI X7.2.2)), (0, .ref 100)]) (v := nI (i9 + 1)) dX3_giveWay_239 rfl (nI_inc _) (by decide) rfl ?_
              refine Y_goto C 163 dX3_giveWay_242 (by decide) ?_
              rw [show (mg1 i9 X9).1 = tA X13 3 i9 0 from by rw [eM]; unfold jB; rw [if_pos (bI_n0.mp cc15), eX13]] at kk9
              exact Y_sub (by simp [bI_t, bI_f]) (kk9 hv13 (fun i hi => (av13 i (by first | trivial | exact hi | ((try (dsimp only at hi)); (try dsimp only); omega)))))
          · intro hv13 av13
            obtain ⟨hJW, hmW⟩ := hX13
            refine Y_iload C dX3_giveWay_187 rfl ?_
            refine Y_iload C dX3_giveWay_189 rfl ?_
            refine Y_icmp_ge C 221 dX3_giveWay_191 (by decide) (fun cc16 => absurd cc16 (nI_ge hi13 (by omega))) (fun cc16 => ?_)
            refine Y_aload C dX3_giveWay_194 rfl ?_
            refine Y_iload C dX3_giveWay_196 rfl ?_
            refine Y_aaldq C (j := 200 + 2 * i13) dX3_giveWay_198 gW_101 (vp_in_nI hi13 (by omega)) (by rw [nI_clamp (by omega)]; exact rfS_at hi13) ?_
            refine Y_astore C (L' := [(9, .ref (200 + 2 * i13)), (8, .int (nI i13)), (7, .int (nI n)), (6, .ref 101), (5, .int (nI i9)), (4, .ref 412), (3, .ref 414), (2, .ref 413), (1, .int (bI X7.2.2)), (0, .ref 100)]) dX3_giveWay_199 (by decide) rfl ?_
            refine Y_aload_n C dX3_giveWay_201 rfl rfl ?_
            refine Y_iload C dX3_giveWay_202 rfl ?_
            refine Y_zald C (v := bI (X7.1 i9)) dX3_giveWay_204 ((gW_hi (by decide)).trans rfl) (vp_in_nI hi9 (by omega)) (by rw [nI_clamp (by omega)] <;> rfl) ?_
            refine Y_if_eq C 215 dX3_giveWay_205 (by decide) (fun cc17 => ?_) (fun cc17 => ?_)
            · refine Y_iinc C (L' := [(8, .int (nI (i13 + 1))), (9, .ref (200 + 2 * i13)), (7, .int (nI n)), (6, .ref 101), (5, .int (nI i9)), (4, .ref 412), (3, .ref 414), (2, .ref 413), (1, .int (bI X7.2.2)), (0, .ref 100)]) (v := nI (i13 + 1)) dX3_giveWay_215 rfl (nI_inc _) (by decide) rfl ?_
              refine Y_goto C 187 dX3_giveWay_218 (by decide) ?_
              rw [show jT (X7.1 i9) i9 i13 X13 = X13 from by unfold jT; rw [bI_0.mp cc17]; rfl] at kk13
              exact Y_sub (by simp [bI_t, bI_f]) (kk13 hv13 (fun i hi => (av13 i (by first | trivial | exact hi | ((try (dsimp only at hi)); (try dsimp only); omega)))))
            · refine Y_aload C dX3_giveWay_208 rfl ?_
              refine Y_iload C dX3_giveWay_210 rfl ?_
              obtain ⟨-, -, s4, s45, -⟩ := hJW i13 hi13
              have gc := mu_jL (M := X13) (k := i9) hi13 hk31
              refine Y_callM C S (c_X4_lose (V := V) (r := r) (T := tG T n X7.1 X7.2.1 f g) h40 hi13 hk31 s4 s45 h30 hC (okT_G hT) ((t5_o (by decide)).trans h23)) m_X4_lose K4 g_381 dX3_giveWay_212 (gW_st h40 hi13) rfl rfl ⟨Nat.le_of_ble_eq_true rfl, Nat.le_of_ble_eq_true rfl⟩ ⟨by show _ ≤ 730; omega, by show _ ≤ 19800; omega⟩ (Nat.le_of_ble_eq_true rfl) ⟨(by first | trivial | (unfold vR; (try dsimp only); omega)), trivial, trivial, (by first | trivial | (unfold vR; (try dsimp only); omega)), trivial, (by first | trivial | (unfold vR; (try dsimp only); omega)), (by first | trivial | (unfold vR; (try dsimp only); omega)), (by first | trivial | (unfold vR; (try dsimp only); omega)), trivial, (by first | trivial | (unfold vR; (try dsimp only); omega)), trivial⟩ trivial (fun h18 r18 w18 ag18 F18 => ?_)
              obtain ⟨rfl, rfl⟩ := F18
              refine Y_stk [] rfl ?_
              refine Y_widen (k' := 5 * t + 5 + (mu n M - mu n (jL i9 i13 X13))) (n' := 162 * t + 162 + (mu n M - mu n (jL i9 i13 X13))) (by omega) (by omega) ?_
              refine Y_iinc C (L' := [(8, .int (nI (i13 + 1))), (9, .ref (200 + 2 * i13)), (7, .int (nI n)), (6, .ref 101), (5, .int (nI i9)), (4, .ref 412), (3, .ref 414), (2, .ref 413), (1, .int (bI X7.2.2)), (0, .ref 100)]) (v := nI (i13 + 1)) dX3_giveWay_215 rfl (nI_inc _) (by decide) rfl ?_
              refine Y_goto C 187 dX3_giveWay_218 (by decide) ?_
              rw [show jT (X7.1 i9) i9 i13 X13 = jL i9 i13 X13 from by unfold jT; rw [if_pos (bI_n0.mp cc17)]] at kk13
              exact Y_sub (by simp [bI_t, bI_f]) (kk13 h18 (fun i hi => ((ag18 i (by first | trivial | exact hi | ((try (dsimp only at hi)); (try dsimp only); omega))).trans (av13 i (by first | trivial | exact hi | ((try (dsimp only at hi)); (try dsimp only); omega))))))
      · skip
        refine Y_iload C dX3_giveWay_33 rfl ?_
        refine Y_aload_n C dX3_giveWay_35 rfl rfl ?_
        refine Y_get C K3 (v := .ref 101) 0 dX3_giveWay_36 gW_100 (by decide) g_577 rfl rfl ?_
        refine Y_alen C (i := 2) (v := nI n) dX3_giveWay_39 gW_101 rfl rfl ?_
        refine Y_icmp_ge C 160 dX3_giveWay_40 (by decide) (fun cc19 => absurd cc19 (nI_ge hi7 (by omega))) (fun cc19 => ?_)
        refine Y_aload_n C dX3_giveWay_43 rfl rfl ?_
        refine Y_get C K3 (v := .ref 101) 0 dX3_giveWay_44 gW_100 (by decide) g_577 rfl rfl ?_
        refine Y_iload C dX3_giveWay_47 rfl ?_
        refine Y_aaldq C (j := 200 + 2 * i7) dX3_giveWay_49 gW_101 (vp_in_nI hi7 (by omega)) (by rw [nI_clamp (by omega)]; exact rfS_at hi7) ?_
        refine Y_get C K4 (v := .int (S1.1.1 2 i7)) 2 dX3_giveWay_50 (gW_st h40 hi7) (by decide) g_452 rfl rfl ?_
        refine Y_if_ne C 59 dX3_giveWay_53 (by decide) (fun cc20 => ?_) (fun cc20 => ?_)
        · refine Y_aload_n C dX3_giveWay_59 rfl rfl ?_
          refine Y_iload C dX3_giveWay_60 rfl ?_
          refine Y_aload C dX3_giveWay_62 rfl ?_
          refine Y_iconst C (v := 1) dX3_giveWay_64 (by decide) ?_
          refine Y_aald C (j := 411) dX3_giveWay_65 ((gW_hi (by decide)).trans rfl) (vp_in_nI (n := 1) (N := 2) (by decide) (by decide)) rfl ?_
          refine Y_iload C dX3_giveWay_66 rfl ?_
          refine Y_iald C (v := g i7) dX3_giveWay_68 ((gW_hi (by decide)).trans rfl) (vp_in_nI hi7 (by omega)) (by rw [nI_clamp (by omega)] <;> rfl) ?_
          refine Y_aload_n C dX3_giveWay_69 rfl rfl ?_
          refine Y_get C K3 (v := .ref 101) 0 dX3_giveWay_70 gW_100 (by decide) g_577 rfl rfl ?_
          refine Y_iload C dX3_giveWay_73 rfl ?_
          refine Y_aaldq C (j := 200 + 2 * i7) dX3_giveWay_75 gW_101 (vp_in_nI hi7 (by omega)) (by rw [nI_clamp (by omega)]; exact rfS_at hi7) ?_
          refine Y_get C K4 (v := .int (S1.1.1 1 i7)) 1 dX3_giveWay_76 (gW_st h40 hi7) (by decide) g_450 rfl rfl ?_
          have hg9 := hgg i7 hi7
          have hf9 := hf i7 hi7
          refine Y_icmp_le C 86 dX3_giveWay_79 (by decide) (fun cc21 => ?_) (fun cc21 => ?_)
          · have ht : tkF S1.1 i7 = false := by unfold tkF; rw [← hg9]; simp [cc21]
            refine Y_iconst C (v := 0) dX3_giveWay_86 (by decide) ?_
            refine Y_zsN C (b := false) dX3_giveWay_87 ((gW_hi (by decide)).trans rfl) rfl hi7 (by omega) (w' := gW V n r S1.1 (tG T n (ub X7.1 i7 false) X7.2.1 f g)) (tG_w1 _ _) ?_
            refine Y_aload_n C dX3_giveWay_88 rfl rfl ?_
            refine Y_iload C dX3_giveWay_89 rfl ?_
            refine Y_aload_n C dX3_giveWay_91 rfl rfl ?_
            refine Y_get C K3 (v := .ref 101) 0 dX3_giveWay_92 gW_100 (by decide) g_577 rfl rfl ?_
            refine Y_iload C dX3_giveWay_95 rfl ?_
            refine Y_aaldq C (j := 200 + 2 * i7) dX3_giveWay_97 gW_101 (vp_in_nI hi7 (by omega)) (by rw [nI_clamp (by omega)]; exact rfS_at hi7) ?_
            refine Y_get C K4 (v := .int (S1.1.1 3 i7)) 3 dX3_giveWay_98 (gW_st h40 hi7) (by decide) g_454 rfl rfl ?_
            refine Y_if_le C 128 dX3_giveWay_101 (by decide) (fun cc22 => ?_) (fun cc22 => ?_)
            · have he9 : ekF S1.1 i7 = false := by unfold ekF; rw [← hf9]; simp [cc22]
              refine Y_iconst C (v := 0) dX3_giveWay_128 (by decide) ?_
              refine Y_zsN C (b := false) dX3_giveWay_129 ((gW_hi (by decide)).trans rfl) rfl hi7 (by omega) (w' := gW V n r S1.1 (tG T n (ub X7.1 i7 false) (ub X7.2.1 i7 false) f g)) (tG_w2 _ _) ?_
              by_cases hb : X7.2.2 = true
              · refine Y_iload_n C dX3_giveWay_130 rfl rfl ?_
                refine Y_if_ne C 148 dX3_giveWay_131 (by decide) (fun cc23 => ?_) (fun cc23 => absurd cc23 (bI_n0.mpr hb))
                refine Y_iconst C (v := 1) dX3_giveWay_148 (by decide) ?_
                refine Y_goto C 153 dX3_giveWay_149 (by decide) ?_
                refine Y_istore_n C (L' := [(1, .int 1), (5, .int (nI i7)), (4, .ref 412), (3, .ref 414), (2, .ref 413), (0, .ref 100)]) dX3_giveWay_153 rfl (by decide) rfl ?_
                refine Y_iinc C (L' := [(5, .int (nI (i7 + 1))), (1, .int 1), (4, .ref 412), (3, .ref 414), (2, .ref 413), (0, .ref 100)]) (v := nI (i7 + 1)) dX3_giveWay_154 rfl (nI_inc _) (by decide) rfl ?_
                refine Y_goto C 33 dX3_giveWay_157 (by decide) ?_
                rw [show gF S1.1 i7 X7 = (ub X7.1 i7 false, ub X7.2.1 i7 false, true) from by unfold gF; rw [if_neg cc20, ht, he9, hb]; rfl] at kk7
                exact Y_sub (by simp [bI_t, bI_f]) (kk7)
              · have hb := Bool.eq_false_iff.mpr hb
                refine Y_iload_n C dX3_giveWay_130 rfl rfl ?_
                refine Y_if_ne C 148 dX3_giveWay_131 (by decide) (fun cc24 => absurd (bI_0.mpr hb) cc24) (fun cc24 => ?_)
                refine Y_aload_n C dX3_giveWay_134 rfl rfl ?_
                refine Y_iload C dX3_giveWay_135 rfl ?_
                refine Y_zald C (v := 0) dX3_giveWay_137 ((gW_hi (by decide)).trans rfl) (vp_in_nI hi7 (by omega)) (by rw [nI_clamp (by omega)]; show bI (if i7 = i7 then false else _) = _; rw [if_pos rfl]; rfl) ?_
                refine Y_if_ne C 148 dX3_giveWay_138 (by decide) (fun cc25 => absurd (by decide) cc25) (fun cc25 => ?_)
                refine Y_aload_n C dX3_giveWay_141 rfl rfl ?_
                refine Y_iload C dX3_giveWay_142 rfl ?_
                refine Y_zald C (v := 0) dX3_giveWay_144 ((gW_hi (by decide)).trans rfl) (vp_in_nI hi7 (by omega)) (by rw [nI_clamp (by omega)]; show bI (if i7 = i7 then false else _) = _; rw [if_pos rfl]; rfl) ?_
                refine Y_if_eq C 152 dX3_giveWay_145 (by decide) (fun cc26 => ?_) (fun cc26 => absurd (by decide) cc26)
                refine Y_iconst C (v := 0) dX3_giveWay_152 (by decide) ?_
                refine Y_istore_n C (L' := [(1, .int 0), (5, .int (nI i7)), (4, .ref 412), (3, .ref 414), (2, .ref 413), (0, .ref 100)]) dX3_giveWay_153 rfl (by decide) rfl ?_
                refine Y_iinc C (L' := [(5, .int (nI (i7 + 1))), (1, .int 0), (4, .ref 412), (3, .ref 414), (2, .ref 413), (0, .ref 100)]) (v := nI (i7 + 1)) dX3_giveWay_154 rfl (nI_inc _) (by decide) rfl ?_
                refine Y_goto C 33 dX3_giveWay_157 (by decide) ?_
                rw [show gF S1.1 i7 X7 = (ub X7.1 i7 false, ub X7.2.1 i7 false, false) from by unfold gF; rw [if_neg cc20, ht, he9, hb]; rfl] at kk7
                exact Y_sub (by simp [bI_t, bI_f]) (kk7)
            · refine Y_aload_n C dX3_giveWay_104 rfl rfl ?_
              refine Y_get C K3 (v := .ref 101) 0 dX3_giveWay_105 gW_100 (by decide) g_577 rfl rfl ?_
              refine Y_iload C dX3_giveWay_108 rfl ?_
              refine Y_aaldq C (j := 200 + 2 * i7) dX3_giveWay_110 gW_101 (vp_in_nI hi7 (by omega)) (by rw [nI_clamp (by omega)]; exact rfS_at hi7) ?_
              refine Y_get C K4 (v := .int (S1.1.1 3 i7)) 3 dX3_giveWay_111 (gW_st h40 hi7) (by decide) g_454 rfl rfl ?_
              refine Y_aload C dX3_giveWay_114 rfl ?_
              refine Y_iconst C (v := 0) dX3_giveWay_116 (by decide) ?_
              refine Y_aald C (j := 410) dX3_giveWay_117 ((gW_hi (by decide)).trans rfl) (vp_in_nI (n := 0) (N := 2) (by decide) (by decide)) rfl ?_
              refine Y_iload C dX3_giveWay_118 rfl ?_
              refine Y_iald C (v := f i7) dX3_giveWay_120 ((gW_hi (by decide)).trans rfl) (vp_in_nI hi7 (by omega)) (by rw [nI_clamp (by omega)] <;> rfl) ?_
              refine Y_icmp_ge C 128 dX3_giveWay_121 (by decide) (fun cc27 => ?_) (fun cc27 => ?_)
              · have he9 : ekF S1.1 i7 = false := by unfold ekF; rw [← hf9]; simp [cc27]
                refine Y_iconst C (v := 0) dX3_giveWay_128 (by decide) ?_
                refine Y_zsN C (b := false) dX3_giveWay_129 ((gW_hi (by decide)).trans rfl) rfl hi7 (by omega) (w' := gW V n r S1.1 (tG T n (ub X7.1 i7 false) (ub X7.2.1 i7 false) f g)) (tG_w2 _ _) ?_
                by_cases hb : X7.2.2 = true
                · refine Y_iload_n C dX3_giveWay_130 rfl rfl ?_
                  refine Y_if_ne C 148 dX3_giveWay_131 (by decide) (fun cc28 => ?_) (fun cc28 => absurd cc28 (bI_n0.mpr hb))
                  refine Y_iconst C (v := 1) dX3_giveWay_148 (by decide) ?_
                  refine Y_goto C 153 dX3_giveWay_149 (by decide) ?_
                  refine Y_istore_n C (L' := [(1, .int 1), (5, .int (nI i7)), (4, .ref 412), (3, .ref 414), (2, .ref 413), (0, .ref 100)]) dX3_giveWay_153 rfl (by decide) rfl ?_
                  refine Y_iinc C (L' := [(5, .int (nI (i7 + 1))), (1, .int 1), (4, .ref 412), (3, .ref 414), (2, .ref 413), (0, .ref 100)]) (v := nI (i7 + 1)) dX3_giveWay_154 rfl (nI_inc _) (by decide) rfl ?_
                  refine Y_goto C 33 dX3_giveWay_157 (by decide) ?_
                  rw [show gF S1.1 i7 X7 = (ub X7.1 i7 false, ub X7.2.1 i7 false, true) from by unfold gF; rw [if_neg cc20, ht, he9, hb]; rfl] at kk7
                  exact Y_sub (by simp [bI_t, bI_f]) (kk7)
                · have hb := Bool.eq_false_iff.mpr hb
                  refine Y_iload_n C dX3_giveWay_130 rfl rfl ?_
                  refine Y_if_ne C 148 dX3_giveWay_131 (by decide) (fun cc29 => absurd (bI_0.mpr hb) cc29) (fun cc29 => ?_)
                  refine Y_aload_n C dX3_giveWay_134 rfl rfl ?_
                  refine Y_iload C dX3_giveWay_135 rfl ?_
                  refine Y_zald C (v := 0) dX3_giveWay_137 ((gW_hi (by decide)).trans rfl) (vp_in_nI hi7 (by omega)) (by rw [nI_clamp (by omega)]; show bI (if i7 = i7 then false else _) = _; rw [if_pos rfl]; rfl) ?_
                  refine Y_if_ne C 148 dX3_giveWay_138 (by decide) (fun cc30 => absurd (by decide) cc30) (fun cc30 => ?_)
                  refine Y_aload_n C dX3_giveWay_141 rfl rfl ?_
                  refine Y_iload C dX3_giveWay_142 rfl ?_
                  refine Y_zald C (v := 0) dX3_giveWay_144 ((gW_hi (by decide)).trans rfl) (vp_in_nI hi7 (by omega)) (by rw [nI_clamp (by omega)]; show bI (if i7 = i7 then false else _) = _; rw [if_pos rfl]; rfl) ?_
                  refine Y_if_eq C 152 dX3_giveWay_145 (by decide) (fun cc31 => ?_) (fun cc31 => absurd (by decide) cc31)
                  refine Y_iconst C (v := 0) dX3_giveWay_152 (by decide) ?_
                  refine Y_istore_n C (L' := [(1, .int 0), (5, .int (nI i7)), (4, .ref 412), (3, .ref 414), (2, .ref 413), (0, .ref 100)]) dX3_giveWay_153 rfl (by decide) rfl ?_
                  refine Y_iinc C (L' := [(5, .int (nI (i7 + 1))), (1, .int 0), (4, .ref 412), (3, .ref 414), (2, .ref 413), (0, .ref 100)]) (v := nI (i7 + 1)) dX3_giveWay_154 rfl (nI_inc _) (by decide) rfl ?_
                  refine Y_goto C 33 dX3_giveWay_157 (by decide) ?_
                  rw [show gF S1.1 i7 X7 = (ub X7.1 i7 false, ub X7.2.1 i7 false, false) from by unfold gF; rw [if_neg cc20, ht, he9, hb]; rfl] at kk7
                  exact Y_sub (by simp [bI_t, bI_f]) (kk7)
              · have he9 : ekF S1.1 i7 = true := by unfold ekF; rw [← hf9]; simp [cc22, cc27]
                refine Y_iconst C (v := 1) dX3_giveWay_124 (by decide) ?_
                refine Y_goto C 129 dX3_giveWay_125 (by decide) ?_
                refine Y_zsN C (b := true) dX3_giveWay_129 ((gW_hi (by decide)).trans rfl) rfl hi7 (by omega) (w' := gW V n r S1.1 (tG T n (ub X7.1 i7 false) (ub X7.2.1 i7 true) f g)) (tG_w2 _ _) ?_
                by_cases hb : X7.2.2 = true
                · refine Y_iload_n C dX3_giveWay_130 rfl rfl ?_
                  refine Y_if_ne C 148 dX3_giveWay_131 (by decide) (fun cc32 => ?_) (fun cc32 => absurd cc32 (bI_n0.mpr hb))
                  refine Y_iconst C (v := 1) dX3_giveWay_148 (by decide) ?_
                  refine Y_goto C 153 dX3_giveWay_149 (by decide) ?_
                  refine Y_istore_n C (L' := [(1, .int 1), (5, .int (nI i7)), (4, .ref 412), (3, .ref 414), (2, .ref 413), (0, .ref 100)]) dX3_giveWay_153 rfl (by decide) rfl ?_
                  refine Y_iinc C (L' := [(5, .int (nI (i7 + 1))), (1, .int 1), (4, .ref 412), (3, .ref 414), (2, .ref 413), (0, .ref 100)]) (v := nI (i7 + 1)) dX3_giveWay_154 rfl (nI_inc _) (by decide) rfl ?_
                  refine Y_goto C 33 dX3_giveWay_157 (by decide) ?_
                  rw [show gF S1.1 i7 X7 = (ub X7.1 i7 false, ub X7.2.1 i7 true, true) from by unfold gF; rw [if_neg cc20, ht, he9, hb]; rfl] at kk7
                  exact Y_sub (by simp [bI_t, bI_f]) (kk7)
                · have hb := Bool.eq_false_iff.mpr hb
                  refine Y_iload_n C dX3_giveWay_130 rfl rfl ?_
                  refine Y_if_ne C 148 dX3_giveWay_131 (by decide) (fun cc33 => absurd (bI_0.mpr hb) cc33) (fun cc33 => ?_)
                  refine Y_aload_n C dX3_giveWay_134 rfl rfl ?_
                  refine Y_iload C dX3_giveWay_135 rfl ?_
                  refine Y_zald C (v := 0) dX3_giveWay_137 ((gW_hi (by decide)).trans rfl) (vp_in_nI hi7 (by omega)) (by rw [nI_clamp (by omega)]; show bI (if i7 = i7 then false else _) = _; rw [if_pos rfl]; rfl) ?_
                  refine Y_if_ne C 148 dX3_giveWay_138 (by decide) (fun cc34 => absurd (by decide) cc34) (fun cc34 => ?_)
                  refine Y_aload_n C dX3_giveWay_141 rfl rfl ?_
                  refine Y_iload C dX3_giveWay_142 rfl ?_
                  refine Y_zald C (v := 1) dX3_giveWay_144 ((gW_hi (by decide)).trans rfl) (vp_in_nI hi7 (by omega)) (by rw [nI_clamp (by omega)]; show bI (if i7 = i7 then true else _) = _; rw [if_pos rfl]; rfl) ?_
                  refine Y_if_eq C 152 dX3_giveWay_145 (by decide) (fun cc35 => absurd cc35 (by decide)) (fun cc35 => ?_)
                  refine Y_iconst C (v := 1) dX3_giveWay_148 (by decide) ?_
                  refine Y_goto C 153 dX3_giveWay_149 (by decide) ?_
                  refine Y_istore_n C (L' := [(1, .int 1), (5, .int (nI i7)), (4, .ref 412), (3, .ref 414), (2, .ref 413), (0, .ref 100)]) dX3_giveWay_153 rfl (by decide) rfl ?_
                  refine Y_iinc C (L' := [(5, .int (nI (i7 + 1))), (1, .int 1), (4, .ref 412), (3, .ref 414), (2, .ref 413), (0, .ref 100)]) (v := nI (i7 + 1)) dX3_giveWay_154 rfl (nI_inc _) (by decide) rfl ?_
                  refine Y_goto C 33 dX3_giveWay_157 (by decide) ?_
                  rw [show gF S1.1 i7 X7 = (ub X7.1 i7 false, ub X7.2.1 i7 true, true) from by unfold gF; rw [if_neg cc20, ht, he9, hb]; rfl] at kk7
                  exact Y_sub (by simp [bI_t, bI_f]) (kk7)
          · have ht : tkF S1.1 i7 = true := by unfold tkF; rw [← hg9]; simp [cc21]
            refine Y_iconst C (v := 1) dX3_giveWay_82 (by decide) ?_
            refine Y_goto C 87 dX3_giveWay_83 (by decide) ?_
            refine Y_zsN C (b := true) dX3_giveWay_87 ((gW_hi (by decide)).trans rfl) rfl hi7 (by omega) (w' := gW V n r S1.1 (tG T n (ub X7.1 i7 true) X7.2.1 f g)) (tG_w1 _ _) ?_
            refine Y_aload_n C dX3_giveWay_88 rfl rfl ?_
            refine Y_iload C dX3_giveWay_89 rfl ?_
            refine Y_aload_n C dX3_giveWay_91 rfl rfl ?_
            refine Y_get C K3 (v := .ref 101) 0 dX3_giveWay_92 gW_100 (by decide) g_577 rfl rfl ?_
            refine Y_iload C dX3_giveWay_95 rfl ?_
            refine Y_aaldq C (j := 200 + 2 * i7) dX3_giveWay_97 gW_101 (vp_in_nI hi7 (by omega)) (by rw [nI_clamp (by omega)]; exact rfS_at hi7) ?_
            refine Y_get C K4 (v := .int (S1.1.1 3 i7)) 3 dX3_giveWay_98 (gW_st h40 hi7) (by decide) g_454 rfl rfl ?_
            refine Y_if_le C 128 dX3_giveWay_101 (by decide) (fun cc36 => ?_) (fun cc36 => ?_)
            · have he9 : ekF S1.1 i7 = false := by unfold ekF; rw [← hf9]; simp [cc36]
              refine Y_iconst C (v := 0) dX3_giveWay_128 (by decide) ?_
              refine Y_zsN C (b := false) dX3_giveWay_129 ((gW_hi (by decide)).trans rfl) rfl hi7 (by omega) (w' := gW V n r S1.1 (tG T n (ub X7.1 i7 true) (ub X7.2.1 i7 false) f g)) (tG_w2 _ _) ?_
              by_cases hb : X7.2.2 = true
              · refine Y_iload_n C dX3_giveWay_130 rfl rfl ?_
                refine Y_if_ne C 148 dX3_giveWay_131 (by decide) (fun cc37 => ?_) (fun cc37 => absurd cc37 (bI_n0.mpr hb))
                refine Y_iconst C (v := 1) dX3_giveWay_148 (by decide) ?_
                refine Y_goto C 153 dX3_giveWay_149 (by decide) ?_
                refine Y_istore_n C (L' := [(1, .int 1), (5, .int (nI i7)), (4, .ref 412), (3, .ref 414), (2, .ref 413), (0, .ref 100)]) dX3_giveWay_153 rfl (by decide) rfl ?_
                refine Y_iinc C (L' := [(5, .int (nI (i7 + 1))), (1, .int 1), (4, .ref 412), (3, .ref 414), (2, .ref 413), (0, .ref 100)]) (v := nI (i7 + 1)) dX3_giveWay_154 rfl (nI_inc _) (by decide) rfl ?_
                refine Y_goto C 33 dX3_giveWay_157 (by decide) ?_
                rw [show gF S1.1 i7 X7 = (ub X7.1 i7 true, ub X7.2.1 i7 false, true) from by unfold gF; rw [if_neg cc20, ht, he9, hb]; rfl] at kk7
                exact Y_sub (by simp [bI_t, bI_f]) (kk7)
              · have hb := Bool.eq_false_iff.mpr hb
                refine Y_iload_n C dX3_giveWay_130 rfl rfl ?_
                refine Y_if_ne C 148 dX3_giveWay_131 (by decide) (fun cc38 => absurd (bI_0.mpr hb) cc38) (fun cc38 => ?_)
                refine Y_aload_n C dX3_giveWay_134 rfl rfl ?_
                refine Y_iload C dX3_giveWay_135 rfl ?_
                refine Y_zald C (v := 1) dX3_giveWay_137 ((gW_hi (by decide)).trans rfl) (vp_in_nI hi7 (by omega)) (by rw [nI_clamp (by omega)]; show bI (if i7 = i7 then true else _) = _; rw [if_pos rfl]; rfl) ?_
                refine Y_if_ne C 148 dX3_giveWay_138 (by decide) (fun cc39 => ?_) (fun cc39 => absurd cc39 (by decide))
                refine Y_iconst C (v := 1) dX3_giveWay_148 (by decide) ?_
                refine Y_goto C 153 dX3_giveWay_149 (by decide) ?_
                refine Y_istore_n C (L' := [(1, .int 1), (5, .int (nI i7)), (4, .ref 412), (3, .ref 414), (2, .ref 413), (0, .ref 100)]) dX3_giveWay_153 rfl (by decide) rfl ?_
                refine Y_iinc C (L' := [(5, .int (nI (i7 + 1))), (1, .int 1), (4, .ref 412), (3, .ref 414), (2, .ref 413), (0, .ref 100)]) (v := nI (i7 + 1)) dX3_giveWay_154 rfl (nI_inc _) (by decide) rfl ?_
                refine Y_goto C 33 dX3_giveWay_157 (by decide) ?_
                rw [show gF S1.1 i7 X7 = (ub X7.1 i7 true, ub X7.2.1 i7 false, true) from by unfold gF; rw [if_neg cc20, ht, he9, hb]; rfl] at kk7
                exact Y_sub (by simp [bI_t, bI_f]) (kk7)
            · refine Y_aload_n C dX3_giveWay_104 rfl rfl ?_
              refine Y_get C K3 (v := .ref 101) 0 dX3_giveWay_105 gW_100 (by decide) g_577 rfl rfl ?_
              refine Y_iload C dX3_giveWay_108 rfl ?_
              refine Y_aaldq C (j := 200 + 2 * i7) dX3_giveWay_110 gW_101 (vp_in_nI hi7 (by omega)) (by rw [nI_clamp (by omega)]; exact rfS_at hi7) ?_
              refine Y_get C K4 (v := .int (S1.1.1 3 i7)) 3 dX3_giveWay_111 (gW_st h40 hi7) (by decide) g_454 rfl rfl ?_
              refine Y_aload C dX3_giveWay_114 rfl ?_
              refine Y_iconst C (v := 0) dX3_giveWay_116 (by decide) ?_
              refine Y_aald C (j := 410) dX3_giveWay_117 ((gW_hi (by decide)).trans rfl) (vp_in_nI (n := 0) (N := 2) (by decide) (by decide)) rfl ?_
              refine Y_iload C dX3_giveWay_118 rfl ?_
              refine Y_iald C (v := f i7) dX3_giveWay_120 ((gW_hi (by decide)).trans rfl) (vp_in_nI hi7 (by omega)) (by rw [nI_clamp (by omega)] <;> rfl) ?_
              refine Y_icmp_ge C 128 dX3_giveWay_121 (by decide) (fun cc40 => ?_) (fun cc40 => ?_)
              · have he9 : ekF S1.1 i7 = false := by unfold ekF; rw [← hf9]; simp [cc40]
                refine Y_iconst C (v := 0) dX3_giveWay_128 (by decide) ?_
                refine Y_zsN C (b := false) dX3_giveWay_129 ((gW_hi (by decide)).trans rfl) rfl hi7 (by omega) (w' := gW V n r S1.1 (tG T n (ub X7.1 i7 true) (ub X7.2.1 i7 false) f g)) (tG_w2 _ _) ?_
                by_cases hb : X7.2.2 = true
                · refine Y_iload_n C dX3_giveWay_130 rfl rfl ?_
                  refine Y_if_ne C 148 dX3_giveWay_131 (by decide) (fun cc41 => ?_) (fun cc41 => absurd cc41 (bI_n0.mpr hb))
                  refine Y_iconst C (v := 1) dX3_giveWay_148 (by decide) ?_
                  refine Y_goto C 153 dX3_giveWay_149 (by decide) ?_
                  refine Y_istore_n C (L' := [(1, .int 1), (5, .int (nI i7)), (4, .ref 412), (3, .ref 414), (2, .ref 413), (0, .ref 100)]) dX3_giveWay_153 rfl (by decide) rfl ?_
                  refine Y_iinc C (L' := [(5, .int (nI (i7 + 1))), (1, .int 1), (4, .ref 412), (3, .ref 414), (2, .ref 413), (0, .ref 100)]) (v := nI (i7 + 1)) dX3_giveWay_154 rfl (nI_inc _) (by decide) rfl ?_
                  refine Y_goto C 33 dX3_giveWay_157 (by decide) ?_
                  rw [show gF S1.1 i7 X7 = (ub X7.1 i7 true, ub X7.2.1 i7 false, true) from by unfold gF; rw [if_neg cc20, ht, he9, hb]; rfl] at kk7
                  exact Y_sub (by simp [bI_t, bI_f]) (kk7)
                · have hb := Bool.eq_false_iff.mpr hb
                  refine Y_iload_n C dX3_giveWay_130 rfl rfl ?_
                  refine Y_if_ne C 148 dX3_giveWay_131 (by decide) (fun cc42 => absurd (bI_0.mpr hb) cc42) (fun cc42 => ?_)
                  refine Y_aload_n C dX3_giveWay_134 rfl rfl ?_
                  refine Y_iload C dX3_giveWay_135 rfl ?_
                  refine Y_zald C (v := 1) dX3_giveWay_137 ((gW_hi (by decide)).trans rfl) (vp_in_nI hi7 (by omega)) (by rw [nI_clamp (by omega)]; show bI (if i7 = i7 then true else _) = _; rw [if_pos rfl]; rfl) ?_
                  refine Y_if_ne C 148 dX3_giveWay_138 (by decide) (fun cc43 => ?_) (fun cc43 => absurd cc43 (by decide))
                  refine Y_iconst C (v := 1) dX3_giveWay_148 (by decide) ?_
                  refine Y_goto C 153 dX3_giveWay_149 (by decide) ?_
                  refine Y_istore_n C (L' := [(1, .int 1), (5, .int (nI i7)), (4, .ref 412), (3, .ref 414), (2, .ref 413), (0, .ref 100)]) dX3_giveWay_153 rfl (by decide) rfl ?_
                  refine Y_iinc C (L' := [(5, .int (nI (i7 + 1))), (1, .int 1), (4, .ref 412), (3, .ref 414), (2, .ref 413), (0, .ref 100)]) (v := nI (i7 + 1)) dX3_giveWay_154 rfl (nI_inc _) (by decide) rfl ?_
                  refine Y_goto C 33 dX3_giveWay_157 (by decide) ?_
                  rw [show gF S1.1 i7 X7 = (ub X7.1 i7 true, ub X7.2.1 i7 false, true) from by unfold gF; rw [if_neg cc20, ht, he9, hb]; rfl] at kk7
                  exact Y_sub (by simp [bI_t, bI_f]) (kk7)
              · have he9 : ekF S1.1 i7 = true := by unfold ekF; rw [← hf9]; simp [cc36, cc40]
                refine Y_iconst C (v := 1) dX3_giveWay_124 (by decide) ?_
                refine Y_goto C 129 dX3_giveWay_125 (by decide) ?_
                refine Y_zsN C (b := true) dX3_giveWay_129 ((gW_hi (by decide)).trans rfl) rfl hi7 (by omega) (w' := gW V n r S1.1 (tG T n (ub X7.1 i7 true) (ub X7.2.1 i7 true) f g)) (tG_w2 _ _) ?_
                by_cases hb : X7.2.2 = true
                · refine Y_iload_n C dX3_giveWay_130 rfl rfl ?_
                  refine Y_if_ne C 148 dX3_giveWay_131 (by decide) (fun cc44 => ?_) (fun cc44 => absurd cc44 (bI_n0.mpr hb))
                  refine Y_iconst C (v := 1) dX3_giveWay_148 (by decide) ?_
                  refine Y_goto C 153 dX3_giveWay_149 (by decide) ?_
                  refine Y_istore_n C (L' := [(1, .int 1), (5, .int (nI i7)), (4, .ref 412), (3, .ref 414), (2, .ref 413), (0, .ref 100)]) dX3_giveWay_153 rfl (by decide) rfl ?_
                  refine Y_iinc C (L' := [(5, .int (nI (i7 + 1))), (1, .int 1), (4, .ref 412), (3, .ref 414), (2, .ref 413), (0, .ref 100)]) (v := nI (i7 + 1)) dX3_giveWay_154 rfl (nI_inc _) (by decide) rfl ?_
                  refine Y_goto C 33 dX3_giveWay_157 (by decide) ?_
                  rw [show gF S1.1 i7 X7 = (ub X7.1 i7 true, ub X7.2.1 i7 true, true) from by unfold gF; rw [if_neg cc20, ht, he9, hb]; rfl] at kk7
                  exact Y_sub (by simp [bI_t, bI_f]) (kk7)
                · have hb := Bool.eq_false_iff.mpr hb
                  refine Y_iload_n C dX3_giveWay_130 rfl rfl ?_
                  refine Y_if_ne C 148 dX3_giveWay_131 (by decide) (fun cc45 => absurd (bI_0.mpr hb) cc45) (fun cc45 => ?_)
                  refine Y_aload_n C dX3_giveWay_134 rfl rfl ?_
                  refine Y_iload C dX3_giveWay_135 rfl ?_
                  refine Y_zald C (v := 1) dX3_giveWay_137 ((gW_hi (by decide)).trans rfl) (vp_in_nI hi7 (by omega)) (by rw [nI_clamp (by omega)]; show bI (if i7 = i7 then true else _) = _; rw [if_pos rfl]; rfl) ?_
                  refine Y_if_ne C 148 dX3_giveWay_138 (by decide) (fun cc46 => ?_) (fun cc46 => absurd cc46 (by decide))
                  refine Y_iconst C (v := 1) dX3_giveWay_148 (by decide) ?_
                  refine Y_goto C 153 dX3_giveWay_149 (by decide) ?_
                  refine Y_istore_n C (L' := [(1, .int 1), (5, .int (nI i7)), (4, .ref 412), (3, .ref 414), (2, .ref 413), (0, .ref 100)]) dX3_giveWay_153 rfl (by decide) rfl ?_
                  refine Y_iinc C (L' := [(5, .int (nI (i7 + 1))), (1, .int 1), (4, .ref 412), (3, .ref 414), (2, .ref 413), (0, .ref 100)]) (v := nI (i7 + 1)) dX3_giveWay_154 rfl (nI_inc _) (by decide) rfl ?_
                  refine Y_goto C 33 dX3_giveWay_157 (by decide) ?_
                  rw [show gF S1.1 i7 X7 = (ub X7.1 i7 true, ub X7.2.1 i7 true, true) from by unfold gF; rw [if_neg cc20, ht, he9, hb]; rfl] at kk7
                  exact Y_sub (by simp [bI_t, bI_f]) (kk7)
        · refine Y_goto C 154 dX3_giveWay_56 (by decide) ?_
          refine Y_iinc C (L' := [(5, .int (nI (i7 + 1))), (4, .ref 412), (3, .ref 414), (2, .ref 413), (1, .int (bI X7.2.2)), (0, .ref 100)]) (v := nI (i7 + 1)) dX3_giveWay_154 rfl (nI_inc _) (by decide) rfl ?_
          refine Y_goto C 33 dX3_giveWay_157 (by decide) ?_
          rw [show gF S1.1 i7 X7 = X7 from by unfold gF; rw [if_pos cc20]] at kk7
          exact Y_sub (by simp [bI_t, bI_f]) (kk7)
