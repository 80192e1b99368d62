/-! a stone made; the loads reckoned -/
theorem m_X3_reckon : mV yX3_reckon cX3_reckon 8 (Option.some (.array (.array .int))) 0 := ⟨g_394, g_395, g_17, g_396, by decide +kernel⟩
theorem m_L_build : mS yL_build cL_build 4 (Option.some (.object RX3)) 2 := ⟨g_569, g_13, g_570, by decide +kernel⟩
def t3 (T : WF) : WF := fun i => if 410 ≤ i ∧ i ≤ 412 then none else T i
def tF (n : Nat) (f : Nat → Int32) : Option va_E := some (.inl (0, n, .inl f))
def tR (T : WF) (n : Nat) (f g : Nat → Int32) : WF := tU (tU (t3 T) 410 (tF n f)) 411 (tF n g)
def r2 : Nat → Option Nat := va_up (va_up (fun _ => none) 0 (some 410)) 1 (some 411)
def tRf (T : WF) (n : Nat) (f g : Nat → Int32) : WF := tU (tR T n f g) 412 (some (rfE 3 2 r2))
theorem t3_n (T : WF) {q : Nat} (h : 410 ≤ q ∧ q ≤ 412) : t3 T q = none := if_pos h
theorem t3_less (T : WF) : ∀ i e, t3 T i = some e → T i = some e := fun i e h => by
  unfold t3 at h
  split at h
  · cases h
  · exact h
theorem okT_3 {T : WF} (h : okT T) : okT (t3 T) := fun i e q => h i e (t3_less T i e q)
theorem tR_0 {T : WF} {n : Nat} {f g : Nat → Int32} : tR T n f g 410 = some (.inl (0, n, .inl f)) := (tU_n _ _ (by decide)).trans (tU_s _ _ _)
theorem tR_1 {T : WF} {n : Nat} {f g : Nat → Int32} : tR T n f g 411 = some (.inl (0, n, .inl g)) := tU_s _ _ _
theorem tU_cm (T : WF) {q p : Nat} (a b : Option va_E) (h : q ≠ p) : tU (tU T q a) p b = tU (tU T p b) q a := by
  funext i
  by_cases h1 : i = q
  · subst h1
    rw [tU_n _ _ h, tU_s, tU_s]
  · by_cases h2 : i = p
    · subst h2
      rw [tU_s, tU_n _ _ h1, tU_s]
    · rw [tU_n _ _ h2, tU_n _ _ h1, tU_n _ _ h1, tU_n _ _ h2]
theorem tR_w0 {V : List va_E} {n r : Nat} {M : Md} {T : WF} {f g : Nat → Int32} (f' : Nat → Int32) : wU (gW V n r M (tR T n f g)) 410 (.inl (0, n, .inl f')) = gW V n r M (tR T n f' g) := by
  rw [gW_tU (by decide)]
  unfold tR
  rw [tU_cm _ _ _ (by decide : (411 : Nat) ≠ 410), tU_tU]
  rfl
theorem tR_w1 {V : List va_E} {n r : Nat} {M : Md} {T : WF} {f g : Nat → Int32} (g' : Nat → Int32) : wU (gW V n r M (tR T n f g)) 411 (.inl (0, n, .inl g')) = gW V n r M (tR T n f g') := by
  rw [gW_tU (by decide)]
  unfold tR
  rw [tU_tU]
  rfl
theorem okT_R {T : WF} (h : okT T) {n : Nat} {f g : Nat → Int32} : okT (tR T n f g) := okT_U (okT_U (okT_3 h))
theorem z0_at (P : Nat → Int32) : ∀ (m j : Nat), j < m → fr (fun i (P : Nat → Int32) => upd P i 0) m P j = 0
  | m + 1, j, h => by
    show upd (fr (fun i (P : Nat → Int32) => upd P i 0) m P) m 0 j = 0
    by_cases z : j = m
    · rw [z, pk_us]
    · rw [pk_un z]
      exact z0_at P m j (by omega)
theorem hq_0 {V : List va_E} {n r : Nat} {M : Md} {T : WF} {o : Nat} (h40 : n ≤ 40) (ho : o < n) (h4 : M.1 4 o = -1) : gW V n r M T (201 + 2 * o) = some (.inl (0, 0, .inl (hF M o))) := by rw [gW_ho h40 ho]; unfold holE hL; rw [if_pos h4]
theorem hq_1 {V : List va_E} {n r : Nat} {M : Md} {T : WF} {o : Nat} (h40 : n ≤ 40) (ho : o < n) (h4 : ¬ M.1 4 o = -1) (h5 : M.1 5 o = -1) : gW V n r M T (201 + 2 * o) = some (.inl (0, 1, .inl (hF M o))) := by rw [gW_ho h40 ho]; unfold holE hL; rw [if_neg h4, if_pos h5]
theorem hq_2 {V : List va_E} {n r : Nat} {M : Md} {T : WF} {o : Nat} (h40 : n ≤ 40) (ho : o < n) (h4 : ¬ M.1 4 o = -1) (h5 : ¬ M.1 5 o = -1) : gW V n r M T (201 + 2 * o) = some (.inl (0, 2, .inl (hF M o))) := by rw [gW_ho h40 ho]; unfold holE hL; rw [if_neg h4, if_neg h5]
theorem mx_ge {x : Int32} (h : 0 ≤ x) : mx 0 x = x := by
  unfold mx
  by_cases c : 0 < x
  · rw [if_pos c]
  · rw [if_neg c]
    exact Int32.le_antisymm h (Int32.not_lt.mp c)
theorem mx_lt {x : Int32} (h : ¬ 0 ≤ x) : mx 0 x = 0 := by
  unfold mx
  rw [if_neg (fun c => h (Int32.le_of_lt c))]
set_option maxHeartbeats 4000000 in
set_option maxRecDepth 20000 in
theorem c_X3_reckon {V : List va_E} {n r : Nat} {M : Md} {T : WF} (h40 : n ≤ 40) (h30 : r ≤ 30) (hC : okC V) (hT : okT T) (hn : M.2.2.2 1 = nI n) (hJ : JI n M) (hB : WB n M) : CTm yX3_reckon cX3_reckon 8 (Option.some (.array (.array .int))) 0 3 82 [.ref 100] (gW V n r M T) (fun i => i < 410 ∨ 412 < i) (fun r' w' => r' = some (.ref 412) ∧ ∃ f g : Nat → Int32, (∀ k, k < n → f k = (mRk M).2.2.1 1 k) ∧ (∀ k, k < n → g k = (mRk M).2.2.1 2 k) ∧ w' = gW V n r M (tRf T n f g)) := by
  refine CTm_of (L := [(0, .ref 100)]) (by decide) (fun _ => rfl) (fun _ => Nat.le_of_ble_eq_true rfl) ?_
  intro p l e s m args below meth c G h A b N xs C S hr hlk hnm
  refine Y_less (w' := gW V n r M (t3 T)) (gW_less (t3_less T)) ?_
  refine Y_aload_n C dX3_reckon_0 rfl rfl ?_
  refine Y_get C K3 (v := .ref 101) 0 dX3_reckon_1 gW_100 (by decide) g_577 rfl rfl ?_
  refine Y_alen C (i := 2) (v := nI n) dX3_reckon_4 gW_101 rfl rfl ?_
  refine Y_istore_n C (L' := [(1, .int (nI n)), (0, .ref 100)]) dX3_reckon_5 rfl (by decide) rfl ?_
  refine Y_iload_n C dX3_reckon_6 rfl rfl ?_
  refine Y_newi C (N := n) 410 dX3_reckon_7 g_85 (nI_pos (by omega)) (nI_clamp (by omega)) (by show n * 4 ≤ _; omega) ⟨Nat.le_of_ble_eq_true rfl, by show _ ≤ 82; omega⟩ (gW_N0 h40 h30 hC (okT_3 hT) (t3_n T (by decide)) (by decide)) ⟨trivial, (by first | trivial | (unfold vR; (try dsimp only); omega)), trivial⟩ trivial (fun h1 ag1 => ?_)
  refine Y_eq (gW_tU (by decide)) ?_
  refine Y_astore_n C (L' := [(2, .ref 410), (1, .int (nI n)), (0, .ref 100)]) dX3_reckon_9 rfl (by decide) rfl ?_
  refine Y_iload_n C dX3_reckon_10 rfl rfl ?_
  refine Y_newi C (N := n) 411 dX3_reckon_11 g_85 (nI_pos (by omega)) (nI_clamp (by omega)) (by show n * 4 ≤ _; omega) ⟨Nat.le_of_ble_eq_true rfl, by show _ ≤ 82; omega⟩ (gW_N0 h40 h30 hC (okT_U (okT_3 hT)) ((tU_n _ _ (by decide)).trans (t3_n T (by decide))) (by decide)) ⟨(by first | trivial | (unfold vR; (try dsimp only); omega)), trivial, (by first | trivial | (unfold vR; (try dsimp only); omega)), trivial⟩ trivial (fun h2 ag2 => ?_)
  refine Y_eq (gW_tU (by decide)) ?_
  refine Y_eq (w' := gW V n r M (tR T n (fun _ => 0) (fun _ => 0))) rfl ?_
  refine Y_astore_n C (L' := [(3, .ref 411), (2, .ref 410), (1, .int (nI n)), (0, .ref 100)]) dX3_reckon_13 rfl (by decide) rfl ?_
  refine Y_iconst C (v := 1) dX3_reckon_14 (by decide) ?_
  refine Y_istore C (L' := [(4, .int 1), (3, .ref 411), (2, .ref 410), (1, .int (nI n)), (0, .ref 100)]) dX3_reckon_15 (by decide) rfl ?_
  refine Y_pc (L := [(4, .int (bI true)), (3, .ref 411), (2, .ref 410), (1, .int (nI n)), (0, .ref 100)]) rfl ?_
  refine Zind (σ := (Nat → Int32) × (Nat → Int32) × Bool) (fun k S1 => ∀ t : Nat, t + k = n + 1 → (S1.2.2 = true → Gd2 n t M S1.1 ∧ t ≤ n) → (S1.2.2 = false → (∀ k, k < n → S1.1 k = (mRk M).2.2.1 1 k) ∧ ∀ k, k < n → S1.2.1 k = (mRk M).2.2.1 2 k) → Y p l e _ s m args below meth c 8 G A h2 _ (0 + 1 + 1) (0 + n + n) (gW V n r M (tR T n S1.1 S1.2.1)) 17 [(4, .int (bI S1.2.2)), (3, .ref 411), (2, .ref 410), (1, .int (nI n)), (0, .ref 100)] []) (n + 1) (fun _ => 0, fun _ => 0, true) (fun S1 t ht hg he => ?_) (fun k S1 ih t ht hg he => ?_) 0 (Nat.zero_add _) (fun _ => ⟨fun k hk z => absurd z (by omega), Nat.zero_le _⟩) (fun z => by cases z)
  · have hgo : S1.2.2 = false := by cases z : S1.2.2 with | false => rfl | true => exact absurd (hg z).2 (by omega)
    refine Y_iload C dX3_reckon_17 rfl ?_
    refine Y_if_eq C 252 dX3_reckon_19 (by decide) (fun c3 => ?_) (fun c3 => absurd (bI_0.mpr hgo) c3)
    refine Y_iconst C (v := 2) dX3_reckon_252 (by decide) ?_
    obtain ⟨hf, hg2⟩ := he hgo
    refine Y_newaa C (N := 2) 412 dX3_reckon_253 g_397 (by decide) (by decide) (by decide) ⟨Nat.le_of_ble_eq_true rfl, by show _ ≤ 82; omega⟩ (gW_N0 h40 h30 hC (okT_R hT) ((tU_n _ _ (by decide)).trans ((tU_n _ _ (by decide)).trans (t3_n T (by decide)))) (by decide)) ⟨trivial, (by first | trivial | (unfold vR; (try dsimp only); omega)), (by first | trivial | (unfold vR; (try dsimp only); omega)), trivial, (by first | trivial | (unfold vR; (try dsimp only); omega)), trivial⟩ trivial (fun h4 ag4 => ?_)
    refine Y_eq (gW_tU (by decide)) ?_
    refine Y_dup C dX3_reckon_256 rfl ?_
    refine Y_iconst C (v := 0) dX3_reckon_257 (by decide) ?_
    refine Y_aload_n C dX3_reckon_258 rfl rfl ?_
    refine Y_aast C (f' := va_up (fun _ => none) 0 (some 410)) dX3_reckon_259 ((gW_hi (by decide)).trans (tU_s _ _ _)) ((gW_hi (by decide)).trans ((tU_n _ _ (by decide)).trans tR_0)) (vp_in_nI (n := 0) (N := 2) (by decide) (by decide)) rfl (w' := gW V n r M (tU (tR T n S1.1 S1.2.1) 412 (some (rfE 3 2 (va_up (fun _ => none) 0 (some 410)))))) (by rw [gW_tU (by decide), tU_tU]) ?_
    refine Y_dup C dX3_reckon_260 rfl ?_
    refine Y_iconst C (v := 1) dX3_reckon_261 (by decide) ?_
    refine Y_aload_n C dX3_reckon_262 rfl rfl ?_
    refine Y_aast C (f' := r2) dX3_reckon_263 ((gW_hi (by decide)).trans (tU_s _ _ _)) ((gW_hi (by decide)).trans ((tU_n _ _ (by decide)).trans tR_1)) (vp_in_nI (n := 1) (N := 2) (by decide) (by decide)) rfl (w' := gW V n r M (tRf T n S1.1 S1.2.1)) (by rw [gW_tU (by decide), tU_tU]; rfl) ?_
    refine Y_sub (L' := []) (by simp) ?_
    refine Y_widen (k' := 3) (n' := 82) (Nat.le_of_ble_eq_true rfl) (by omega) ?_
    exact Y_aret C hr (Or.inr ⟨_, rfl⟩) hlk dX3_reckon_264 (fun i hi => ((ag4 i (by first | trivial | exact hi | ((try (dsimp only at hi)); (try dsimp only); omega))).trans ((ag2 i (by first | trivial | exact hi | ((try (dsimp only at hi)); (try dsimp only); omega))).trans (ag1 i (by first | trivial | exact hi | ((try (dsimp only at hi)); (try dsimp only); omega)))))) ⟨rfl, S1.1, S1.2.1, hf, hg2, rfl⟩
  · by_cases hgo : S1.2.2 = false
    · refine Y_iload C dX3_reckon_17 rfl ?_
      refine Y_if_eq C 252 dX3_reckon_19 (by decide) (fun c5 => ?_) (fun c5 => absurd (bI_0.mpr hgo) c5)
      refine Y_iconst C (v := 2) dX3_reckon_252 (by decide) ?_
      obtain ⟨hf, hg2⟩ := he hgo
      refine Y_newaa C (N := 2) 412 dX3_reckon_253 g_397 (by decide) (by decide) (by decide) ⟨Nat.le_of_ble_eq_true rfl, by show _ ≤ 82; omega⟩ (gW_N0 h40 h30 hC (okT_R hT) ((tU_n _ _ (by decide)).trans ((tU_n _ _ (by decide)).trans (t3_n T (by decide)))) (by decide)) ⟨trivial, (by first | trivial | (unfold vR; (try dsimp only); omega)), (by first | trivial | (unfold vR; (try dsimp only); omega)), trivial, (by first | trivial | (unfold vR; (try dsimp only); omega)), trivial⟩ trivial (fun h6 ag6 => ?_)
      refine Y_eq (gW_tU (by decide)) ?_
      refine Y_dup C dX3_reckon_256 rfl ?_
      refine Y_iconst C (v := 0) dX3_reckon_257 (by decide) ?_
      refine Y_aload_n C dX3_reckon_258 rfl rfl ?_
      refine Y_aast C (f' := va_up (fun _ => none) 0 (some 410)) dX3_reckon_259 ((gW_hi (by decide)).trans (tU_s _ _ _)) ((gW_hi (by decide)).trans ((tU_n _ _ (by decide)).trans tR_0)) (vp_in_nI (n := 0) (N := 2) (by decide) (by decide)) rfl (w' := gW V n r M (tU (tR T n S1.1 S1.2.1) 412 (some (rfE 3 2 (va_up (fun _ => none) 0 (some 410)))))) (by rw [gW_tU (by decide), tU_tU]) ?_
      refine Y_dup C dX3_reckon_260 rfl ?_
      refine Y_iconst C (v := 1) dX3_reckon_261 (by decide) ?_
      refine Y_aload_n C dX3_reckon_262 rfl rfl ?_
      refine Y_aast C (f' := r2) dX3_reckon_263 ((gW_hi (by decide)).trans (tU_s _ _ _)) ((gW_hi (by decide)).trans ((tU_n _ _ (by decide)).trans tR_1)) (vp_in_nI (n := 1) (N := 2) (by decide) (by decide)) rfl (w' := gW V n r M (tRf T n S1.1 S1.2.1)) (by rw [gW_tU (by decide), tU_tU]; rfl) ?_
      refine Y_sub (L' := []) (by simp) ?_
      refine Y_widen (k' := 3) (n' := 82) (Nat.le_of_ble_eq_true rfl) (by omega) ?_
      exact Y_aret C hr (Or.inr ⟨_, rfl⟩) hlk dX3_reckon_264 (fun i hi => ((ag6 i (by first | trivial | exact hi | ((try (dsimp only at hi)); (try dsimp only); omega))).trans ((ag2 i (by first | trivial | exact hi | ((try (dsimp only at hi)); (try dsimp only); omega))).trans (ag1 i (by first | trivial | exact hi | ((try (dsimp only at hi)); (try dsimp only); omega)))))) ⟨rfl, S1.1, S1.2.1, hf, hg2, rfl⟩
    · have hgo := bT hgo
      obtain ⟨hgd, htn⟩ := hg hgo
      refine Y_iload C dX3_reckon_17 rfl ?_
      refine Y_if_eq C 252 dX3_reckon_19 (by decide) (fun c7 => absurd c7 (bI_n0.mpr hgo)) (fun c7 => ?_)
      refine Y_iconst C (v := 0) dX3_reckon_22 (by decide) ?_
      refine Y_istore C (L' := [(4, .int 0), (3, .ref 411), (2, .ref 410), (1, .int (nI n)), (0, .ref 100)]) dX3_reckon_23 (by decide) rfl ?_
      refine Y_iconst C (v := nI 0) dX3_reckon_25 (by decide) ?_
      refine Y_istore C (L' := [(5, .int (nI 0)), (4, .int 0), (3, .ref 411), (2, .ref 410), (1, .int (nI n)), (0, .ref 100)]) dX3_reckon_26 (by decide) rfl ?_
      refine Zfor (σ := Nat → Int32) (fun i8 X8 => Y p l e _ s m args below meth c 8 G A h2 _ (0 + 1 + 1) (0 + n + n) (gW V n r M (tR T n S1.1 X8)) 28 [(5, .int (nI i8)), (4, .int 0), (3, .ref 411), (2, .ref 410), (1, .int (nI n)), (0, .ref 100)] []) (fun i8 X8 => True) (fun i (P : Nat → Int32) => upd P i 0) n S1.2.1 trivial (fun _ _ _ _ => trivial) (fun X8 hX8 eX8 => ?_) (fun i8 X8 hi8 hX8 hX8' kk8 => ?_)
      · skip
        refine Y_iload C dX3_reckon_28 rfl ?_
        refine Y_iload_n C dX3_reckon_30 rfl rfl ?_
        refine Y_icmp_ge C 45 dX3_reckon_31 (by decide) (fun c9 => ?_) (fun c9 => absurd (Int32.le_refl _) c9)
        refine Y_fn (fun _ => 0) ((gW_hi (by decide)).trans tR_1) (fun j hj => by rw [eX8]; exact z0_at _ n j hj) ?_
        refine Y_eq (tR_w1 _) ?_
        refine Y_iconst C (v := nI 0) dX3_reckon_45 (by decide) ?_
        refine Y_istore C (L' := [(5, .int (nI 0)), (4, .int 0), (3, .ref 411), (2, .ref 410), (1, .int (nI n)), (0, .ref 100)]) dX3_reckon_46 (by decide) rfl ?_
        refine Zfor (σ := Nat → Int32) (fun i10 X10 => Y p l e _ s m args below meth c 8 G A h2 _ (0 + 1 + 1) (0 + n + n) (gW V n r M (tR T n S1.1 X10)) 48 [(5, .int (nI i10)), (4, .int 0), (3, .ref 411), (2, .ref 410), (1, .int (nI n)), (0, .ref 100)] []) (fun i10 X10 => True) (jq1 M S1.1) n (fun _ => 0) trivial (fun _ _ _ _ => trivial) (fun X10 hX10 eX10 => ?_) (fun i10 X10 hi10 hX10 hX10' kk10 => ?_)
        · skip
          refine Y_iload C dX3_reckon_48 rfl ?_
          refine Y_iload_n C dX3_reckon_50 rfl rfl ?_
          refine Y_icmp_ge C 154 dX3_reckon_51 (by decide) (fun c11 => ?_) (fun c11 => absurd (Int32.le_refl _) c11)
          refine Y_iconst C (v := nI 0) dX3_reckon_154 (by decide) ?_
          refine Y_istore C (L' := [(5, .int (nI 0)), (4, .int 0), (3, .ref 411), (2, .ref 410), (1, .int (nI n)), (0, .ref 100)]) dX3_reckon_155 (by decide) rfl ?_
          refine Y_pc (L := [(5, .int (nI 0)), (4, .int (bI false)), (3, .ref 411), (2, .ref 410), (1, .int (nI n)), (0, .ref 100)]) rfl ?_
          refine Zfor (σ := (Nat → Int32) × Bool) (fun i12 X12 => Y p l e _ s m args below meth c 8 G A h2 _ (0 + 1 + 1) (0 + n + n) (gW V n r M (tR T n X12.1 X10)) 157 [(5, .int (nI i12)), (4, .int (bI X12.2)), (3, .ref 411), (2, .ref 410), (1, .int (nI n)), (0, .ref 100)] []) (fun i12 X12 => True) (jl1 M X10) n (S1.1, false) trivial (fun _ _ _ _ => trivial) (fun X12 hX12 eX12 => ?_) (fun i12 X12 hi12 hX12 hX12' kk12 => ?_)
          · skip
            refine Y_iload C dX3_reckon_157 rfl ?_
            refine Y_iload_n C dX3_reckon_159 rfl rfl ?_
            refine Y_icmp_ge C 249 dX3_reckon_160 (by decide) (fun c13 => ?_) (fun c13 => absurd (Int32.le_refl _) c13)
            refine Y_goto C 17 dX3_reckon_249 (by decide) ?_
            have eJ : X12 = jIt M n S1.1 := by rw [eX12, eX10]; rfl
            have eP : X10 = jqS M S1.1 n := eX10
            refine Y_sub (by simp) (ih (X12.1, X10, X12.2) (t + 1) (by omega) (fun z => ⟨by rw [eJ]; exact Gd2_it h40 hn hJ hB hgd, ?_⟩) (fun z => ?_))
            · rcases Nat.lt_or_ge t n with y | y
              · omega
              · exfalso
                obtain rfl : t = n := by omega
                have := Gd2_all h40 hn hJ hB hgd
                rw [← eJ] at this
                exact absurd (this.symm.trans z) (by decide)
            · obtain ⟨-, y2, y3⟩ := Gd2_end h40 hn hJ hB (Ld := S1.1) (by rw [← eJ]; exact z)
              exact ⟨fun k hk => by show X12.1 k = _; rw [eJ]; exact y2 k hk, fun k hk => by show X10 k = _; rw [eP]; exact y3 k hk⟩
          · skip
            refine Y_iload C dX3_reckon_157 rfl ?_
            refine Y_iload_n C dX3_reckon_159 rfl rfl ?_
            refine Y_icmp_ge C 249 dX3_reckon_160 (by decide) (fun c14 => absurd c14 (nI_ge hi12 (by omega))) (fun c14 => ?_)
            refine Y_aload_n C dX3_reckon_163 rfl rfl ?_
            refine Y_get C K3 (v := .ref 101) 0 dX3_reckon_164 gW_100 (by decide) g_577 rfl rfl ?_
            refine Y_iload C dX3_reckon_167 rfl ?_
            refine Y_aaldq C (j := 200 + 2 * i12) dX3_reckon_169 gW_101 (vp_in_nI hi12 (by omega)) (by rw [nI_clamp (by omega)]; exact rfS_at hi12) ?_
            refine Y_get C K4 (v := .int (M.1 2 i12)) 2 dX3_reckon_170 (gW_st h40 hi12) (by decide) g_452 rfl rfl ?_
            refine Y_if_eq C 205 dX3_reckon_173 (by decide) (fun c15 => ?_) (fun c15 => ?_)
            · refine Y_iconst C (v := 0) dX3_reckon_205 (by decide) ?_
              refine Y_istore C (L' := [(6, .int 0), (5, .int (nI i12)), (4, .int (bI X12.2)), (3, .ref 411), (2, .ref 410), (1, .int (nI n)), (0, .ref 100)]) dX3_reckon_206 (by decide) rfl ?_
              refine Y_iload C dX3_reckon_208 rfl ?_
              refine Y_if_ge C 216 dX3_reckon_210 (by decide) (fun c16 => ?_) (fun c16 => ?_)
              · have hj : jld M X10 i12 = 0 := (by unfold jld; rw [if_pos c15])
                refine Y_iload C dX3_reckon_216 rfl ?_
                by_cases hb9 : X12.2 = false
                · refine Y_if_ne C 230 dX3_reckon_218 (by decide) (fun z => absurd (bI_0.mpr hb9) z) (fun _ => ?_)
                  refine Y_iload C dX3_reckon_221 rfl ?_
                  refine Y_aload_n C dX3_reckon_223 rfl rfl ?_
                  refine Y_iload C dX3_reckon_224 rfl ?_
                  refine Y_iald C (v := X12.1 i12) dX3_reckon_226 ((gW_hi (by decide)).trans tR_0) (vp_in_nI hi12 (by omega)) (by rw [nI_clamp (by omega)] <;> rfl) ?_
                  refine Y_icmp_eq C 234 dX3_reckon_227 (by decide) (fun c17 => ?_) (fun c17 => ?_)
                  · refine Y_iconst C (v := 0) dX3_reckon_234 (by decide) ?_
                    refine Y_istore C (L' := [(4, .int 0), (6, .int 0), (5, .int (nI i12)), (3, .ref 411), (2, .ref 410), (1, .int (nI n)), (0, .ref 100)]) dX3_reckon_235 (by decide) rfl ?_
                    refine Y_aload_n C dX3_reckon_237 rfl rfl ?_
                    refine Y_iload C dX3_reckon_238 rfl ?_
                    refine Y_iload C dX3_reckon_240 rfl ?_
                    refine Y_iast C (f' := upd X12.1 i12 (0)) dX3_reckon_242 ((gW_hi (by decide)).trans tR_0) (vp_in_nI hi12 (by omega)) (by rw [nI_clamp (by omega)]) (w' := gW V n r M (tR T n (upd X12.1 i12 (0)) X10)) (tR_w0 _) ?_
                    refine Y_iinc C (L' := [(5, .int (nI (i12 + 1))), (4, .int 0), (6, .int 0), (3, .ref 411), (2, .ref 410), (1, .int (nI n)), (0, .ref 100)]) (v := nI (i12 + 1)) dX3_reckon_243 rfl (nI_inc _) (by decide) rfl ?_
                    refine Y_goto C 157 dX3_reckon_246 (by decide) ?_
                    rw [show jl1 M X10 i12 X12 = (upd X12.1 i12 (0), false) from by unfold jl1; rw [hj, hb9]; simp [c17]] at kk12
                    exact Y_sub (by simp [bI_t, bI_f]) (kk12)
                  · refine Y_iconst C (v := 1) dX3_reckon_230 (by decide) ?_
                    refine Y_goto C 235 dX3_reckon_231 (by decide) ?_
                    refine Y_istore C (L' := [(4, .int 1), (6, .int 0), (5, .int (nI i12)), (3, .ref 411), (2, .ref 410), (1, .int (nI n)), (0, .ref 100)]) dX3_reckon_235 (by decide) rfl ?_
                    refine Y_aload_n C dX3_reckon_237 rfl rfl ?_
                    refine Y_iload C dX3_reckon_238 rfl ?_
                    refine Y_iload C dX3_reckon_240 rfl ?_
                    refine Y_iast C (f' := upd X12.1 i12 (0)) dX3_reckon_242 ((gW_hi (by decide)).trans tR_0) (vp_in_nI hi12 (by omega)) (by rw [nI_clamp (by omega)]) (w' := gW V n r M (tR T n (upd X12.1 i12 (0)) X10)) (tR_w0 _) ?_
                    refine Y_iinc C (L' := [(5, .int (nI (i12 + 1))), (4, .int 1), (6, .int 0), (3, .ref 411), (2, .ref 410), (1, .int (nI n)), (0, .ref 100)]) (v := nI (i12 + 1)) dX3_reckon_243 rfl (nI_inc _) (by decide) rfl ?_
                    refine Y_goto C 157 dX3_reckon_246 (by decide) ?_
                    rw [show jl1 M X10 i12 X12 = (upd X12.1 i12 (0), true) from by unfold jl1; rw [hj, hb9]; simp [c17]] at kk12
                    exact Y_sub (by simp [bI_t, bI_f]) (kk12)
                · have hb9 := bT hb9
                  refine Y_if_ne C 230 dX3_reckon_218 (by decide) (fun _ => ?_) (fun z => absurd z (bI_n0.mpr hb9))
                  refine Y_iconst C (v := 1) dX3_reckon_230 (by decide) ?_
                  refine Y_goto C 235 dX3_reckon_231 (by decide) ?_
                  refine Y_istore C (L' := [(4, .int 1), (6, .int 0), (5, .int (nI i12)), (3, .ref 411), (2, .ref 410), (1, .int (nI n)), (0, .ref 100)]) dX3_reckon_235 (by decide) rfl ?_
                  refine Y_aload_n C dX3_reckon_237 rfl rfl ?_
                  refine Y_iload C dX3_reckon_238 rfl ?_
                  refine Y_iload C dX3_reckon_240 rfl ?_
                  refine Y_iast C (f' := upd X12.1 i12 (0)) dX3_reckon_242 ((gW_hi (by decide)).trans tR_0) (vp_in_nI hi12 (by omega)) (by rw [nI_clamp (by omega)]) (w' := gW V n r M (tR T n (upd X12.1 i12 (0)) X10)) (tR_w0 _) ?_
                  refine Y_iinc C (L' := [(5, .int (nI (i12 + 1))), (4, .int 1), (6, .int 0), (3, .ref 411), (2, .ref 410), (1, .int (nI n)), (0, .ref 100)]) (v := nI (i12 + 1)) dX3_reckon_243 rfl (nI_inc _) (by decide) rfl ?_
                  refine Y_goto C 157 dX3_reckon_246 (by decide) ?_
                  rw [show jl1 M X10 i12 X12 = (upd X12.1 i12 (0), true) from by unfold jl1; rw [hj, hb9]; simp] at kk12
                  exact Y_sub (by simp [bI_t, bI_f]) (kk12)
              · refine Y_iconst C (v := 0) dX3_reckon_213 (by decide) ?_
                refine Y_istore C (L' := [(6, .int 0), (5, .int (nI i12)), (4, .int (bI X12.2)), (3, .ref 411), (2, .ref 410), (1, .int (nI n)), (0, .ref 100)]) dX3_reckon_214 (by decide) rfl ?_
                have hj : jld M X10 i12 = 0 := (by unfold jld; rw [if_pos c15])
                refine Y_iload C dX3_reckon_216 rfl ?_
                by_cases hb9 : X12.2 = false
                · refine Y_if_ne C 230 dX3_reckon_218 (by decide) (fun z => absurd (bI_0.mpr hb9) z) (fun _ => ?_)
                  refine Y_iload C dX3_reckon_221 rfl ?_
                  refine Y_aload_n C dX3_reckon_223 rfl rfl ?_
                  refine Y_iload C dX3_reckon_224 rfl ?_
                  refine Y_iald C (v := X12.1 i12) dX3_reckon_226 ((gW_hi (by decide)).trans tR_0) (vp_in_nI hi12 (by omega)) (by rw [nI_clamp (by omega)] <;> rfl) ?_
                  refine Y_icmp_eq C 234 dX3_reckon_227 (by decide) (fun c18 => ?_) (fun c18 => ?_)
                  · refine Y_iconst C (v := 0) dX3_reckon_234 (by decide) ?_
                    refine Y_istore C (L' := [(4, .int 0), (6, .int 0), (5, .int (nI i12)), (3, .ref 411), (2, .ref 410), (1, .int (nI n)), (0, .ref 100)]) dX3_reckon_235 (by decide) rfl ?_
                    refine Y_aload_n C dX3_reckon_237 rfl rfl ?_
                    refine Y_iload C dX3_reckon_238 rfl ?_
                    refine Y_iload C dX3_reckon_240 rfl ?_
                    refine Y_iast C (f' := upd X12.1 i12 (0)) dX3_reckon_242 ((gW_hi (by decide)).trans tR_0) (vp_in_nI hi12 (by omega)) (by rw [nI_clamp (by omega)]) (w' := gW V n r M (tR T n (upd X12.1 i12 (0)) X10)) (tR_w0 _) ?_
                    refine Y_iinc C (L' := [(5, .int (nI (i12 + 1))), (4, .int 0), (6, .int 0), (3, .ref 411), (2, .ref 410), (1, .int (nI n)), (0, .ref 100)]) (v := nI (i12 + 1)) dX3_reckon_243 rfl (nI_inc _) (by decide) rfl ?_
                    refine Y_goto C 157 dX3_reckon_246 (by decide) ?_
                    rw [show jl1 M X10 i12 X12 = (upd X12.1 i12 (0), false) from by unfold jl1; rw [hj, hb9]; simp [c18]] at kk12
                    exact Y_sub (by simp [bI_t, bI_f]) (kk12)
                  · refine Y_iconst C (v := 1) dX3_reckon_230 (by decide) ?_
                    refine Y_goto C 235 dX3_reckon_231 (by decide) ?_
                    refine Y_istore C (L' := [(4, .int 1), (6, .int 0), (5, .int (nI i12)), (3, .ref 411), (2, .ref 410), (1, .int (nI n)), (0, .ref 100)]) dX3_reckon_235 (by decide) rfl ?_
                    refine Y_aload_n C dX3_reckon_237 rfl rfl ?_
                    refine Y_iload C dX3_reckon_238 rfl ?_
                    refine Y_iload C dX3_reckon_240 rfl ?_
                    refine Y_iast C (f' := upd X12.1 i12 (0)) dX3_reckon_242 ((gW_hi (by decide)).trans tR_0) (vp_in_nI hi12 (by omega)) (by rw [nI_clamp (by omega)]) (w' := gW V n r M (tR T n (upd X12.1 i12 (0)) X10)) (tR_w0 _) ?_
                    refine Y_iinc C (L' := [(5, .int (nI (i12 + 1))), (4, .int 1), (6, .int 0), (3, .ref 411), (2, .ref 410), (1, .int (nI n)), (0, .ref 100)]) (v := nI (i12 + 1)) dX3_reckon_243 rfl (nI_inc _) (by decide) rfl ?_
                    refine Y_goto C 157 dX3_reckon_246 (by decide) ?_
                    rw [show jl1 M X10 i12 X12 = (upd X12.1 i12 (0), true) from by unfold jl1; rw [hj, hb9]; simp [c18]] at kk12
                    exact Y_sub (by simp [bI_t, bI_f]) (kk12)
                · have hb9 := bT hb9
                  refine Y_if_ne C 230 dX3_reckon_218 (by decide) (fun _ => ?_) (fun z => absurd z (bI_n0.mpr hb9))
                  refine Y_iconst C (v := 1) dX3_reckon_230 (by decide) ?_
                  refine Y_goto C 235 dX3_reckon_231 (by decide) ?_
                  refine Y_istore C (L' := [(4, .int 1), (6, .int 0), (5, .int (nI i12)), (3, .ref 411), (2, .ref 410), (1, .int (nI n)), (0, .ref 100)]) dX3_reckon_235 (by decide) rfl ?_
                  refine Y_aload_n C dX3_reckon_237 rfl rfl ?_
                  refine Y_iload C dX3_reckon_238 rfl ?_
                  refine Y_iload C dX3_reckon_240 rfl ?_
                  refine Y_iast C (f' := upd X12.1 i12 (0)) dX3_reckon_242 ((gW_hi (by decide)).trans tR_0) (vp_in_nI hi12 (by omega)) (by rw [nI_clamp (by omega)]) (w' := gW V n r M (tR T n (upd X12.1 i12 (0)) X10)) (tR_w0 _) ?_
                  refine Y_iinc C (L' := [(5, .int (nI (i12 + 1))), (4, .int 1), (6, .int 0), (3, .ref 411), (2, .ref 410), (1, .int (nI n)), (0, .ref 100)]) (v := nI (i12 + 1)) dX3_reckon_243 rfl (nI_inc _) (by decide) rfl ?_
                  refine Y_goto C 157 dX3_reckon_246 (by decide) ?_
                  rw [show jl1 M X10 i12 X12 = (upd X12.1 i12 (0), true) from by unfold jl1; rw [hj, hb9]; simp] at kk12
                  exact Y_sub (by simp [bI_t, bI_f]) (kk12)
            · refine Y_aload_n C dX3_reckon_176 rfl rfl ?_
              refine Y_get C K3 (v := .ref 101) 0 dX3_reckon_177 gW_100 (by decide) g_577 rfl rfl ?_
              refine Y_iload C dX3_reckon_180 rfl ?_
              refine Y_aaldq C (j := 200 + 2 * i12) dX3_reckon_182 gW_101 (vp_in_nI hi12 (by omega)) (by rw [nI_clamp (by omega)]; exact rfS_at hi12) ?_
              refine Y_get C K4 (v := .int (M.1 0 i12)) 0 dX3_reckon_183 (gW_st h40 hi12) (by decide) g_449 rfl rfl ?_
              refine Y_aload_n C dX3_reckon_186 rfl rfl ?_
              refine Y_iload C dX3_reckon_187 rfl ?_
              refine Y_iald C (v := X10 i12) dX3_reckon_189 ((gW_hi (by decide)).trans tR_1) (vp_in_nI hi12 (by omega)) (by rw [nI_clamp (by omega)] <;> rfl) ?_
              refine Y_iadd C (v := (M.1 0 i12) + (X10 i12)) dX3_reckon_190 rfl ?_
              refine Y_aload_n C dX3_reckon_191 rfl rfl ?_
              refine Y_get C K3 (v := .ref 101) 0 dX3_reckon_192 gW_100 (by decide) g_577 rfl rfl ?_
              refine Y_iload C dX3_reckon_195 rfl ?_
              refine Y_aaldq C (j := 200 + 2 * i12) dX3_reckon_197 gW_101 (vp_in_nI hi12 (by omega)) (by rw [nI_clamp (by omega)]; exact rfS_at hi12) ?_
              refine Y_get C K4 (v := .int (M.1 6 i12)) 5 dX3_reckon_198 (gW_st h40 hi12) (by decide) g_458 rfl rfl ?_
              refine Y_isub C (v := ((M.1 0 i12) + (X10 i12)) - (M.1 6 i12)) dX3_reckon_201 rfl ?_
              refine Y_goto C 206 dX3_reckon_202 (by decide) ?_
              refine Y_istore C (L' := [(6, .int (((M.1 0 i12) + (X10 i12)) - (M.1 6 i12))), (5, .int (nI i12)), (4, .int (bI X12.2)), (3, .ref 411), (2, .ref 410), (1, .int (nI n)), (0, .ref 100)]) dX3_reckon_206 (by decide) rfl ?_
              refine Y_iload C dX3_reckon_208 rfl ?_
              refine Y_if_ge C 216 dX3_reckon_210 (by decide) (fun c19 => ?_) (fun c19 => ?_)
              · have hj : jld M X10 i12 = ((M.1 0 i12) + (X10 i12)) - (M.1 6 i12) := (by unfold jld; rw [if_neg c15]; exact mx_ge c19)
                refine Y_iload C dX3_reckon_216 rfl ?_
                by_cases hb9 : X12.2 = false
                · refine Y_if_ne C 230 dX3_reckon_218 (by decide) (fun z => absurd (bI_0.mpr hb9) z) (fun _ => ?_)
                  refine Y_iload C dX3_reckon_221 rfl ?_
                  refine Y_aload_n C dX3_reckon_223 rfl rfl ?_
                  refine Y_iload C dX3_reckon_224 rfl ?_
                  refine Y_iald C (v := X12.1 i12) dX3_reckon_226 ((gW_hi (by decide)).trans tR_0) (vp_in_nI hi12 (by omega)) (by rw [nI_clamp (by omega)] <;> rfl) ?_
                  refine Y_icmp_eq C 234 dX3_reckon_227 (by decide) (fun c20 => ?_) (fun c20 => ?_)
                  · refine Y_iconst C (v := 0) dX3_reckon_234 (by decide) ?_
                    refine Y_istore C (L' := [(4, .int 0), (6, .int (((M.1 0 i12) + (X10 i12)) - (M.1 6 i12))), (5, .int (nI i12)), (3, .ref 411), (2, .ref 410), (1, .int (nI n)), (0, .ref 100)]) dX3_reckon_235 (by decide) rfl ?_
                    refine Y_aload_n C dX3_reckon_237 rfl rfl ?_
                    refine Y_iload C dX3_reckon_238 rfl ?_
                    refine Y_iload C dX3_reckon_240 rfl ?_
                    refine Y_iast C (f' := upd X12.1 i12 (((M.1 0 i12) + (X10 i12)) - (M.1 6 i12))) dX3_reckon_242 ((gW_hi (by decide)).trans tR_0) (vp_in_nI hi12 (by omega)) (by rw [nI_clamp (by omega)]) (w' := gW V n r M (tR T n (upd X12.1 i12 (((M.1 0 i12) + (X10 i12)) - (M.1 6 i12))) X10)) (tR_w0 _) ?_
                    refine Y_iinc C (L' := [(5, .int (nI (i12 + 1))), (4, .int 0), (6, .int (((M.1 0 i12) + (X10 i12)) - (M.1 6 i12))), (3, .ref 411), (2, .ref 410), (1, .int (nI n)), (0, .ref 100)]) (v := nI (i12 + 1)) dX3_reckon_243 rfl (nI_inc _) (by decide) rfl ?_
                    refine Y_goto C 157 dX3_reckon_246 (by decide) ?_
                    rw [show jl1 M X10 i12 X12 = (upd X12.1 i12 (((M.1 0 i12) + (X10 i12)) - (M.1 6 i12)), false) from by unfold jl1; rw [hj, hb9]; simp [c20]] at kk12
                    exact Y_sub (by simp [bI_t, bI_f]) (kk12)
                  · refine Y_iconst C (v := 1) dX3_reckon_230 (by decide) ?_
                    refine Y_goto C 235 dX3_reckon_231 (by decide) ?_
                    refine Y_istore C (L' := [(4, .int 1), (6, .int (((M.1 0 i12) + (X10 i12)) - (M.1 6 i12))), (5, .int (nI i12)), (3, .ref 411), (2, .ref 410), (1, .int (nI n)), (0, .ref 100)]) dX3_reckon_235 (by decide) rfl ?_
                    refine Y_aload_n C dX3_reckon_237 rfl rfl ?_
                    refine Y_iload C dX3_reckon_238 rfl ?_
                    refine Y_iload C dX3_reckon_240 rfl ?_
                    refine Y_iast C (f' := upd X12.1 i12 (((M.1 0 i12) + (X10 i12)) - (M.1 6 i12))) dX3_reckon_242 ((gW_hi (by decide)).trans tR_0) (vp_in_nI hi12 (by omega)) (by rw [nI_clamp (by omega)]) (w' := gW V n r M (tR T n (upd X12.1 i12 (((M.1 0 i12) + (X10 i12)) - (M.1 6 i12))) X10)) (tR_w0 _) ?_
                    refine Y_iinc C (L' := [(5, .int (nI (i12 + 1))), (4, .int 1), (6, .int (((M.1 0 i12) + (X10 i12)) - (M.1 6 i12))), (3, .ref 411), (2, .ref 410), (1, .int (nI n)), (0, .ref 100)]) (v := nI (i12 + 1)) dX3_reckon_243 rfl (nI_inc _) (by decide) rfl ?_
                    refine Y_goto C 157 dX3_reckon_246 (by decide) ?_
                    rw [show jl1 M X10 i12 X12 = (upd X12.1 i12 (((M.1 0 i12) + (X10 i12)) - (M.1 6 i12)), true) from by unfold jl1; rw [hj, hb9]; simp [c20]] at kk12
                    exact Y_sub (by simp [bI_t, bI_f]) (kk12)
                · have hb9 := bT hb9
                  refine Y_if_ne C 230 dX3_reckon_218 (by decide) (fun _ => ?_) (fun z => absurd z (bI_n0.mpr hb9))
                  refine Y_iconst C (v := 1) dX3_reckon_230 (by decide) ?_
                  refine Y_goto C 235 dX3_reckon_231 (by decide) ?_
                  refine Y_istore C (L' := [(4, .int 1), (6, .int (((M.1 0 i12) + (X10 i12)) - (M.1 6 i12))), (5, .int (nI i12)), (3, .ref 411), (2, .ref 410), (1, .int (nI n)), (0, .ref 100)]) dX3_reckon_235 (by decide) rfl ?_
                  refine Y_aload_n C dX3_reckon_237 rfl rfl ?_
                  refine Y_iload C dX3_reckon_238 rfl ?_
                  refine Y_iload C dX3_reckon_240 rfl ?_
                  refine Y_iast C (f' := upd X12.1 i12 (((M.1 0 i12) + (X10 i12)) - (M.1 6 i12))) dX3_reckon_242 ((gW_hi (by decide)).trans tR_0) (vp_in_nI hi12 (by omega)) (by rw [nI_clamp (by omega)]) (w' := gW V n r M (tR T n (upd X12.1 i12 (((M.1 0 i12) + (X10 i12)) - (M.1 6 i12))) X10)) (tR_w0 _) ?_
                  refine Y_iinc C (L' := [(5, .int (nI (i12 + 1))), (4, .int 1), (6, .int (((M.1 0 i12) + (X10 i12)) - (M.1 6 i12))), (3, .ref 411), (2, .ref 410), (1, .int (nI n)), (0, .ref 100)]) (v := nI (i12 + 1)) dX3_reckon_243 rfl (nI_inc _) (by decide) rfl ?_
                  refine Y_goto C 157 dX3_reckon_246 (by decide) ?_
                  rw [show jl1 M X10 i12 X12 = (upd X12.1 i12 (((M.1 0 i12) + (X10 i12)) - (M.1 6 i12)), true) from by unfold jl1; rw [hj, hb9]; simp] at kk12
                  exact Y_sub (by simp [bI_t, bI_f]) (kk12)
              · refine Y_iconst C (v := 0) dX3_reckon_213 (by decide) ?_
                refine Y_istore C (L' := [(6, .int 0), (5, .int (nI i12)), (4, .int (bI X12.2)), (3, .ref 411), (2, .ref 410), (1, .int (nI n)), (0, .ref 100)]) dX3_reckon_214 (by decide) rfl ?_
                have hj : jld M X10 i12 = 0 := (by unfold jld; rw [if_neg c15]; exact mx_lt c19)
                refine Y_iload C dX3_reckon_216 rfl ?_
                by_cases hb9 : X12.2 = false
                · refine Y_if_ne C 230 dX3_reckon_218 (by decide) (fun z => absurd (bI_0.mpr hb9) z) (fun _ => ?_)
                  refine Y_iload C dX3_reckon_221 rfl ?_
                  refine Y_aload_n C dX3_reckon_223 rfl rfl ?_
                  refine Y_iload C dX3_reckon_224 rfl ?_
                  refine Y_iald C (v := X12.1 i12) dX3_reckon_226 ((gW_hi (by decide)).trans tR_0) (vp_in_nI hi12 (by omega)) (by rw [nI_clamp (by omega)] <;> rfl) ?_
                  refine Y_icmp_eq C 234 dX3_reckon_227 (by decide) (fun c21 => ?_) (fun c21 => ?_)
                  · refine Y_iconst C (v := 0) dX3_reckon_234 (by decide) ?_
                    refine Y_istore C (L' := [(4, .int 0), (6, .int 0), (5, .int (nI i12)), (3, .ref 411), (2, .ref 410), (1, .int (nI n)), (0, .ref 100)]) dX3_reckon_235 (by decide) rfl ?_
                    refine Y_aload_n C dX3_reckon_237 rfl rfl ?_
                    refine Y_iload C dX3_reckon_238 rfl ?_
                    refine Y_iload C dX3_reckon_240 rfl ?_
                    refine Y_iast C (f' := upd X12.1 i12 (0)) dX3_reckon_242 ((gW_hi (by decide)).trans tR_0) (vp_in_nI hi12 (by omega)) (by rw [nI_clamp (by omega)]) (w' := gW V n r M (tR T n (upd X12.1 i12 (0)) X10)) (tR_w0 _) ?_
                    refine Y_iinc C (L' := [(5, .int (nI (i12 + 1))), (4, .int 0), (6, .int 0), (3, .ref 411), (2, .ref 410), (1, .int (nI n)), (0, .ref 100)]) (v := nI (i12 + 1)) dX3_reckon_243 rfl (nI_inc _) (by decide) rfl ?_
                    refine Y_goto C 157 dX3_reckon_246 (by decide) ?_
                    rw [show jl1 M X10 i12 X12 = (upd X12.1 i12 (0), false) from by unfold jl1; rw [hj, hb9]; simp [c21]] at kk12
                    exact Y_sub (by simp [bI_t, bI_f]) (kk12)
                  · refine Y_iconst C (v := 1) dX3_reckon_230 (by decide) ?_
                    refine Y_goto C 235 dX3_reckon_231 (by decide) ?_
                    refine Y_istore C (L' := [(4, .int 1), (6, .int 0), (5, .int (nI i12)), (3, .ref 411), (2, .ref 410), (1, .int (nI n)), (0, .ref 100)]) dX3_reckon_235 (by decide) rfl ?_
                    refine Y_aload_n C dX3_reckon_237 rfl rfl ?_
                    refine Y_iload C dX3_reckon_238 rfl ?_
                    refine Y_iload C dX3_reckon_240 rfl ?_
                    refine Y_iast C (f' := upd X12.1 i12 (0)) dX3_reckon_242 ((gW_hi (by decide)).trans tR_0) (vp_in_nI hi12 (by omega)) (by rw [nI_clamp (by omega)]) (w' := gW V n r M (tR T n (upd X12.1 i12 (0)) X10)) (tR_w0 _) ?_
                    refine Y_iinc C (L' := [(5, .int (nI (i12 + 1))), (4, .int 1), (6, .int 0), (3, .ref 411), (2, .ref 410), (1, .int (nI n)), (0, .ref 100)]) (v := nI (i12 + 1)) dX3_reckon_243 rfl (nI_inc _) (by decide) rfl ?_
                    refine Y_goto C 157 dX3_reckon_246 (by decide) ?_
                    rw [show jl1 M X10 i12 X12 = (upd X12.1 i12 (0), true) from by unfold jl1; rw [hj, hb9]; simp [c21]] at kk12
                    exact Y_sub (by simp [bI_t, bI_f]) (kk12)
                · have hb9 := bT hb9
                  refine Y_if_ne C 230 dX3_reckon_218 (by decide) (fun _ => ?_) (fun z => absurd z (bI_n0.mpr hb9))
                  refine Y_iconst C (v := 1) dX3_reckon_230 (by decide) ?_
                  refine Y_goto C 235 dX3_reckon_231 (by decide) ?_
                  refine Y_istore C (L' := [(4, .int 1), (6, .int 0), (5, .int (nI i12)), (3, .ref 411), (2, .ref 410), (1, .int (nI n)), (0, .ref 100)]) dX3_reckon_235 (by decide) rfl ?_
                  refine Y_aload_n C dX3_reckon_237 rfl rfl ?_
                  refine Y_iload C dX3_reckon_238 rfl ?_
                  refine Y_iload C dX3_reckon_240 rfl ?_
                  refine Y_iast C (f' := upd X12.1 i12 (0)) dX3_reckon_242 ((gW_hi (by decide)).trans tR_0) (vp_in_nI hi12 (by omega)) (by rw [nI_clamp (by omega)]) (w' := gW V n r M (tR T n (upd X12.1 i12 (0)) X10)) (tR_w0 _) ?_
                  refine Y_iinc C (L' := [(5, .int (nI (i12 + 1))), (4, .int 1), (6, .int 0), (3, .ref 411), (2, .ref 410), (1, .int (nI n)), (0, .ref 100)]) (v := nI (i12 + 1)) dX3_reckon_243 rfl (nI_inc _) (by decide) rfl ?_
                  refine Y_goto C 157 dX3_reckon_246 (by decide) ?_
                  rw [show jl1 M X10 i12 X12 = (upd X12.1 i12 (0), true) from by unfold jl1; rw [hj, hb9]; simp] at kk12
                  exact Y_sub (by simp [bI_t, bI_f]) (kk12)
        · skip
          refine Y_iload C dX3_reckon_48 rfl ?_
          refine Y_iload_n C dX3_reckon_50 rfl rfl ?_
          refine Y_icmp_ge C 154 dX3_reckon_51 (by decide) (fun c22 => absurd c22 (nI_ge hi10 (by omega))) (fun c22 => ?_)
          refine Y_aload_n C dX3_reckon_54 rfl rfl ?_
          refine Y_get C K3 (v := .ref 101) 0 dX3_reckon_55 gW_100 (by decide) g_577 rfl rfl ?_
          refine Y_iload C dX3_reckon_58 rfl ?_
          refine Y_aaldq C (j := 200 + 2 * i10) dX3_reckon_60 gW_101 (vp_in_nI hi10 (by omega)) (by rw [nI_clamp (by omega)]; exact rfS_at hi10) ?_
          refine Y_astore C (L' := [(6, .ref (200 + 2 * i10)), (5, .int (nI i10)), (4, .int 0), (3, .ref 411), (2, .ref 410), (1, .int (nI n)), (0, .ref 100)]) dX3_reckon_61 (by decide) rfl ?_
          refine Y_aload C dX3_reckon_63 rfl ?_
          refine Y_get C K4 (v := .int (M.1 2 i10)) 2 dX3_reckon_65 (gW_st h40 hi10) (by decide) g_452 rfl rfl ?_
          refine Y_if_eq C 148 dX3_reckon_68 (by decide) (fun c23 => ?_) (fun c23 => ?_)
          · refine Y_iinc C (L' := [(5, .int (nI (i10 + 1))), (6, .ref (200 + 2 * i10)), (4, .int 0), (3, .ref 411), (2, .ref 410), (1, .int (nI n)), (0, .ref 100)]) (v := nI (i10 + 1)) dX3_reckon_148 rfl (nI_inc _) (by decide) rfl ?_
            refine Y_goto C 48 dX3_reckon_151 (by decide) ?_
            rw [show jq1 M S1.1 i10 X10 = X10 from by unfold jq1; rw [if_pos c23]] at kk10
            exact Y_sub (by simp [bI_t, bI_f]) (kk10)
          · obtain ⟨o4, o5, f4, d45, -⟩ := hJ i10 hi10
            by_cases c4 : M.1 4 i10 = -1
            · have hq := hq_0 (V := V) (r := r) (T := tR T n S1.1 X10) h40 hi10 c4
              refine Y_aload C dX3_reckon_71 rfl ?_
              refine Y_get C K4 (v := .ref (201 + 2 * i10)) 4 dX3_reckon_73 (gW_st h40 hi10) (by decide) g_457 rfl rfl ?_
              refine Y_alen C (i := 0) (v := nI 0) dX3_reckon_76 hq rfl rfl ?_
              refine Y_if_ne C 83 dX3_reckon_77 (by decide) (fun c24 => absurd (by decide) c24) (fun c24 => ?_)
              refine Y_goto C 148 dX3_reckon_80 (by decide) ?_
              refine Y_iinc C (L' := [(5, .int (nI (i10 + 1))), (6, .ref (200 + 2 * i10)), (4, .int 0), (3, .ref 411), (2, .ref 410), (1, .int (nI n)), (0, .ref 100)]) (v := nI (i10 + 1)) dX3_reckon_148 rfl (nI_inc _) (by decide) rfl ?_
              refine Y_goto C 48 dX3_reckon_151 (by decide) ?_
              rw [show jq1 M S1.1 i10 X10 = X10 from by unfold jq1; rw [if_neg c23, if_pos c4]] at kk10
              exact Y_sub (by simp [bI_t, bI_f]) (kk10)
            · obtain ⟨j4, hj4, e4⟩ := okH_j o4 c4
              have hin4 : vp_in (M.1 4 i10) n := by rw [e4]; exact vp_in_nI (by omega) (by omega)
              by_cases c5 : M.1 5 i10 = -1
              · have hq := hq_1 (V := V) (r := r) (T := tR T n S1.1 X10) h40 hi10 c4 c5
                refine Y_aload C dX3_reckon_71 rfl ?_
                refine Y_get C K4 (v := .ref (201 + 2 * i10)) 4 dX3_reckon_73 (gW_st h40 hi10) (by decide) g_457 rfl rfl ?_
                refine Y_alen C (i := 0) (v := nI 1) dX3_reckon_76 hq rfl rfl ?_
                refine Y_if_ne C 83 dX3_reckon_77 (by decide) (fun c25 => ?_) (fun c25 => absurd c25 (by decide))
                refine Y_aload C dX3_reckon_83 rfl ?_
                refine Y_get C K4 (v := .ref (201 + 2 * i10)) 4 dX3_reckon_85 (gW_st h40 hi10) (by decide) g_457 rfl rfl ?_
                refine Y_alen C (i := 0) (v := nI 1) dX3_reckon_88 hq rfl rfl ?_
                refine Y_iconst C (v := 1) dX3_reckon_89 (by decide) ?_
                refine Y_icmp_ne C 97 dX3_reckon_90 (by decide) (fun c26 => absurd (by decide) c26) (fun c26 => ?_)
                refine Y_iconst C (v := 0) dX3_reckon_93 (by decide) ?_
                refine Y_goto C 103 dX3_reckon_94 (by decide) ?_
                refine Y_istore C (L' := [(7, .int 0), (6, .ref (200 + 2 * i10)), (5, .int (nI i10)), (4, .int 0), (3, .ref 411), (2, .ref 410), (1, .int (nI n)), (0, .ref 100)]) dX3_reckon_103 (by decide) rfl ?_
                refine Y_aload_n C dX3_reckon_105 rfl rfl ?_
                refine Y_aload C dX3_reckon_106 rfl ?_
                refine Y_get C K4 (v := .ref (201 + 2 * i10)) 4 dX3_reckon_108 (gW_st h40 hi10) (by decide) g_457 rfl rfl ?_
                refine Y_iconst C (v := 0) dX3_reckon_111 (by decide) ?_
                refine Y_iald C (v := M.1 4 i10) dX3_reckon_112 hq (vp_in_nI (n := 0) (N := 1) (by decide) (by decide)) rfl ?_
                refine Y_dup2_11 C dX3_reckon_113 rfl rfl ?_
                refine Y_iald C (v := X10 (ix (M.1 4 i10))) dX3_reckon_114 ((gW_hi (by decide)).trans tR_1) hin4 rfl ?_
                refine Y_aload_n C dX3_reckon_115 rfl rfl ?_
                refine Y_iload C dX3_reckon_116 rfl ?_
                refine Y_iald C (v := S1.1 i10) dX3_reckon_118 ((gW_hi (by decide)).trans tR_0) (vp_in_nI hi10 (by omega)) (by rw [nI_clamp (by omega)] <;> rfl) ?_
                refine Y_iload C dX3_reckon_119 rfl ?_
                refine Y_isub C (v := (S1.1 i10) - 0) dX3_reckon_121 rfl ?_
                refine Y_iadd C (v := (X10 (ix (M.1 4 i10))) + ((S1.1 i10) - 0)) dX3_reckon_122 rfl ?_
                refine Y_iast C (f' := upd X10 (ix (M.1 4 i10)) ((X10 (ix (M.1 4 i10))) + ((S1.1 i10) - 0))) dX3_reckon_123 ((gW_hi (by decide)).trans tR_1) hin4 rfl (w' := gW V n r M (tR T n S1.1 (upd X10 (ix (M.1 4 i10)) ((X10 (ix (M.1 4 i10))) + ((S1.1 i10) - 0))))) (tR_w1 _) ?_
                have hq2 := hq_1 (V := V) (r := r) (T := tR T n S1.1 (upd X10 (ix (M.1 4 i10)) ((X10 (ix (M.1 4 i10))) + ((S1.1 i10) - 0)))) h40 hi10 c4 c5
                refine Y_aload C dX3_reckon_124 rfl ?_
                refine Y_get C K4 (v := .ref (201 + 2 * i10)) 4 dX3_reckon_126 (gW_st h40 hi10) (by decide) g_457 rfl rfl ?_
                refine Y_alen C (i := 0) (v := nI 1) dX3_reckon_129 hq2 rfl rfl ?_
                refine Y_iconst C (v := 1) dX3_reckon_130 (by decide) ?_
                refine Y_icmp_le C 148 dX3_reckon_131 (by decide) (fun c27 => ?_) (fun c27 => absurd (by decide) c27)
                refine Y_iinc C (L' := [(5, .int (nI (i10 + 1))), (7, .int 0), (6, .ref (200 + 2 * i10)), (4, .int 0), (3, .ref 411), (2, .ref 410), (1, .int (nI n)), (0, .ref 100)]) (v := nI (i10 + 1)) dX3_reckon_148 rfl (nI_inc _) (by decide) rfl ?_
                refine Y_goto C 48 dX3_reckon_151 (by decide) ?_
                rw [show jq1 M S1.1 i10 X10 = upd X10 (ix (M.1 4 i10)) ((X10 (ix (M.1 4 i10))) + ((S1.1 i10) - 0)) from by unfold jq1; rw [if_neg c23, if_neg c4, if_pos c5]] at kk10
                exact Y_sub (by simp [bI_t, bI_f]) (kk10)
              · have hq := hq_2 (V := V) (r := r) (T := tR T n S1.1 X10) h40 hi10 c4 c5
                obtain ⟨j5, hj5, e5⟩ := okH_j o5 c5
                have hin5 : vp_in (M.1 5 i10) n := by rw [e5]; exact vp_in_nI (by omega) (by omega)
                refine Y_aload C dX3_reckon_71 rfl ?_
                refine Y_get C K4 (v := .ref (201 + 2 * i10)) 4 dX3_reckon_73 (gW_st h40 hi10) (by decide) g_457 rfl rfl ?_
                refine Y_alen C (i := 0) (v := nI 2) dX3_reckon_76 hq rfl rfl ?_
                refine Y_if_ne C 83 dX3_reckon_77 (by decide) (fun c28 => ?_) (fun c28 => absurd c28 (by decide))
                refine Y_aload C dX3_reckon_83 rfl ?_
                refine Y_get C K4 (v := .ref (201 + 2 * i10)) 4 dX3_reckon_85 (gW_st h40 hi10) (by decide) g_457 rfl rfl ?_
                refine Y_alen C (i := 0) (v := nI 2) dX3_reckon_88 hq rfl rfl ?_
                refine Y_iconst C (v := 1) dX3_reckon_89 (by decide) ?_
                refine Y_icmp_ne C 97 dX3_reckon_90 (by decide) (fun c29 => ?_) (fun c29 => absurd c29 (by decide))
                refine Y_aload_n C dX3_reckon_97 rfl rfl ?_
                refine Y_iload C dX3_reckon_98 rfl ?_
                refine Y_iald C (v := S1.1 i10) dX3_reckon_100 ((gW_hi (by decide)).trans tR_0) (vp_in_nI hi10 (by omega)) (by rw [nI_clamp (by omega)] <;> rfl) ?_
                refine Y_iconst C (v := 2) dX3_reckon_101 (by decide) ?_
                refine Y_idiv C (v := (S1.1 i10) / 2) dX3_reckon_102 (by decide) rfl ?_
                refine Y_istore C (L' := [(7, .int ((S1.1 i10) / 2)), (6, .ref (200 + 2 * i10)), (5, .int (nI i10)), (4, .int 0), (3, .ref 411), (2, .ref 410), (1, .int (nI n)), (0, .ref 100)]) dX3_reckon_103 (by decide) rfl ?_
                refine Y_aload_n C dX3_reckon_105 rfl rfl ?_
                refine Y_aload C dX3_reckon_106 rfl ?_
                refine Y_get C K4 (v := .ref (201 + 2 * i10)) 4 dX3_reckon_108 (gW_st h40 hi10) (by decide) g_457 rfl rfl ?_
                refine Y_iconst C (v := 0) dX3_reckon_111 (by decide) ?_
                refine Y_iald C (v := M.1 4 i10) dX3_reckon_112 hq (vp_in_nI (n := 0) (N := 2) (by decide) (by decide)) rfl ?_
                refine Y_dup2_11 C dX3_reckon_113 rfl rfl ?_
                refine Y_iald C (v := X10 (ix (M.1 4 i10))) dX3_reckon_114 ((gW_hi (by decide)).trans tR_1) hin4 rfl ?_
                refine Y_aload_n C dX3_reckon_115 rfl rfl ?_
                refine Y_iload C dX3_reckon_116 rfl ?_
                refine Y_iald C (v := S1.1 i10) dX3_reckon_118 ((gW_hi (by decide)).trans tR_0) (vp_in_nI hi10 (by omega)) (by rw [nI_clamp (by omega)] <;> rfl) ?_
                refine Y_iload C dX3_reckon_119 rfl ?_
                refine Y_isub C (v := (S1.1 i10) - ((S1.1 i10) / 2)) dX3_reckon_121 rfl ?_
                refine Y_iadd C (v := (X10 (ix (M.1 4 i10))) + ((S1.1 i10) - ((S1.1 i10) / 2))) dX3_reckon_122 rfl ?_
                refine Y_iast C (f' := upd X10 (ix (M.1 4 i10)) ((X10 (ix (M.1 4 i10))) + ((S1.1 i10) - ((S1.1 i10) / 2)))) dX3_reckon_123 ((gW_hi (by decide)).trans tR_1) hin4 rfl (w' := gW V n r M (tR T n S1.1 (upd X10 (ix (M.1 4 i10)) ((X10 (ix (M.1 4 i10))) + ((S1.1 i10) - ((S1.1 i10) / 2)))))) (tR_w1 _) ?_
                have hq2 := hq_2 (V := V) (r := r) (T := tR T n S1.1 (upd X10 (ix (M.1 4 i10)) ((X10 (ix (M.1 4 i10))) + ((S1.1 i10) - ((S1.1 i10) / 2))))) h40 hi10 c4 c5
                refine Y_aload C dX3_reckon_124 rfl ?_
                refine Y_get C K4 (v := .ref (201 + 2 * i10)) 4 dX3_reckon_126 (gW_st h40 hi10) (by decide) g_457 rfl rfl ?_
                refine Y_alen C (i := 0) (v := nI 2) dX3_reckon_129 hq2 rfl rfl ?_
                refine Y_iconst C (v := 1) dX3_reckon_130 (by decide) ?_
                refine Y_icmp_le C 148 dX3_reckon_131 (by decide) (fun c30 => absurd c30 (by decide)) (fun c30 => ?_)
                refine Y_aload_n C dX3_reckon_134 rfl rfl ?_
                refine Y_aload C dX3_reckon_135 rfl ?_
                refine Y_get C K4 (v := .ref (201 + 2 * i10)) 4 dX3_reckon_137 (gW_st h40 hi10) (by decide) g_457 rfl rfl ?_
                refine Y_iconst C (v := 1) dX3_reckon_140 (by decide) ?_
                refine Y_iald C (v := M.1 5 i10) dX3_reckon_141 hq2 (vp_in_nI (n := 1) (N := 2) (by decide) (by decide)) rfl ?_
                refine Y_dup2_11 C dX3_reckon_142 rfl rfl ?_
                refine Y_iald C (v := (upd X10 (ix (M.1 4 i10)) ((X10 (ix (M.1 4 i10))) + ((S1.1 i10) - ((S1.1 i10) / 2)))) (ix (M.1 5 i10))) dX3_reckon_143 ((gW_hi (by decide)).trans tR_1) hin5 rfl ?_
                refine Y_iload C dX3_reckon_144 rfl ?_
                refine Y_iadd C (v := ((upd X10 (ix (M.1 4 i10)) ((X10 (ix (M.1 4 i10))) + ((S1.1 i10) - ((S1.1 i10) / 2)))) (ix (M.1 5 i10))) + ((S1.1 i10) / 2)) dX3_reckon_146 rfl ?_
                refine Y_iast C (f' := upd (upd X10 (ix (M.1 4 i10)) ((X10 (ix (M.1 4 i10))) + ((S1.1 i10) - ((S1.1 i10) / 2)))) (ix (M.1 5 i10)) (((upd X10 (ix (M.1 4 i10)) ((X10 (ix (M.1 4 i10))) + ((S1.1 i10) - ((S1.1 i10) / 2)))) (ix (M.1 5 i10))) + ((S1.1 i10) / 2))) dX3_reckon_147 ((gW_hi (by decide)).trans tR_1) hin5 rfl (w' := gW V n r M (tR T n S1.1 (upd (upd X10 (ix (M.1 4 i10)) ((X10 (ix (M.1 4 i10))) + ((S1.1 i10) - ((S1.1 i10) / 2)))) (ix (M.1 5 i10)) (((upd X10 (ix (M.1 4 i10)) ((X10 (ix (M.1 4 i10))) + ((S1.1 i10) - ((S1.1 i10) / 2)))) (ix (M.1 5 i10))) + ((S1.1 i10) / 2))))) (tR_w1 _) ?_
                refine Y_iinc C (L' := [(5, .int (nI (i10 + 1))), (7, .int ((S1.1 i10) / 2)), (6, .ref (200 + 2 * i10)), (4, .int 0), (3, .ref 411), (2, .ref 410), (1, .int (nI n)), (0, .ref 100)]) (v := nI (i10 + 1)) dX3_reckon_148 rfl (nI_inc _) (by decide) rfl ?_
                refine Y_goto C 48 dX3_reckon_151 (by decide) ?_
                rw [show jq1 M S1.1 i10 X10 = upd (upd X10 (ix (M.1 4 i10)) ((X10 (ix (M.1 4 i10))) + ((S1.1 i10) - ((S1.1 i10) / 2)))) (ix (M.1 5 i10)) (((upd X10 (ix (M.1 4 i10)) ((X10 (ix (M.1 4 i10))) + ((S1.1 i10) - ((S1.1 i10) / 2)))) (ix (M.1 5 i10))) + ((S1.1 i10) / 2)) from by unfold jq1; rw [if_neg c23, if_neg c4, if_neg c5]] at kk10
                exact Y_sub (by simp [bI_t, bI_f]) (kk10)
      · skip
        refine Y_iload C dX3_reckon_28 rfl ?_
        refine Y_iload_n C dX3_reckon_30 rfl rfl ?_
        refine Y_icmp_ge C 45 dX3_reckon_31 (by decide) (fun c31 => absurd c31 (nI_ge hi8 (by omega))) (fun c31 => ?_)
        refine Y_aload_n C dX3_reckon_34 rfl rfl ?_
        refine Y_iload C dX3_reckon_35 rfl ?_
        refine Y_iconst C (v := 0) dX3_reckon_37 (by decide) ?_
        refine Y_iast C (f' := upd X8 i8 0) dX3_reckon_38 ((gW_hi (by decide)).trans tR_1) (vp_in_nI hi8 (by omega)) (by rw [nI_clamp (by omega)]) (w' := gW V n r M (tR T n S1.1 (upd X8 i8 0))) (tR_w1 _) ?_
        refine Y_iinc C (L' := [(5, .int (nI (i8 + 1))), (4, .int 0), (3, .ref 411), (2, .ref 410), (1, .int (nI n)), (0, .ref 100)]) (v := nI (i8 + 1)) dX3_reckon_39 rfl (nI_inc _) (by decide) rfl ?_
        refine Y_goto C 28 dX3_reckon_42 (by decide) ?_
        exact Y_sub (by simp [bI_t, bI_f]) (kk8)
