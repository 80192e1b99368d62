/-! the last look, walked -/
theorem ord_self {d : Jvm.FP.Core.Datum} (h : d ≠ .nan) : Jvm.FP.Core.order d d = some .eq := by
  cases d with
  | nan => exact absurd rfl h
  | inf s => 
    show some (compare (Jvm.FP.Core.signed s 1) (Jvm.FP.Core.signed s 1)) = _
    rw [Int.compare_eq_eq.mpr rfl]
  | fin s c q =>
    show some (compare (Jvm.FP.Core.signed s (Jvm.FP.Core.inUnits c q (min q q))) (Jvm.FP.Core.signed s (Jvm.FP.Core.inUnits c q (min q q)))) = _
    rw [Int.compare_eq_eq.mpr rfl]
theorem dcmp_self {x : UInt64} (h : vf_n64 x) : Op.cmpValue (FP.dcmp x x) .l = 0 := by
  have e : FP.dcmp x x = some .eq := by
    refine ord_self (fp_ne ?_)
    unfold vf_n64 at h
    rw [UInt64.le_iff_toNat_le, UInt64.toNat_and] at h
    have e1 : (0x7fffffffffffffff : UInt64).toNat = 2 ^ 63 - 1 := by decide
    have e2 : (0x7ff0000000000000 : UInt64).toNat = 9218868437227405312 := by decide
    rw [e1, e2, Nat.and_two_pow_sub_one_eq_mod] at h
    exact h
  rw [e]
  rfl
theorem nn_d0 : vf_n64 FP.dconst0 := by
  unfold vf_n64
  decide +kernel
theorem okT_Rf {n : Nat} {f g : Nat → Int32} : okT (tRf (fun _ => none) n f g) := fun i e h => by
  by_cases h1 : i = 412
  · subst h1
    have h2 : some (rfE 3 2 r2) = some e := h
    cases h2
    intro j a z
    unfold r2 va_up at z
    refine ⟨rfl, ?_⟩
    dsimp only at z
    split at z
    · cases z; exact Or.inr rfl
    · split at z
      · cases z; exact Or.inl rfl
      · cases z
  · by_cases h2 : i = 411
    · subst h2
      have h3 : some (Sum.inl (0, n, Sum.inl g) : va_E) = some e := h
      cases h3
      trivial
    · by_cases h3 : i = 410
      · subst h3
        have h4 : some (Sum.inl (0, n, Sum.inl f) : va_E) = some e := h
        cases h4
        trivial
      · rw [tRf_o (by omega)] at h
        cases h
theorem hg_n {n r : Nat} {B : Sr} {K : St} {M : Md} (h : LI n r B K M) {i : Nat} (hi : i < n) (hh : M.1 2 i = 0) : mHg M i = false := by
  cases z : mHg M i with
  | false => rfl
  | true => exact absurd hh ((JI_hg h.2.2.1 hi).mp z)
set_option maxHeartbeats 400000 in
set_option maxRecDepth 20000 in
theorem told_row {p : Program} {l : Launch} {e : Env} {s : State} {m : MethodId} {args : Array Value} {below : List Frame} {meth : Method} {c : Code} {G : gG} {hv : Nat → Nat} {A : Nat → Prop} {Q : State → Prop} {V : List va_E} {n r k k0 n0 : Nat} {M : Md} {T1 : WF} {K : St} {B : Sr} {f g : Nat → Int32} {a2 a3 a4 a5 : Int32} (C : Cx p s m args c cX3_isSame 14 RX3 G A) (I : LI n r B K M) (hC : okC V) (hk : k < n) (hf : f k = (mRk M).2.2.1 1 k) (hg : g k = (mRk M).2.2.1 2 k) (hT : okT T1) (h11 : T1 411 = some (.inl (0, n, .inl g))) (h12 : T1 412 = some (rfE 3 2 r2)) (hk0 : k0 + 1 ≤ 600) (hn0 : n0 + 10 ≤ 4000) (kk : ∀ h' : Nat → Nat, (∀ i, i ≠ 415 → h' i = hv i) → Y p l e (gRm 7 600 4000) s m args below meth c 14 G A h' Q (k0 + 1) (n0 + 10) (gW V n r M (tU T1 415 (some (.inl (0, 10, .inl (tl M k)))))) 259 [(0, .ref 100), (1, .ref 0), (2, .int a2), (3, .int a3), (4, .int a4), (5, .int a5), (6, .ref 412), (7, .int (nI k)), (8, .ref (200 + 2 * k)), (9, .int (fr (hc1 M k) n 0)), (10, .int (f k))] [.ref 415]) : Y p l e (gRm 7 600 4000) s m args below meth c 14 G A hv Q k0 n0 (gW V n r M (T1)) 112 [(0, .ref 100), (1, .ref 0), (2, .int a2), (3, .int a3), (4, .int a4), (5, .int a5), (6, .ref 412), (7, .int (nI k)), (8, .ref (200 + 2 * k)), (9, .int (fr (hc1 M k) n 0)), (10, .int (f k))] [] := by
  have h40 := I.h40
  have h30 := I.h30
  obtain ⟨o4, o5, f4, d45, f2, f3, b2, -⟩ := I.2.2.1 k hk
  refine Y_bipush C (v := nI 10) dX3_isSame_112 (by decide) ?_
  refine Y_newi C (N := 10) 415 dX3_isSame_114 g_85 (by decide) (by decide) (by decide) ⟨hk0, hn0⟩ (gW_N h40 h30 hC hT (by decide)) ⟨(by first | trivial | (unfold vR; (try dsimp only); omega)), (by first | trivial | (unfold vR; (try dsimp only); omega)), trivial, trivial, trivial, trivial, (by first | trivial | (unfold vR; (try dsimp only); omega)), trivial, (by first | trivial | (unfold vR; (try dsimp only); omega)), trivial, trivial, trivial⟩ trivial (fun h1 ag1 => ?_)
  refine Y_eq (gW_tU (by decide)) ?_
  by_cases hh : M.1 2 k = 0
  · have c4 := (f2 hh).1
    refine Y_dup C dX3_isSame_116 rfl ?_
    refine Y_iconst C (v := 0) dX3_isSame_117 (by decide) ?_
    refine Y_aload C dX3_isSame_118 rfl ?_
    refine Y_get C K4 (v := .int (M.1 0 k)) 0 dX3_isSame_120 (gW_st h40 hk) (by decide) g_449 rfl rfl ?_
    refine Y_iast C (f' := upd (fun _ => 0) 0 (M.1 0 k)) dX3_isSame_123 ((gW_hi (by decide)).trans (tU_s _ _ _)) (vp_in_nI (n := 0) (N := 10) (by decide) (by decide)) rfl (w' := gW V n r M (tU T1 415 (some (.inl (0, 10, .inl (upd (fun _ => 0) 0 (M.1 0 k))))))) ((gW_tU (by decide)).trans (congrArg _ (tU_tU _ _ _ _))) ?_
    refine Y_dup C dX3_isSame_124 rfl ?_
    refine Y_iconst C (v := 1) dX3_isSame_125 (by decide) ?_
    refine Y_aload C dX3_isSame_126 rfl ?_
    refine Y_get C K4 (v := .int (M.1 1 k)) 1 dX3_isSame_128 (gW_st h40 hk) (by decide) g_450 rfl rfl ?_
    refine Y_iast C (f' := upd (upd (fun _ => 0) 0 (M.1 0 k)) 1 (M.1 1 k)) dX3_isSame_131 ((gW_hi (by decide)).trans (tU_s _ _ _)) (vp_in_nI (n := 1) (N := 10) (by decide) (by decide)) rfl (w' := gW V n r M (tU T1 415 (some (.inl (0, 10, .inl (upd (upd (fun _ => 0) 0 (M.1 0 k)) 1 (M.1 1 k))))))) ((gW_tU (by decide)).trans (congrArg _ (tU_tU _ _ _ _))) ?_
    refine Y_dup C dX3_isSame_132 rfl ?_
    refine Y_iconst C (v := 2) dX3_isSame_133 (by decide) ?_
    refine Y_aload C dX3_isSame_134 rfl ?_
    refine Y_get C K4 (v := .int (M.1 2 k)) 2 dX3_isSame_136 (gW_st h40 hk) (by decide) g_452 rfl rfl ?_
    refine Y_if_eq C 146 dX3_isSame_139 (by decide) (fun cc1 => ?_) (fun cc1 => absurd hh cc1)
    refine Y_iconst C (v := 0) dX3_isSame_146 (by decide) ?_
    refine Y_iast C (f' := upd (upd (upd (fun _ => 0) 0 (M.1 0 k)) 1 (M.1 1 k)) 2 (0)) dX3_isSame_147 ((gW_hi (by decide)).trans (tU_s _ _ _)) (vp_in_nI (n := 2) (N := 10) (by decide) (by decide)) rfl (w' := gW V n r M (tU T1 415 (some (.inl (0, 10, .inl (upd (upd (upd (fun _ => 0) 0 (M.1 0 k)) 1 (M.1 1 k)) 2 (0))))))) ((gW_tU (by decide)).trans (congrArg _ (tU_tU _ _ _ _))) ?_
    refine Y_dup C dX3_isSame_148 rfl ?_
    refine Y_iconst C (v := 3) dX3_isSame_149 (by decide) ?_
    refine Y_aload C dX3_isSame_150 rfl ?_
    refine Y_get C K4 (v := .int (M.1 2 k)) 2 dX3_isSame_152 (gW_st h40 hk) (by decide) g_452 rfl rfl ?_
    refine Y_if_eq C 166 dX3_isSame_155 (by decide) (fun cc2 => ?_) (fun cc2 => absurd hh cc2)
    refine Y_iconst C (v := 0) dX3_isSame_166 (by decide) ?_
    refine Y_iast C (f' := upd (upd (upd (upd (fun _ => 0) 0 (M.1 0 k)) 1 (M.1 1 k)) 2 (0)) 3 (0)) dX3_isSame_167 ((gW_hi (by decide)).trans (tU_s _ _ _)) (vp_in_nI (n := 3) (N := 10) (by decide) (by decide)) rfl (w' := gW V n r M (tU T1 415 (some (.inl (0, 10, .inl (upd (upd (upd (upd (fun _ => 0) 0 (M.1 0 k)) 1 (M.1 1 k)) 2 (0)) 3 (0))))))) ((gW_tU (by decide)).trans (congrArg _ (tU_tU _ _ _ _))) ?_
    refine Y_dup C dX3_isSame_168 rfl ?_
    refine Y_iconst C (v := 4) dX3_isSame_169 (by decide) ?_
    refine Y_aload C dX3_isSame_170 rfl ?_
    refine Y_get C K4 (v := .ref (201 + 2 * k)) 4 dX3_isSame_172 (gW_st h40 hk) (by decide) g_457 rfl rfl ?_
    refine Y_alen C (i := 0) (v := nI 0) dX3_isSame_175 (hq_0 h40 hk c4) rfl rfl ?_
    refine Y_if_le C 189 dX3_isSame_176 (by decide) (fun cc3 => ?_) (fun cc3 => absurd (by decide) cc3)
    refine Y_iconst C (v := (-1)) dX3_isSame_189 (by decide) ?_
    refine Y_iast C (f' := upd (upd (upd (upd (upd (fun _ => 0) 0 (M.1 0 k)) 1 (M.1 1 k)) 2 (0)) 3 (0)) 4 ((-1))) dX3_isSame_190 ((gW_hi (by decide)).trans (tU_s _ _ _)) (vp_in_nI (n := 4) (N := 10) (by decide) (by decide)) rfl (w' := gW V n r M (tU T1 415 (some (.inl (0, 10, .inl (upd (upd (upd (upd (upd (fun _ => 0) 0 (M.1 0 k)) 1 (M.1 1 k)) 2 (0)) 3 (0)) 4 ((-1)))))))) ((gW_tU (by decide)).trans (congrArg _ (tU_tU _ _ _ _))) ?_
    refine Y_dup C dX3_isSame_191 rfl ?_
    refine Y_iconst C (v := 5) dX3_isSame_192 (by decide) ?_
    refine Y_aload C dX3_isSame_193 rfl ?_
    refine Y_get C K4 (v := .ref (201 + 2 * k)) 4 dX3_isSame_195 (gW_st h40 hk) (by decide) g_457 rfl rfl ?_
    refine Y_alen C (i := 0) (v := nI 0) dX3_isSame_198 (hq_0 h40 hk c4) rfl rfl ?_
    refine Y_iconst C (v := 1) dX3_isSame_199 (by decide) ?_
    refine Y_icmp_le C 213 dX3_isSame_200 (by decide) (fun cc4 => ?_) (fun cc4 => absurd (by decide) cc4)
    refine Y_iconst C (v := (-1)) dX3_isSame_213 (by decide) ?_
    refine Y_iast C (f' := upd (upd (upd (upd (upd (upd (fun _ => 0) 0 (M.1 0 k)) 1 (M.1 1 k)) 2 (0)) 3 (0)) 4 ((-1))) 5 ((-1))) dX3_isSame_214 ((gW_hi (by decide)).trans (tU_s _ _ _)) (vp_in_nI (n := 5) (N := 10) (by decide) (by decide)) rfl (w' := gW V n r M (tU T1 415 (some (.inl (0, 10, .inl (upd (upd (upd (upd (upd (upd (fun _ => 0) 0 (M.1 0 k)) 1 (M.1 1 k)) 2 (0)) 3 (0)) 4 ((-1))) 5 ((-1)))))))) ((gW_tU (by decide)).trans (congrArg _ (tU_tU _ _ _ _))) ?_
    refine Y_dup C dX3_isSame_215 rfl ?_
    refine Y_bipush C (v := 6) dX3_isSame_216 (by decide) ?_
    refine Y_aload C dX3_isSame_218 rfl ?_
    refine Y_get C K4 (v := .int (M.1 6 k)) 5 dX3_isSame_220 (gW_st h40 hk) (by decide) g_458 rfl rfl ?_
    refine Y_iast C (f' := upd (upd (upd (upd (upd (upd (upd (fun _ => 0) 0 (M.1 0 k)) 1 (M.1 1 k)) 2 (0)) 3 (0)) 4 ((-1))) 5 ((-1))) 6 (M.1 6 k)) dX3_isSame_223 ((gW_hi (by decide)).trans (tU_s _ _ _)) (vp_in_nI (n := 6) (N := 10) (by decide) (by decide)) rfl (w' := gW V n r M (tU T1 415 (some (.inl (0, 10, .inl (upd (upd (upd (upd (upd (upd (upd (fun _ => 0) 0 (M.1 0 k)) 1 (M.1 1 k)) 2 (0)) 3 (0)) 4 ((-1))) 5 ((-1))) 6 (M.1 6 k))))))) ((gW_tU (by decide)).trans (congrArg _ (tU_tU _ _ _ _))) ?_
    refine Y_dup C dX3_isSame_224 rfl ?_
    refine Y_bipush C (v := 7) dX3_isSame_225 (by decide) ?_
    refine Y_iload C dX3_isSame_227 rfl ?_
    refine Y_iast C (f' := upd (upd (upd (upd (upd (upd (upd (upd (fun _ => 0) 0 (M.1 0 k)) 1 (M.1 1 k)) 2 (0)) 3 (0)) 4 ((-1))) 5 ((-1))) 6 (M.1 6 k)) 7 (f k)) dX3_isSame_229 ((gW_hi (by decide)).trans (tU_s _ _ _)) (vp_in_nI (n := 7) (N := 10) (by decide) (by decide)) rfl (w' := gW V n r M (tU T1 415 (some (.inl (0, 10, .inl (upd (upd (upd (upd (upd (upd (upd (upd (fun _ => 0) 0 (M.1 0 k)) 1 (M.1 1 k)) 2 (0)) 3 (0)) 4 ((-1))) 5 ((-1))) 6 (M.1 6 k)) 7 (f k))))))) ((gW_tU (by decide)).trans (congrArg _ (tU_tU _ _ _ _))) ?_
    refine Y_dup C dX3_isSame_230 rfl ?_
    refine Y_bipush C (v := 8) dX3_isSame_231 (by decide) ?_
    refine Y_aload C dX3_isSame_233 rfl ?_
    refine Y_iconst C (v := 1) dX3_isSame_235 (by decide) ?_
    refine Y_aald C (j := 411) dX3_isSame_236 ((gW_hi (by decide)).trans ((tU_n _ _ (by decide)).trans h12)) (vp_in_nI (n := 1) (N := 2) (by decide) (by decide)) rfl ?_
    refine Y_iload C dX3_isSame_237 rfl ?_
    refine Y_iald C (v := g k) dX3_isSame_239 ((gW_hi (by decide)).trans ((tU_n _ _ (by decide)).trans h11)) (vp_in_nI hk (by omega)) (by rw [nI_clamp (by omega)] <;> rfl) ?_
    refine Y_iast C (f' := upd (upd (upd (upd (upd (upd (upd (upd (upd (fun _ => 0) 0 (M.1 0 k)) 1 (M.1 1 k)) 2 (0)) 3 (0)) 4 ((-1))) 5 ((-1))) 6 (M.1 6 k)) 7 (f k)) 8 (g k)) dX3_isSame_240 ((gW_hi (by decide)).trans (tU_s _ _ _)) (vp_in_nI (n := 8) (N := 10) (by decide) (by decide)) rfl (w' := gW V n r M (tU T1 415 (some (.inl (0, 10, .inl (upd (upd (upd (upd (upd (upd (upd (upd (upd (fun _ => 0) 0 (M.1 0 k)) 1 (M.1 1 k)) 2 (0)) 3 (0)) 4 ((-1))) 5 ((-1))) 6 (M.1 6 k)) 7 (f k)) 8 (g k))))))) ((gW_tU (by decide)).trans (congrArg _ (tU_tU _ _ _ _))) ?_
    refine Y_dup C dX3_isSame_241 rfl ?_
    refine Y_bipush C (v := 9) dX3_isSame_242 (by decide) ?_
    refine Y_aload C dX3_isSame_244 rfl ?_
    refine Y_get C K4 (v := .int (M.1 2 k)) 2 dX3_isSame_246 (gW_st h40 hk) (by decide) g_452 rfl rfl ?_
    refine Y_if_eq C 257 dX3_isSame_249 (by decide) (fun cc5 => ?_) (fun cc5 => absurd hh cc5)
    refine Y_iconst C (v := 0) dX3_isSame_257 (by decide) ?_
    refine Y_iast C (f' := upd (upd (upd (upd (upd (upd (upd (upd (upd (upd (fun _ => 0) 0 (M.1 0 k)) 1 (M.1 1 k)) 2 (0)) 3 (0)) 4 ((-1))) 5 ((-1))) 6 (M.1 6 k)) 7 (f k)) 8 (g k)) 9 (0)) dX3_isSame_258 ((gW_hi (by decide)).trans (tU_s _ _ _)) (vp_in_nI (n := 9) (N := 10) (by decide) (by decide)) rfl (w' := gW V n r M (tU T1 415 (some (.inl (0, 10, .inl (upd (upd (upd (upd (upd (upd (upd (upd (upd (upd (fun _ => 0) 0 (M.1 0 k)) 1 (M.1 1 k)) 2 (0)) 3 (0)) 4 ((-1))) 5 ((-1))) 6 (M.1 6 k)) 7 (f k)) 8 (g k)) 9 (0))))))) ((gW_tU (by decide)).trans (congrArg _ (tU_tU _ _ _ _))) ?_
    refine Y_fn (tl M k) ((gW_hi (by decide)).trans (tU_s _ _ _)) (fun j hj => by rcases (show j = 0 ∨ j = 1 ∨ j = 2 ∨ j = 3 ∨ j = 4 ∨ j = 5 ∨ j = 6 ∨ j = 7 ∨ j = 8 ∨ j = 9 by omega) with rfl | rfl | rfl | rfl | rfl | rfl | rfl | rfl | rfl | rfl; exact (tl_row (by decide)).symm; exact (tl_row (by decide)).symm; exact (hh.symm).trans (tl_row (by decide)).symm; exact ((f2 hh).2.symm).trans (tl_row (by decide)).symm; exact (c4.symm).trans (tl_row (by decide)).symm; exact ((f4 c4).symm).trans (tl_row (by decide)).symm; exact (tl_row (by decide)).symm; exact hf; exact hg; exact (tl_9.trans (if_neg (fun z => (JI_hg I.2.2.1 hk).mp z hh))).symm) ?_
    refine Y_eq (w' := gW V n r M (tU T1 415 (some (.inl (0, 10, .inl (tl M k)))))) ((gW_tU (by decide)).trans (congrArg _ (tU_tU _ _ _ _))) ?_
    exact kk h1 ag1
  · by_cases c4 : M.1 4 k = -1
    · refine Y_dup C dX3_isSame_116 rfl ?_
      refine Y_iconst C (v := 0) dX3_isSame_117 (by decide) ?_
      refine Y_aload C dX3_isSame_118 rfl ?_
      refine Y_get C K4 (v := .int (M.1 0 k)) 0 dX3_isSame_120 (gW_st h40 hk) (by decide) g_449 rfl rfl ?_
      refine Y_iast C (f' := upd (fun _ => 0) 0 (M.1 0 k)) dX3_isSame_123 ((gW_hi (by decide)).trans (tU_s _ _ _)) (vp_in_nI (n := 0) (N := 10) (by decide) (by decide)) rfl (w' := gW V n r M (tU T1 415 (some (.inl (0, 10, .inl (upd (fun _ => 0) 0 (M.1 0 k))))))) ((gW_tU (by decide)).trans (congrArg _ (tU_tU _ _ _ _))) ?_
      refine Y_dup C dX3_isSame_124 rfl ?_
      refine Y_iconst C (v := 1) dX3_isSame_125 (by decide) ?_
      refine Y_aload C dX3_isSame_126 rfl ?_
      refine Y_get C K4 (v := .int (M.1 1 k)) 1 dX3_isSame_128 (gW_st h40 hk) (by decide) g_450 rfl rfl ?_
      refine Y_iast C (f' := upd (upd (fun _ => 0) 0 (M.1 0 k)) 1 (M.1 1 k)) dX3_isSame_131 ((gW_hi (by decide)).trans (tU_s _ _ _)) (vp_in_nI (n := 1) (N := 10) (by decide) (by decide)) rfl (w' := gW V n r M (tU T1 415 (some (.inl (0, 10, .inl (upd (upd (fun _ => 0) 0 (M.1 0 k)) 1 (M.1 1 k))))))) ((gW_tU (by decide)).trans (congrArg _ (tU_tU _ _ _ _))) ?_
      refine Y_dup C dX3_isSame_132 rfl ?_
      refine Y_iconst C (v := 2) dX3_isSame_133 (by decide) ?_
      refine Y_aload C dX3_isSame_134 rfl ?_
      refine Y_get C K4 (v := .int (M.1 2 k)) 2 dX3_isSame_136 (gW_st h40 hk) (by decide) g_452 rfl rfl ?_
      refine Y_if_eq C 146 dX3_isSame_139 (by decide) (fun cc6 => absurd cc6 hh) (fun cc6 => ?_)
      refine Y_iconst C (v := 1) dX3_isSame_142 (by decide) ?_
      refine Y_goto C 147 dX3_isSame_143 (by decide) ?_
      refine Y_iast C (f' := upd (upd (upd (fun _ => 0) 0 (M.1 0 k)) 1 (M.1 1 k)) 2 (1)) dX3_isSame_147 ((gW_hi (by decide)).trans (tU_s _ _ _)) (vp_in_nI (n := 2) (N := 10) (by decide) (by decide)) rfl (w' := gW V n r M (tU T1 415 (some (.inl (0, 10, .inl (upd (upd (upd (fun _ => 0) 0 (M.1 0 k)) 1 (M.1 1 k)) 2 (1))))))) ((gW_tU (by decide)).trans (congrArg _ (tU_tU _ _ _ _))) ?_
      refine Y_dup C dX3_isSame_148 rfl ?_
      refine Y_iconst C (v := 3) dX3_isSame_149 (by decide) ?_
      refine Y_aload C dX3_isSame_150 rfl ?_
      refine Y_get C K4 (v := .int (M.1 2 k)) 2 dX3_isSame_152 (gW_st h40 hk) (by decide) g_452 rfl rfl ?_
      refine Y_if_eq C 166 dX3_isSame_155 (by decide) (fun cc7 => absurd cc7 hh) (fun cc7 => ?_)
      refine Y_aload C dX3_isSame_158 rfl ?_
      refine Y_get C K4 (v := .int (M.1 3 k)) 3 dX3_isSame_160 (gW_st h40 hk) (by decide) g_454 rfl rfl ?_
      refine Y_goto C 167 dX3_isSame_163 (by decide) ?_
      refine Y_iast C (f' := upd (upd (upd (upd (fun _ => 0) 0 (M.1 0 k)) 1 (M.1 1 k)) 2 (1)) 3 (M.1 3 k)) dX3_isSame_167 ((gW_hi (by decide)).trans (tU_s _ _ _)) (vp_in_nI (n := 3) (N := 10) (by decide) (by decide)) rfl (w' := gW V n r M (tU T1 415 (some (.inl (0, 10, .inl (upd (upd (upd (upd (fun _ => 0) 0 (M.1 0 k)) 1 (M.1 1 k)) 2 (1)) 3 (M.1 3 k))))))) ((gW_tU (by decide)).trans (congrArg _ (tU_tU _ _ _ _))) ?_
      refine Y_dup C dX3_isSame_168 rfl ?_
      refine Y_iconst C (v := 4) dX3_isSame_169 (by decide) ?_
      refine Y_aload C dX3_isSame_170 rfl ?_
      refine Y_get C K4 (v := .ref (201 + 2 * k)) 4 dX3_isSame_172 (gW_st h40 hk) (by decide) g_457 rfl rfl ?_
      refine Y_alen C (i := 0) (v := nI 0) dX3_isSame_175 (hq_0 h40 hk c4) rfl rfl ?_
      refine Y_if_le C 189 dX3_isSame_176 (by decide) (fun cc8 => ?_) (fun cc8 => absurd (by decide) cc8)
      refine Y_iconst C (v := (-1)) dX3_isSame_189 (by decide) ?_
      refine Y_iast C (f' := upd (upd (upd (upd (upd (fun _ => 0) 0 (M.1 0 k)) 1 (M.1 1 k)) 2 (1)) 3 (M.1 3 k)) 4 ((-1))) dX3_isSame_190 ((gW_hi (by decide)).trans (tU_s _ _ _)) (vp_in_nI (n := 4) (N := 10) (by decide) (by decide)) rfl (w' := gW V n r M (tU T1 415 (some (.inl (0, 10, .inl (upd (upd (upd (upd (upd (fun _ => 0) 0 (M.1 0 k)) 1 (M.1 1 k)) 2 (1)) 3 (M.1 3 k)) 4 ((-1)))))))) ((gW_tU (by decide)).trans (congrArg _ (tU_tU _ _ _ _))) ?_
      refine Y_dup C dX3_isSame_191 rfl ?_
      refine Y_iconst C (v := 5) dX3_isSame_192 (by decide) ?_
      refine Y_aload C dX3_isSame_193 rfl ?_
      refine Y_get C K4 (v := .ref (201 + 2 * k)) 4 dX3_isSame_195 (gW_st h40 hk) (by decide) g_457 rfl rfl ?_
      refine Y_alen C (i := 0) (v := nI 0) dX3_isSame_198 (hq_0 h40 hk c4) rfl rfl ?_
      refine Y_iconst C (v := 1) dX3_isSame_199 (by decide) ?_
      refine Y_icmp_le C 213 dX3_isSame_200 (by decide) (fun cc9 => ?_) (fun cc9 => absurd (by decide) cc9)
      refine Y_iconst C (v := (-1)) dX3_isSame_213 (by decide) ?_
      refine Y_iast C (f' := upd (upd (upd (upd (upd (upd (fun _ => 0) 0 (M.1 0 k)) 1 (M.1 1 k)) 2 (1)) 3 (M.1 3 k)) 4 ((-1))) 5 ((-1))) dX3_isSame_214 ((gW_hi (by decide)).trans (tU_s _ _ _)) (vp_in_nI (n := 5) (N := 10) (by decide) (by decide)) rfl (w' := gW V n r M (tU T1 415 (some (.inl (0, 10, .inl (upd (upd (upd (upd (upd (upd (fun _ => 0) 0 (M.1 0 k)) 1 (M.1 1 k)) 2 (1)) 3 (M.1 3 k)) 4 ((-1))) 5 ((-1)))))))) ((gW_tU (by decide)).trans (congrArg _ (tU_tU _ _ _ _))) ?_
      refine Y_dup C dX3_isSame_215 rfl ?_
      refine Y_bipush C (v := 6) dX3_isSame_216 (by decide) ?_
      refine Y_aload C dX3_isSame_218 rfl ?_
      refine Y_get C K4 (v := .int (M.1 6 k)) 5 dX3_isSame_220 (gW_st h40 hk) (by decide) g_458 rfl rfl ?_
      refine Y_iast C (f' := upd (upd (upd (upd (upd (upd (upd (fun _ => 0) 0 (M.1 0 k)) 1 (M.1 1 k)) 2 (1)) 3 (M.1 3 k)) 4 ((-1))) 5 ((-1))) 6 (M.1 6 k)) dX3_isSame_223 ((gW_hi (by decide)).trans (tU_s _ _ _)) (vp_in_nI (n := 6) (N := 10) (by decide) (by decide)) rfl (w' := gW V n r M (tU T1 415 (some (.inl (0, 10, .inl (upd (upd (upd (upd (upd (upd (upd (fun _ => 0) 0 (M.1 0 k)) 1 (M.1 1 k)) 2 (1)) 3 (M.1 3 k)) 4 ((-1))) 5 ((-1))) 6 (M.1 6 k))))))) ((gW_tU (by decide)).trans (congrArg _ (tU_tU _ _ _ _))) ?_
      refine Y_dup C dX3_isSame_224 rfl ?_
      refine Y_bipush C (v := 7) dX3_isSame_225 (by decide) ?_
      refine Y_iload C dX3_isSame_227 rfl ?_
      refine Y_iast C (f' := upd (upd (upd (upd (upd (upd (upd (upd (fun _ => 0) 0 (M.1 0 k)) 1 (M.1 1 k)) 2 (1)) 3 (M.1 3 k)) 4 ((-1))) 5 ((-1))) 6 (M.1 6 k)) 7 (f k)) dX3_isSame_229 ((gW_hi (by decide)).trans (tU_s _ _ _)) (vp_in_nI (n := 7) (N := 10) (by decide) (by decide)) rfl (w' := gW V n r M (tU T1 415 (some (.inl (0, 10, .inl (upd (upd (upd (upd (upd (upd (upd (upd (fun _ => 0) 0 (M.1 0 k)) 1 (M.1 1 k)) 2 (1)) 3 (M.1 3 k)) 4 ((-1))) 5 ((-1))) 6 (M.1 6 k)) 7 (f k))))))) ((gW_tU (by decide)).trans (congrArg _ (tU_tU _ _ _ _))) ?_
      refine Y_dup C dX3_isSame_230 rfl ?_
      refine Y_bipush C (v := 8) dX3_isSame_231 (by decide) ?_
      refine Y_aload C dX3_isSame_233 rfl ?_
      refine Y_iconst C (v := 1) dX3_isSame_235 (by decide) ?_
      refine Y_aald C (j := 411) dX3_isSame_236 ((gW_hi (by decide)).trans ((tU_n _ _ (by decide)).trans h12)) (vp_in_nI (n := 1) (N := 2) (by decide) (by decide)) rfl ?_
      refine Y_iload C dX3_isSame_237 rfl ?_
      refine Y_iald C (v := g k) dX3_isSame_239 ((gW_hi (by decide)).trans ((tU_n _ _ (by decide)).trans h11)) (vp_in_nI hk (by omega)) (by rw [nI_clamp (by omega)] <;> rfl) ?_
      refine Y_iast C (f' := upd (upd (upd (upd (upd (upd (upd (upd (upd (fun _ => 0) 0 (M.1 0 k)) 1 (M.1 1 k)) 2 (1)) 3 (M.1 3 k)) 4 ((-1))) 5 ((-1))) 6 (M.1 6 k)) 7 (f k)) 8 (g k)) dX3_isSame_240 ((gW_hi (by decide)).trans (tU_s _ _ _)) (vp_in_nI (n := 8) (N := 10) (by decide) (by decide)) rfl (w' := gW V n r M (tU T1 415 (some (.inl (0, 10, .inl (upd (upd (upd (upd (upd (upd (upd (upd (upd (fun _ => 0) 0 (M.1 0 k)) 1 (M.1 1 k)) 2 (1)) 3 (M.1 3 k)) 4 ((-1))) 5 ((-1))) 6 (M.1 6 k)) 7 (f k)) 8 (g k))))))) ((gW_tU (by decide)).trans (congrArg _ (tU_tU _ _ _ _))) ?_
      refine Y_dup C dX3_isSame_241 rfl ?_
      refine Y_bipush C (v := 9) dX3_isSame_242 (by decide) ?_
      refine Y_aload C dX3_isSame_244 rfl ?_
      refine Y_get C K4 (v := .int (M.1 2 k)) 2 dX3_isSame_246 (gW_st h40 hk) (by decide) g_452 rfl rfl ?_
      refine Y_if_eq C 257 dX3_isSame_249 (by decide) (fun cc10 => absurd cc10 hh) (fun cc10 => ?_)
      refine Y_iload C dX3_isSame_252 rfl ?_
      refine Y_goto C 258 dX3_isSame_254 (by decide) ?_
      refine Y_iast C (f' := upd (upd (upd (upd (upd (upd (upd (upd (upd (upd (fun _ => 0) 0 (M.1 0 k)) 1 (M.1 1 k)) 2 (1)) 3 (M.1 3 k)) 4 ((-1))) 5 ((-1))) 6 (M.1 6 k)) 7 (f k)) 8 (g k)) 9 (fr (hc1 M k) n 0)) dX3_isSame_258 ((gW_hi (by decide)).trans (tU_s _ _ _)) (vp_in_nI (n := 9) (N := 10) (by decide) (by decide)) rfl (w' := gW V n r M (tU T1 415 (some (.inl (0, 10, .inl (upd (upd (upd (upd (upd (upd (upd (upd (upd (upd (fun _ => 0) 0 (M.1 0 k)) 1 (M.1 1 k)) 2 (1)) 3 (M.1 3 k)) 4 ((-1))) 5 ((-1))) 6 (M.1 6 k)) 7 (f k)) 8 (g k)) 9 (fr (hc1 M k) n 0))))))) ((gW_tU (by decide)).trans (congrArg _ (tU_tU _ _ _ _))) ?_
      refine Y_fn (tl M k) ((gW_hi (by decide)).trans (tU_s _ _ _)) (fun j hj => by rcases (show j = 0 ∨ j = 1 ∨ j = 2 ∨ j = 3 ∨ j = 4 ∨ j = 5 ∨ j = 6 ∨ j = 7 ∨ j = 8 ∨ j = 9 by omega) with rfl | rfl | rfl | rfl | rfl | rfl | rfl | rfl | rfl | rfl; exact (tl_row (by decide)).symm; exact (tl_row (by decide)).symm; exact ((b2.resolve_left hh).symm).trans (tl_row (by decide)).symm; exact (tl_row (by decide)).symm; exact (c4.symm).trans (tl_row (by decide)).symm; exact ((f4 c4).symm).trans (tl_row (by decide)).symm; exact (tl_row (by decide)).symm; exact hf; exact hg; exact (hc_mHf I hk).trans ((tl_9.trans (if_pos ((JI_hg I.2.2.1 hk).mpr hh))).symm)) ?_
      refine Y_eq (w' := gW V n r M (tU T1 415 (some (.inl (0, 10, .inl (tl M k)))))) ((gW_tU (by decide)).trans (congrArg _ (tU_tU _ _ _ _))) ?_
      exact kk h1 ag1
    · by_cases c5 : M.1 5 k = -1
      · refine Y_dup C dX3_isSame_116 rfl ?_
        refine Y_iconst C (v := 0) dX3_isSame_117 (by decide) ?_
        refine Y_aload C dX3_isSame_118 rfl ?_
        refine Y_get C K4 (v := .int (M.1 0 k)) 0 dX3_isSame_120 (gW_st h40 hk) (by decide) g_449 rfl rfl ?_
        refine Y_iast C (f' := upd (fun _ => 0) 0 (M.1 0 k)) dX3_isSame_123 ((gW_hi (by decide)).trans (tU_s _ _ _)) (vp_in_nI (n := 0) (N := 10) (by decide) (by decide)) rfl (w' := gW V n r M (tU T1 415 (some (.inl (0, 10, .inl (upd (fun _ => 0) 0 (M.1 0 k))))))) ((gW_tU (by decide)).trans (congrArg _ (tU_tU _ _ _ _))) ?_
        refine Y_dup C dX3_isSame_124 rfl ?_
        refine Y_iconst C (v := 1) dX3_isSame_125 (by decide) ?_
        refine Y_aload C dX3_isSame_126 rfl ?_
        refine Y_get C K4 (v := .int (M.1 1 k)) 1 dX3_isSame_128 (gW_st h40 hk) (by decide) g_450 rfl rfl ?_
        refine Y_iast C (f' := upd (upd (fun _ => 0) 0 (M.1 0 k)) 1 (M.1 1 k)) dX3_isSame_131 ((gW_hi (by decide)).trans (tU_s _ _ _)) (vp_in_nI (n := 1) (N := 10) (by decide) (by decide)) rfl (w' := gW V n r M (tU T1 415 (some (.inl (0, 10, .inl (upd (upd (fun _ => 0) 0 (M.1 0 k)) 1 (M.1 1 k))))))) ((gW_tU (by decide)).trans (congrArg _ (tU_tU _ _ _ _))) ?_
        refine Y_dup C dX3_isSame_132 rfl ?_
        refine Y_iconst C (v := 2) dX3_isSame_133 (by decide) ?_
        refine Y_aload C dX3_isSame_134 rfl ?_
        refine Y_get C K4 (v := .int (M.1 2 k)) 2 dX3_isSame_136 (gW_st h40 hk) (by decide) g_452 rfl rfl ?_
        refine Y_if_eq C 146 dX3_isSame_139 (by decide) (fun cc11 => absurd cc11 hh) (fun cc11 => ?_)
        refine Y_iconst C (v := 1) dX3_isSame_142 (by decide) ?_
        refine Y_goto C 147 dX3_isSame_143 (by decide) ?_
        refine Y_iast C (f' := upd (upd (upd (fun _ => 0) 0 (M.1 0 k)) 1 (M.1 1 k)) 2 (1)) dX3_isSame_147 ((gW_hi (by decide)).trans (tU_s _ _ _)) (vp_in_nI (n := 2) (N := 10) (by decide) (by decide)) rfl (w' := gW V n r M (tU T1 415 (some (.inl (0, 10, .inl (upd (upd (upd (fun _ => 0) 0 (M.1 0 k)) 1 (M.1 1 k)) 2 (1))))))) ((gW_tU (by decide)).trans (congrArg _ (tU_tU _ _ _ _))) ?_
        refine Y_dup C dX3_isSame_148 rfl ?_
        refine Y_iconst C (v := 3) dX3_isSame_149 (by decide) ?_
        refine Y_aload C dX3_isSame_150 rfl ?_
        refine Y_get C K4 (v := .int (M.1 2 k)) 2 dX3_isSame_152 (gW_st h40 hk) (by decide) g_452 rfl rfl ?_
        refine Y_if_eq C 166 dX3_isSame_155 (by decide) (fun cc12 => absurd cc12 hh) (fun cc12 => ?_)
        refine Y_aload C dX3_isSame_158 rfl ?_
        refine Y_get C K4 (v := .int (M.1 3 k)) 3 dX3_isSame_160 (gW_st h40 hk) (by decide) g_454 rfl rfl ?_
        refine Y_goto C 167 dX3_isSame_163 (by decide) ?_
        refine Y_iast C (f' := upd (upd (upd (upd (fun _ => 0) 0 (M.1 0 k)) 1 (M.1 1 k)) 2 (1)) 3 (M.1 3 k)) dX3_isSame_167 ((gW_hi (by decide)).trans (tU_s _ _ _)) (vp_in_nI (n := 3) (N := 10) (by decide) (by decide)) rfl (w' := gW V n r M (tU T1 415 (some (.inl (0, 10, .inl (upd (upd (upd (upd (fun _ => 0) 0 (M.1 0 k)) 1 (M.1 1 k)) 2 (1)) 3 (M.1 3 k))))))) ((gW_tU (by decide)).trans (congrArg _ (tU_tU _ _ _ _))) ?_
        refine Y_dup C dX3_isSame_168 rfl ?_
        refine Y_iconst C (v := 4) dX3_isSame_169 (by decide) ?_
        refine Y_aload C dX3_isSame_170 rfl ?_
        refine Y_get C K4 (v := .ref (201 + 2 * k)) 4 dX3_isSame_172 (gW_st h40 hk) (by decide) g_457 rfl rfl ?_
        refine Y_alen C (i := 0) (v := nI 1) dX3_isSame_175 (hq_1 h40 hk c4 c5) rfl rfl ?_
        refine Y_if_le C 189 dX3_isSame_176 (by decide) (fun cc13 => absurd cc13 (by decide)) (fun cc13 => ?_)
        refine Y_aload C dX3_isSame_179 rfl ?_
        refine Y_get C K4 (v := .ref (201 + 2 * k)) 4 dX3_isSame_181 (gW_st h40 hk) (by decide) g_457 rfl rfl ?_
        refine Y_iconst C (v := 0) dX3_isSame_184 (by decide) ?_
        refine Y_iald C (v := M.1 4 k) dX3_isSame_185 (hq_1 h40 hk c4 c5) (vp_in_nI (n := 0) (N := 1) (by decide) (by decide)) rfl ?_
        refine Y_goto C 190 dX3_isSame_186 (by decide) ?_
        refine Y_iast C (f' := upd (upd (upd (upd (upd (fun _ => 0) 0 (M.1 0 k)) 1 (M.1 1 k)) 2 (1)) 3 (M.1 3 k)) 4 (M.1 4 k)) dX3_isSame_190 ((gW_hi (by decide)).trans (tU_s _ _ _)) (vp_in_nI (n := 4) (N := 10) (by decide) (by decide)) rfl (w' := gW V n r M (tU T1 415 (some (.inl (0, 10, .inl (upd (upd (upd (upd (upd (fun _ => 0) 0 (M.1 0 k)) 1 (M.1 1 k)) 2 (1)) 3 (M.1 3 k)) 4 (M.1 4 k))))))) ((gW_tU (by decide)).trans (congrArg _ (tU_tU _ _ _ _))) ?_
        refine Y_dup C dX3_isSame_191 rfl ?_
        refine Y_iconst C (v := 5) dX3_isSame_192 (by decide) ?_
        refine Y_aload C dX3_isSame_193 rfl ?_
        refine Y_get C K4 (v := .ref (201 + 2 * k)) 4 dX3_isSame_195 (gW_st h40 hk) (by decide) g_457 rfl rfl ?_
        refine Y_alen C (i := 0) (v := nI 1) dX3_isSame_198 (hq_1 h40 hk c4 c5) rfl rfl ?_
        refine Y_iconst C (v := 1) dX3_isSame_199 (by decide) ?_
        refine Y_icmp_le C 213 dX3_isSame_200 (by decide) (fun cc14 => ?_) (fun cc14 => absurd (by decide) cc14)
        refine Y_iconst C (v := (-1)) dX3_isSame_213 (by decide) ?_
        refine Y_iast C (f' := upd (upd (upd (upd (upd (upd (fun _ => 0) 0 (M.1 0 k)) 1 (M.1 1 k)) 2 (1)) 3 (M.1 3 k)) 4 (M.1 4 k)) 5 ((-1))) dX3_isSame_214 ((gW_hi (by decide)).trans (tU_s _ _ _)) (vp_in_nI (n := 5) (N := 10) (by decide) (by decide)) rfl (w' := gW V n r M (tU T1 415 (some (.inl (0, 10, .inl (upd (upd (upd (upd (upd (upd (fun _ => 0) 0 (M.1 0 k)) 1 (M.1 1 k)) 2 (1)) 3 (M.1 3 k)) 4 (M.1 4 k)) 5 ((-1)))))))) ((gW_tU (by decide)).trans (congrArg _ (tU_tU _ _ _ _))) ?_
        refine Y_dup C dX3_isSame_215 rfl ?_
        refine Y_bipush C (v := 6) dX3_isSame_216 (by decide) ?_
        refine Y_aload C dX3_isSame_218 rfl ?_
        refine Y_get C K4 (v := .int (M.1 6 k)) 5 dX3_isSame_220 (gW_st h40 hk) (by decide) g_458 rfl rfl ?_
        refine Y_iast C (f' := upd (upd (upd (upd (upd (upd (upd (fun _ => 0) 0 (M.1 0 k)) 1 (M.1 1 k)) 2 (1)) 3 (M.1 3 k)) 4 (M.1 4 k)) 5 ((-1))) 6 (M.1 6 k)) dX3_isSame_223 ((gW_hi (by decide)).trans (tU_s _ _ _)) (vp_in_nI (n := 6) (N := 10) (by decide) (by decide)) rfl (w' := gW V n r M (tU T1 415 (some (.inl (0, 10, .inl (upd (upd (upd (upd (upd (upd (upd (fun _ => 0) 0 (M.1 0 k)) 1 (M.1 1 k)) 2 (1)) 3 (M.1 3 k)) 4 (M.1 4 k)) 5 ((-1))) 6 (M.1 6 k))))))) ((gW_tU (by decide)).trans (congrArg _ (tU_tU _ _ _ _))) ?_
        refine Y_dup C dX3_isSame_224 rfl ?_
        refine Y_bipush C (v := 7) dX3_isSame_225 (by decide) ?_
        refine Y_iload C dX3_isSame_227 rfl ?_
        refine Y_iast C (f' := upd (upd (upd (upd (upd (upd (upd (upd (fun _ => 0) 0 (M.1 0 k)) 1 (M.1 1 k)) 2 (1)) 3 (M.1 3 k)) 4 (M.1 4 k)) 5 ((-1))) 6 (M.1 6 k)) 7 (f k)) dX3_isSame_229 ((gW_hi (by decide)).trans (tU_s _ _ _)) (vp_in_nI (n := 7) (N := 10) (by decide) (by decide)) rfl (w' := gW V n r M (tU T1 415 (some (.inl (0, 10, .inl (upd (upd (upd (upd (upd (upd (upd (upd (fun _ => 0) 0 (M.1 0 k)) 1 (M.1 1 k)) 2 (1)) 3 (M.1 3 k)) 4 (M.1 4 k)) 5 ((-1))) 6 (M.1 6 k)) 7 (f k))))))) ((gW_tU (by decide)).trans (congrArg _ (tU_tU _ _ _ _))) ?_
        refine Y_dup C dX3_isSame_230 rfl ?_
        refine Y_bipush C (v := 8) dX3_isSame_231 (by decide) ?_
        refine Y_aload C dX3_isSame_233 rfl ?_
        refine Y_iconst C (v := 1) dX3_isSame_235 (by decide) ?_
        refine Y_aald C (j := 411) dX3_isSame_236 ((gW_hi (by decide)).trans ((tU_n _ _ (by decide)).trans h12)) (vp_in_nI (n := 1) (N := 2) (by decide) (by decide)) rfl ?_
        refine Y_iload C dX3_isSame_237 rfl ?_
        refine Y_iald C (v := g k) dX3_isSame_239 ((gW_hi (by decide)).trans ((tU_n _ _ (by decide)).trans h11)) (vp_in_nI hk (by omega)) (by rw [nI_clamp (by omega)] <;> rfl) ?_
        refine Y_iast C (f' := upd (upd (upd (upd (upd (upd (upd (upd (upd (fun _ => 0) 0 (M.1 0 k)) 1 (M.1 1 k)) 2 (1)) 3 (M.1 3 k)) 4 (M.1 4 k)) 5 ((-1))) 6 (M.1 6 k)) 7 (f k)) 8 (g k)) dX3_isSame_240 ((gW_hi (by decide)).trans (tU_s _ _ _)) (vp_in_nI (n := 8) (N := 10) (by decide) (by decide)) rfl (w' := gW V n r M (tU T1 415 (some (.inl (0, 10, .inl (upd (upd (upd (upd (upd (upd (upd (upd (upd (fun _ => 0) 0 (M.1 0 k)) 1 (M.1 1 k)) 2 (1)) 3 (M.1 3 k)) 4 (M.1 4 k)) 5 ((-1))) 6 (M.1 6 k)) 7 (f k)) 8 (g k))))))) ((gW_tU (by decide)).trans (congrArg _ (tU_tU _ _ _ _))) ?_
        refine Y_dup C dX3_isSame_241 rfl ?_
        refine Y_bipush C (v := 9) dX3_isSame_242 (by decide) ?_
        refine Y_aload C dX3_isSame_244 rfl ?_
        refine Y_get C K4 (v := .int (M.1 2 k)) 2 dX3_isSame_246 (gW_st h40 hk) (by decide) g_452 rfl rfl ?_
        refine Y_if_eq C 257 dX3_isSame_249 (by decide) (fun cc15 => absurd cc15 hh) (fun cc15 => ?_)
        refine Y_iload C dX3_isSame_252 rfl ?_
        refine Y_goto C 258 dX3_isSame_254 (by decide) ?_
        refine Y_iast C (f' := upd (upd (upd (upd (upd (upd (upd (upd (upd (upd (fun _ => 0) 0 (M.1 0 k)) 1 (M.1 1 k)) 2 (1)) 3 (M.1 3 k)) 4 (M.1 4 k)) 5 ((-1))) 6 (M.1 6 k)) 7 (f k)) 8 (g k)) 9 (fr (hc1 M k) n 0)) dX3_isSame_258 ((gW_hi (by decide)).trans (tU_s _ _ _)) (vp_in_nI (n := 9) (N := 10) (by decide) (by decide)) rfl (w' := gW V n r M (tU T1 415 (some (.inl (0, 10, .inl (upd (upd (upd (upd (upd (upd (upd (upd (upd (upd (fun _ => 0) 0 (M.1 0 k)) 1 (M.1 1 k)) 2 (1)) 3 (M.1 3 k)) 4 (M.1 4 k)) 5 ((-1))) 6 (M.1 6 k)) 7 (f k)) 8 (g k)) 9 (fr (hc1 M k) n 0))))))) ((gW_tU (by decide)).trans (congrArg _ (tU_tU _ _ _ _))) ?_
        refine Y_fn (tl M k) ((gW_hi (by decide)).trans (tU_s _ _ _)) (fun j hj => by rcases (show j = 0 ∨ j = 1 ∨ j = 2 ∨ j = 3 ∨ j = 4 ∨ j = 5 ∨ j = 6 ∨ j = 7 ∨ j = 8 ∨ j = 9 by omega) with rfl | rfl | rfl | rfl | rfl | rfl | rfl | rfl | rfl | rfl; exact (tl_row (by decide)).symm; exact (tl_row (by decide)).symm; exact ((b2.resolve_left hh).symm).trans (tl_row (by decide)).symm; exact (tl_row (by decide)).symm; exact (tl_row (by decide)).symm; exact (c5.symm).trans (tl_row (by decide)).symm; exact (tl_row (by decide)).symm; exact hf; exact hg; exact (hc_mHf I hk).trans ((tl_9.trans (if_pos ((JI_hg I.2.2.1 hk).mpr hh))).symm)) ?_
        refine Y_eq (w' := gW V n r M (tU T1 415 (some (.inl (0, 10, .inl (tl M k)))))) ((gW_tU (by decide)).trans (congrArg _ (tU_tU _ _ _ _))) ?_
        exact kk h1 ag1
      · refine Y_dup C dX3_isSame_116 rfl ?_
        refine Y_iconst C (v := 0) dX3_isSame_117 (by decide) ?_
        refine Y_aload C dX3_isSame_118 rfl ?_
        refine Y_get C K4 (v := .int (M.1 0 k)) 0 dX3_isSame_120 (gW_st h40 hk) (by decide) g_449 rfl rfl ?_
        refine Y_iast C (f' := upd (fun _ => 0) 0 (M.1 0 k)) dX3_isSame_123 ((gW_hi (by decide)).trans (tU_s _ _ _)) (vp_in_nI (n := 0) (N := 10) (by decide) (by decide)) rfl (w' := gW V n r M (tU T1 415 (some (.inl (0, 10, .inl (upd (fun _ => 0) 0 (M.1 0 k))))))) ((gW_tU (by decide)).trans (congrArg _ (tU_tU _ _ _ _))) ?_
        refine Y_dup C dX3_isSame_124 rfl ?_
        refine Y_iconst C (v := 1) dX3_isSame_125 (by decide) ?_
        refine Y_aload C dX3_isSame_126 rfl ?_
        refine Y_get C K4 (v := .int (M.1 1 k)) 1 dX3_isSame_128 (gW_st h40 hk) (by decide) g_450 rfl rfl ?_
        refine Y_iast C (f' := upd (upd (fun _ => 0) 0 (M.1 0 k)) 1 (M.1 1 k)) dX3_isSame_131 ((gW_hi (by decide)).trans (tU_s _ _ _)) (vp_in_nI (n := 1) (N := 10) (by decide) (by decide)) rfl (w' := gW V n r M (tU T1 415 (some (.inl (0, 10, .inl (upd (upd (fun _ => 0) 0 (M.1 0 k)) 1 (M.1 1 k))))))) ((gW_tU (by decide)).trans (congrArg _ (tU_tU _ _ _ _))) ?_
        refine Y_dup C dX3_isSame_132 rfl ?_
        refine Y_iconst C (v := 2) dX3_isSame_133 (by decide) ?_
        refine Y_aload C dX3_isSame_134 rfl ?_
        refine Y_get C K4 (v := .int (M.1 2 k)) 2 dX3_isSame_136 (gW_st h40 hk) (by decide) g_452 rfl rfl ?_
        refine Y_if_eq C 146 dX3_isSame_139 (by decide) (fun cc16 => absurd cc16 hh) (fun cc16 => ?_)
        refine Y_iconst C (v := 1) dX3_isSame_142 (by decide) ?_
        refine Y_goto C 147 dX3_isSame_143 (by decide) ?_
        refine Y_iast C (f' := upd (upd (upd (fun _ => 0) 0 (M.1 0 k)) 1 (M.1 1 k)) 2 (1)) dX3_isSame_147 ((gW_hi (by decide)).trans (tU_s _ _ _)) (vp_in_nI (n := 2) (N := 10) (by decide) (by decide)) rfl (w' := gW V n r M (tU T1 415 (some (.inl (0, 10, .inl (upd (upd (upd (fun _ => 0) 0 (M.1 0 k)) 1 (M.1 1 k)) 2 (1))))))) ((gW_tU (by decide)).trans (congrArg _ (tU_tU _ _ _ _))) ?_
        refine Y_dup C dX3_isSame_148 rfl ?_
        refine Y_iconst C (v := 3) dX3_isSame_149 (by decide) ?_
        refine Y_aload C dX3_isSame_150 rfl ?_
        refine Y_get C K4 (v := .int (M.1 2 k)) 2 dX3_isSame_152 (gW_st h40 hk) (by decide) g_452 rfl rfl ?_
        refine Y_if_eq C 166 dX3_isSame_155 (by decide) (fun cc17 => absurd cc17 hh) (fun cc17 => ?_)
        refine Y_aload C dX3_isSame_158 rfl ?_
        refine Y_get C K4 (v := .int (M.1 3 k)) 3 dX3_isSame_160 (gW_st h40 hk) (by decide) g_454 rfl rfl ?_
        refine Y_goto C 167 dX3_isSame_163 (by decide) ?_
        refine Y_iast C (f' := upd (upd (upd (upd (fun _ => 0) 0 (M.1 0 k)) 1 (M.1 1 k)) 2 (1)) 3 (M.1 3 k)) dX3_isSame_167 ((gW_hi (by decide)).trans (tU_s _ _ _)) (vp_in_nI (n := 3) (N := 10) (by decide) (by decide)) rfl (w' := gW V n r M (tU T1 415 (some (.inl (0, 10, .inl (upd (upd (upd (upd (fun _ => 0) 0 (M.1 0 k)) 1 (M.1 1 k)) 2 (1)) 3 (M.1 3 k))))))) ((gW_tU (by decide)).trans (congrArg _ (tU_tU _ _ _ _))) ?_
        refine Y_dup C dX3_isSame_168 rfl ?_
        refine Y_iconst C (v := 4) dX3_isSame_169 (by decide) ?_
        refine Y_aload C dX3_isSame_170 rfl ?_
        refine Y_get C K4 (v := .ref (201 + 2 * k)) 4 dX3_isSame_172 (gW_st h40 hk) (by decide) g_457 rfl rfl ?_
        refine Y_alen C (i := 0) (v := nI 2) dX3_isSame_175 (hq_2 h40 hk c4 c5) rfl rfl ?_
        refine Y_if_le C 189 dX3_isSame_176 (by decide) (fun cc18 => absurd cc18 (by decide)) (fun cc18 => ?_)
        refine Y_aload C dX3_isSame_179 rfl ?_
        refine Y_get C K4 (v := .ref (201 + 2 * k)) 4 dX3_isSame_181 (gW_st h40 hk) (by decide) g_457 rfl rfl ?_
        refine Y_iconst C (v := 0) dX3_isSame_184 (by decide) ?_
        refine Y_iald C (v := M.1 4 k) dX3_isSame_185 (hq_2 h40 hk c4 c5) (vp_in_nI (n := 0) (N := 2) (by decide) (by decide)) rfl ?_
        refine Y_goto C 190 dX3_isSame_186 (by decide) ?_
        refine Y_iast C (f' := upd (upd (upd (upd (upd (fun _ => 0) 0 (M.1 0 k)) 1 (M.1 1 k)) 2 (1)) 3 (M.1 3 k)) 4 (M.1 4 k)) dX3_isSame_190 ((gW_hi (by decide)).trans (tU_s _ _ _)) (vp_in_nI (n := 4) (N := 10) (by decide) (by decide)) rfl (w' := gW V n r M (tU T1 415 (some (.inl (0, 10, .inl (upd (upd (upd (upd (upd (fun _ => 0) 0 (M.1 0 k)) 1 (M.1 1 k)) 2 (1)) 3 (M.1 3 k)) 4 (M.1 4 k))))))) ((gW_tU (by decide)).trans (congrArg _ (tU_tU _ _ _ _))) ?_
        refine Y_dup C dX3_isSame_191 rfl ?_
        refine Y_iconst C (v := 5) dX3_isSame_192 (by decide) ?_
        refine Y_aload C dX3_isSame_193 rfl ?_
        refine Y_get C K4 (v := .ref (201 + 2 * k)) 4 dX3_isSame_195 (gW_st h40 hk) (by decide) g_457 rfl rfl ?_
        refine Y_alen C (i := 0) (v := nI 2) dX3_isSame_198 (hq_2 h40 hk c4 c5) rfl rfl ?_
        refine Y_iconst C (v := 1) dX3_isSame_199 (by decide) ?_
        refine Y_icmp_le C 213 dX3_isSame_200 (by decide) (fun cc19 => absurd cc19 (by decide)) (fun cc19 => ?_)
        refine Y_aload C dX3_isSame_203 rfl ?_
        refine Y_get C K4 (v := .ref (201 + 2 * k)) 4 dX3_isSame_205 (gW_st h40 hk) (by decide) g_457 rfl rfl ?_
        refine Y_iconst C (v := 1) dX3_isSame_208 (by decide) ?_
        refine Y_iald C (v := M.1 5 k) dX3_isSame_209 (hq_2 h40 hk c4 c5) (vp_in_nI (n := 1) (N := 2) (by decide) (by decide)) rfl ?_
        refine Y_goto C 214 dX3_isSame_210 (by decide) ?_
        refine Y_iast C (f' := upd (upd (upd (upd (upd (upd (fun _ => 0) 0 (M.1 0 k)) 1 (M.1 1 k)) 2 (1)) 3 (M.1 3 k)) 4 (M.1 4 k)) 5 (M.1 5 k)) dX3_isSame_214 ((gW_hi (by decide)).trans (tU_s _ _ _)) (vp_in_nI (n := 5) (N := 10) (by decide) (by decide)) rfl (w' := gW V n r M (tU T1 415 (some (.inl (0, 10, .inl (upd (upd (upd (upd (upd (upd (fun _ => 0) 0 (M.1 0 k)) 1 (M.1 1 k)) 2 (1)) 3 (M.1 3 k)) 4 (M.1 4 k)) 5 (M.1 5 k))))))) ((gW_tU (by decide)).trans (congrArg _ (tU_tU _ _ _ _))) ?_
        refine Y_dup C dX3_isSame_215 rfl ?_
        refine Y_bipush C (v := 6) dX3_isSame_216 (by decide) ?_
        refine Y_aload C dX3_isSame_218 rfl ?_
        refine Y_get C K4 (v := .int (M.1 6 k)) 5 dX3_isSame_220 (gW_st h40 hk) (by decide) g_458 rfl rfl ?_
        refine Y_iast C (f' := upd (upd (upd (upd (upd (upd (upd (fun _ => 0) 0 (M.1 0 k)) 1 (M.1 1 k)) 2 (1)) 3 (M.1 3 k)) 4 (M.1 4 k)) 5 (M.1 5 k)) 6 (M.1 6 k)) dX3_isSame_223 ((gW_hi (by decide)).trans (tU_s _ _ _)) (vp_in_nI (n := 6) (N := 10) (by decide) (by decide)) rfl (w' := gW V n r M (tU T1 415 (some (.inl (0, 10, .inl (upd (upd (upd (upd (upd (upd (upd (fun _ => 0) 0 (M.1 0 k)) 1 (M.1 1 k)) 2 (1)) 3 (M.1 3 k)) 4 (M.1 4 k)) 5 (M.1 5 k)) 6 (M.1 6 k))))))) ((gW_tU (by decide)).trans (congrArg _ (tU_tU _ _ _ _))) ?_
        refine Y_dup C dX3_isSame_224 rfl ?_
        refine Y_bipush C (v := 7) dX3_isSame_225 (by decide) ?_
        refine Y_iload C dX3_isSame_227 rfl ?_
        refine Y_iast C (f' := upd (upd (upd (upd (upd (upd (upd (upd (fun _ => 0) 0 (M.1 0 k)) 1 (M.1 1 k)) 2 (1)) 3 (M.1 3 k)) 4 (M.1 4 k)) 5 (M.1 5 k)) 6 (M.1 6 k)) 7 (f k)) dX3_isSame_229 ((gW_hi (by decide)).trans (tU_s _ _ _)) (vp_in_nI (n := 7) (N := 10) (by decide) (by decide)) rfl (w' := gW V n r M (tU T1 415 (some (.inl (0, 10, .inl (upd (upd (upd (upd (upd (upd (upd (upd (fun _ => 0) 0 (M.1 0 k)) 1 (M.1 1 k)) 2 (1)) 3 (M.1 3 k)) 4 (M.1 4 k)) 5 (M.1 5 k)) 6 (M.1 6 k)) 7 (f k))))))) ((gW_tU (by decide)).trans (congrArg _ (tU_tU _ _ _ _))) ?_
        refine Y_dup C dX3_isSame_230 rfl ?_
        refine Y_bipush C (v := 8) dX3_isSame_231 (by decide) ?_
        refine Y_aload C dX3_isSame_233 rfl ?_
        refine Y_iconst C (v := 1) dX3_isSame_235 (by decide) ?_
        refine Y_aald C (j := 411) dX3_isSame_236 ((gW_hi (by decide)).trans ((tU_n _ _ (by decide)).trans h12)) (vp_in_nI (n := 1) (N := 2) (by decide) (by decide)) rfl ?_
        refine Y_iload C dX3_isSame_237 rfl ?_
        refine Y_iald C (v := g k) dX3_isSame_239 ((gW_hi (by decide)).trans ((tU_n _ _ (by decide)).trans h11)) (vp_in_nI hk (by omega)) (by rw [nI_clamp (by omega)] <;> rfl) ?_
        refine Y_iast C (f' := upd (upd (upd (upd (upd (upd (upd (upd (upd (fun _ => 0) 0 (M.1 0 k)) 1 (M.1 1 k)) 2 (1)) 3 (M.1 3 k)) 4 (M.1 4 k)) 5 (M.1 5 k)) 6 (M.1 6 k)) 7 (f k)) 8 (g k)) dX3_isSame_240 ((gW_hi (by decide)).trans (tU_s _ _ _)) (vp_in_nI (n := 8) (N := 10) (by decide) (by decide)) rfl (w' := gW V n r M (tU T1 415 (some (.inl (0, 10, .inl (upd (upd (upd (upd (upd (upd (upd (upd (upd (fun _ => 0) 0 (M.1 0 k)) 1 (M.1 1 k)) 2 (1)) 3 (M.1 3 k)) 4 (M.1 4 k)) 5 (M.1 5 k)) 6 (M.1 6 k)) 7 (f k)) 8 (g k))))))) ((gW_tU (by decide)).trans (congrArg _ (tU_tU _ _ _ _))) ?_
        refine Y_dup C dX3_isSame_241 rfl ?_
        refine Y_bipush C (v := 9) dX3_isSame_242 (by decide) ?_
        refine Y_aload C dX3_isSame_244 rfl ?_
        refine Y_get C K4 (v := .int (M.1 2 k)) 2 dX3_isSame_246 (gW_st h40 hk) (by decide) g_452 rfl rfl ?_
        refine Y_if_eq C 257 dX3_isSame_249 (by decide) (fun cc20 => absurd cc20 hh) (fun cc20 => ?_)
        refine Y_iload C dX3_isSame_252 rfl ?_
        refine Y_goto C 258 dX3_isSame_254 (by decide) ?_
        refine Y_iast C (f' := upd (upd (upd (upd (upd (upd (upd (upd (upd (upd (fun _ => 0) 0 (M.1 0 k)) 1 (M.1 1 k)) 2 (1)) 3 (M.1 3 k)) 4 (M.1 4 k)) 5 (M.1 5 k)) 6 (M.1 6 k)) 7 (f k)) 8 (g k)) 9 (fr (hc1 M k) n 0)) dX3_isSame_258 ((gW_hi (by decide)).trans (tU_s _ _ _)) (vp_in_nI (n := 9) (N := 10) (by decide) (by decide)) rfl (w' := gW V n r M (tU T1 415 (some (.inl (0, 10, .inl (upd (upd (upd (upd (upd (upd (upd (upd (upd (upd (fun _ => 0) 0 (M.1 0 k)) 1 (M.1 1 k)) 2 (1)) 3 (M.1 3 k)) 4 (M.1 4 k)) 5 (M.1 5 k)) 6 (M.1 6 k)) 7 (f k)) 8 (g k)) 9 (fr (hc1 M k) n 0))))))) ((gW_tU (by decide)).trans (congrArg _ (tU_tU _ _ _ _))) ?_
        refine Y_fn (tl M k) ((gW_hi (by decide)).trans (tU_s _ _ _)) (fun j hj => by rcases (show j = 0 ∨ j = 1 ∨ j = 2 ∨ j = 3 ∨ j = 4 ∨ j = 5 ∨ j = 6 ∨ j = 7 ∨ j = 8 ∨ j = 9 by omega) with rfl | rfl | rfl | rfl | rfl | rfl | rfl | rfl | rfl | rfl; exact (tl_row (by decide)).symm; exact (tl_row (by decide)).symm; exact ((b2.resolve_left hh).symm).trans (tl_row (by decide)).symm; exact (tl_row (by decide)).symm; exact (tl_row (by decide)).symm; exact (tl_row (by decide)).symm; exact (tl_row (by decide)).symm; exact hf; exact hg; exact (hc_mHf I hk).trans ((tl_9.trans (if_pos ((JI_hg I.2.2.1 hk).mpr hh))).symm)) ?_
        refine Y_eq (w' := gW V n r M (tU T1 415 (some (.inl (0, 10, .inl (tl M k)))))) ((gW_tU (by decide)).trans (congrArg _ (tU_tU _ _ _ _))) ?_
        exact kk h1 ag1
set_option maxHeartbeats 4000000 in
set_option maxRecDepth 20000 in
theorem c_X3_isSame {n r : Nat} {M : Md} {T : WF} {K D : St} {B : Sr} (I : LI n r B K M) : CTm yX3_isSame cX3_isSame 14 (some .boolean) 7 600 4000 [.ref 100, .ref 0] (gW (xW K D B) n r M T) (fun _ => False) (fun r' _ => r' = some (.int 1)) := by
  refine CTm_of (L := [(0, .ref 100), (1, .ref 0)]) (by decide) (fun _ => rfl) (fun _ => Nat.le_of_ble_eq_true rfl) ?_
  intro p l e s m args below meth c G h A b N xs C S hr hlk hnm
  have h40 := I.h40
  have h30 := I.h30
  have hC := okC_x K D B
  refine Y_less (w' := gW (xW K D B) n r M (fun _ => none)) (gW_less (fun i e h => by cases h)) ?_
  refine Y_iconst C (v := 0) dX3_isSame_0 (by decide) ?_
  refine Y_istore_n C (L' := [(2, .int 0), (0, .ref 100), (1, .ref 0)]) dX3_isSame_1 rfl (by decide) rfl ?_
  refine Y_iconst C (v := 0) dX3_isSame_2 (by decide) ?_
  refine Y_istore_n C (L' := [(3, .int 0), (2, .int 0), (0, .ref 100), (1, .ref 0)]) dX3_isSame_3 rfl (by decide) rfl ?_
  refine Y_iconst C (v := 0) dX3_isSame_4 (by decide) ?_
  refine Y_istore C (L' := [(4, .int 0), (3, .int 0), (2, .int 0), (0, .ref 100), (1, .ref 0)]) dX3_isSame_5 (by decide) rfl ?_
  refine Y_iconst C (v := 0) dX3_isSame_7 (by decide) ?_
  refine Y_istore C (L' := [(5, .int 0), (4, .int 0), (3, .int 0), (2, .int 0), (0, .ref 100), (1, .ref 0)]) dX3_isSame_8 (by decide) rfl ?_
  refine Y_aload_n C dX3_isSame_10 rfl rfl ?_
  refine Y_callM C S (c_X3_reckon (V := xW K D B) (r := r) (M := M) (T := fun _ => none) h40 h30 hC (fun i e h => by cases h) I.mn I.2.2.1 I.2.1) m_X3_reckon K3 g_393 dX3_isSame_11 gW_100 rfl rfl ⟨Nat.le_of_ble_eq_true rfl, Nat.le_of_ble_eq_true rfl⟩ ⟨Nat.le_of_ble_eq_true rfl, Nat.le_of_ble_eq_true rfl⟩ (Nat.le_of_ble_eq_true rfl) ⟨trivial, trivial, trivial, trivial, (by first | trivial | (unfold vR; (try dsimp only); omega)), (by first | trivial | (unfold vR; (try dsimp only); omega)), trivial⟩ trivial (fun h1 r1 w1 ag1 F1 => ?_)
  obtain ⟨rfl, f, g, hf, hgg, rfl⟩ := F1
  refine Y_stk [.ref 412] rfl ?_
  have hT1 : okT (tRf (fun _ => none) n f g) := okT_Rf
  refine Y_astore C (L' := [(6, .ref 412), (5, .int 0), (4, .int 0), (3, .int 0), (2, .int 0), (0, .ref 100), (1, .ref 0)]) dX3_isSame_14 (by decide) rfl ?_
  refine Y_iconst C (v := nI 0) dX3_isSame_16 (by decide) ?_
  refine Y_istore C (L' := [(7, .int (nI 0)), (6, .ref 412), (5, .int 0), (4, .int 0), (3, .int 0), (2, .int 0), (0, .ref 100), (1, .ref 0)]) dX3_isSame_17 (by decide) rfl ?_
  refine Y_widen (k' := 3 + 11 * 0) (n' := 82 + 70 * 0) (by decide) (by decide) ?_
  generalize hX : mRk M = X at hf hgg
  refine Zfor (σ := Int32 × Int32 × Int32 × Int32) (fun i2 X2 => ∀ hv2 : Nat → Nat, (∀ x, (fun i => (i < 410 ∨ 412 < i) ∧ i ≠ 415) x → hv2 x = h x) → Y p l e _ s m args below meth c 14 G A hv2 _ (3 + 11 * i2) (82 + 70 * i2) (gW (xW K D B) n r M (tRf (fun _ => none) n f g)) 19 [(7, .int (nI i2)), (6, .ref 412), (5, .int X2.2.2.2), (4, .int X2.2.2.1), (3, .int X2.2.1), (2, .int X2.1), (0, .ref 100), (1, .ref 0)] []) (fun i2 X2 => True) (sG X) n (0, 0, 0, 0) trivial (fun _ _ _ _ => trivial) (fun X2 hX2 eX2 => ?_) (fun i2 X2 hi2 hX2 hX2' kk2 => ?_) h1 (fun i hi => (ag1 i (by first | trivial | exact hi | ((try unfold kpA at hi); (try dsimp only at hi); (try dsimp only); omega))))
  · intro hv2 av2
    refine Y_iload C dX3_isSame_19 rfl ?_
    refine Y_aload_n C dX3_isSame_21 rfl rfl ?_
    refine Y_get C K3 (v := .ref 101) 0 dX3_isSame_22 gW_100 (by decide) g_577 rfl rfl ?_
    refine Y_alen C (i := 2) (v := nI n) dX3_isSame_25 gW_101 rfl rfl ?_
    refine Y_icmp_ge C 362 dX3_isSame_26 (by decide) (fun cc3 => ?_) (fun cc3 => absurd (Int32.le_refl _) cc3)
    refine Y_iconst C (v := nI 0) dX3_isSame_362 (by decide) ?_
    refine Y_istore C (L' := [(7, .int (nI 0)), (6, .ref 412), (5, .int X2.2.2.2), (4, .int X2.2.2.1), (3, .int X2.2.1), (2, .int X2.1), (0, .ref 100), (1, .ref 0)]) dX3_isSame_363 (by decide) rfl ?_
    refine Y_sub (L' := [(7, .int (nI 0)), (5, .int X2.2.2.2), (4, .int X2.2.2.1), (3, .int X2.2.1), (2, .int X2.1), (0, .ref 100), (1, .ref 0)]) (by simp) ?_
    refine Y_less (w' := gW (xW K D B) n r M (fun _ => none)) (gW_less (fun i e h => by cases h)) ?_
    refine Y_widen (k' := 443 + 3 * 0) (n' := 2882 + 18 * 0) (by omega) (by omega) ?_
    refine Zfor (σ := Unit) (fun i4 X4 => Y p l e _ s m args below meth c 14 G A hv2 _ (443 + 3 * i4) (2882 + 18 * i4) (gW (xW K D B) n r M (fun _ => none)) 365 [(7, .int (nI i4)), (5, .int X2.2.2.2), (4, .int X2.2.2.1), (3, .int X2.2.1), (2, .int X2.1), (0, .ref 100), (1, .ref 0)] []) (fun i4 X4 => True) (fun _ u => u) r () trivial (fun _ _ _ _ => trivial) (fun X4 hX4 eX4 => ?_) (fun i4 X4 hi4 hX4 hX4' kk4 => ?_)
    · skip
      refine Y_iload C dX3_isSame_365 rfl ?_
      refine Y_aload_n C dX3_isSame_367 rfl rfl ?_
      refine Y_get C K3 (v := .ref 102) 1 dX3_isSame_368 gW_100 (by decide) g_579 rfl rfl ?_
      refine Y_alen C (i := 3) (v := nI r) dX3_isSame_371 gW_102 rfl rfl ?_
      refine Y_icmp_ge C 419 dX3_isSame_372 (by decide) (fun cc5 => ?_) (fun cc5 => absurd (Int32.le_refl _) cc5)
      refine Y_sub (L' := [(5, .int X2.2.2.2), (4, .int X2.2.2.1), (3, .int X2.2.1), (2, .int X2.1), (0, .ref 100), (1, .ref 0)]) (by simp) ?_
      refine Y_widen (k' := 533) (n' := 3422) (by omega) (by omega) ?_
      have eT : X2 = (fr (mc1 X 3) n 0, fr (mc1 X 6) n 0, fr (mc1 X 7) n 0, fr (mSm1 X) n 0) := by rw [eX2]; exact sG_fr X n
      rw [eT]
      refine Y_pc (L := [(5, .int (fr (mSm1 X) n 0)), (4, .int (fr (mc1 X 7) n 0)), (3, .int (fr (mc1 X 6) n 0)), (2, .int (fr (mc1 X 3) n 0)), (0, .ref 100), (1, .ref 0)]) rfl ?_
      refine Y_bipush C (v := nI 8) dX3_isSame_419 (by decide) ?_
      refine Y_newi C (N := 8) 416 dX3_isSame_421 g_85 (by decide) (by decide) (by decide) ⟨Nat.le_of_ble_eq_true rfl, Nat.le_of_ble_eq_true rfl⟩ (gW_N h40 h30 hC (fun i e h => by cases h) (by decide)) ⟨trivial, trivial, trivial, trivial, (by first | trivial | (unfold vR; (try dsimp only); omega)), (by first | trivial | (unfold vR; (try dsimp only); omega)), trivial⟩ trivial (fun h6 ag6 => ?_)
      refine Y_eq (gW_tU (by decide)) ?_
      refine Y_dup C dX3_isSame_423 rfl ?_
      refine Y_iconst C (v := 0) dX3_isSame_424 (by decide) ?_
      refine Y_aload_n C dX3_isSame_425 rfl rfl ?_
      refine Y_get C K3 (v := .int (M.2.2.1 0 0)) 2 dX3_isSame_426 gW_100 (by decide) g_581 rfl rfl ?_
      refine Y_iast C (f' := upd (fun _ => 0) 0 (M.2.2.1 0 0)) dX3_isSame_429 ((gW_hi (by decide)).trans (tU_s _ _ _)) (vp_in_nI (n := 0) (N := 8) (by decide) (by decide)) rfl (w' := gW (xW K D B) n r M (tU (fun _ => none) 416 (some (.inl (0, 8, .inl (upd (fun _ => 0) 0 (M.2.2.1 0 0))))))) ((gW_tU (by decide)).trans (congrArg _ (tU_tU _ _ _ _))) ?_
      refine Y_dup C dX3_isSame_430 rfl ?_
      refine Y_iconst C (v := 1) dX3_isSame_431 (by decide) ?_
      refine Y_aload_n C dX3_isSame_432 rfl rfl ?_
      refine Y_get C K3 (v := .ref 101) 0 dX3_isSame_433 gW_100 (by decide) g_577 rfl rfl ?_
      refine Y_alen C (i := 2) (v := nI n) dX3_isSame_436 gW_101 rfl rfl ?_
      refine Y_iast C (f' := upd (upd (fun _ => 0) 0 (M.2.2.1 0 0)) 1 (nI n)) dX3_isSame_437 ((gW_hi (by decide)).trans (tU_s _ _ _)) (vp_in_nI (n := 1) (N := 8) (by decide) (by decide)) rfl (w' := gW (xW K D B) n r M (tU (fun _ => none) 416 (some (.inl (0, 8, .inl (upd (upd (fun _ => 0) 0 (M.2.2.1 0 0)) 1 (nI n))))))) ((gW_tU (by decide)).trans (congrArg _ (tU_tU _ _ _ _))) ?_
      refine Y_dup C dX3_isSame_438 rfl ?_
      refine Y_iconst C (v := 2) dX3_isSame_439 (by decide) ?_
      refine Y_aload_n C dX3_isSame_440 rfl rfl ?_
      refine Y_callM C S (c_X3_hanging (V := xW K D B) (r := r) (M := M) (T := tU (fun _ => none) 416 (some (.inl (0, 8, .inl (upd (upd (fun _ => 0) 0 (M.2.2.1 0 0)) 1 (nI n)))))) h40 h30 (fun i hi => (I.2.2.1 i hi).2.2.2.2.2.2.1)) m_X3_hanging K3 g_406 dX3_isSame_441 gW_100 rfl rfl ⟨Nat.le_of_ble_eq_true rfl, Nat.le_of_ble_eq_true rfl⟩ ⟨Nat.le_of_ble_eq_true rfl, Nat.le_of_ble_eq_true rfl⟩ (Nat.le_of_ble_eq_true rfl) ⟨trivial, trivial, trivial, trivial, (by first | trivial | (unfold vR; (try dsimp only); omega)), (by first | trivial | (unfold vR; (try dsimp only); omega)), trivial⟩ ⟨trivial, (by first | trivial | (unfold vR; (try dsimp only); omega)), (by first | trivial | (unfold vR; (try dsimp only); omega)), trivial⟩ (fun h7 r7 w7 ag7 F7 => ?_)
      obtain ⟨rfl, rfl⟩ := F7
      refine Y_stk [.int (fr (mHa1 M) n 0), .int 2, .ref 416, .ref 416] rfl ?_
      refine Y_iast C (f' := upd (upd (upd (fun _ => 0) 0 (M.2.2.1 0 0)) 1 (nI n)) 2 (fr (mHa1 M) n 0)) dX3_isSame_444 ((gW_hi (by decide)).trans (tU_s _ _ _)) (vp_in_nI (n := 2) (N := 8) (by decide) (by decide)) rfl (w' := gW (xW K D B) n r M (tU (fun _ => none) 416 (some (.inl (0, 8, .inl (upd (upd (upd (fun _ => 0) 0 (M.2.2.1 0 0)) 1 (nI n)) 2 (fr (mHa1 M) n 0))))))) ((gW_tU (by decide)).trans (congrArg _ (tU_tU _ _ _ _))) ?_
      refine Y_dup C dX3_isSame_445 rfl ?_
      refine Y_iconst C (v := 3) dX3_isSame_446 (by decide) ?_
      refine Y_iload_n C dX3_isSame_447 rfl rfl ?_
      refine Y_iast C (f' := upd (upd (upd (upd (fun _ => 0) 0 (M.2.2.1 0 0)) 1 (nI n)) 2 (fr (mHa1 M) n 0)) 3 (fr (mc1 X 3) n 0)) dX3_isSame_448 ((gW_hi (by decide)).trans (tU_s _ _ _)) (vp_in_nI (n := 3) (N := 8) (by decide) (by decide)) rfl (w' := gW (xW K D B) n r M (tU (fun _ => none) 416 (some (.inl (0, 8, .inl (upd (upd (upd (upd (fun _ => 0) 0 (M.2.2.1 0 0)) 1 (nI n)) 2 (fr (mHa1 M) n 0)) 3 (fr (mc1 X 3) n 0))))))) ((gW_tU (by decide)).trans (congrArg _ (tU_tU _ _ _ _))) ?_
      refine Y_dup C dX3_isSame_449 rfl ?_
      refine Y_iconst C (v := 4) dX3_isSame_450 (by decide) ?_
      refine Y_aload_n C dX3_isSame_451 rfl rfl ?_
      refine Y_callM C S (c_X3_stairs (V := xW K D B) (M := M) (T := tU (fun _ => none) 416 (some (.inl (0, 8, .inl (upd (upd (upd (upd (fun _ => 0) 0 (M.2.2.1 0 0)) 1 (nI n)) 2 (fr (mHa1 M) n 0)) 3 (fr (mc1 X 3) n 0)))))) h40 h30) m_X3_stairs K3 g_410 dX3_isSame_452 gW_100 rfl rfl ⟨Nat.le_of_ble_eq_true rfl, Nat.le_of_ble_eq_true rfl⟩ ⟨Nat.le_of_ble_eq_true rfl, Nat.le_of_ble_eq_true rfl⟩ (Nat.le_of_ble_eq_true rfl) ⟨trivial, trivial, trivial, trivial, (by first | trivial | (unfold vR; (try dsimp only); omega)), (by first | trivial | (unfold vR; (try dsimp only); omega)), trivial⟩ ⟨trivial, (by first | trivial | (unfold vR; (try dsimp only); omega)), (by first | trivial | (unfold vR; (try dsimp only); omega)), trivial⟩ (fun h8 r8 w8 ag8 F8 => ?_)
      obtain ⟨rfl, rfl⟩ := F8
      refine Y_stk [.int (fr (mk4 M) r 0), .int 4, .ref 416, .ref 416] rfl ?_
      refine Y_iast C (f' := upd (upd (upd (upd (upd (fun _ => 0) 0 (M.2.2.1 0 0)) 1 (nI n)) 2 (fr (mHa1 M) n 0)) 3 (fr (mc1 X 3) n 0)) 4 (fr (mk4 M) r 0)) dX3_isSame_455 ((gW_hi (by decide)).trans (tU_s _ _ _)) (vp_in_nI (n := 4) (N := 8) (by decide) (by decide)) rfl (w' := gW (xW K D B) n r M (tU (fun _ => none) 416 (some (.inl (0, 8, .inl (upd (upd (upd (upd (upd (fun _ => 0) 0 (M.2.2.1 0 0)) 1 (nI n)) 2 (fr (mHa1 M) n 0)) 3 (fr (mc1 X 3) n 0)) 4 (fr (mk4 M) r 0))))))) ((gW_tU (by decide)).trans (congrArg _ (tU_tU _ _ _ _))) ?_
      refine Y_dup C dX3_isSame_456 rfl ?_
      refine Y_iconst C (v := 5) dX3_isSame_457 (by decide) ?_
      refine Y_aload_n C dX3_isSame_458 rfl rfl ?_
      refine Y_callM C S (c_X3_power (V := xW K D B) (r := r) (M := M) (T := tU (fun _ => none) 416 (some (.inl (0, 8, .inl (upd (upd (upd (upd (upd (fun _ => 0) 0 (M.2.2.1 0 0)) 1 (nI n)) 2 (fr (mHa1 M) n 0)) 3 (fr (mc1 X 3) n 0)) 4 (fr (mk4 M) r 0)))))) h40 h30) m_X3_power K3 g_414 dX3_isSame_459 gW_100 rfl rfl ⟨Nat.le_of_ble_eq_true rfl, Nat.le_of_ble_eq_true rfl⟩ ⟨Nat.le_of_ble_eq_true rfl, Nat.le_of_ble_eq_true rfl⟩ (Nat.le_of_ble_eq_true rfl) ⟨trivial, trivial, trivial, trivial, (by first | trivial | (unfold vR; (try dsimp only); omega)), (by first | trivial | (unfold vR; (try dsimp only); omega)), trivial⟩ ⟨trivial, (by first | trivial | (unfold vR; (try dsimp only); omega)), (by first | trivial | (unfold vR; (try dsimp only); omega)), trivial⟩ (fun h9 r9 w9 ag9 F9 => ?_)
      obtain ⟨rfl, rfl⟩ := F9
      refine Y_stk [.int (fr (jp1 M) n 0), .int 5, .ref 416, .ref 416] rfl ?_
      refine Y_iast C (f' := upd (upd (upd (upd (upd (upd (fun _ => 0) 0 (M.2.2.1 0 0)) 1 (nI n)) 2 (fr (mHa1 M) n 0)) 3 (fr (mc1 X 3) n 0)) 4 (fr (mk4 M) r 0)) 5 (fr (jp1 M) n 0)) dX3_isSame_462 ((gW_hi (by decide)).trans (tU_s _ _ _)) (vp_in_nI (n := 5) (N := 8) (by decide) (by decide)) rfl (w' := gW (xW K D B) n r M (tU (fun _ => none) 416 (some (.inl (0, 8, .inl (upd (upd (upd (upd (upd (upd (fun _ => 0) 0 (M.2.2.1 0 0)) 1 (nI n)) 2 (fr (mHa1 M) n 0)) 3 (fr (mc1 X 3) n 0)) 4 (fr (mk4 M) r 0)) 5 (fr (jp1 M) n 0))))))) ((gW_tU (by decide)).trans (congrArg _ (tU_tU _ _ _ _))) ?_
      refine Y_dup C dX3_isSame_463 rfl ?_
      refine Y_bipush C (v := 6) dX3_isSame_464 (by decide) ?_
      refine Y_iload_n C dX3_isSame_466 rfl rfl ?_
      refine Y_iast C (f' := upd (upd (upd (upd (upd (upd (upd (fun _ => 0) 0 (M.2.2.1 0 0)) 1 (nI n)) 2 (fr (mHa1 M) n 0)) 3 (fr (mc1 X 3) n 0)) 4 (fr (mk4 M) r 0)) 5 (fr (jp1 M) n 0)) 6 (fr (mc1 X 6) n 0)) dX3_isSame_467 ((gW_hi (by decide)).trans (tU_s _ _ _)) (vp_in_nI (n := 6) (N := 8) (by decide) (by decide)) rfl (w' := gW (xW K D B) n r M (tU (fun _ => none) 416 (some (.inl (0, 8, .inl (upd (upd (upd (upd (upd (upd (upd (fun _ => 0) 0 (M.2.2.1 0 0)) 1 (nI n)) 2 (fr (mHa1 M) n 0)) 3 (fr (mc1 X 3) n 0)) 4 (fr (mk4 M) r 0)) 5 (fr (jp1 M) n 0)) 6 (fr (mc1 X 6) n 0))))))) ((gW_tU (by decide)).trans (congrArg _ (tU_tU _ _ _ _))) ?_
      refine Y_dup C dX3_isSame_468 rfl ?_
      refine Y_bipush C (v := 7) dX3_isSame_469 (by decide) ?_
      refine Y_iload C dX3_isSame_471 rfl ?_
      refine Y_iast C (f' := upd (upd (upd (upd (upd (upd (upd (upd (fun _ => 0) 0 (M.2.2.1 0 0)) 1 (nI n)) 2 (fr (mHa1 M) n 0)) 3 (fr (mc1 X 3) n 0)) 4 (fr (mk4 M) r 0)) 5 (fr (jp1 M) n 0)) 6 (fr (mc1 X 6) n 0)) 7 (fr (mc1 X 7) n 0)) dX3_isSame_473 ((gW_hi (by decide)).trans (tU_s _ _ _)) (vp_in_nI (n := 7) (N := 8) (by decide) (by decide)) rfl (w' := gW (xW K D B) n r M (tU (fun _ => none) 416 (some (.inl (0, 8, .inl (upd (upd (upd (upd (upd (upd (upd (upd (fun _ => 0) 0 (M.2.2.1 0 0)) 1 (nI n)) 2 (fr (mHa1 M) n 0)) 3 (fr (mc1 X 3) n 0)) 4 (fr (mk4 M) r 0)) 5 (fr (jp1 M) n 0)) 6 (fr (mc1 X 6) n 0)) 7 (fr (mc1 X 7) n 0))))))) ((gW_tU (by decide)).trans (congrArg _ (tU_tU _ _ _ _))) ?_
      subst hX
      refine Y_fn (mCt (mRk M)) ((gW_hi (by decide)).trans (tU_s _ _ _)) (fun j hj => by rcases (show j = 0 ∨ j = 1 ∨ j = 2 ∨ j = 3 ∨ j = 4 ∨ j = 5 ∨ j = 6 ∨ j = 7 by omega) with rfl | rfl | rfl | rfl | rfl | rfl | rfl | rfl; exact (ct_0 I).symm; exact (ct_1 I).symm; exact (ct_2 I).symm; exact (ct_fr I (Or.inl rfl)).symm; exact (ct_4 I).symm; exact (ct_5 I).symm; exact (ct_fr I (Or.inr (Or.inl rfl))).symm; exact (ct_fr I (Or.inr (Or.inr rfl))).symm) ?_
      refine Y_eq (w' := gW (xW K D B) n r M (tU (fun _ => none) 416 (some (.inl (0, 8, .inl (mCt (mRk M))))))) ((gW_tU (by decide)).trans (congrArg _ (tU_tU _ _ _ _))) ?_
      refine Y_astore C (L' := [(7, .ref 416), (5, .int (fr (mSm1 (mRk M)) n 0)), (4, .int (fr (mc1 (mRk M) 7) n 0)), (3, .int (fr (mc1 (mRk M) 6) n 0)), (2, .int (fr (mc1 (mRk M) 3) n 0)), (0, .ref 100), (1, .ref 0)]) dX3_isSame_474 (by decide) rfl ?_
      refine Y_iconst C (v := nI 0) dX3_isSame_476 (by decide) ?_
      refine Y_istore C (L' := [(8, .int (nI 0)), (7, .ref 416), (5, .int (fr (mSm1 (mRk M)) n 0)), (4, .int (fr (mc1 (mRk M) 7) n 0)), (3, .int (fr (mc1 (mRk M) 6) n 0)), (2, .int (fr (mc1 (mRk M) 3) n 0)), (0, .ref 100), (1, .ref 0)]) dX3_isSame_477 (by decide) rfl ?_
      refine Y_sub (L' := [(8, .int (nI 0)), (7, .ref 416), (5, .int (fr (mSm1 (mRk M)) n 0)), (0, .ref 100), (1, .ref 0)]) (by simp) ?_
      refine Y_widen (k' := 534 + 0) (n' := 3430 + 6 * 0) (by decide) (by decide) ?_
      refine Zfor (σ := Unit) (fun i10 X10 => Y p l e _ s m args below meth c 14 G A h9 _ (534 + i10) (3430 + 6 * i10) (gW (xW K D B) n r M (tU (fun _ => none) 416 (some (.inl (0, 8, .inl (mCt (mRk M))))))) 479 [(8, .int (nI i10)), (7, .ref 416), (5, .int (fr (mSm1 (mRk M)) n 0)), (0, .ref 100), (1, .ref 0)] []) (fun i10 X10 => True) (fun _ u => u) 8 () trivial (fun _ _ _ _ => trivial) (fun X10 hX10 eX10 => ?_) (fun i10 X10 hi10 hX10 hX10' kk10 => ?_)
      · skip
        refine Y_iload C dX3_isSame_479 rfl ?_
        refine Y_bipush C (v := 8) dX3_isSame_481 (by decide) ?_
        refine Y_icmp_ge C 508 dX3_isSame_483 (by decide) (fun cc11 => ?_) (fun cc11 => absurd (Int32.le_refl _) cc11)
        refine Y_aload_n C dX3_isSame_508 rfl rfl ?_
        refine Y_widen (k' := 550) (n' := 3500) (by decide) (by decide) ?_
        obtain ⟨m1, m2, m3⟩ := mean_go I
        refine Y_callT C (c_X2_mean K D B I.kn h40 m3) m_X2_mean K2 g_419 dX3_isSame_509 rfl (fun _ _ h => xW_in h) rfl xW_up rfl rfl ⟨Nat.le_of_ble_eq_true rfl, Nat.le_of_ble_eq_true rfl⟩ ⟨Nat.le_of_ble_eq_true rfl, Nat.le_of_ble_eq_true rfl⟩ (Nat.le_of_ble_eq_true rfl) ?_
        refine Y_stk [.double (cMn K)] rfl ?_
        refine Y_aload_n C dX3_isSame_512 rfl rfl ?_
        refine Y_callM C S (c_X3_hanging (V := xW K D B) (r := r) (M := M) (T := tU (fun _ => none) 416 (some (.inl (0, 8, .inl (mCt (mRk M)))))) h40 h30 (fun i hi => (I.2.2.1 i hi).2.2.2.2.2.2.1)) m_X3_hanging K3 g_406 dX3_isSame_513 gW_100 rfl rfl ⟨Nat.le_of_ble_eq_true rfl, Nat.le_of_ble_eq_true rfl⟩ ⟨Nat.le_of_ble_eq_true rfl, Nat.le_of_ble_eq_true rfl⟩ (Nat.le_of_ble_eq_true rfl) ⟨trivial, (by first | trivial | (unfold vR; (try dsimp only); omega)), trivial, (by first | trivial | (unfold vR; (try dsimp only); omega)), (by first | trivial | (unfold vR; (try dsimp only); omega)), trivial⟩ ⟨trivial, trivial⟩ (fun h12 r12 w12 ag12 F12 => ?_)
        obtain ⟨rfl, rfl⟩ := F12
        refine Y_stk [.int (fr (mHa1 M) n 0), .double (cMn K)] rfl ?_
        refine Y_if_ne C 523 dX3_isSame_516 (by decide) (fun cc13 => ?_) (fun cc13 => ?_)
        · refine Y_iload C dX3_isSame_523 rfl ?_
          refine Y_i2d C dX3_isSame_525 rfl ?_
          refine Y_aload_n C dX3_isSame_526 rfl rfl ?_
          refine Y_callM C S (c_X3_hanging (V := xW K D B) (r := r) (M := M) (T := tU (fun _ => none) 416 (some (.inl (0, 8, .inl (mCt (mRk M)))))) h40 h30 (fun i hi => (I.2.2.1 i hi).2.2.2.2.2.2.1)) m_X3_hanging K3 g_406 dX3_isSame_527 gW_100 rfl rfl ⟨Nat.le_of_ble_eq_true rfl, Nat.le_of_ble_eq_true rfl⟩ ⟨Nat.le_of_ble_eq_true rfl, Nat.le_of_ble_eq_true rfl⟩ (Nat.le_of_ble_eq_true rfl) ⟨trivial, (by first | trivial | (unfold vR; (try dsimp only); omega)), trivial, (by first | trivial | (unfold vR; (try dsimp only); omega)), (by first | trivial | (unfold vR; (try dsimp only); omega)), trivial⟩ ⟨trivial, trivial, trivial⟩ (fun h14 r14 w14 ag14 F14 => ?_)
          obtain ⟨rfl, rfl⟩ := F14
          refine Y_stk [.int (fr (mHa1 M) n 0), .double (FP.i2d (fr (mSm1 (mRk M)) n 0)), .double (cMn K)] rfl ?_
          refine Y_i2d C dX3_isSame_530 rfl ?_
          refine Y_ddiv C dX3_isSame_531 (m2 cc13) rfl ?_
          have m4 := m2 cc13
          rw [show cMn K = FP.ddiv (FP.i2d (fr (mSm1 (mRk M)) n 0)) (FP.i2d (fr (mHa1 M) n 0)) from by rw [m1, if_neg cc13]]
          refine Y_dcmp C (v := 0) dX3_isSame_532 (dcmp_self m4) ?_
          refine Y_if_ne C 540 dX3_isSame_533 (by decide) (fun cc15 => absurd (by decide) cc15) (fun cc15 => ?_)
          refine Y_iconst C (v := 1) dX3_isSame_536 (by decide) ?_
          refine Y_goto C 541 dX3_isSame_537 (by decide) ?_
          refine Y_widen (k' := 600) (n' := 4000) (by decide) (by decide) ?_
          exact Y_zret C hr hlk dX3_isSame_541 rfl (fun i hi => hi.elim) rfl
        · refine Y_dconst0 C dX3_isSame_519 ?_
          refine Y_goto C 532 dX3_isSame_520 (by decide) ?_
          rw [show cMn K = FP.dconst0 from by rw [m1, if_pos cc13]]
          refine Y_dcmp C (v := 0) dX3_isSame_532 (dcmp_self nn_d0) ?_
          refine Y_if_ne C 540 dX3_isSame_533 (by decide) (fun cc16 => absurd (by decide) cc16) (fun cc16 => ?_)
          refine Y_iconst C (v := 1) dX3_isSame_536 (by decide) ?_
          refine Y_goto C 541 dX3_isSame_537 (by decide) ?_
          refine Y_widen (k' := 600) (n' := 4000) (by decide) (by decide) ?_
          exact Y_zret C hr hlk dX3_isSame_541 rfl (fun i hi => hi.elim) rfl
      · skip
        refine Y_iload C dX3_isSame_479 rfl ?_
        refine Y_bipush C (v := 8) dX3_isSame_481 (by decide) ?_
        refine Y_icmp_ge C 508 dX3_isSame_483 (by decide) (fun cc17 => absurd cc17 (nI_ge (b := 8) hi10 (by decide))) (fun cc17 => ?_)
        refine Y_aload_n C dX3_isSame_486 rfl rfl ?_
        refine Y_iload C dX3_isSame_487 rfl ?_
        obtain ⟨y0, y1⟩ := go_count I hi10
        refine Y_callG (K' := K) (D' := D) (B' := B) C S (c_X2_count K D B (nI i10) I.kn h40 I.br h30) y0 m_X2_count K2 g_418 dX3_isSame_489 rfl rfl ⟨Nat.le_of_ble_eq_true rfl, Nat.le_of_ble_eq_true rfl⟩ ⟨by show 534 + i10 + 1 ≤ 600; omega, by show 3430 + 6 * i10 + 6 ≤ 4000; omega⟩ (Nat.le_of_ble_eq_true rfl) ?_
        refine Y_stk [.int ((cCount K B (nI i10)).2)] rfl ?_
        refine Y_stk [.int (mCt (mRk M) i10)] (by rw [y1]) ?_
        refine Y_aload C dX3_isSame_492 rfl ?_
        refine Y_iload C dX3_isSame_494 rfl ?_
        refine Y_iald C (v := mCt (mRk M) i10) dX3_isSame_496 ((gW_hi (by decide)).trans (tU_s _ _ _)) (vp_in_nI hi10 (by omega)) (by rw [nI_clamp (by omega)] <;> rfl) ?_
        refine Y_icmp_eq C 502 dX3_isSame_497 (by decide) (fun cc18 => ?_) (fun cc18 => absurd rfl cc18)
        refine Y_iinc C (L' := [(8, .int (nI (i10 + 1))), (7, .ref 416), (5, .int (fr (mSm1 (mRk M)) n 0)), (0, .ref 100), (1, .ref 0)]) (v := nI (i10 + 1)) dX3_isSame_502 rfl (nI_inc _) (by decide) rfl ?_
        refine Y_goto C 479 dX3_isSame_505 (by decide) ?_
        refine Y_widen (k' := 534 + (i10 + 1)) (n' := 3430 + 6 * (i10 + 1)) (by omega) (by omega) ?_
        exact Y_sub (by simp [bI_t, bI_f]) (kk10)
    · skip
      refine Y_iload C dX3_isSame_365 rfl ?_
      refine Y_aload_n C dX3_isSame_367 rfl rfl ?_
      refine Y_get C K3 (v := .ref 102) 1 dX3_isSame_368 gW_100 (by decide) g_579 rfl rfl ?_
      refine Y_alen C (i := 3) (v := nI r) dX3_isSame_371 gW_102 rfl rfl ?_
      refine Y_icmp_ge C 419 dX3_isSame_372 (by decide) (fun cc19 => absurd cc19 (nI_ge hi4 (by omega))) (fun cc19 => ?_)
      refine Y_iconst C (v := nI 0) dX3_isSame_375 (by decide) ?_
      refine Y_istore C (L' := [(8, .int (nI 0)), (7, .int (nI i4)), (5, .int X2.2.2.2), (4, .int X2.2.2.1), (3, .int X2.2.1), (2, .int X2.1), (0, .ref 100), (1, .ref 0)]) dX3_isSame_376 (by decide) rfl ?_
      refine Y_widen (k' := 443 + 3 * i4 + 0) (n' := 2882 + 18 * i4 + 6 * 0) (by omega) (by omega) ?_
      refine Zfor (σ := Unit) (fun i20 X20 => Y p l e _ s m args below meth c 14 G A hv2 _ (443 + 3 * i4 + i20) (2882 + 18 * i4 + 6 * i20) (gW (xW K D B) n r M (fun _ => none)) 378 [(8, .int (nI i20)), (7, .int (nI i4)), (5, .int X2.2.2.2), (4, .int X2.2.2.1), (3, .int X2.2.1), (2, .int X2.1), (0, .ref 100), (1, .ref 0)] []) (fun i20 X20 => True) (fun _ u => u) 3 () trivial (fun _ _ _ _ => trivial) (fun X20 hX20 eX20 => ?_) (fun i20 X20 hi20 hX20 hX20' kk20 => ?_)
      · skip
        refine Y_iload C dX3_isSame_378 rfl ?_
        refine Y_iconst C (v := 3) dX3_isSame_380 (by decide) ?_
        refine Y_icmp_ge C 413 dX3_isSame_381 (by decide) (fun cc21 => ?_) (fun cc21 => absurd (Int32.le_refl _) cc21)
        refine Y_iinc C (L' := [(7, .int (nI (i4 + 1))), (8, .int (nI 3)), (5, .int X2.2.2.2), (4, .int X2.2.2.1), (3, .int X2.2.1), (2, .int X2.1), (0, .ref 100), (1, .ref 0)]) (v := nI (i4 + 1)) dX3_isSame_413 rfl (nI_inc _) (by decide) rfl ?_
        refine Y_goto C 365 dX3_isSame_416 (by decide) ?_
        refine Y_widen (k' := 443 + 3 * (i4 + 1)) (n' := 2882 + 18 * (i4 + 1)) (by omega) (by omega) ?_
        exact Y_sub (by simp [bI_t, bI_f]) (kk4)
      · skip
        refine Y_iload C dX3_isSame_378 rfl ?_
        refine Y_iconst C (v := 3) dX3_isSame_380 (by decide) ?_
        refine Y_icmp_ge C 413 dX3_isSame_381 (by decide) (fun cc22 => absurd cc22 (nI_ge (b := 3) hi20 (by decide))) (fun cc22 => ?_)
        refine Y_aload_n C dX3_isSame_384 rfl rfl ?_
        refine Y_iload C dX3_isSame_385 rfl ?_
        refine Y_iload C dX3_isSame_387 rfl ?_
        obtain ⟨y0, y1⟩ := go_joins I hi4 hi20
        refine Y_callG (K' := K) (D' := D) (B' := B) C S (c_X2_joins K D B (nI i4) (nI i20) I.kn h40 I.br h30) y0 m_X2_joins K2 g_405 dX3_isSame_389 rfl rfl ⟨Nat.le_of_ble_eq_true rfl, Nat.le_of_ble_eq_true rfl⟩ ⟨by show 443 + 3 * i4 + i20 + 1 ≤ 600; omega, by show 2882 + 18 * i4 + 6 * i20 + 6 ≤ 4000; omega⟩ (Nat.le_of_ble_eq_true rfl) ?_
        refine Y_stk [.int ((cJoins K B (nI i4) (nI i20)).2)] rfl ?_
        refine Y_stk [.int (M.2.1 i20 i4)] (by rw [y1]) ?_
        refine Y_aload_n C dX3_isSame_392 rfl rfl ?_
        refine Y_get C K3 (v := .ref 102) 1 dX3_isSame_393 gW_100 (by decide) g_579 rfl rfl ?_
        refine Y_iload C dX3_isSame_396 rfl ?_
        refine Y_aald C (j := 300 + i4) dX3_isSame_398 gW_102 (vp_in_nI hi4 (by omega)) (by rw [nI_clamp (by omega)]; exact rfT_at hi4) ?_
        refine Y_iload C dX3_isSame_399 rfl ?_
        refine Y_iald C (v := M.2.1 i20 i4) dX3_isSame_401 (gW_sa h40 h30 hi4) (vp_in_nI (N := 3) hi20 (by decide)) (by rw [nI_clamp (by omega)]) ?_
        refine Y_icmp_eq C 407 dX3_isSame_402 (by decide) (fun cc23 => ?_) (fun cc23 => absurd rfl cc23)
        refine Y_iinc C (L' := [(8, .int (nI (i20 + 1))), (7, .int (nI i4)), (5, .int X2.2.2.2), (4, .int X2.2.2.1), (3, .int X2.2.1), (2, .int X2.1), (0, .ref 100), (1, .ref 0)]) (v := nI (i20 + 1)) dX3_isSame_407 rfl (nI_inc _) (by decide) rfl ?_
        refine Y_goto C 378 dX3_isSame_410 (by decide) ?_
        refine Y_widen (k' := 443 + 3 * i4 + (i20 + 1)) (n' := 2882 + 18 * i4 + 6 * (i20 + 1)) (by omega) (by omega) ?_
        exact Y_sub (by simp [bI_t, bI_f]) (kk20)
  · intro hv2 av2
    refine Y_iload C dX3_isSame_19 rfl ?_
    refine Y_aload_n C dX3_isSame_21 rfl rfl ?_
    refine Y_get C K3 (v := .ref 101) 0 dX3_isSame_22 gW_100 (by decide) g_577 rfl rfl ?_
    refine Y_alen C (i := 2) (v := nI n) dX3_isSame_25 gW_101 rfl rfl ?_
    refine Y_icmp_ge C 362 dX3_isSame_26 (by decide) (fun cc24 => absurd cc24 (nI_ge hi2 (by omega))) (fun cc24 => ?_)
    refine Y_aload_n C dX3_isSame_29 rfl rfl ?_
    refine Y_get C K3 (v := .ref 101) 0 dX3_isSame_30 gW_100 (by decide) g_577 rfl rfl ?_
    refine Y_iload C dX3_isSame_33 rfl ?_
    refine Y_aaldq C (j := 200 + 2 * i2) dX3_isSame_35 gW_101 (vp_in_nI hi2 (by omega)) (by rw [nI_clamp (by omega)]; exact rfS_at hi2) ?_
    refine Y_astore C (L' := [(8, .ref (200 + 2 * i2)), (7, .int (nI i2)), (6, .ref 412), (5, .int X2.2.2.2), (4, .int X2.2.2.1), (3, .int X2.2.1), (2, .int X2.1), (0, .ref 100), (1, .ref 0)]) dX3_isSame_36 (by decide) rfl ?_
    refine Y_iconst C (v := 0) dX3_isSame_38 (by decide) ?_
    refine Y_istore C (L' := [(9, .int 0), (8, .ref (200 + 2 * i2)), (7, .int (nI i2)), (6, .ref 412), (5, .int X2.2.2.2), (4, .int X2.2.2.1), (3, .int X2.2.1), (2, .int X2.1), (0, .ref 100), (1, .ref 0)]) dX3_isSame_39 (by decide) rfl ?_
    refine Y_aload_n C dX3_isSame_41 rfl rfl ?_
    refine Y_get C K3 (v := .ref 101) 0 dX3_isSame_42 gW_100 (by decide) g_577 rfl rfl ?_
    refine Y_astore C (L' := [(10, .ref 101), (9, .int 0), (8, .ref (200 + 2 * i2)), (7, .int (nI i2)), (6, .ref 412), (5, .int X2.2.2.2), (4, .int X2.2.2.1), (3, .int X2.2.1), (2, .int X2.1), (0, .ref 100), (1, .ref 0)]) dX3_isSame_45 (by decide) rfl ?_
    refine Y_aload C dX3_isSame_47 rfl ?_
    refine Y_alen C (i := 2) (v := nI n) dX3_isSame_49 gW_101 rfl rfl ?_
    refine Y_istore C (L' := [(11, .int (nI n)), (10, .ref 101), (9, .int 0), (8, .ref (200 + 2 * i2)), (7, .int (nI i2)), (6, .ref 412), (5, .int X2.2.2.2), (4, .int X2.2.2.1), (3, .int X2.2.1), (2, .int X2.1), (0, .ref 100), (1, .ref 0)]) dX3_isSame_50 (by decide) rfl ?_
    refine Y_iconst C (v := nI 0) dX3_isSame_52 (by decide) ?_
    refine Y_istore C (L' := [(12, .int (nI 0)), (11, .int (nI n)), (10, .ref 101), (9, .int 0), (8, .ref (200 + 2 * i2)), (7, .int (nI i2)), (6, .ref 412), (5, .int X2.2.2.2), (4, .int X2.2.2.1), (3, .int X2.2.1), (2, .int X2.1), (0, .ref 100), (1, .ref 0)]) dX3_isSame_53 (by decide) rfl ?_
    refine Zfor (σ := Int32) (fun i25 X25 => ∀ hv25 : Nat → Nat, (∀ x, (fun i => (i < 410 ∨ 412 < i) ∧ i ≠ 415) x → hv25 x = h x) → Y p l e _ s m args below meth c 14 G A hv25 _ (3 + 11 * i2) (82 + 70 * i2) (gW (xW K D B) n r M (tRf (fun _ => none) n f g)) 55 [(12, .int (nI i25)), (11, .int (nI n)), (10, .ref 101), (9, .int X25), (8, .ref (200 + 2 * i2)), (7, .int (nI i2)), (6, .ref 412), (5, .int X2.2.2.2), (4, .int X2.2.2.1), (3, .int X2.2.1), (2, .int X2.1), (0, .ref 100), (1, .ref 0)] []) (fun i25 X25 => True) (hc1 M i2) n 0 trivial (fun _ _ _ _ => trivial) (fun X25 hX25 eX25 => ?_) (fun i25 X25 hi25 hX25 hX25' kk25 => ?_) hv2 (fun i hi => (av2 i (by first | trivial | exact hi | ((try unfold kpA at hi); (try dsimp only at hi); (try dsimp only); omega))))
    · intro hv25 av25
      subst eX25
      refine Y_iload C dX3_isSame_55 rfl ?_
      refine Y_iload C dX3_isSame_57 rfl ?_
      refine Y_icmp_ge C 103 dX3_isSame_59 (by decide) (fun cc26 => ?_) (fun cc26 => absurd (Int32.le_refl _) cc26)
      refine Y_aload C dX3_isSame_103 rfl ?_
      refine Y_iconst C (v := 0) dX3_isSame_105 (by decide) ?_
      refine Y_aald C (j := 410) dX3_isSame_106 ((gW_hi (by decide)).trans rfl) (vp_in_nI (n := 0) (N := 2) (by decide) (by decide)) rfl ?_
      refine Y_iload C dX3_isSame_107 rfl ?_
      refine Y_iald C (v := f i2) dX3_isSame_109 ((gW_hi (by decide)).trans rfl) (vp_in_nI hi2 (by omega)) (by rw [nI_clamp (by omega)] <;> rfl) ?_
      refine Y_istore C (L' := [(10, .int (f i2)), (12, .int (nI n)), (11, .int (nI n)), (9, .int (fr (hc1 M i2) n 0)), (8, .ref (200 + 2 * i2)), (7, .int (nI i2)), (6, .ref 412), (5, .int X2.2.2.2), (4, .int X2.2.2.1), (3, .int X2.2.1), (2, .int X2.1), (0, .ref 100), (1, .ref 0)]) dX3_isSame_110 (by decide) rfl ?_
      refine Y_sub (L' := [(10, .int (f i2)), (9, .int (fr (hc1 M i2) n 0)), (8, .ref (200 + 2 * i2)), (7, .int (nI i2)), (6, .ref 412), (5, .int X2.2.2.2), (4, .int X2.2.2.1), (3, .int X2.2.1), (2, .int X2.1), (0, .ref 100), (1, .ref 0)]) (by simp) ?_
      refine Y_sub (L' := [(0, .ref 100), (1, .ref 0), (2, .int X2.1), (3, .int X2.2.1), (4, .int X2.2.2.1), (5, .int X2.2.2.2), (6, .ref 412), (7, .int (nI i2)), (8, .ref (200 + 2 * i2)), (9, .int (fr (hc1 M i2) n 0)), (10, .int (f i2))]) (by simp) ?_
      refine told_row C I hC hi2 ((hf i2 hi2).trans (by rw [hX])) ((hgg i2 hi2).trans (by rw [hX])) hT1 rfl rfl (by omega) (by omega) (fun h9 ag9 => ?_)
      refine Y_astore C (L' := [(11, .ref 415), (0, .ref 100), (1, .ref 0), (2, .int X2.1), (3, .int X2.2.1), (4, .int X2.2.2.1), (5, .int X2.2.2.2), (6, .ref 412), (7, .int (nI i2)), (8, .ref (200 + 2 * i2)), (9, .int (fr (hc1 M i2) n 0)), (10, .int (f i2))]) dX3_isSame_259 (by decide) rfl ?_
      refine Y_iconst C (v := nI 0) dX3_isSame_261 (by decide) ?_
      refine Y_istore C (L' := [(12, .int (nI 0)), (11, .ref 415), (0, .ref 100), (1, .ref 0), (2, .int X2.1), (3, .int X2.2.1), (4, .int X2.2.2.1), (5, .int X2.2.2.2), (6, .ref 412), (7, .int (nI i2)), (8, .ref (200 + 2 * i2)), (9, .int (fr (hc1 M i2) n 0)), (10, .int (f i2))]) dX3_isSame_262 (by decide) rfl ?_
      refine Y_widen (k' := 3 + 11 * i2 + 1 + 0) (n' := 82 + 70 * i2 + 10 + 6 * 0) (by omega) (by omega) ?_
      refine Zfor (σ := Unit) (fun i47 X47 => Y p l e _ s m args below meth c 14 G A h9 _ (3 + 11 * i2 + 1 + i47) (82 + 70 * i2 + 10 + 6 * i47) (gW (xW K D B) n r M (tU (tRf (fun _ => none) n f g) 415 (some (.inl (0, 10, .inl (tl M i2)))))) 264 [(12, .int (nI i47)), (11, .ref 415), (0, .ref 100), (1, .ref 0), (2, .int X2.1), (3, .int X2.2.1), (4, .int X2.2.2.1), (5, .int X2.2.2.2), (6, .ref 412), (7, .int (nI i2)), (8, .ref (200 + 2 * i2)), (9, .int (fr (hc1 M i2) n 0)), (10, .int (f i2))] []) (fun i47 X47 => True) (fun _ u => u) 10 () trivial (fun _ _ _ _ => trivial) (fun X47 hX47 eX47 => ?_) (fun i47 X47 hi47 hX47 hX47' kk47 => ?_)
      · skip
        refine Y_iload C dX3_isSame_264 rfl ?_
        refine Y_bipush C (v := 10) dX3_isSame_266 (by decide) ?_
        refine Y_icmp_ge C 295 dX3_isSame_268 (by decide) (fun cc48 => ?_) (fun cc48 => absurd (Int32.le_refl _) cc48)
        refine Y_less (w' := gW (xW K D B) n r M (tRf (fun _ => none) n f g)) (gW_less (fun i e q => by by_cases z : i = 415; exact absurd q (by rw [z]; exact fun y => by cases y); rw [tU_n _ _ z]; exact q)) ?_
        refine Y_iload C dX3_isSame_295 rfl ?_
        refine Y_iload C dX3_isSame_297 rfl ?_
        refine Y_iadd C (v := X2.2.2.2 + (f i2)) dX3_isSame_299 rfl ?_
        refine Y_istore C (L' := [(5, .int (X2.2.2.2 + (f i2))), (12, .int (nI 10)), (11, .ref 415), (0, .ref 100), (1, .ref 0), (2, .int X2.1), (3, .int X2.2.1), (4, .int X2.2.2.1), (6, .ref 412), (7, .int (nI i2)), (8, .ref (200 + 2 * i2)), (9, .int (fr (hc1 M i2) n 0)), (10, .int (f i2))]) dX3_isSame_300 (by decide) rfl ?_
        refine Y_aload C dX3_isSame_302 rfl ?_
        refine Y_get C K4 (v := .int (M.1 2 i2)) 2 dX3_isSame_304 (gW_st h40 hi2) (by decide) g_452 rfl rfl ?_
        refine Y_if_ne C 313 dX3_isSame_307 (by decide) (fun cc49 => ?_) (fun cc49 => ?_)
        · refine Y_iload_n C dX3_isSame_313 rfl rfl ?_
          refine Y_aload C dX3_isSame_314 rfl ?_
          refine Y_get C K4 (v := .int (M.1 3 i2)) 3 dX3_isSame_316 (gW_st h40 hi2) (by decide) g_454 rfl rfl ?_
          have e9 : mHg X i2 = true := by rw [← hX, mRk_hg]; exact (JI_hg I.2.2.1 hi2).mpr cc49
          have eX : X.1 = M.1 := by rw [← hX]; exact mt_Rk M
          refine Y_if_le C 326 dX3_isSame_319 (by decide) (fun cc50 => ?_) (fun cc50 => ?_)
          · refine Y_iconst C (v := 0) dX3_isSame_326 (by decide) ?_
            refine Y_iadd C (v := X2.1 + 0) dX3_isSame_327 rfl ?_
            refine Y_istore_n C (L' := [(2, .int (X2.1 + 0)), (5, .int (X2.2.2.2 + (f i2))), (12, .int (nI 10)), (11, .ref 415), (0, .ref 100), (1, .ref 0), (3, .int X2.2.1), (4, .int X2.2.2.1), (6, .ref 412), (7, .int (nI i2)), (8, .ref (200 + 2 * i2)), (9, .int (fr (hc1 M i2) n 0)), (10, .int (f i2))]) dX3_isSame_328 rfl (by decide) rfl ?_
            refine Y_iload C dX3_isSame_329 rfl ?_
            refine Y_aload C dX3_isSame_331 rfl ?_
            refine Y_get C K4 (v := .int (M.1 3 i2)) 3 dX3_isSame_333 (gW_st h40 hi2) (by decide) g_454 rfl rfl ?_
            refine Y_if_le C 344 dX3_isSame_336 (by decide) (fun cc51 => ?_) (fun cc51 => absurd cc50 cc51)
            refine Y_iconst C (v := 0) dX3_isSame_344 (by decide) ?_
            refine Y_iadd C (v := X2.2.2.1 + 0) dX3_isSame_345 rfl ?_
            refine Y_istore C (L' := [(4, .int (X2.2.2.1 + 0)), (2, .int (X2.1 + 0)), (5, .int (X2.2.2.2 + (f i2))), (12, .int (nI 10)), (11, .ref 415), (0, .ref 100), (1, .ref 0), (3, .int X2.2.1), (6, .ref 412), (7, .int (nI i2)), (8, .ref (200 + 2 * i2)), (9, .int (fr (hc1 M i2) n 0)), (10, .int (f i2))]) dX3_isSame_346 (by decide) rfl ?_
            refine Y_iload_n C dX3_isSame_348 rfl rfl ?_
            refine Y_aload C dX3_isSame_349 rfl ?_
            refine Y_get C K4 (v := .int (M.1 6 i2)) 5 dX3_isSame_351 (gW_st h40 hi2) (by decide) g_458 rfl rfl ?_
            refine Y_iadd C (v := X2.2.1 + (M.1 6 i2)) dX3_isSame_354 rfl ?_
            refine Y_istore_n C (L' := [(3, .int (X2.2.1 + (M.1 6 i2))), (4, .int (X2.2.2.1 + 0)), (2, .int (X2.1 + 0)), (5, .int (X2.2.2.2 + (f i2))), (12, .int (nI 10)), (11, .ref 415), (0, .ref 100), (1, .ref 0), (6, .ref 412), (7, .int (nI i2)), (8, .ref (200 + 2 * i2)), (9, .int (fr (hc1 M i2) n 0)), (10, .int (f i2))]) dX3_isSame_355 rfl (by decide) rfl ?_
            refine Y_iinc C (L' := [(7, .int (nI (i2 + 1))), (3, .int (X2.2.1 + (M.1 6 i2))), (4, .int (X2.2.2.1 + 0)), (2, .int (X2.1 + 0)), (5, .int (X2.2.2.2 + (f i2))), (12, .int (nI 10)), (11, .ref 415), (0, .ref 100), (1, .ref 0), (6, .ref 412), (8, .ref (200 + 2 * i2)), (9, .int (fr (hc1 M i2) n 0)), (10, .int (f i2))]) (v := nI (i2 + 1)) dX3_isSame_356 rfl (nI_inc _) (by decide) rfl ?_
            refine Y_goto C 19 dX3_isSame_359 (by decide) ?_
            refine Y_widen (k' := 3 + 11 * (i2 + 1)) (n' := 82 + 70 * (i2 + 1)) (by omega) (by omega) ?_
            rw [show sG X i2 X2 = (X2.1 + 0, X2.2.1 + (M.1 6 i2), X2.2.2.1 + 0, X2.2.2.2 + (f i2)) from by unfold sG mc1 mSm1; rw [if_pos e9, if_pos e9, if_pos e9, eX, if_pos cc50, if_pos cc50, hf i2 hi2]; rfl] at kk2
            exact Y_sub (by simp [bI_t, bI_f]) (kk2 h9 (fun i hi => ((ag9 i (by first | trivial | exact hi | ((try unfold kpA at hi); (try dsimp only at hi); (try dsimp only); omega))).trans (av25 i (by first | trivial | exact hi | ((try unfold kpA at hi); (try dsimp only at hi); (try dsimp only); omega))))))
          · refine Y_iconst C (v := 1) dX3_isSame_322 (by decide) ?_
            refine Y_goto C 327 dX3_isSame_323 (by decide) ?_
            refine Y_iadd C (v := X2.1 + 1) dX3_isSame_327 rfl ?_
            refine Y_istore_n C (L' := [(2, .int (X2.1 + 1)), (5, .int (X2.2.2.2 + (f i2))), (12, .int (nI 10)), (11, .ref 415), (0, .ref 100), (1, .ref 0), (3, .int X2.2.1), (4, .int X2.2.2.1), (6, .ref 412), (7, .int (nI i2)), (8, .ref (200 + 2 * i2)), (9, .int (fr (hc1 M i2) n 0)), (10, .int (f i2))]) dX3_isSame_328 rfl (by decide) rfl ?_
            refine Y_iload C dX3_isSame_329 rfl ?_
            refine Y_aload C dX3_isSame_331 rfl ?_
            refine Y_get C K4 (v := .int (M.1 3 i2)) 3 dX3_isSame_333 (gW_st h40 hi2) (by decide) g_454 rfl rfl ?_
            refine Y_if_le C 344 dX3_isSame_336 (by decide) (fun cc52 => absurd cc52 cc50) (fun cc52 => ?_)
            refine Y_iload C dX3_isSame_339 rfl ?_
            refine Y_goto C 345 dX3_isSame_341 (by decide) ?_
            refine Y_iadd C (v := X2.2.2.1 + (f i2)) dX3_isSame_345 rfl ?_
            refine Y_istore C (L' := [(4, .int (X2.2.2.1 + (f i2))), (2, .int (X2.1 + 1)), (5, .int (X2.2.2.2 + (f i2))), (12, .int (nI 10)), (11, .ref 415), (0, .ref 100), (1, .ref 0), (3, .int X2.2.1), (6, .ref 412), (7, .int (nI i2)), (8, .ref (200 + 2 * i2)), (9, .int (fr (hc1 M i2) n 0)), (10, .int (f i2))]) dX3_isSame_346 (by decide) rfl ?_
            refine Y_iload_n C dX3_isSame_348 rfl rfl ?_
            refine Y_aload C dX3_isSame_349 rfl ?_
            refine Y_get C K4 (v := .int (M.1 6 i2)) 5 dX3_isSame_351 (gW_st h40 hi2) (by decide) g_458 rfl rfl ?_
            refine Y_iadd C (v := X2.2.1 + (M.1 6 i2)) dX3_isSame_354 rfl ?_
            refine Y_istore_n C (L' := [(3, .int (X2.2.1 + (M.1 6 i2))), (4, .int (X2.2.2.1 + (f i2))), (2, .int (X2.1 + 1)), (5, .int (X2.2.2.2 + (f i2))), (12, .int (nI 10)), (11, .ref 415), (0, .ref 100), (1, .ref 0), (6, .ref 412), (7, .int (nI i2)), (8, .ref (200 + 2 * i2)), (9, .int (fr (hc1 M i2) n 0)), (10, .int (f i2))]) dX3_isSame_355 rfl (by decide) rfl ?_
            refine Y_iinc C (L' := [(7, .int (nI (i2 + 1))), (3, .int (X2.2.1 + (M.1 6 i2))), (4, .int (X2.2.2.1 + (f i2))), (2, .int (X2.1 + 1)), (5, .int (X2.2.2.2 + (f i2))), (12, .int (nI 10)), (11, .ref 415), (0, .ref 100), (1, .ref 0), (6, .ref 412), (8, .ref (200 + 2 * i2)), (9, .int (fr (hc1 M i2) n 0)), (10, .int (f i2))]) (v := nI (i2 + 1)) dX3_isSame_356 rfl (nI_inc _) (by decide) rfl ?_
            refine Y_goto C 19 dX3_isSame_359 (by decide) ?_
            refine Y_widen (k' := 3 + 11 * (i2 + 1)) (n' := 82 + 70 * (i2 + 1)) (by omega) (by omega) ?_
            rw [show sG X i2 X2 = (X2.1 + 1, X2.2.1 + (M.1 6 i2), X2.2.2.1 + (f i2), X2.2.2.2 + (f i2)) from by unfold sG mc1 mSm1; rw [if_pos e9, if_pos e9, if_pos e9, eX, if_neg cc50, if_neg cc50, hf i2 hi2]; rfl] at kk2
            exact Y_sub (by simp [bI_t, bI_f]) (kk2 h9 (fun i hi => ((ag9 i (by first | trivial | exact hi | ((try unfold kpA at hi); (try dsimp only at hi); (try dsimp only); omega))).trans (av25 i (by first | trivial | exact hi | ((try unfold kpA at hi); (try dsimp only at hi); (try dsimp only); omega))))))
        · refine Y_goto C 356 dX3_isSame_310 (by decide) ?_
          refine Y_iinc C (L' := [(7, .int (nI (i2 + 1))), (5, .int (X2.2.2.2 + (f i2))), (12, .int (nI 10)), (11, .ref 415), (0, .ref 100), (1, .ref 0), (2, .int X2.1), (3, .int X2.2.1), (4, .int X2.2.2.1), (6, .ref 412), (8, .ref (200 + 2 * i2)), (9, .int (fr (hc1 M i2) n 0)), (10, .int (f i2))]) (v := nI (i2 + 1)) dX3_isSame_356 rfl (nI_inc _) (by decide) rfl ?_
          refine Y_goto C 19 dX3_isSame_359 (by decide) ?_
          refine Y_widen (k' := 3 + 11 * (i2 + 1)) (n' := 82 + 70 * (i2 + 1)) (by omega) (by omega) ?_
          rw [show sG X i2 X2 = (X2.1, X2.2.1, X2.2.2.1, X2.2.2.2 + (f i2)) from by unfold sG mc1 mSm1; rw [show mHg X i2 = false from by rw [← hX, mRk_hg]; exact hg_n I hi2 cc49, hf i2 hi2]; rfl] at kk2
          exact Y_sub (by simp [bI_t, bI_f]) (kk2 h9 (fun i hi => ((ag9 i (by first | trivial | exact hi | ((try unfold kpA at hi); (try dsimp only at hi); (try dsimp only); omega))).trans (av25 i (by first | trivial | exact hi | ((try unfold kpA at hi); (try dsimp only at hi); (try dsimp only); omega))))))
      · skip
        refine Y_iload C dX3_isSame_264 rfl ?_
        refine Y_bipush C (v := 10) dX3_isSame_266 (by decide) ?_
        refine Y_icmp_ge C 295 dX3_isSame_268 (by decide) (fun cc53 => absurd cc53 (nI_ge (b := 10) hi47 (by decide))) (fun cc53 => ?_)
        refine Y_aload_n C dX3_isSame_271 rfl rfl ?_
        refine Y_iload C dX3_isSame_272 rfl ?_
        refine Y_iload C dX3_isSame_274 rfl ?_
        obtain ⟨y0, y1⟩ := go_stone I hi2 hi47
        refine Y_callG (K' := K) (D' := D) (B' := B) C S (c_X2_stone K D B (nI i2) (nI i47) I.kn h40 I.br h30) y0 m_X2_stone K2 g_404 dX3_isSame_276 rfl rfl ⟨Nat.le_of_ble_eq_true rfl, Nat.le_of_ble_eq_true rfl⟩ ⟨by show 3 + 11 * i2 + 1 + i47 + 1 ≤ 600; omega, by show 82 + 70 * i2 + 10 + 6 * i47 + 6 ≤ 4000; omega⟩ (Nat.le_of_ble_eq_true rfl) ?_
        refine Y_stk [.int ((cStone K (nI i2) (nI i47)).2)] rfl ?_
        refine Y_stk [.int (tl M i2 i47)] (by rw [y1]) ?_
        refine Y_aload C dX3_isSame_279 rfl ?_
        refine Y_iload C dX3_isSame_281 rfl ?_
        refine Y_iald C (v := tl M i2 i47) dX3_isSame_283 ((gW_hi (by decide)).trans (tU_s _ _ _)) (vp_in_nI hi47 (by omega)) (by rw [nI_clamp (by omega)] <;> rfl) ?_
        refine Y_icmp_eq C 289 dX3_isSame_284 (by decide) (fun cc54 => ?_) (fun cc54 => absurd rfl cc54)
        refine Y_iinc C (L' := [(12, .int (nI (i47 + 1))), (11, .ref 415), (0, .ref 100), (1, .ref 0), (2, .int X2.1), (3, .int X2.2.1), (4, .int X2.2.2.1), (5, .int X2.2.2.2), (6, .ref 412), (7, .int (nI i2)), (8, .ref (200 + 2 * i2)), (9, .int (fr (hc1 M i2) n 0)), (10, .int (f i2))]) (v := nI (i47 + 1)) dX3_isSame_289 rfl (nI_inc _) (by decide) rfl ?_
        refine Y_goto C 264 dX3_isSame_292 (by decide) ?_
        refine Y_widen (k' := 3 + 11 * i2 + 1 + (i47 + 1)) (n' := 82 + 70 * i2 + 10 + 6 * (i47 + 1)) (by omega) (by omega) ?_
        exact Y_sub (by simp [bI_t, bI_f]) (kk47)
    · intro hv25 av25
      refine Y_iload C dX3_isSame_55 rfl ?_
      refine Y_iload C dX3_isSame_57 rfl ?_
      refine Y_icmp_ge C 103 dX3_isSame_59 (by decide) (fun cc55 => absurd cc55 (nI_ge hi25 (by omega))) (fun cc55 => ?_)
      refine Y_aload C dX3_isSame_62 rfl ?_
      refine Y_iload C dX3_isSame_64 rfl ?_
      refine Y_aaldq C (j := 200 + 2 * i25) dX3_isSame_66 gW_101 (vp_in_nI hi25 (by omega)) (by rw [nI_clamp (by omega)]; exact rfS_at hi25) ?_
      refine Y_astore C (L' := [(13, .ref (200 + 2 * i25)), (12, .int (nI i25)), (11, .int (nI n)), (10, .ref 101), (9, .int X25), (8, .ref (200 + 2 * i2)), (7, .int (nI i2)), (6, .ref 412), (5, .int X2.2.2.2), (4, .int X2.2.2.1), (3, .int X2.2.1), (2, .int X2.1), (0, .ref 100), (1, .ref 0)]) dX3_isSame_67 (by decide) rfl ?_
      refine Y_iload C dX3_isSame_69 rfl ?_
      refine Y_aload C dX3_isSame_71 rfl ?_
      refine Y_get C K4 (v := .int (M.1 2 i25)) 2 dX3_isSame_73 (gW_st h40 hi25) (by decide) g_452 rfl rfl ?_
      refine Y_if_eq C 93 dX3_isSame_76 (by decide) (fun cc56 => ?_) (fun cc56 => ?_)
      · refine Y_iconst C (v := 0) dX3_isSame_93 (by decide) ?_
        refine Y_iadd C (v := X25 + 0) dX3_isSame_94 rfl ?_
        refine Y_istore C (L' := [(9, .int (X25 + 0)), (13, .ref (200 + 2 * i25)), (12, .int (nI i25)), (11, .int (nI n)), (10, .ref 101), (8, .ref (200 + 2 * i2)), (7, .int (nI i2)), (6, .ref 412), (5, .int X2.2.2.2), (4, .int X2.2.2.1), (3, .int X2.2.1), (2, .int X2.1), (0, .ref 100), (1, .ref 0)]) dX3_isSame_95 (by decide) rfl ?_
        refine Y_iinc C (L' := [(12, .int (nI (i25 + 1))), (9, .int (X25 + 0)), (13, .ref (200 + 2 * i25)), (11, .int (nI n)), (10, .ref 101), (8, .ref (200 + 2 * i2)), (7, .int (nI i2)), (6, .ref 412), (5, .int X2.2.2.2), (4, .int X2.2.2.1), (3, .int X2.2.1), (2, .int X2.1), (0, .ref 100), (1, .ref 0)]) (v := nI (i25 + 1)) dX3_isSame_97 rfl (nI_inc _) (by decide) rfl ?_
        refine Y_goto C 55 dX3_isSame_100 (by decide) ?_
        rw [show hc1 M i2 i25 X25 = X25 + 0 from by unfold hc1; rw [if_pos cc56]] at kk25
        exact Y_sub (by simp [bI_t, bI_f]) (kk25 hv25 (fun i hi => (av25 i (by first | trivial | exact hi | ((try unfold kpA at hi); (try dsimp only at hi); (try dsimp only); omega)))))
      · refine Y_aload C dX3_isSame_79 rfl ?_
        refine Y_iload C dX3_isSame_81 rfl ?_
        refine Y_callM C S (c_X4_isFrom (V := xW K D B) (r := r) (T := tRf (fun _ => none) n f g) h40 hi25 (show i2 < 2 ^ 31 by omega) (I.2.2.1 i25 hi25).2.2.1) m_X4_isFrom K4 g_403 dX3_isSame_83 (gW_st h40 hi25) rfl rfl ⟨Nat.le_of_ble_eq_true rfl, Nat.le_of_ble_eq_true rfl⟩ ⟨by show 3 + 11 * i2 + 0 ≤ 600; omega, by show 82 + 70 * i2 + 0 ≤ 4000; omega⟩ (Nat.le_of_ble_eq_true rfl) ⟨(by first | trivial | (unfold vR; (try dsimp only); omega)), trivial, trivial, (by first | trivial | (unfold vR; (try dsimp only); omega)), trivial, (by first | trivial | (unfold vR; (try dsimp only); omega)), trivial, (by first | trivial | (unfold vR; (try dsimp only); omega)), trivial, trivial, trivial, trivial, (by first | trivial | (unfold vR; (try dsimp only); omega)), (by first | trivial | (unfold vR; (try dsimp only); omega)), trivial⟩ ⟨trivial, trivial⟩ (fun h57 r57 w57 ag57 F57 => ?_)
        obtain ⟨rfl, rfl⟩ := F57
        refine Y_stk [.int (bI (heldB M i25 (nI i2))), .int X25] rfl ?_
        refine Y_if_eq C 93 dX3_isSame_86 (by decide) (fun cc58 => ?_) (fun cc58 => ?_)
        · refine Y_iconst C (v := 0) dX3_isSame_93 (by decide) ?_
          refine Y_iadd C (v := X25 + 0) dX3_isSame_94 rfl ?_
          refine Y_istore C (L' := [(9, .int (X25 + 0)), (13, .ref (200 + 2 * i25)), (12, .int (nI i25)), (11, .int (nI n)), (10, .ref 101), (8, .ref (200 + 2 * i2)), (7, .int (nI i2)), (6, .ref 412), (5, .int X2.2.2.2), (4, .int X2.2.2.1), (3, .int X2.2.1), (2, .int X2.1), (0, .ref 100), (1, .ref 0)]) dX3_isSame_95 (by decide) rfl ?_
          refine Y_iinc C (L' := [(12, .int (nI (i25 + 1))), (9, .int (X25 + 0)), (13, .ref (200 + 2 * i25)), (11, .int (nI n)), (10, .ref 101), (8, .ref (200 + 2 * i2)), (7, .int (nI i2)), (6, .ref 412), (5, .int X2.2.2.2), (4, .int X2.2.2.1), (3, .int X2.2.1), (2, .int X2.1), (0, .ref 100), (1, .ref 0)]) (v := nI (i25 + 1)) dX3_isSame_97 rfl (nI_inc _) (by decide) rfl ?_
          refine Y_goto C 55 dX3_isSame_100 (by decide) ?_
          rw [show hc1 M i2 i25 X25 = X25 + 0 from by unfold hc1; rw [if_neg cc56, if_neg (by rw [bI_0.mp cc58]; decide)]] at kk25
          exact Y_sub (by simp [bI_t, bI_f]) (kk25 h57 (fun i hi => ((ag57 i (by first | trivial | exact hi | ((try unfold kpA at hi); (try dsimp only at hi); (try dsimp only); omega))).trans (av25 i (by first | trivial | exact hi | ((try unfold kpA at hi); (try dsimp only at hi); (try dsimp only); omega))))))
        · refine Y_iconst C (v := 1) dX3_isSame_89 (by decide) ?_
          refine Y_goto C 94 dX3_isSame_90 (by decide) ?_
          refine Y_iadd C (v := X25 + 1) dX3_isSame_94 rfl ?_
          refine Y_istore C (L' := [(9, .int (X25 + 1)), (13, .ref (200 + 2 * i25)), (12, .int (nI i25)), (11, .int (nI n)), (10, .ref 101), (8, .ref (200 + 2 * i2)), (7, .int (nI i2)), (6, .ref 412), (5, .int X2.2.2.2), (4, .int X2.2.2.1), (3, .int X2.2.1), (2, .int X2.1), (0, .ref 100), (1, .ref 0)]) dX3_isSame_95 (by decide) rfl ?_
          refine Y_iinc C (L' := [(12, .int (nI (i25 + 1))), (9, .int (X25 + 1)), (13, .ref (200 + 2 * i25)), (11, .int (nI n)), (10, .ref 101), (8, .ref (200 + 2 * i2)), (7, .int (nI i2)), (6, .ref 412), (5, .int X2.2.2.2), (4, .int X2.2.2.1), (3, .int X2.2.1), (2, .int X2.1), (0, .ref 100), (1, .ref 0)]) (v := nI (i25 + 1)) dX3_isSame_97 rfl (nI_inc _) (by decide) rfl ?_
          refine Y_goto C 55 dX3_isSame_100 (by decide) ?_
          rw [show hc1 M i2 i25 X25 = X25 + 1 from by unfold hc1; rw [if_neg cc56, if_pos (bI_n0.mp cc58)]] at kk25
          exact Y_sub (by simp [bI_t, bI_f]) (kk25 h57 (fun i hi => ((ag57 i (by first | trivial | exact hi | ((try unfold kpA at hi); (try dsimp only at hi); (try dsimp only); omega))).trans (av25 i (by first | trivial | exact hi | ((try unfold kpA at hi); (try dsimp only at hi); (try dsimp only); omega))))))
