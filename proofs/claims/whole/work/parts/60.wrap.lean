/-! the law's own methods: a call of the class, and which exception came -/
abbrev xW (K D : St) (B : Sr) : List va_E := twO ++ (stW 1 K ++ (stW 11 D ++ srW 21 B))
abbrev oA (f : Nat → Int64) : va_E := .inl (2, 1, .inr (.inl f))
def bL (b : Bool) : Int64 := if b then 1 else 0
/-- what stands in out behind a call -/
def oF (o : Option String) (v : Int64) (f : Nat → Int64) : Nat → Int64 := match o with
  | none => vp_updL f 0 v
  | some _ => f
theorem x_conjure (K D : St) (B : Sr) (w t q : Int32) : (cConj K w t q).1 = none ∨ (cConj K w t q).1 = some "java/lang/IllegalArgumentException" ∨ (cConj K w t q).1 = some "java/lang/IllegalStateException" := by
  unfold cConj
  (repeat' split) <;> simp
theorem m_L_conjure : mH yL_conjure cL_conjure 6 (some .int) [(0, 12, 15, 13), (0, 12, 19, 15)] 5 := ⟨g_208, g_36, g_209, by decide +kernel⟩
set_option maxHeartbeats 4000000 in
set_option maxRecDepth 20000 in
theorem c_L_conjure (K D : St) (B : Sr) (w t q : Int32) (f : Nat → Int64) {n : Nat} (hn : K.2.2.1 0 = nI n) (h40 : n ≤ 40) {r : Nat} (hb : B.2 0 = nI r) (h30 : r ≤ 30) : CTH yL_conjure cL_conjure 6 (some .int) [(0, 12, 15, 13), (0, 12, 19, 15)] 7 1 6 [.ref 0, .int w, .int t, .int q, .ref 25] (xW K D B ++ [oA f]) (some (.int (kc eA eS (cConj K w t q).1))) (xW (cConj K w t q).2.2 D B ++ [oA (oF (cConj K w t q).1 ((cConj K w t q).2.1).toInt64 f)]) := by
  have hc := c_X2_conjure K D B w t q hn h40 hb h30
  have hx := x_conjure K D B w t q
  generalize cConj K w t q = Y at hc hx ⊢
  refine CTH_of (L := [(0, .ref 0), (1, .int w), (2, .int t), (3, .int q), (4, .ref 25)]) (by decide) (fun _ => rfl) (fun _ => Nat.le_of_ble_eq_true rfl) ?_
  intro p l e s m args below meth c G h A C hst hY htab hr hlk
  refine Z_aload C dL_conjure_0 rfl ?_
  refine Z_iconst C (v := 0) dL_conjure_2 (by decide) ?_
  refine Z_aload_n C dL_conjure_3 rfl rfl ?_
  refine Z_iload_n C dL_conjure_4 rfl rfl ?_
  refine Z_iload_n C dL_conjure_5 rfl rfl ?_
  refine Z_iload_n C dL_conjure_6 rfl rfl ?_
  refine Z_callX C hst hY.1 (ws' := xW (Y).2.2 D B ++ [oA f]) (st' := [.int Y.2.1, .int 0, .ref 25]) (rest := [.int 0, .ref 25]) [0, 1, 2, 3, 4, 5, 6, 7, 8, 9, 10, 11, 12, 13, 14, 15, 16, 17, 18, 19, 20, 21, 22, 23, 24] hc m_X2_conjure K2 g_212 dL_conjure_7 rfl rfl rfl (outI 25 rfl rfl rfl (outR _ _ _)) (NW := 26) rfl rfl rfl rfl rfl ⟨Nat.le_of_ble_eq_true rfl, Nat.le_of_ble_eq_true rfl⟩ ⟨Nat.le_of_ble_eq_true rfl, Nat.le_of_ble_eq_true rfl⟩ (Nat.le_of_ble_eq_true rfl) rfl (fun E hE => ?_) (fun hE => ?_)
  · rcases hx with hx | hx | hx
    · rw [hx] at hE; cases hE
    · rw [hx] at hE; cases hE
      refine Z_hand C htab (p1 := []) (p2 := [(0, 12, 19, 15)]) (a := 0) (b := 12) (hp := 15) (t := 13) (i5 := 5) (pc9 := 17) (L' := []) rfl (fun z hz => absurd hz List.not_mem_nil) (by decide) (by decide) g_210 (by simp [nW]) (by decide) (Or.inl ⟨dL_conjure_15, rfl⟩) (fun q hq => absurd hq List.not_mem_nil) ?_
      refine Z_iconst C (v := 1) dL_conjure_17 (by decide) ?_
      exact Z_iret C hr hlk dL_conjure_18 (by rw [hx, kc_AS1]) (by rw [hx]; rfl)
    · rw [hx] at hE; cases hE
      refine Z_hand C htab (p1 := [(0, 12, 15, 13)]) (p2 := []) (a := 0) (b := 12) (hp := 19) (t := 15) (i5 := 5) (pc9 := 21) (L' := []) rfl (fun z hz => by
        simp only [List.mem_cons, List.not_mem_nil, or_false] at hz
        rcases hz with rfl
        · exact ⟨by decide, "java/lang/IllegalArgumentException", g_210, hY.2.2.2.1⟩) (by decide) (by decide) g_211 (by simp [nW]) (by decide) (Or.inl ⟨dL_conjure_19, rfl⟩) (fun q hq => absurd hq List.not_mem_nil) ?_
      refine Z_iconst C (v := 2) dL_conjure_21 (by decide) ?_
      exact Z_iret C hr hlk dL_conjure_22 (by rw [hx, kc_AS2]) (by rw [hx]; rfl)
  · refine Z_i2l C (v := ((Y).2.1).toInt64) dL_conjure_10 rfl ?_
    refine Z_last C (f' := vp_updL f 0 ((Y).2.1).toInt64) (ws' := xW (Y).2.2 D B ++ [oA (vp_updL f 0 ((Y).2.1).toInt64)]) dL_conjure_11 rfl (show vp_in (nI 0) 1 from vp_in_nI (by decide) (by decide)) rfl rfl ?_
    refine Z_goto C 23 dL_conjure_12 (by decide) ?_
    refine Z_iconst C (v := 0) dL_conjure_23 (by decide) ?_
    exact Z_iret C hr hlk dL_conjure_24 (by rw [hE]; rfl) (by rw [hE]; rfl)
theorem x_swap (K D : St) (B : Sr) (a d : Int32) : (cSwap K B a d).1 = none ∨ (cSwap K B a d).1 = some "java/lang/IndexOutOfBoundsException" ∨ (cSwap K B a d).1 = some "java/lang/IllegalArgumentException" ∨ (cSwap K B a d).1 = some "java/lang/IllegalStateException" := by
  unfold cSwap
  (repeat' split) <;> simp
theorem m_L_swap : mH yL_swap cL_swap 5 (some .int) [(0, 17, 20, 21), (0, 17, 24, 13), (0, 17, 28, 15)] 4 := ⟨g_428, g_36, g_429, by decide +kernel⟩
set_option maxHeartbeats 4000000 in
set_option maxRecDepth 20000 in
theorem c_L_swap (K D : St) (B : Sr) (a d : Int32) (f : Nat → Int64) {n : Nat} (hn : K.2.2.1 0 = nI n) (h40 : n ≤ 40) {r : Nat} (hb : B.2 0 = nI r) (h30 : r ≤ 30) : CTH yL_swap cL_swap 5 (some .int) [(0, 17, 20, 21), (0, 17, 24, 13), (0, 17, 28, 15)] 7 1 6 [.ref 0, .int a, .int d, .ref 25] (xW K D B ++ [oA f]) (some (.int (kc eI eA (cSwap K B a d).1))) (xW K D (cSwap K B a d).2.2 ++ [oA (oF (cSwap K B a d).1 (bL (cSwap K B a d).2.1) f)]) := by
  have hc := c_X2_swap K D B a d hn h40 hb h30
  have hx := x_swap K D B a d
  generalize cSwap K B a d = Y at hc hx ⊢
  refine CTH_of (L := [(0, .ref 0), (1, .int a), (2, .int d), (3, .ref 25)]) (by decide) (fun _ => rfl) (fun _ => Nat.le_of_ble_eq_true rfl) ?_
  intro p l e s m args below meth c G h A C hst hY htab hr hlk
  refine Z_aload_n C dL_swap_0 rfl rfl ?_
  refine Z_iconst C (v := 0) dL_swap_1 (by decide) ?_
  refine Z_aload_n C dL_swap_2 rfl rfl ?_
  refine Z_iload_n C dL_swap_3 rfl rfl ?_
  refine Z_iload_n C dL_swap_4 rfl rfl ?_
  refine Z_callX C hst hY.1 (ws' := xW K D (Y).2.2 ++ [oA f]) (st' := [.int (bI Y.2.1), .int 0, .ref 25]) (rest := [.int 0, .ref 25]) [0, 1, 2, 3, 4, 5, 6, 7, 8, 9, 10, 11, 12, 13, 14, 15, 16, 17, 18, 19, 20, 21, 22, 23, 24] hc m_X2_swap K2 g_430 dL_swap_5 rfl rfl rfl (outI 25 rfl rfl rfl (outR _ _ _)) (NW := 26) rfl rfl rfl rfl rfl ⟨Nat.le_of_ble_eq_true rfl, Nat.le_of_ble_eq_true rfl⟩ ⟨Nat.le_of_ble_eq_true rfl, Nat.le_of_ble_eq_true rfl⟩ (Nat.le_of_ble_eq_true rfl) rfl (fun E hE => ?_) (fun hE => ?_)
  · rcases hx with hx | hx | hx | hx
    · rw [hx] at hE; cases hE
    · rw [hx] at hE; cases hE
      refine Z_hand C htab (p1 := []) (p2 := [(0, 17, 24, 13), (0, 17, 28, 15)]) (a := 0) (b := 17) (hp := 20) (t := 21) (i5 := 4) (pc9 := 22) (L' := []) rfl (fun z hz => absurd hz List.not_mem_nil) (by decide) (by decide) g_357 (by simp [nW]) (by decide) (Or.inl ⟨dL_swap_20, rfl⟩) (fun q hq => absurd hq List.not_mem_nil) ?_
      refine Z_iconst C (v := 1) dL_swap_22 (by decide) ?_
      exact Z_iret C hr hlk dL_swap_23 (by rw [hx, kc_IA1]) (by rw [hx]; rfl)
    · rw [hx] at hE; cases hE
      refine Z_hand C htab (p1 := [(0, 17, 20, 21)]) (p2 := [(0, 17, 28, 15)]) (a := 0) (b := 17) (hp := 24) (t := 13) (i5 := 4) (pc9 := 26) (L' := []) rfl (fun z hz => by
        simp only [List.mem_cons, List.not_mem_nil, or_false] at hz
        rcases hz with rfl
        · exact ⟨by decide, "java/lang/IndexOutOfBoundsException", g_357, hY.2.2.1⟩) (by decide) (by decide) g_210 (by simp [nW]) (by decide) (Or.inl ⟨dL_swap_24, rfl⟩) (fun q hq => absurd hq List.not_mem_nil) ?_
      refine Z_iconst C (v := 2) dL_swap_26 (by decide) ?_
      exact Z_iret C hr hlk dL_swap_27 (by rw [hx, kc_IA2]) (by rw [hx]; rfl)
    · rw [hx] at hE; cases hE
      refine Z_hand C htab (p1 := [(0, 17, 20, 21), (0, 17, 24, 13)]) (p2 := []) (a := 0) (b := 17) (hp := 28) (t := 15) (i5 := 4) (pc9 := 30) (L' := []) rfl (fun z hz => by
        simp only [List.mem_cons, List.not_mem_nil, or_false] at hz
        rcases hz with rfl | rfl
        · exact ⟨by decide, "java/lang/IndexOutOfBoundsException", g_357, hY.2.2.2.2.1⟩
        · exact ⟨by decide, "java/lang/IllegalArgumentException", g_210, hY.2.2.2.1⟩) (by decide) (by decide) g_211 (by simp [nW]) (by decide) (Or.inl ⟨dL_swap_28, rfl⟩) (fun q hq => absurd hq List.not_mem_nil) ?_
      refine Z_iconst C (v := 3) dL_swap_30 (by decide) ?_
      exact Z_iret C hr hlk dL_swap_31 (by rw [hx, kc_IA3]) (by rw [hx]; rfl)
  · refine Z_if_eq C 15 dL_swap_8 (by decide) (fun c1 => ?_) (fun c1 => ?_)
    · have hb1 : Y.2.1 = false := bI_0.mp c1
      refine Z_lconst C (v := 0) dL_swap_15 (by decide) ?_
      refine Z_last C (f' := vp_updL f 0 0) (ws' := xW K D (Y).2.2 ++ [oA (vp_updL f 0 0)]) dL_swap_16 rfl (show vp_in (nI 0) 1 from vp_in_nI (by decide) (by decide)) rfl rfl ?_
      refine Z_goto C 32 dL_swap_17 (by decide) ?_
      refine Z_iconst C (v := 0) dL_swap_32 (by decide) ?_
      exact Z_iret C hr hlk dL_swap_33 (by rw [hE]; rfl) (by rw [hE, hb1]; rfl)
    · have hb1 : Y.2.1 = true := bI_n0.mp c1
      refine Z_lconst C (v := 1) dL_swap_11 (by decide) ?_
      refine Z_goto C 16 dL_swap_12 (by decide) ?_
      refine Z_last C (f' := vp_updL f 0 1) (ws' := xW K D (Y).2.2 ++ [oA (vp_updL f 0 1)]) dL_swap_16 rfl (show vp_in (nI 0) 1 from vp_in_nI (by decide) (by decide)) rfl rfl ?_
      refine Z_goto C 32 dL_swap_17 (by decide) ?_
      refine Z_iconst C (v := 0) dL_swap_32 (by decide) ?_
      exact Z_iret C hr hlk dL_swap_33 (by rw [hE]; rfl) (by rw [hE, hb1]; rfl)
theorem x_first (K D : St) (B : Sr) (x : Int32) : (cFirst K x).1 = none ∨ (cFirst K x).1 = some "java/lang/IndexOutOfBoundsException" := by
  unfold cFirst
  (repeat' split) <;> simp
theorem m_L_first : mH yL_first cL_first 4 (some .int) [(0, 9, 12, 21)] 3 := ⟨g_482, g_36, g_483, by decide +kernel⟩
set_option maxHeartbeats 4000000 in
set_option maxRecDepth 20000 in
theorem c_L_first (K D : St) (B : Sr) (x : Int32) (f : Nat → Int64) {n : Nat} (hn : K.2.2.1 0 = nI n) (h40 : n ≤ 40) {r : Nat} (hb : B.2 0 = nI r) (h30 : r ≤ 30) : CTH yL_first cL_first 4 (some .int) [(0, 9, 12, 21)] 7 1 6 [.ref 0, .int x, .ref 25] (xW K D B ++ [oA f]) (some (.int (kc eI eA (cFirst K x).1))) (xW K D B ++ [oA (oF (cFirst K x).1 ((cFirst K x).2).toInt64 f)]) := by
  have hc := c_X2_first K D B x hn h40 hb h30
  have hx := x_first K D B x
  generalize cFirst K x = Y at hc hx ⊢
  refine CTH_of (L := [(0, .ref 0), (1, .int x), (2, .ref 25)]) (by decide) (fun _ => rfl) (fun _ => Nat.le_of_ble_eq_true rfl) ?_
  intro p l e s m args below meth c G h A C hst hY htab hr hlk
  refine Z_aload_n C dL_first_0 rfl rfl ?_
  refine Z_iconst C (v := 0) dL_first_1 (by decide) ?_
  refine Z_aload_n C dL_first_2 rfl rfl ?_
  refine Z_iload_n C dL_first_3 rfl rfl ?_
  refine Z_callX C hst hY.1 (ws' := xW K D B ++ [oA f]) (st' := [.int Y.2, .int 0, .ref 25]) (rest := [.int 0, .ref 25]) [0, 1, 2, 3, 4, 5, 6, 7, 8, 9, 10, 11, 12, 13, 14, 15, 16, 17, 18, 19, 20, 21, 22, 23, 24] hc m_X2_first K2 g_484 dL_first_4 rfl rfl rfl (outI 25 rfl rfl rfl (outR _ _ _)) (NW := 26) rfl rfl rfl rfl rfl ⟨Nat.le_of_ble_eq_true rfl, Nat.le_of_ble_eq_true rfl⟩ ⟨Nat.le_of_ble_eq_true rfl, Nat.le_of_ble_eq_true rfl⟩ (Nat.le_of_ble_eq_true rfl) rfl (fun E hE => ?_) (fun hE => ?_)
  · rcases hx with hx | hx
    · rw [hx] at hE; cases hE
    · rw [hx] at hE; cases hE
      refine Z_hand C htab (p1 := []) (p2 := []) (a := 0) (b := 9) (hp := 12) (t := 21) (i5 := 3) (pc9 := 13) (L' := []) rfl (fun z hz => absurd hz List.not_mem_nil) (by decide) (by decide) g_357 (by simp [nW]) (by decide) (Or.inr ⟨_, dL_first_12, rfl, rfl⟩) (fun q hq => absurd hq List.not_mem_nil) ?_
      refine Z_iconst C (v := 1) dL_first_13 (by decide) ?_
      exact Z_iret C hr hlk dL_first_14 (by rw [hx, kc_IA1]) (by rw [hx]; rfl)
  · refine Z_i2l C (v := ((Y).2).toInt64) dL_first_7 rfl ?_
    refine Z_last C (f' := vp_updL f 0 ((Y).2).toInt64) (ws' := xW K D B ++ [oA (vp_updL f 0 ((Y).2).toInt64)]) dL_first_8 rfl (show vp_in (nI 0) 1 from vp_in_nI (by decide) (by decide)) rfl rfl ?_
    refine Z_goto C 15 dL_first_9 (by decide) ?_
    refine Z_iconst C (v := 0) dL_first_15 (by decide) ?_
    exact Z_iret C hr hlk dL_first_16 (by rw [hE]; rfl) (by rw [hE]; rfl)
