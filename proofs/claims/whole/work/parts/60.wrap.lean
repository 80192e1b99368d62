/-! the law's own methods: a call of the class, and which exception came -/
abbrev xW (K D : St) (B : Sr) : List va_E := twO ++ (stW 1 K ++ (stW 11 D ++ srW 21 B))
abbrev oA (f : Nat → Int64) : va_E := .inl (2, 1, .inr (.inl f))
def bL (b : Bool) : Int64 := if b then 1 else 0
/-- what stands in out behind a call -/
def oF (o : Option String) (v : Int64) (f : Nat → Int64) : Nat → Int64 := match o with
  | none => vp_updL f 0 v
  | some _ => f
theorem x_conjure (K D : St) (B : Sr) (w t q : Int32) : (cConj K w t q).1 = none ∨ (cConj K w t q).1 = some "java/lang/IllegalArgumentException" ∨ (cConj K w t q).1 = some "java/lang/IllegalStateException" := by
  unfold cConj
  (repeat' split) <;> simp
theorem m_L_conjure : mH yL_conjure cL_conjure 6 (some .int) [(0, 12, 15, 13), (0, 12, 19, 15)] 5 := ⟨g_208, g_36, g_209, by decide +kernel⟩
set_option maxHeartbeats 4000000 in
set_option maxRecDepth 20000 in
theorem c_L_conjure (K D : St) (B : Sr) (w t q : Int32) (f : Nat → Int64) {n : Nat} (hn : K.2.2.1 0 = nI n) (h40 : n ≤ 40) {r : Nat} (hb : B.2 0 = nI r) (h30 : r ≤ 30) : CTH yL_conjure cL_conjure 6 (some .int) [(0, 12, 15, 13), (0, 12, 19, 15)] 7 1 6 [.ref 0, .int w, .int t, .int q, .ref 25] (xW K D B ++ [oA f]) (some (.int (kc eA eS (cConj K w t q).1))) (xW (cConj K w t q).2.2 D B ++ [oA (oF (cConj K w t q).1 ((cConj K w t q).2.1).toInt64 f)]) := by
  have hc := c_X2_conjure K D B w t q hn h40 hb h30
  have hx := x_conjure K D B w t q
  generalize cConj K w t q = Y at hc hx ⊢
  refine CTH_of (L := [(0, .ref 0), (1, .int w), (2, .int t), (3, .int q), (4, .ref 25)]) (by decide) (fun _ => rfl) (fun _ => Nat.le_of_ble_eq_true rfl) ?_
  intro p l e s m args below meth c G h A C hst hY htab hr hlk
  refine Z_aload C dL_conjure_0 rfl ?_
  refine Z_iconst C (v := 0) dL_conjure_2 (by decide) ?_
  refine Z_aload_n C dL_conjure_3 rfl rfl ?_
  refine Z_iload_n C dL_conjure_4 rfl rfl ?_
  refine Z_iload_n C dL_conjure_5 rfl rfl ?_
  refine Z_iload_n C dL_conjure_6 rfl rfl ?_
  refine Z_callX C hst hY.1 (ws' := xW (Y).2.2 D B ++ [oA f]) (st' := [.int Y.2.1, .int 0, .ref 25]) (rest := [.int 0, .ref 25]) [0, 1, 2, 3, 4, 5, 6, 7, 8, 9, 10, 11, 12, 13, 14, 15, 16, 17, 18, 19, 20, 21, 22, 23, 24] hc m_X2_conjure K2 g_212 dL_conjure_7 rfl rfl rfl (outI 25 rfl rfl rfl (outR _ _ _)) (NW := 26) rfl rfl rfl rfl rfl ⟨Nat.le_of_ble_eq_true rfl, Nat.le_of_ble_eq_true rfl⟩ ⟨Nat.le_of_ble_eq_true rfl, Nat.le_of_ble_eq_true rfl⟩ (Nat.le_of_ble_eq_true rfl) rfl (fun E hE => ?_) (fun hE => ?_)
  · rcases hx with hx | hx | hx
    · rw [hx] at hE; cases hE
    · rw [hx] at hE; cases hE
      refine Z_hand C htab (p1 := []) (p2 := [(0, 12, 19, 15)]) (a := 0) (b := 12) (hp := 15) (t := 13) (i5 := 5) (pc9 := 17) (L' := []) rfl (fun z hz => absurd hz List.not_mem_nil) (by decide) (by decide) g_210 (by simp [nW]) (by decide) (Or.inl ⟨dL_conjure_15, rfl⟩) (fun q hq => absurd hq List.not_mem_nil) ?_
      refine Z_iconst C (v := 1) dL_conjure_17 (by decide) ?_
      exact Z_iret C hr hlk dL_conjure_18 (by rw [hx, kc_AS1]) (by rw [hx]; rfl)
    · rw [hx] at hE; cases hE
      refine Z_hand C htab (p1 := [(0, 12, 15, 13)]) (p2 := []) (a := 0) (b := 12) (hp := 19) (t := 15) (i5 := 5) (pc9 := 21) (L' := []) rfl (fun z hz => by
        simp only [List.mem_cons, List.not_mem_nil, or_false] at hz
        rcases hz with rfl
        · exact ⟨by decide, "java/lang/IllegalArgumentException", g_210, hY.2.2.2.1⟩) (by decide) (by decide) g_211 (by simp [nW]) (by decide) (Or.inl ⟨dL_conjure_19, rfl⟩) (fun q hq => absurd hq List.not_mem_nil) ?_
      refine Z_iconst C (v := 2) dL_conjure_21 (by decide) ?_
      exact Z_iret C hr hlk dL_conjure_22 (by rw [hx, kc_AS2]) (by rw [hx]; rfl)
  · refine Z_i2l C (v := ((Y).2.1).toInt64) dL_conjure_10 rfl ?_
    refine Z_last C (f' := vp_updL f 0 ((Y).2.1).toInt64) (ws' := xW (Y).2.2 D B ++ [oA (vp_updL f 0 ((Y).2.1).toInt64)]) dL_conjure_11 rfl (show vp_in (nI 0) 1 from vp_in_nI (by decide) (by decide)) rfl rfl ?_
    refine Z_goto C 23 dL_conjure_12 (by decide) ?_
    refine Z_iconst C (v := 0) dL_conjure_23 (by decide) ?_
    exact Z_iret C hr hlk dL_conjure_24 (by rw [hE]; rfl) (by rw [hE]; rfl)
theorem x_hang (K D : St) (B : Sr) (w t u o : Int32) : (cHang K w t u o).1 = none ∨ (cHang K w t u o).1 = some "java/lang/IllegalArgumentException" ∨ (cHang K w t u o).1 = some "java/lang/IndexOutOfBoundsException" ∨ (cHang K w t u o).1 = some "java/lang/IllegalStateException" := by
  unfold cHang
  (repeat' split) <;> simp
theorem m_L_hang : mH yL_hang cL_hang 7 (some .int) [(0, 14, 17, 13), (0, 14, 21, 21), (0, 14, 25, 15)] 6 := ⟨g_355, g_36, g_356, by decide +kernel⟩
set_option maxHeartbeats 4000000 in
set_option maxRecDepth 20000 in
theorem c_L_hang (K D : St) (B : Sr) (w t u o : Int32) (f : Nat → Int64) {n : Nat} (hn : K.2.2.1 0 = nI n) (h40 : n ≤ 40) {r : Nat} (hb : B.2 0 = nI r) (h30 : r ≤ 30) : CTH yL_hang cL_hang 7 (some .int) [(0, 14, 17, 13), (0, 14, 21, 21), (0, 14, 25, 15)] 7 1 6 [.ref 0, .int w, .int t, .int u, .int o, .ref 25] (xW K D B ++ [oA f]) (some (.int (kc eA eI (cHang K w t u o).1))) (xW (cHang K w t u o).2.2 D B ++ [oA (oF (cHang K w t u o).1 ((cHang K w t u o).2.1).toInt64 f)]) := by
  have hc := c_X2_hang K D B w t u o hn h40 hb h30
  have hx := x_hang K D B w t u o
  generalize cHang K w t u o = Y at hc hx ⊢
  refine CTH_of (L := [(0, .ref 0), (1, .int w), (2, .int t), (3, .int u), (4, .int o), (5, .ref 25)]) (by decide) (fun _ => rfl) (fun _ => Nat.le_of_ble_eq_true rfl) ?_
  intro p l e s m args below meth c G h A C hst hY htab hr hlk
  refine Z_aload C dL_hang_0 rfl ?_
  refine Z_iconst C (v := 0) dL_hang_2 (by decide) ?_
  refine Z_aload_n C dL_hang_3 rfl rfl ?_
  refine Z_iload_n C dL_hang_4 rfl rfl ?_
  refine Z_iload_n C dL_hang_5 rfl rfl ?_
  refine Z_iload_n C dL_hang_6 rfl rfl ?_
  refine Z_iload C dL_hang_7 rfl ?_
  refine Z_callX C hst hY.1 (ws' := xW (Y).2.2 D B ++ [oA f]) (st' := [.int Y.2.1, .int 0, .ref 25]) (rest := [.int 0, .ref 25]) [0, 1, 2, 3, 4, 5, 6, 7, 8, 9, 10, 11, 12, 13, 14, 15, 16, 17, 18, 19, 20, 21, 22, 23, 24] hc m_X2_hang K2 g_358 dL_hang_9 rfl rfl rfl (outI 25 rfl rfl rfl (outR _ _ _)) (NW := 26) rfl rfl rfl rfl rfl ⟨Nat.le_of_ble_eq_true rfl, Nat.le_of_ble_eq_true rfl⟩ ⟨Nat.le_of_ble_eq_true rfl, Nat.le_of_ble_eq_true rfl⟩ (Nat.le_of_ble_eq_true rfl) rfl (fun E hE => ?_) (fun hE => ?_)
  · rcases hx with hx | hx | hx | hx
    · rw [hx] at hE; cases hE
    · rw [hx] at hE; cases hE
      refine Z_hand C htab (p1 := []) (p2 := [(0, 14, 21, 21), (0, 14, 25, 15)]) (a := 0) (b := 14) (hp := 17) (t := 13) (i5 := 6) (pc9 := 19) (L' := []) rfl (fun z hz => absurd hz List.not_mem_nil) (by decide) (by decide) g_210 (by simp [nW]) (by decide) (Or.inl ⟨dL_hang_17, rfl⟩) (fun q hq => absurd hq List.not_mem_nil) ?_
      refine Z_iconst C (v := 1) dL_hang_19 (by decide) ?_
      exact Z_iret C hr hlk dL_hang_20 (by rw [hx, kc_AI1]) (by rw [hx]; rfl)
    · rw [hx] at hE; cases hE
      refine Z_hand C htab (p1 := [(0, 14, 17, 13)]) (p2 := [(0, 14, 25, 15)]) (a := 0) (b := 14) (hp := 21) (t := 21) (i5 := 6) (pc9 := 23) (L' := []) rfl (fun z hz => by
        simp only [List.mem_cons, List.not_mem_nil, or_false] at hz
        rcases hz with rfl
        · exact ⟨by decide, "java/lang/IllegalArgumentException", g_210, hY.2.2.2.2.2.1⟩) (by decide) (by decide) g_357 (by simp [nW]) (by decide) (Or.inl ⟨dL_hang_21, rfl⟩) (fun q hq => absurd hq List.not_mem_nil) ?_
      refine Z_iconst C (v := 2) dL_hang_23 (by decide) ?_
      exact Z_iret C hr hlk dL_hang_24 (by rw [hx, kc_AI2]) (by rw [hx]; rfl)
    · rw [hx] at hE; cases hE
      refine Z_hand C htab (p1 := [(0, 14, 17, 13), (0, 14, 21, 21)]) (p2 := []) (a := 0) (b := 14) (hp := 25) (t := 15) (i5 := 6) (pc9 := 27) (L' := []) rfl (fun z hz => by
        simp only [List.mem_cons, List.not_mem_nil, or_false] at hz
        rcases hz with rfl | rfl
        · exact ⟨by decide, "java/lang/IllegalArgumentException", g_210, hY.2.2.2.1⟩
        · exact ⟨by decide, "java/lang/IndexOutOfBoundsException", g_357, hY.2.2.2.2.1⟩) (by decide) (by decide) g_211 (by simp [nW]) (by decide) (Or.inl ⟨dL_hang_25, rfl⟩) (fun q hq => absurd hq List.not_mem_nil) ?_
      refine Z_iconst C (v := 3) dL_hang_27 (by decide) ?_
      exact Z_iret C hr hlk dL_hang_28 (by rw [hx, kc_AI3]) (by rw [hx]; rfl)
  · refine Z_i2l C (v := ((Y).2.1).toInt64) dL_hang_12 rfl ?_
    refine Z_last C (f' := vp_updL f 0 ((Y).2.1).toInt64) (ws' := xW (Y).2.2 D B ++ [oA (vp_updL f 0 ((Y).2.1).toInt64)]) dL_hang_13 rfl (show vp_in (nI 0) 1 from vp_in_nI (by decide) (by decide)) rfl rfl ?_
    refine Z_goto C 29 dL_hang_14 (by decide) ?_
    refine Z_iconst C (v := 0) dL_hang_29 (by decide) ?_
    exact Z_iret C hr hlk dL_hang_30 (by rw [hE]; rfl) (by rw [hE]; rfl)
theorem x_prop (K D : St) (B : Sr) (x v : Int32) : (cProp K x v).1 = none ∨ (cProp K x v).1 = some "java/lang/IndexOutOfBoundsException" ∨ (cProp K x v).1 = some "java/lang/IllegalArgumentException" ∨ (cProp K x v).1 = some "java/lang/IllegalStateException" := by
  unfold cProp
  (repeat' split) <;> simp
theorem m_L_prop : mH yL_prop cL_prop 5 (some .int) [(0, 10, 13, 21), (0, 10, 17, 13), (0, 10, 21, 15)] 4 := ⟨g_384, g_36, g_385, by decide +kernel⟩
set_option maxHeartbeats 4000000 in
set_option maxRecDepth 20000 in
theorem c_L_prop (K D : St) (B : Sr) (x v : Int32) (f : Nat → Int64) {n : Nat} (hn : K.2.2.1 0 = nI n) (h40 : n ≤ 40) {r : Nat} (hb : B.2 0 = nI r) (h30 : r ≤ 30) : CTH yL_prop cL_prop 5 (some .int) [(0, 10, 13, 21), (0, 10, 17, 13), (0, 10, 21, 15)] 7 1 6 [.ref 0, .int x, .int v, .ref 25] (xW K D B ++ [oA f]) (some (.int (kc eI eA (cProp K x v).1))) (xW (cProp K x v).2.2 D B ++ [oA (oF (cProp K x v).1 ((cProp K x v).2.1).toInt64 f)]) := by
  have hc := c_X2_prop K D B x v hn h40 hb h30
  have hx := x_prop K D B x v
  generalize cProp K x v = Y at hc hx ⊢
  refine CTH_of (L := [(0, .ref 0), (1, .int x), (2, .int v), (3, .ref 25)]) (by decide) (fun _ => rfl) (fun _ => Nat.le_of_ble_eq_true rfl) ?_
  intro p l e s m args below meth c G h A C hst hY htab hr hlk
  refine Z_aload_n C dL_prop_0 rfl rfl ?_
  refine Z_iconst C (v := 0) dL_prop_1 (by decide) ?_
  refine Z_aload_n C dL_prop_2 rfl rfl ?_
  refine Z_iload_n C dL_prop_3 rfl rfl ?_
  refine Z_iload_n C dL_prop_4 rfl rfl ?_
  refine Z_callX C hst hY.1 (ws' := xW (Y).2.2 D B ++ [oA f]) (st' := [.int Y.2.1, .int 0, .ref 25]) (rest := [.int 0, .ref 25]) [0, 1, 2, 3, 4, 5, 6, 7, 8, 9, 10, 11, 12, 13, 14, 15, 16, 17, 18, 19, 20, 21, 22, 23, 24] hc m_X2_prop K2 g_386 dL_prop_5 rfl rfl rfl (outI 25 rfl rfl rfl (outR _ _ _)) (NW := 26) rfl rfl rfl rfl rfl ⟨Nat.le_of_ble_eq_true rfl, Nat.le_of_ble_eq_true rfl⟩ ⟨Nat.le_of_ble_eq_true rfl, Nat.le_of_ble_eq_true rfl⟩ (Nat.le_of_ble_eq_true rfl) rfl (fun E hE => ?_) (fun hE => ?_)
  · rcases hx with hx | hx | hx | hx
    · rw [hx] at hE; cases hE
    · rw [hx] at hE; cases hE
      refine Z_hand C htab (p1 := []) (p2 := [(0, 10, 17, 13), (0, 10, 21, 15)]) (a := 0) (b := 10) (hp := 13) (t := 21) (i5 := 4) (pc9 := 15) (L' := []) rfl (fun z hz => absurd hz List.not_mem_nil) (by decide) (by decide) g_357 (by simp [nW]) (by decide) (Or.inl ⟨dL_prop_13, rfl⟩) (fun q hq => absurd hq List.not_mem_nil) ?_
      refine Z_iconst C (v := 1) dL_prop_15 (by decide) ?_
      exact Z_iret C hr hlk dL_prop_16 (by rw [hx, kc_IA1]) (by rw [hx]; rfl)
    · rw [hx] at hE; cases hE
      refine Z_hand C htab (p1 := [(0, 10, 13, 21)]) (p2 := [(0, 10, 21, 15)]) (a := 0) (b := 10) (hp := 17) (t := 13) (i5 := 4) (pc9 := 19) (L' := []) rfl (fun z hz => by
        simp only [List.mem_cons, List.not_mem_nil, or_false] at hz
        rcases hz with rfl
        · exact ⟨by decide, "java/lang/IndexOutOfBoundsException", g_357, hY.2.2.1⟩) (by decide) (by decide) g_210 (by simp [nW]) (by decide) (Or.inl ⟨dL_prop_17, rfl⟩) (fun q hq => absurd hq List.not_mem_nil) ?_
      refine Z_iconst C (v := 2) dL_prop_19 (by decide) ?_
      exact Z_iret C hr hlk dL_prop_20 (by rw [hx, kc_IA2]) (by rw [hx]; rfl)
    · rw [hx] at hE; cases hE
      refine Z_hand C htab (p1 := [(0, 10, 13, 21), (0, 10, 17, 13)]) (p2 := []) (a := 0) (b := 10) (hp := 21) (t := 15) (i5 := 4) (pc9 := 23) (L' := []) rfl (fun z hz => by
        simp only [List.mem_cons, List.not_mem_nil, or_false] at hz
        rcases hz with rfl | rfl
        · exact ⟨by decide, "java/lang/IndexOutOfBoundsException", g_357, hY.2.2.2.2.1⟩
        · exact ⟨by decide, "java/lang/IllegalArgumentException", g_210, hY.2.2.2.1⟩) (by decide) (by decide) g_211 (by simp [nW]) (by decide) (Or.inl ⟨dL_prop_21, rfl⟩) (fun q hq => absurd hq List.not_mem_nil) ?_
      refine Z_iconst C (v := 3) dL_prop_23 (by decide) ?_
      exact Z_iret C hr hlk dL_prop_24 (by rw [hx, kc_IA3]) (by rw [hx]; rfl)
  · refine Z_i2l C (v := ((Y).2.1).toInt64) dL_prop_8 rfl ?_
    refine Z_last C (f' := vp_updL f 0 ((Y).2.1).toInt64) (ws' := xW (Y).2.2 D B ++ [oA (vp_updL f 0 ((Y).2.1).toInt64)]) dL_prop_9 rfl (show vp_in (nI 0) 1 from vp_in_nI (by decide) (by decide)) rfl rfl ?_
    refine Z_goto C 25 dL_prop_10 (by decide) ?_
    refine Z_iconst C (v := 0) dL_prop_25 (by decide) ?_
    exact Z_iret C hr hlk dL_prop_26 (by rw [hE]; rfl) (by rw [hE]; rfl)
theorem x_renew (K D : St) (B : Sr) (x v : Int32) : (cRenew K x v).1 = none ∨ (cRenew K x v).1 = some "java/lang/IndexOutOfBoundsException" ∨ (cRenew K x v).1 = some "java/lang/IllegalArgumentException" ∨ (cRenew K x v).1 = some "java/lang/IllegalStateException" := by
  unfold cRenew
  (repeat' split) <;> simp
theorem m_L_renew : mH yL_renew cL_renew 5 (some .int) [(0, 10, 13, 21), (0, 10, 17, 13), (0, 10, 21, 15)] 4 := ⟨g_397, g_36, g_398, by decide +kernel⟩
set_option maxHeartbeats 4000000 in
set_option maxRecDepth 20000 in
theorem c_L_renew (K D : St) (B : Sr) (x v : Int32) (f : Nat → Int64) {n : Nat} (hn : K.2.2.1 0 = nI n) (h40 : n ≤ 40) {r : Nat} (hb : B.2 0 = nI r) (h30 : r ≤ 30) : CTH yL_renew cL_renew 5 (some .int) [(0, 10, 13, 21), (0, 10, 17, 13), (0, 10, 21, 15)] 7 1 6 [.ref 0, .int x, .int v, .ref 25] (xW K D B ++ [oA f]) (some (.int (kc eI eA (cRenew K x v).1))) (xW (cRenew K x v).2.2 D B ++ [oA (oF (cRenew K x v).1 ((cRenew K x v).2.1).toInt64 f)]) := by
  have hc := c_X2_renew K D B x v hn h40 hb h30
  have hx := x_renew K D B x v
  generalize cRenew K x v = Y at hc hx ⊢
  refine CTH_of (L := [(0, .ref 0), (1, .int x), (2, .int v), (3, .ref 25)]) (by decide) (fun _ => rfl) (fun _ => Nat.le_of_ble_eq_true rfl) ?_
  intro p l e s m args below meth c G h A C hst hY htab hr hlk
  refine Z_aload_n C dL_renew_0 rfl rfl ?_
  refine Z_iconst C (v := 0) dL_renew_1 (by decide) ?_
  refine Z_aload_n C dL_renew_2 rfl rfl ?_
  refine Z_iload_n C dL_renew_3 rfl rfl ?_
  refine Z_iload_n C dL_renew_4 rfl rfl ?_
  refine Z_callX C hst hY.1 (ws' := xW (Y).2.2 D B ++ [oA f]) (st' := [.int Y.2.1, .int 0, .ref 25]) (rest := [.int 0, .ref 25]) [0, 1, 2, 3, 4, 5, 6, 7, 8, 9, 10, 11, 12, 13, 14, 15, 16, 17, 18, 19, 20, 21, 22, 23, 24] hc m_X2_renew K2 g_399 dL_renew_5 rfl rfl rfl (outI 25 rfl rfl rfl (outR _ _ _)) (NW := 26) rfl rfl rfl rfl rfl ⟨Nat.le_of_ble_eq_true rfl, Nat.le_of_ble_eq_true rfl⟩ ⟨Nat.le_of_ble_eq_true rfl, Nat.le_of_ble_eq_true rfl⟩ (Nat.le_of_ble_eq_true rfl) rfl (fun E hE => ?_) (fun hE => ?_)
  · rcases hx with hx | hx | hx | hx
    · rw [hx] at hE; cases hE
    · rw [hx] at hE; cases hE
      refine Z_hand C htab (p1 := []) (p2 := [(0, 10, 17, 13), (0, 10, 21, 15)]) (a := 0) (b := 10) (hp := 13) (t := 21) (i5 := 4) (pc9 := 15) (L' := []) rfl (fun z hz => absurd hz List.not_mem_nil) (by decide) (by decide) g_357 (by simp [nW]) (by decide) (Or.inl ⟨dL_renew_13, rfl⟩) (fun q hq => absurd hq List.not_mem_nil) ?_
      refine Z_iconst C (v := 1) dL_renew_15 (by decide) ?_
      exact Z_iret C hr hlk dL_renew_16 (by rw [hx, kc_IA1]) (by rw [hx]; rfl)
    · rw [hx] at hE; cases hE
      refine Z_hand C htab (p1 := [(0, 10, 13, 21)]) (p2 := [(0, 10, 21, 15)]) (a := 0) (b := 10) (hp := 17) (t := 13) (i5 := 4) (pc9 := 19) (L' := []) rfl (fun z hz => by
        simp only [List.mem_cons, List.not_mem_nil, or_false] at hz
        rcases hz with rfl
        · exact ⟨by decide, "java/lang/IndexOutOfBoundsException", g_357, hY.2.2.1⟩) (by decide) (by decide) g_210 (by simp [nW]) (by decide) (Or.inl ⟨dL_renew_17, rfl⟩) (fun q hq => absurd hq List.not_mem_nil) ?_
      refine Z_iconst C (v := 2) dL_renew_19 (by decide) ?_
      exact Z_iret C hr hlk dL_renew_20 (by rw [hx, kc_IA2]) (by rw [hx]; rfl)
    · rw [hx] at hE; cases hE
      refine Z_hand C htab (p1 := [(0, 10, 13, 21), (0, 10, 17, 13)]) (p2 := []) (a := 0) (b := 10) (hp := 21) (t := 15) (i5 := 4) (pc9 := 23) (L' := []) rfl (fun z hz => by
        simp only [List.mem_cons, List.not_mem_nil, or_false] at hz
        rcases hz with rfl | rfl
        · exact ⟨by decide, "java/lang/IndexOutOfBoundsException", g_357, hY.2.2.2.2.1⟩
        · exact ⟨by decide, "java/lang/IllegalArgumentException", g_210, hY.2.2.2.1⟩) (by decide) (by decide) g_211 (by simp [nW]) (by decide) (Or.inl ⟨dL_renew_21, rfl⟩) (fun q hq => absurd hq List.not_mem_nil) ?_
      refine Z_iconst C (v := 3) dL_renew_23 (by decide) ?_
      exact Z_iret C hr hlk dL_renew_24 (by rw [hx, kc_IA3]) (by rw [hx]; rfl)
  · refine Z_i2l C (v := ((Y).2.1).toInt64) dL_renew_8 rfl ?_
    refine Z_last C (f' := vp_updL f 0 ((Y).2.1).toInt64) (ws' := xW (Y).2.2 D B ++ [oA (vp_updL f 0 ((Y).2.1).toInt64)]) dL_renew_9 rfl (show vp_in (nI 0) 1 from vp_in_nI (by decide) (by decide)) rfl rfl ?_
    refine Z_goto C 25 dL_renew_10 (by decide) ?_
    refine Z_iconst C (v := 0) dL_renew_25 (by decide) ?_
    exact Z_iret C hr hlk dL_renew_26 (by rw [hE]; rfl) (by rw [hE]; rfl)
theorem x_stair (K D : St) (B : Sr) (a d : Int32) : (cStair K B a d).1 = none ∨ (cStair K B a d).1 = some "java/lang/IndexOutOfBoundsException" ∨ (cStair K B a d).1 = some "java/lang/IllegalArgumentException" ∨ (cStair K B a d).1 = some "java/lang/IllegalStateException" := by
  unfold cStair
  (repeat' split) <;> simp
theorem m_L_stair : mH yL_stair cL_stair 5 (some .int) [(0, 10, 13, 21), (0, 10, 17, 13), (0, 10, 21, 15)] 4 := ⟨g_410, g_36, g_411, by decide +kernel⟩
set_option maxHeartbeats 4000000 in
set_option maxRecDepth 20000 in
theorem c_L_stair (K D : St) (B : Sr) (a d : Int32) (f : Nat → Int64) {n : Nat} (hn : K.2.2.1 0 = nI n) (h40 : n ≤ 40) {r : Nat} (hb : B.2 0 = nI r) (h30 : r ≤ 30) : CTH yL_stair cL_stair 5 (some .int) [(0, 10, 13, 21), (0, 10, 17, 13), (0, 10, 21, 15)] 7 1 6 [.ref 0, .int a, .int d, .ref 25] (xW K D B ++ [oA f]) (some (.int (kc eI eA (cStair K B a d).1))) (xW K D (cStair K B a d).2.2 ++ [oA (oF (cStair K B a d).1 ((cStair K B a d).2.1).toInt64 f)]) := by
  have hc := c_X2_stair K D B a d hn h40 hb h30
  have hx := x_stair K D B a d
  generalize cStair K B a d = Y at hc hx ⊢
  refine CTH_of (L := [(0, .ref 0), (1, .int a), (2, .int d), (3, .ref 25)]) (by decide) (fun _ => rfl) (fun _ => Nat.le_of_ble_eq_true rfl) ?_
  intro p l e s m args below meth c G h A C hst hY htab hr hlk
  refine Z_aload_n C dL_stair_0 rfl rfl ?_
  refine Z_iconst C (v := 0) dL_stair_1 (by decide) ?_
  refine Z_aload_n C dL_stair_2 rfl rfl ?_
  refine Z_iload_n C dL_stair_3 rfl rfl ?_
  refine Z_iload_n C dL_stair_4 rfl rfl ?_
  refine Z_callX C hst hY.1 (ws' := xW K D (Y).2.2 ++ [oA f]) (st' := [.int Y.2.1, .int 0, .ref 25]) (rest := [.int 0, .ref 25]) [0, 1, 2, 3, 4, 5, 6, 7, 8, 9, 10, 11, 12, 13, 14, 15, 16, 17, 18, 19, 20, 21, 22, 23, 24] hc m_X2_stair K2 g_412 dL_stair_5 rfl rfl rfl (outI 25 rfl rfl rfl (outR _ _ _)) (NW := 26) rfl rfl rfl rfl rfl ⟨Nat.le_of_ble_eq_true rfl, Nat.le_of_ble_eq_true rfl⟩ ⟨Nat.le_of_ble_eq_true rfl, Nat.le_of_ble_eq_true rfl⟩ (Nat.le_of_ble_eq_true rfl) rfl (fun E hE => ?_) (fun hE => ?_)
  · rcases hx with hx | hx | hx | hx
    · rw [hx] at hE; cases hE
    · rw [hx] at hE; cases hE
      refine Z_hand C htab (p1 := []) (p2 := [(0, 10, 17, 13), (0, 10, 21, 15)]) (a := 0) (b := 10) (hp := 13) (t := 21) (i5 := 4) (pc9 := 15) (L' := []) rfl (fun z hz => absurd hz List.not_mem_nil) (by decide) (by decide) g_357 (by simp [nW]) (by decide) (Or.inl ⟨dL_stair_13, rfl⟩) (fun q hq => absurd hq List.not_mem_nil) ?_
      refine Z_iconst C (v := 1) dL_stair_15 (by decide) ?_
      exact Z_iret C hr hlk dL_stair_16 (by rw [hx, kc_IA1]) (by rw [hx]; rfl)
    · rw [hx] at hE; cases hE
      refine Z_hand C htab (p1 := [(0, 10, 13, 21)]) (p2 := [(0, 10, 21, 15)]) (a := 0) (b := 10) (hp := 17) (t := 13) (i5 := 4) (pc9 := 19) (L' := []) rfl (fun z hz => by
        simp only [List.mem_cons, List.not_mem_nil, or_false] at hz
        rcases hz with rfl
        · exact ⟨by decide, "java/lang/IndexOutOfBoundsException", g_357, hY.2.2.1⟩) (by decide) (by decide) g_210 (by simp [nW]) (by decide) (Or.inl ⟨dL_stair_17, rfl⟩) (fun q hq => absurd hq List.not_mem_nil) ?_
      refine Z_iconst C (v := 2) dL_stair_19 (by decide) ?_
      exact Z_iret C hr hlk dL_stair_20 (by rw [hx, kc_IA2]) (by rw [hx]; rfl)
    · rw [hx] at hE; cases hE
      refine Z_hand C htab (p1 := [(0, 10, 13, 21), (0, 10, 17, 13)]) (p2 := []) (a := 0) (b := 10) (hp := 21) (t := 15) (i5 := 4) (pc9 := 23) (L' := []) rfl (fun z hz => by
        simp only [List.mem_cons, List.not_mem_nil, or_false] at hz
        rcases hz with rfl | rfl
        · exact ⟨by decide, "java/lang/IndexOutOfBoundsException", g_357, hY.2.2.2.2.1⟩
        · exact ⟨by decide, "java/lang/IllegalArgumentException", g_210, hY.2.2.2.1⟩) (by decide) (by decide) g_211 (by simp [nW]) (by decide) (Or.inl ⟨dL_stair_21, rfl⟩) (fun q hq => absurd hq List.not_mem_nil) ?_
      refine Z_iconst C (v := 3) dL_stair_23 (by decide) ?_
      exact Z_iret C hr hlk dL_stair_24 (by rw [hx, kc_IA3]) (by rw [hx]; rfl)
  · refine Z_i2l C (v := ((Y).2.1).toInt64) dL_stair_8 rfl ?_
    refine Z_last C (f' := vp_updL f 0 ((Y).2.1).toInt64) (ws' := xW K D (Y).2.2 ++ [oA (vp_updL f 0 ((Y).2.1).toInt64)]) dL_stair_9 rfl (show vp_in (nI 0) 1 from vp_in_nI (by decide) (by decide)) rfl rfl ?_
    refine Z_goto C 25 dL_stair_10 (by decide) ?_
    refine Z_iconst C (v := 0) dL_stair_25 (by decide) ?_
    exact Z_iret C hr hlk dL_stair_26 (by rw [hE]; rfl) (by rw [hE]; rfl)
theorem x_swap (K D : St) (B : Sr) (a d : Int32) : (cSwap K B a d).1 = none ∨ (cSwap K B a d).1 = some "java/lang/IndexOutOfBoundsException" ∨ (cSwap K B a d).1 = some "java/lang/IllegalArgumentException" ∨ (cSwap K B a d).1 = some "java/lang/IllegalStateException" := by
  unfold cSwap
  (repeat' split) <;> simp
theorem m_L_swap : mH yL_swap cL_swap 5 (some .int) [(0, 17, 20, 21), (0, 17, 24, 13), (0, 17, 28, 15)] 4 := ⟨g_428, g_36, g_429, by decide +kernel⟩
set_option maxHeartbeats 4000000 in
set_option maxRecDepth 20000 in
theorem c_L_swap (K D : St) (B : Sr) (a d : Int32) (f : Nat → Int64) {n : Nat} (hn : K.2.2.1 0 = nI n) (h40 : n ≤ 40) {r : Nat} (hb : B.2 0 = nI r) (h30 : r ≤ 30) : CTH yL_swap cL_swap 5 (some .int) [(0, 17, 20, 21), (0, 17, 24, 13), (0, 17, 28, 15)] 7 1 6 [.ref 0, .int a, .int d, .ref 25] (xW K D B ++ [oA f]) (some (.int (kc eI eA (cSwap K B a d).1))) (xW K D (cSwap K B a d).2.2 ++ [oA (oF (cSwap K B a d).1 (bL (cSwap K B a d).2.1) f)]) := by
  have hc := c_X2_swap K D B a d hn h40 hb h30
  have hx := x_swap K D B a d
  generalize cSwap K B a d = Y at hc hx ⊢
  refine CTH_of (L := [(0, .ref 0), (1, .int a), (2, .int d), (3, .ref 25)]) (by decide) (fun _ => rfl) (fun _ => Nat.le_of_ble_eq_true rfl) ?_
  intro p l e s m args below meth c G h A C hst hY htab hr hlk
  refine Z_aload_n C dL_swap_0 rfl rfl ?_
  refine Z_iconst C (v := 0) dL_swap_1 (by decide) ?_
  refine Z_aload_n C dL_swap_2 rfl rfl ?_
  refine Z_iload_n C dL_swap_3 rfl rfl ?_
  refine Z_iload_n C dL_swap_4 rfl rfl ?_
  refine Z_callX C hst hY.1 (ws' := xW K D (Y).2.2 ++ [oA f]) (st' := [.int (bI Y.2.1), .int 0, .ref 25]) (rest := [.int 0, .ref 25]) [0, 1, 2, 3, 4, 5, 6, 7, 8, 9, 10, 11, 12, 13, 14, 15, 16, 17, 18, 19, 20, 21, 22, 23, 24] hc m_X2_swap K2 g_430 dL_swap_5 rfl rfl rfl (outI 25 rfl rfl rfl (outR _ _ _)) (NW := 26) rfl rfl rfl rfl rfl ⟨Nat.le_of_ble_eq_true rfl, Nat.le_of_ble_eq_true rfl⟩ ⟨Nat.le_of_ble_eq_true rfl, Nat.le_of_ble_eq_true rfl⟩ (Nat.le_of_ble_eq_true rfl) rfl (fun E hE => ?_) (fun hE => ?_)
  · rcases hx with hx | hx | hx | hx
    · rw [hx] at hE; cases hE
    · rw [hx] at hE; cases hE
      refine Z_hand C htab (p1 := []) (p2 := [(0, 17, 24, 13), (0, 17, 28, 15)]) (a := 0) (b := 17) (hp := 20) (t := 21) (i5 := 4) (pc9 := 22) (L' := []) rfl (fun z hz => absurd hz List.not_mem_nil) (by decide) (by decide) g_357 (by simp [nW]) (by decide) (Or.inl ⟨dL_swap_20, rfl⟩) (fun q hq => absurd hq List.not_mem_nil) ?_
      refine Z_iconst C (v := 1) dL_swap_22 (by decide) ?_
      exact Z_iret C hr hlk dL_swap_23 (by rw [hx, kc_IA1]) (by rw [hx]; rfl)
    · rw [hx] at hE; cases hE
      refine Z_hand C htab (p1 := [(0, 17, 20, 21)]) (p2 := [(0, 17, 28, 15)]) (a := 0) (b := 17) (hp := 24) (t := 13) (i5 := 4) (pc9 := 26) (L' := []) rfl (fun z hz => by
        simp only [List.mem_cons, List.not_mem_nil, or_false] at hz
        rcases hz with rfl
        · exact ⟨by decide, "java/lang/IndexOutOfBoundsException", g_357, hY.2.2.1⟩) (by decide) (by decide) g_210 (by simp [nW]) (by decide) (Or.inl ⟨dL_swap_24, rfl⟩) (fun q hq => absurd hq List.not_mem_nil) ?_
      refine Z_iconst C (v := 2) dL_swap_26 (by decide) ?_
      exact Z_iret C hr hlk dL_swap_27 (by rw [hx, kc_IA2]) (by rw [hx]; rfl)
    · rw [hx] at hE; cases hE
      refine Z_hand C htab (p1 := [(0, 17, 20, 21), (0, 17, 24, 13)]) (p2 := []) (a := 0) (b := 17) (hp := 28) (t := 15) (i5 := 4) (pc9 := 30) (L' := []) rfl (fun z hz => by
        simp only [List.mem_cons, List.not_mem_nil, or_false] at hz
        rcases hz with rfl | rfl
        · exact ⟨by decide, "java/lang/IndexOutOfBoundsException", g_357, hY.2.2.2.2.1⟩
        · exact ⟨by decide, "java/lang/IllegalArgumentException", g_210, hY.2.2.2.1⟩) (by decide) (by decide) g_211 (by simp [nW]) (by decide) (Or.inl ⟨dL_swap_28, rfl⟩) (fun q hq => absurd hq List.not_mem_nil) ?_
      refine Z_iconst C (v := 3) dL_swap_30 (by decide) ?_
      exact Z_iret C hr hlk dL_swap_31 (by rw [hx, kc_IA3]) (by rw [hx]; rfl)
  · refine Z_if_eq C 15 dL_swap_8 (by decide) (fun c1 => ?_) (fun c1 => ?_)
    · have hb1 : Y.2.1 = false := bI_0.mp c1
      refine Z_lconst C (v := 0) dL_swap_15 (by decide) ?_
      refine Z_last C (f' := vp_updL f 0 0) (ws' := xW K D (Y).2.2 ++ [oA (vp_updL f 0 0)]) dL_swap_16 rfl (show vp_in (nI 0) 1 from vp_in_nI (by decide) (by decide)) rfl rfl ?_
      refine Z_goto C 32 dL_swap_17 (by decide) ?_
      refine Z_iconst C (v := 0) dL_swap_32 (by decide) ?_
      exact Z_iret C hr hlk dL_swap_33 (by rw [hE]; rfl) (by rw [hE, hb1]; rfl)
    · have hb1 : Y.2.1 = true := bI_n0.mp c1
      refine Z_lconst C (v := 1) dL_swap_11 (by decide) ?_
      refine Z_goto C 16 dL_swap_12 (by decide) ?_
      refine Z_last C (f' := vp_updL f 0 1) (ws' := xW K D (Y).2.2 ++ [oA (vp_updL f 0 1)]) dL_swap_16 rfl (show vp_in (nI 0) 1 from vp_in_nI (by decide) (by decide)) rfl rfl ?_
      refine Z_goto C 32 dL_swap_17 (by decide) ?_
      refine Z_iconst C (v := 0) dL_swap_32 (by decide) ?_
      exact Z_iret C hr hlk dL_swap_33 (by rw [hE]; rfl) (by rw [hE, hb1]; rfl)
theorem x_joins (K D : St) (B : Sr) (k w : Int32) : (cJoins K B k w).1 = none ∨ (cJoins K B k w).1 = some "java/lang/IndexOutOfBoundsException" := by
  unfold cJoins
  (repeat' split) <;> simp
theorem m_L_joins : mH yL_joins cL_joins 5 (some .int) [(0, 10, 13, 21)] 4 := ⟨g_443, g_36, g_444, by decide +kernel⟩
set_option maxHeartbeats 4000000 in
set_option maxRecDepth 20000 in
theorem c_L_joins (K D : St) (B : Sr) (k w : Int32) (f : Nat → Int64) {n : Nat} (hn : K.2.2.1 0 = nI n) (h40 : n ≤ 40) {r : Nat} (hb : B.2 0 = nI r) (h30 : r ≤ 30) : CTH yL_joins cL_joins 5 (some .int) [(0, 10, 13, 21)] 7 1 6 [.ref 0, .int k, .int w, .ref 25] (xW K D B ++ [oA f]) (some (.int (kc eI eA (cJoins K B k w).1))) (xW K D B ++ [oA (oF (cJoins K B k w).1 ((cJoins K B k w).2).toInt64 f)]) := by
  have hc := c_X2_joins K D B k w hn h40 hb h30
  have hx := x_joins K D B k w
  generalize cJoins K B k w = Y at hc hx ⊢
  refine CTH_of (L := [(0, .ref 0), (1, .int k), (2, .int w), (3, .ref 25)]) (by decide) (fun _ => rfl) (fun _ => Nat.le_of_ble_eq_true rfl) ?_
  intro p l e s m args below meth c G h A C hst hY htab hr hlk
  refine Z_aload_n C dL_joins_0 rfl rfl ?_
  refine Z_iconst C (v := 0) dL_joins_1 (by decide) ?_
  refine Z_aload_n C dL_joins_2 rfl rfl ?_
  refine Z_iload_n C dL_joins_3 rfl rfl ?_
  refine Z_iload_n C dL_joins_4 rfl rfl ?_
  refine Z_callX C hst hY.1 (ws' := xW K D B ++ [oA f]) (st' := [.int Y.2, .int 0, .ref 25]) (rest := [.int 0, .ref 25]) [0, 1, 2, 3, 4, 5, 6, 7, 8, 9, 10, 11, 12, 13, 14, 15, 16, 17, 18, 19, 20, 21, 22, 23, 24] hc m_X2_joins K2 g_445 dL_joins_5 rfl rfl rfl (outI 25 rfl rfl rfl (outR _ _ _)) (NW := 26) rfl rfl rfl rfl rfl ⟨Nat.le_of_ble_eq_true rfl, Nat.le_of_ble_eq_true rfl⟩ ⟨Nat.le_of_ble_eq_true rfl, Nat.le_of_ble_eq_true rfl⟩ (Nat.le_of_ble_eq_true rfl) rfl (fun E hE => ?_) (fun hE => ?_)
  · rcases hx with hx | hx
    · rw [hx] at hE; cases hE
    · rw [hx] at hE; cases hE
      refine Z_hand C htab (p1 := []) (p2 := []) (a := 0) (b := 10) (hp := 13) (t := 21) (i5 := 4) (pc9 := 15) (L' := []) rfl (fun z hz => absurd hz List.not_mem_nil) (by decide) (by decide) g_357 (by simp [nW]) (by decide) (Or.inl ⟨dL_joins_13, rfl⟩) (fun q hq => absurd hq List.not_mem_nil) ?_
      refine Z_iconst C (v := 1) dL_joins_15 (by decide) ?_
      exact Z_iret C hr hlk dL_joins_16 (by rw [hx, kc_IA1]) (by rw [hx]; rfl)
  · refine Z_i2l C (v := ((Y).2).toInt64) dL_joins_8 rfl ?_
    refine Z_last C (f' := vp_updL f 0 ((Y).2).toInt64) (ws' := xW K D B ++ [oA (vp_updL f 0 ((Y).2).toInt64)]) dL_joins_9 rfl (show vp_in (nI 0) 1 from vp_in_nI (by decide) (by decide)) rfl rfl ?_
    refine Z_goto C 17 dL_joins_10 (by decide) ?_
    refine Z_iconst C (v := 0) dL_joins_17 (by decide) ?_
    exact Z_iret C hr hlk dL_joins_18 (by rw [hE]; rfl) (by rw [hE]; rfl)
theorem x_steps (K D : St) (B : Sr) (a d : Int32) : (cSteps K B a d).1 = none ∨ (cSteps K B a d).1 = some "java/lang/IndexOutOfBoundsException" := by
  unfold cSteps
  (repeat' split) <;> simp
theorem m_L_steps : mH yL_steps cL_steps 5 (some .int) [(0, 10, 13, 21)] 4 := ⟨g_451, g_36, g_452, by decide +kernel⟩
set_option maxHeartbeats 4000000 in
set_option maxRecDepth 20000 in
theorem c_L_steps (K D : St) (B : Sr) (a d : Int32) (f : Nat → Int64) {n : Nat} (hn : K.2.2.1 0 = nI n) (h40 : n ≤ 40) {r : Nat} (hb : B.2 0 = nI r) (h30 : r ≤ 30) : CTH yL_steps cL_steps 5 (some .int) [(0, 10, 13, 21)] 7 1 6 [.ref 0, .int a, .int d, .ref 25] (xW K D B ++ [oA f]) (some (.int (kc eI eA (cSteps K B a d).1))) (xW K D (cSteps K B a d).2.2 ++ [oA (oF (cSteps K B a d).1 ((cSteps K B a d).2.1).toInt64 f)]) := by
  have hc := c_X2_steps K D B a d hn h40 hb h30
  have hx := x_steps K D B a d
  generalize cSteps K B a d = Y at hc hx ⊢
  refine CTH_of (L := [(0, .ref 0), (1, .int a), (2, .int d), (3, .ref 25)]) (by decide) (fun _ => rfl) (fun _ => Nat.le_of_ble_eq_true rfl) ?_
  intro p l e s m args below meth c G h A C hst hY htab hr hlk
  refine Z_aload_n C dL_steps_0 rfl rfl ?_
  refine Z_iconst C (v := 0) dL_steps_1 (by decide) ?_
  refine Z_aload_n C dL_steps_2 rfl rfl ?_
  refine Z_iload_n C dL_steps_3 rfl rfl ?_
  refine Z_iload_n C dL_steps_4 rfl rfl ?_
  refine Z_callX C hst hY.1 (ws' := xW K D (Y).2.2 ++ [oA f]) (st' := [.int Y.2.1, .int 0, .ref 25]) (rest := [.int 0, .ref 25]) [0, 1, 2, 3, 4, 5, 6, 7, 8, 9, 10, 11, 12, 13, 14, 15, 16, 17, 18, 19, 20, 21, 22, 23, 24] hc m_X2_steps K2 g_453 dL_steps_5 rfl rfl rfl (outI 25 rfl rfl rfl (outR _ _ _)) (NW := 26) rfl rfl rfl rfl rfl ⟨Nat.le_of_ble_eq_true rfl, Nat.le_of_ble_eq_true rfl⟩ ⟨Nat.le_of_ble_eq_true rfl, Nat.le_of_ble_eq_true rfl⟩ (Nat.le_of_ble_eq_true rfl) rfl (fun E hE => ?_) (fun hE => ?_)
  · rcases hx with hx | hx
    · rw [hx] at hE; cases hE
    · rw [hx] at hE; cases hE
      refine Z_hand C htab (p1 := []) (p2 := []) (a := 0) (b := 10) (hp := 13) (t := 21) (i5 := 4) (pc9 := 15) (L' := []) rfl (fun z hz => absurd hz List.not_mem_nil) (by decide) (by decide) g_357 (by simp [nW]) (by decide) (Or.inl ⟨dL_steps_13, rfl⟩) (fun q hq => absurd hq List.not_mem_nil) ?_
      refine Z_iconst C (v := 1) dL_steps_15 (by decide) ?_
      exact Z_iret C hr hlk dL_steps_16 (by rw [hx, kc_IA1]) (by rw [hx]; rfl)
  · refine Z_i2l C (v := ((Y).2.1).toInt64) dL_steps_8 rfl ?_
    refine Z_last C (f' := vp_updL f 0 ((Y).2.1).toInt64) (ws' := xW K D (Y).2.2 ++ [oA (vp_updL f 0 ((Y).2.1).toInt64)]) dL_steps_9 rfl (show vp_in (nI 0) 1 from vp_in_nI (by decide) (by decide)) rfl rfl ?_
    refine Z_goto C 17 dL_steps_10 (by decide) ?_
    refine Z_iconst C (v := 0) dL_steps_17 (by decide) ?_
    exact Z_iret C hr hlk dL_steps_18 (by rw [hE]; rfl) (by rw [hE]; rfl)
theorem x_stone (K D : St) (B : Sr) (x w : Int32) : (cStone K x w).1 = none ∨ (cStone K x w).1 = some "java/lang/IndexOutOfBoundsException" := by
  unfold cStone
  (repeat' split) <;> simp
theorem m_L_stone : mH yL_stone cL_stone 5 (some .int) [(0, 10, 13, 21)] 4 := ⟨g_474, g_36, g_475, by decide +kernel⟩
set_option maxHeartbeats 4000000 in
set_option maxRecDepth 20000 in
theorem c_L_stone (K D : St) (B : Sr) (x w : Int32) (f : Nat → Int64) {n : Nat} (hn : K.2.2.1 0 = nI n) (h40 : n ≤ 40) {r : Nat} (hb : B.2 0 = nI r) (h30 : r ≤ 30) : CTH yL_stone cL_stone 5 (some .int) [(0, 10, 13, 21)] 7 1 6 [.ref 0, .int x, .int w, .ref 25] (xW K D B ++ [oA f]) (some (.int (kc eI eA (cStone K x w).1))) (xW K D B ++ [oA (oF (cStone K x w).1 ((cStone K x w).2).toInt64 f)]) := by
  have hc := c_X2_stone K D B x w hn h40 hb h30
  have hx := x_stone K D B x w
  generalize cStone K x w = Y at hc hx ⊢
  refine CTH_of (L := [(0, .ref 0), (1, .int x), (2, .int w), (3, .ref 25)]) (by decide) (fun _ => rfl) (fun _ => Nat.le_of_ble_eq_true rfl) ?_
  intro p l e s m args below meth c G h A C hst hY htab hr hlk
  refine Z_aload_n C dL_stone_0 rfl rfl ?_
  refine Z_iconst C (v := 0) dL_stone_1 (by decide) ?_
  refine Z_aload_n C dL_stone_2 rfl rfl ?_
  refine Z_iload_n C dL_stone_3 rfl rfl ?_
  refine Z_iload_n C dL_stone_4 rfl rfl ?_
  refine Z_callX C hst hY.1 (ws' := xW K D B ++ [oA f]) (st' := [.int Y.2, .int 0, .ref 25]) (rest := [.int 0, .ref 25]) [0, 1, 2, 3, 4, 5, 6, 7, 8, 9, 10, 11, 12, 13, 14, 15, 16, 17, 18, 19, 20, 21, 22, 23, 24] hc m_X2_stone K2 g_476 dL_stone_5 rfl rfl rfl (outI 25 rfl rfl rfl (outR _ _ _)) (NW := 26) rfl rfl rfl rfl rfl ⟨Nat.le_of_ble_eq_true rfl, Nat.le_of_ble_eq_true rfl⟩ ⟨Nat.le_of_ble_eq_true rfl, Nat.le_of_ble_eq_true rfl⟩ (Nat.le_of_ble_eq_true rfl) rfl (fun E hE => ?_) (fun hE => ?_)
  · rcases hx with hx | hx
    · rw [hx] at hE; cases hE
    · rw [hx] at hE; cases hE
      refine Z_hand C htab (p1 := []) (p2 := []) (a := 0) (b := 10) (hp := 13) (t := 21) (i5 := 4) (pc9 := 15) (L' := []) rfl (fun z hz => absurd hz List.not_mem_nil) (by decide) (by decide) g_357 (by simp [nW]) (by decide) (Or.inl ⟨dL_stone_13, rfl⟩) (fun q hq => absurd hq List.not_mem_nil) ?_
      refine Z_iconst C (v := 1) dL_stone_15 (by decide) ?_
      exact Z_iret C hr hlk dL_stone_16 (by rw [hx, kc_IA1]) (by rw [hx]; rfl)
  · refine Z_i2l C (v := ((Y).2).toInt64) dL_stone_8 rfl ?_
    refine Z_last C (f' := vp_updL f 0 ((Y).2).toInt64) (ws' := xW K D B ++ [oA (vp_updL f 0 ((Y).2).toInt64)]) dL_stone_9 rfl (show vp_in (nI 0) 1 from vp_in_nI (by decide) (by decide)) rfl rfl ?_
    refine Z_goto C 17 dL_stone_10 (by decide) ?_
    refine Z_iconst C (v := 0) dL_stone_17 (by decide) ?_
    exact Z_iret C hr hlk dL_stone_18 (by rw [hE]; rfl) (by rw [hE]; rfl)
theorem x_first (K D : St) (B : Sr) (x : Int32) : (cFirst K x).1 = none ∨ (cFirst K x).1 = some "java/lang/IndexOutOfBoundsException" := by
  unfold cFirst
  (repeat' split) <;> simp
theorem m_L_first : mH yL_first cL_first 4 (some .int) [(0, 9, 12, 21)] 3 := ⟨g_482, g_36, g_483, by decide +kernel⟩
set_option maxHeartbeats 4000000 in
set_option maxRecDepth 20000 in
theorem c_L_first (K D : St) (B : Sr) (x : Int32) (f : Nat → Int64) {n : Nat} (hn : K.2.2.1 0 = nI n) (h40 : n ≤ 40) {r : Nat} (hb : B.2 0 = nI r) (h30 : r ≤ 30) : CTH yL_first cL_first 4 (some .int) [(0, 9, 12, 21)] 7 1 6 [.ref 0, .int x, .ref 25] (xW K D B ++ [oA f]) (some (.int (kc eI eA (cFirst K x).1))) (xW K D B ++ [oA (oF (cFirst K x).1 ((cFirst K x).2).toInt64 f)]) := by
  have hc := c_X2_first K D B x hn h40 hb h30
  have hx := x_first K D B x
  generalize cFirst K x = Y at hc hx ⊢
  refine CTH_of (L := [(0, .ref 0), (1, .int x), (2, .ref 25)]) (by decide) (fun _ => rfl) (fun _ => Nat.le_of_ble_eq_true rfl) ?_
  intro p l e s m args below meth c G h A C hst hY htab hr hlk
  refine Z_aload_n C dL_first_0 rfl rfl ?_
  refine Z_iconst C (v := 0) dL_first_1 (by decide) ?_
  refine Z_aload_n C dL_first_2 rfl rfl ?_
  refine Z_iload_n C dL_first_3 rfl rfl ?_
  refine Z_callX C hst hY.1 (ws' := xW K D B ++ [oA f]) (st' := [.int Y.2, .int 0, .ref 25]) (rest := [.int 0, .ref 25]) [0, 1, 2, 3, 4, 5, 6, 7, 8, 9, 10, 11, 12, 13, 14, 15, 16, 17, 18, 19, 20, 21, 22, 23, 24] hc m_X2_first K2 g_484 dL_first_4 rfl rfl rfl (outI 25 rfl rfl rfl (outR _ _ _)) (NW := 26) rfl rfl rfl rfl rfl ⟨Nat.le_of_ble_eq_true rfl, Nat.le_of_ble_eq_true rfl⟩ ⟨Nat.le_of_ble_eq_true rfl, Nat.le_of_ble_eq_true rfl⟩ (Nat.le_of_ble_eq_true rfl) rfl (fun E hE => ?_) (fun hE => ?_)
  · rcases hx with hx | hx
    · rw [hx] at hE; cases hE
    · rw [hx] at hE; cases hE
      refine Z_hand C htab (p1 := []) (p2 := []) (a := 0) (b := 9) (hp := 12) (t := 21) (i5 := 3) (pc9 := 13) (L' := []) rfl (fun z hz => absurd hz List.not_mem_nil) (by decide) (by decide) g_357 (by simp [nW]) (by decide) (Or.inr ⟨_, dL_first_12, rfl, rfl⟩) (fun q hq => absurd hq List.not_mem_nil) ?_
      refine Z_iconst C (v := 1) dL_first_13 (by decide) ?_
      exact Z_iret C hr hlk dL_first_14 (by rw [hx, kc_IA1]) (by rw [hx]; rfl)
  · refine Z_i2l C (v := ((Y).2).toInt64) dL_first_7 rfl ?_
    refine Z_last C (f' := vp_updL f 0 ((Y).2).toInt64) (ws' := xW K D B ++ [oA (vp_updL f 0 ((Y).2).toInt64)]) dL_first_8 rfl (show vp_in (nI 0) 1 from vp_in_nI (by decide) (by decide)) rfl rfl ?_
    refine Z_goto C 15 dL_first_9 (by decide) ?_
    refine Z_iconst C (v := 0) dL_first_15 (by decide) ?_
    exact Z_iret C hr hlk dL_first_16 (by rw [hE]; rfl) (by rw [hE]; rfl)
theorem x_count (K D : St) (B : Sr) (x : Int32) : (cCount K B x).1 = none ∨ (cCount K B x).1 = some "java/lang/IndexOutOfBoundsException" := by
  unfold cCount
  (repeat' split) <;> simp
theorem m_L_count : mH yL_count cL_count 4 (some .int) [(0, 9, 12, 21)] 3 := ⟨g_493, g_36, g_494, by decide +kernel⟩
set_option maxHeartbeats 4000000 in
set_option maxRecDepth 20000 in
theorem c_L_count (K D : St) (B : Sr) (x : Int32) (f : Nat → Int64) {n : Nat} (hn : K.2.2.1 0 = nI n) (h40 : n ≤ 40) {r : Nat} (hb : B.2 0 = nI r) (h30 : r ≤ 30) : CTH yL_count cL_count 4 (some .int) [(0, 9, 12, 21)] 7 1 6 [.ref 0, .int x, .ref 25] (xW K D B ++ [oA f]) (some (.int (kc eI eA (cCount K B x).1))) (xW K D B ++ [oA (oF (cCount K B x).1 ((cCount K B x).2).toInt64 f)]) := by
  have hc := c_X2_count K D B x hn h40 hb h30
  have hx := x_count K D B x
  generalize cCount K B x = Y at hc hx ⊢
  refine CTH_of (L := [(0, .ref 0), (1, .int x), (2, .ref 25)]) (by decide) (fun _ => rfl) (fun _ => Nat.le_of_ble_eq_true rfl) ?_
  intro p l e s m args below meth c G h A C hst hY htab hr hlk
  refine Z_aload_n C dL_count_0 rfl rfl ?_
  refine Z_iconst C (v := 0) dL_count_1 (by decide) ?_
  refine Z_aload_n C dL_count_2 rfl rfl ?_
  refine Z_iload_n C dL_count_3 rfl rfl ?_
  refine Z_callX C hst hY.1 (ws' := xW K D B ++ [oA f]) (st' := [.int Y.2, .int 0, .ref 25]) (rest := [.int 0, .ref 25]) [0, 1, 2, 3, 4, 5, 6, 7, 8, 9, 10, 11, 12, 13, 14, 15, 16, 17, 18, 19, 20, 21, 22, 23, 24] hc m_X2_count K2 g_495 dL_count_4 rfl rfl rfl (outI 25 rfl rfl rfl (outR _ _ _)) (NW := 26) rfl rfl rfl rfl rfl ⟨Nat.le_of_ble_eq_true rfl, Nat.le_of_ble_eq_true rfl⟩ ⟨Nat.le_of_ble_eq_true rfl, Nat.le_of_ble_eq_true rfl⟩ (Nat.le_of_ble_eq_true rfl) rfl (fun E hE => ?_) (fun hE => ?_)
  · rcases hx with hx | hx
    · rw [hx] at hE; cases hE
    · rw [hx] at hE; cases hE
      refine Z_hand C htab (p1 := []) (p2 := []) (a := 0) (b := 9) (hp := 12) (t := 21) (i5 := 3) (pc9 := 13) (L' := []) rfl (fun z hz => absurd hz List.not_mem_nil) (by decide) (by decide) g_357 (by simp [nW]) (by decide) (Or.inr ⟨_, dL_count_12, rfl, rfl⟩) (fun q hq => absurd hq List.not_mem_nil) ?_
      refine Z_iconst C (v := 1) dL_count_13 (by decide) ?_
      exact Z_iret C hr hlk dL_count_14 (by rw [hx, kc_IA1]) (by rw [hx]; rfl)
  · refine Z_i2l C (v := ((Y).2).toInt64) dL_count_7 rfl ?_
    refine Z_last C (f' := vp_updL f 0 ((Y).2).toInt64) (ws' := xW K D B ++ [oA (vp_updL f 0 ((Y).2).toInt64)]) dL_count_8 rfl (show vp_in (nI 0) 1 from vp_in_nI (by decide) (by decide)) rfl rfl ?_
    refine Z_goto C 15 dL_count_9 (by decide) ?_
    refine Z_iconst C (v := 0) dL_count_15 (by decide) ?_
    exact Z_iret C hr hlk dL_count_16 (by rw [hE]; rfl) (by rw [hE]; rfl)
theorem x_pass (K D : St) (B : Sr) (x : Int32) : (cPass K x).1 = none ∨ (cPass K x).1 = some "java/lang/IllegalArgumentException" := by
  unfold cPass
  (repeat' split) <;> simp
theorem m_L_pass : mH yL_pass cL_pass 4 (some .int) [(0, 9, 12, 13)] 3 := ⟨g_501, g_36, g_502, by decide +kernel⟩
set_option maxHeartbeats 4000000 in
set_option maxRecDepth 20000 in
theorem c_L_pass (K D : St) (B : Sr) (x : Int32) (f : Nat → Int64) {n : Nat} (hn : K.2.2.1 0 = nI n) (h40 : n ≤ 40) {r : Nat} (hb : B.2 0 = nI r) (h30 : r ≤ 30) : CTH yL_pass cL_pass 4 (some .int) [(0, 9, 12, 13)] 7 1 6 [.ref 0, .int x, .ref 25] (xW K D B ++ [oA f]) (some (.int (kc eA eI (cPass K x).1))) (xW (cPass K x).2.2 D B ++ [oA (oF (cPass K x).1 ((cPass K x).2.1).toInt64 f)]) := by
  have hc := c_X2_pass K D B x hn h40 hb h30
  have hx := x_pass K D B x
  generalize cPass K x = Y at hc hx ⊢
  refine CTH_of (L := [(0, .ref 0), (1, .int x), (2, .ref 25)]) (by decide) (fun _ => rfl) (fun _ => Nat.le_of_ble_eq_true rfl) ?_
  intro p l e s m args below meth c G h A C hst hY htab hr hlk
  refine Z_aload_n C dL_pass_0 rfl rfl ?_
  refine Z_iconst C (v := 0) dL_pass_1 (by decide) ?_
  refine Z_aload_n C dL_pass_2 rfl rfl ?_
  refine Z_iload_n C dL_pass_3 rfl rfl ?_
  refine Z_callX C hst hY.1 (ws' := xW (Y).2.2 D B ++ [oA f]) (st' := [.int Y.2.1, .int 0, .ref 25]) (rest := [.int 0, .ref 25]) [0, 1, 2, 3, 4, 5, 6, 7, 8, 9, 10, 11, 12, 13, 14, 15, 16, 17, 18, 19, 20, 21, 22, 23, 24] hc m_X2_pass K2 g_503 dL_pass_4 rfl rfl rfl (outI 25 rfl rfl rfl (outR _ _ _)) (NW := 26) rfl rfl rfl rfl rfl ⟨Nat.le_of_ble_eq_true rfl, Nat.le_of_ble_eq_true rfl⟩ ⟨Nat.le_of_ble_eq_true rfl, Nat.le_of_ble_eq_true rfl⟩ (Nat.le_of_ble_eq_true rfl) rfl (fun E hE => ?_) (fun hE => ?_)
  · rcases hx with hx | hx
    · rw [hx] at hE; cases hE
    · rw [hx] at hE; cases hE
      refine Z_hand C htab (p1 := []) (p2 := []) (a := 0) (b := 9) (hp := 12) (t := 13) (i5 := 3) (pc9 := 13) (L' := []) rfl (fun z hz => absurd hz List.not_mem_nil) (by decide) (by decide) g_210 (by simp [nW]) (by decide) (Or.inr ⟨_, dL_pass_12, rfl, rfl⟩) (fun q hq => absurd hq List.not_mem_nil) ?_
      refine Z_iconst C (v := 1) dL_pass_13 (by decide) ?_
      exact Z_iret C hr hlk dL_pass_14 (by rw [hx, kc_AI1]) (by rw [hx]; rfl)
  · refine Z_i2l C (v := ((Y).2.1).toInt64) dL_pass_7 rfl ?_
    refine Z_last C (f' := vp_updL f 0 ((Y).2.1).toInt64) (ws' := xW (Y).2.2 D B ++ [oA (vp_updL f 0 ((Y).2.1).toInt64)]) dL_pass_8 rfl (show vp_in (nI 0) 1 from vp_in_nI (by decide) (by decide)) rfl rfl ?_
    refine Z_goto C 15 dL_pass_9 (by decide) ?_
    refine Z_iconst C (v := 0) dL_pass_15 (by decide) ?_
    exact Z_iret C hr hlk dL_pass_16 (by rw [hE]; rfl) (by rw [hE]; rfl)
theorem x_without (K D : St) (B : Sr) (x : Int32) : (cWo K D x).1 = none ∨ (cWo K D x).1 = some "java/lang/IndexOutOfBoundsException" := by
  unfold cWo
  (repeat' split) <;> simp
theorem m_L_without : mH yL_without cL_without 4 (some .int) [(0, 9, 12, 21)] 3 := ⟨g_522, g_36, g_523, by decide +kernel⟩
set_option maxHeartbeats 4000000 in
set_option maxRecDepth 20000 in
theorem c_L_without (K D : St) (B : Sr) (x : Int32) (f : Nat → Int64) {n : Nat} (hn : K.2.2.1 0 = nI n) (h40 : n ≤ 40) {r : Nat} (hb : B.2 0 = nI r) (h30 : r ≤ 30) : CTH yL_without cL_without 4 (some .int) [(0, 9, 12, 21)] 7 1 6 [.ref 0, .int x, .ref 25] (xW K D B ++ [oA f]) (some (.int (kc eI eA (cWo K D x).1))) (xW K (cWo K D x).2.2 B ++ [oA (oF (cWo K D x).1 ((cWo K D x).2.1).toInt64 f)]) := by
  have hc := c_X2_without K D B x hn h40 hb h30
  have hx := x_without K D B x
  generalize cWo K D x = Y at hc hx ⊢
  refine CTH_of (L := [(0, .ref 0), (1, .int x), (2, .ref 25)]) (by decide) (fun _ => rfl) (fun _ => Nat.le_of_ble_eq_true rfl) ?_
  intro p l e s m args below meth c G h A C hst hY htab hr hlk
  refine Z_aload_n C dL_without_0 rfl rfl ?_
  refine Z_iconst C (v := 0) dL_without_1 (by decide) ?_
  refine Z_aload_n C dL_without_2 rfl rfl ?_
  refine Z_iload_n C dL_without_3 rfl rfl ?_
  refine Z_callX C hst hY.1 (ws' := xW K (Y).2.2 B ++ [oA f]) (st' := [.int Y.2.1, .int 0, .ref 25]) (rest := [.int 0, .ref 25]) [0, 1, 2, 3, 4, 5, 6, 7, 8, 9, 10, 11, 12, 13, 14, 15, 16, 17, 18, 19, 20, 21, 22, 23, 24] hc m_X2_without K2 g_524 dL_without_4 rfl rfl rfl (outI 25 rfl rfl rfl (outR _ _ _)) (NW := 26) rfl rfl rfl rfl rfl ⟨Nat.le_of_ble_eq_true rfl, Nat.le_of_ble_eq_true rfl⟩ ⟨Nat.le_of_ble_eq_true rfl, Nat.le_of_ble_eq_true rfl⟩ (Nat.le_of_ble_eq_true rfl) rfl (fun E hE => ?_) (fun hE => ?_)
  · rcases hx with hx | hx
    · rw [hx] at hE; cases hE
    · rw [hx] at hE; cases hE
      refine Z_hand C htab (p1 := []) (p2 := []) (a := 0) (b := 9) (hp := 12) (t := 21) (i5 := 3) (pc9 := 13) (L' := []) rfl (fun z hz => absurd hz List.not_mem_nil) (by decide) (by decide) g_357 (by simp [nW]) (by decide) (Or.inr ⟨_, dL_without_12, rfl, rfl⟩) (fun q hq => absurd hq List.not_mem_nil) ?_
      refine Z_iconst C (v := 1) dL_without_13 (by decide) ?_
      exact Z_iret C hr hlk dL_without_14 (by rw [hx, kc_IA1]) (by rw [hx]; rfl)
  · refine Z_i2l C (v := ((Y).2.1).toInt64) dL_without_7 rfl ?_
    refine Z_last C (f' := vp_updL f 0 ((Y).2.1).toInt64) (ws' := xW K (Y).2.2 B ++ [oA (vp_updL f 0 ((Y).2.1).toInt64)]) dL_without_8 rfl (show vp_in (nI 0) 1 from vp_in_nI (by decide) (by decide)) rfl rfl ?_
    refine Z_goto C 15 dL_without_9 (by decide) ?_
    refine Z_iconst C (v := 0) dL_without_15 (by decide) ?_
    exact Z_iret C hr hlk dL_without_16 (by rw [hE]; rfl) (by rw [hE]; rfl)
theorem x_lasts (K D : St) (B : Sr) (x : Int32) : (cLs K D x).1 = none ∨ (cLs K D x).1 = some "java/lang/IndexOutOfBoundsException" := by
  unfold cLs
  (repeat' split) <;> simp
theorem m_L_lasts : mH yL_lasts cL_lasts 4 (some .int) [(0, 9, 12, 21)] 3 := ⟨g_537, g_36, g_538, by decide +kernel⟩
set_option maxHeartbeats 4000000 in
set_option maxRecDepth 20000 in
theorem c_L_lasts (K D : St) (B : Sr) (x : Int32) (f : Nat → Int64) {n : Nat} (hn : K.2.2.1 0 = nI n) (h40 : n ≤ 40) {r : Nat} (hb : B.2 0 = nI r) (h30 : r ≤ 30) : CTH yL_lasts cL_lasts 4 (some .int) [(0, 9, 12, 21)] 7 1 6 [.ref 0, .int x, .ref 25] (xW K D B ++ [oA f]) (some (.int (kc eI eA (cLs K D x).1))) (xW K (cLs K D x).2.2 B ++ [oA (oF (cLs K D x).1 ((cLs K D x).2.1).toInt64 f)]) := by
  have hc := c_X2_lasts K D B x hn h40 hb h30
  have hx := x_lasts K D B x
  generalize cLs K D x = Y at hc hx ⊢
  refine CTH_of (L := [(0, .ref 0), (1, .int x), (2, .ref 25)]) (by decide) (fun _ => rfl) (fun _ => Nat.le_of_ble_eq_true rfl) ?_
  intro p l e s m args below meth c G h A C hst hY htab hr hlk
  refine Z_aload_n C dL_lasts_0 rfl rfl ?_
  refine Z_iconst C (v := 0) dL_lasts_1 (by decide) ?_
  refine Z_aload_n C dL_lasts_2 rfl rfl ?_
  refine Z_iload_n C dL_lasts_3 rfl rfl ?_
  refine Z_callX C hst hY.1 (ws' := xW K (Y).2.2 B ++ [oA f]) (st' := [.int Y.2.1, .int 0, .ref 25]) (rest := [.int 0, .ref 25]) [0, 1, 2, 3, 4, 5, 6, 7, 8, 9, 10, 11, 12, 13, 14, 15, 16, 17, 18, 19, 20, 21, 22, 23, 24] hc m_X2_lasts K2 g_539 dL_lasts_4 rfl rfl rfl (outI 25 rfl rfl rfl (outR _ _ _)) (NW := 26) rfl rfl rfl rfl rfl ⟨Nat.le_of_ble_eq_true rfl, Nat.le_of_ble_eq_true rfl⟩ ⟨Nat.le_of_ble_eq_true rfl, Nat.le_of_ble_eq_true rfl⟩ (Nat.le_of_ble_eq_true rfl) rfl (fun E hE => ?_) (fun hE => ?_)
  · rcases hx with hx | hx
    · rw [hx] at hE; cases hE
    · rw [hx] at hE; cases hE
      refine Z_hand C htab (p1 := []) (p2 := []) (a := 0) (b := 9) (hp := 12) (t := 21) (i5 := 3) (pc9 := 13) (L' := []) rfl (fun z hz => absurd hz List.not_mem_nil) (by decide) (by decide) g_357 (by simp [nW]) (by decide) (Or.inr ⟨_, dL_lasts_12, rfl, rfl⟩) (fun q hq => absurd hq List.not_mem_nil) ?_
      refine Z_iconst C (v := 1) dL_lasts_13 (by decide) ?_
      exact Z_iret C hr hlk dL_lasts_14 (by rw [hx, kc_IA1]) (by rw [hx]; rfl)
  · refine Z_i2l C (v := ((Y).2.1).toInt64) dL_lasts_7 rfl ?_
    refine Z_last C (f' := vp_updL f 0 ((Y).2.1).toInt64) (ws' := xW K (Y).2.2 B ++ [oA (vp_updL f 0 ((Y).2.1).toInt64)]) dL_lasts_8 rfl (show vp_in (nI 0) 1 from vp_in_nI (by decide) (by decide)) rfl rfl ?_
    refine Z_goto C 15 dL_lasts_9 (by decide) ?_
    refine Z_iconst C (v := 0) dL_lasts_15 (by decide) ?_
    exact Z_iret C hr hlk dL_lasts_16 (by rw [hE]; rfl) (by rw [hE]; rfl)
theorem x_foresee (K D : St) (B : Sr) (x w : Int32) : (cFo K D B x w).1 = none ∨ (cFo K D B x w).1 = some "java/lang/IllegalArgumentException" ∨ (cFo K D B x w).1 = some "java/lang/IndexOutOfBoundsException" := by
  unfold cFo
  (repeat' split) <;> simp
theorem m_L_foresee : mH yL_foresee cL_foresee 5 (some .int) [(0, 10, 13, 13), (0, 10, 17, 21)] 4 := ⟨g_545, g_36, g_546, by decide +kernel⟩
set_option maxHeartbeats 4000000 in
set_option maxRecDepth 20000 in
theorem c_L_foresee (K D : St) (B : Sr) (x w : Int32) (f : Nat → Int64) {n : Nat} (hn : K.2.2.1 0 = nI n) (h40 : n ≤ 40) {r : Nat} (hb : B.2 0 = nI r) (h30 : r ≤ 30) : CTH yL_foresee cL_foresee 5 (some .int) [(0, 10, 13, 13), (0, 10, 17, 21)] 7 1 6 [.ref 0, .int x, .int w, .ref 25] (xW K D B ++ [oA f]) (some (.int (kc eA eI (cFo K D B x w).1))) (xW K (cFo K D B x w).2.2 B ++ [oA (oF (cFo K D B x w).1 ((cFo K D B x w).2.1).toInt64 f)]) := by
  have hc := c_X2_foresee K D B x w hn h40 hb h30
  have hx := x_foresee K D B x w
  generalize cFo K D B x w = Y at hc hx ⊢
  refine CTH_of (L := [(0, .ref 0), (1, .int x), (2, .int w), (3, .ref 25)]) (by decide) (fun _ => rfl) (fun _ => Nat.le_of_ble_eq_true rfl) ?_
  intro p l e s m args below meth c G h A C hst hY htab hr hlk
  refine Z_aload_n C dL_foresee_0 rfl rfl ?_
  refine Z_iconst C (v := 0) dL_foresee_1 (by decide) ?_
  refine Z_aload_n C dL_foresee_2 rfl rfl ?_
  refine Z_iload_n C dL_foresee_3 rfl rfl ?_
  refine Z_iload_n C dL_foresee_4 rfl rfl ?_
  refine Z_callX C hst hY.1 (ws' := xW K (Y).2.2 B ++ [oA f]) (st' := [.int Y.2.1, .int 0, .ref 25]) (rest := [.int 0, .ref 25]) [0, 1, 2, 3, 4, 5, 6, 7, 8, 9, 10, 11, 12, 13, 14, 15, 16, 17, 18, 19, 20, 21, 22, 23, 24] hc m_X2_foresee K2 g_547 dL_foresee_5 rfl rfl rfl (outI 25 rfl rfl rfl (outR _ _ _)) (NW := 26) rfl rfl rfl rfl rfl ⟨Nat.le_of_ble_eq_true rfl, Nat.le_of_ble_eq_true rfl⟩ ⟨Nat.le_of_ble_eq_true rfl, Nat.le_of_ble_eq_true rfl⟩ (Nat.le_of_ble_eq_true rfl) rfl (fun E hE => ?_) (fun hE => ?_)
  · rcases hx with hx | hx | hx
    · rw [hx] at hE; cases hE
    · rw [hx] at hE; cases hE
      refine Z_hand C htab (p1 := []) (p2 := [(0, 10, 17, 21)]) (a := 0) (b := 10) (hp := 13) (t := 13) (i5 := 4) (pc9 := 15) (L' := []) rfl (fun z hz => absurd hz List.not_mem_nil) (by decide) (by decide) g_210 (by simp [nW]) (by decide) (Or.inl ⟨dL_foresee_13, rfl⟩) (fun q hq => absurd hq List.not_mem_nil) ?_
      refine Z_iconst C (v := 1) dL_foresee_15 (by decide) ?_
      exact Z_iret C hr hlk dL_foresee_16 (by rw [hx, kc_AI1]) (by rw [hx]; rfl)
    · rw [hx] at hE; cases hE
      refine Z_hand C htab (p1 := [(0, 10, 13, 13)]) (p2 := []) (a := 0) (b := 10) (hp := 17) (t := 21) (i5 := 4) (pc9 := 19) (L' := []) rfl (fun z hz => by
        simp only [List.mem_cons, List.not_mem_nil, or_false] at hz
        rcases hz with rfl
        · exact ⟨by decide, "java/lang/IllegalArgumentException", g_210, hY.2.2.2.2.2.1⟩) (by decide) (by decide) g_357 (by simp [nW]) (by decide) (Or.inl ⟨dL_foresee_17, rfl⟩) (fun q hq => absurd hq List.not_mem_nil) ?_
      refine Z_iconst C (v := 2) dL_foresee_19 (by decide) ?_
      exact Z_iret C hr hlk dL_foresee_20 (by rw [hx, kc_AI2]) (by rw [hx]; rfl)
  · refine Z_i2l C (v := ((Y).2.1).toInt64) dL_foresee_8 rfl ?_
    refine Z_last C (f' := vp_updL f 0 ((Y).2.1).toInt64) (ws' := xW K (Y).2.2 B ++ [oA (vp_updL f 0 ((Y).2.1).toInt64)]) dL_foresee_9 rfl (show vp_in (nI 0) 1 from vp_in_nI (by decide) (by decide)) rfl rfl ?_
    refine Z_goto C 21 dL_foresee_10 (by decide) ?_
    refine Z_iconst C (v := 0) dL_foresee_21 (by decide) ?_
    exact Z_iret C hr hlk dL_foresee_22 (by rw [hE]; rfl) (by rw [hE]; rfl)
theorem x_advise (K D : St) (B : Sr) (x y : Int32) : (cAd K D x y).1 = none ∨ (cAd K D x y).1 = some "java/lang/IllegalArgumentException" := by
  unfold cAd
  (repeat' split) <;> simp
theorem m_L_advise : mH yL_advise cL_advise 5 (some .int) [(0, 10, 13, 13)] 4 := ⟨g_552, g_36, g_553, by decide +kernel⟩
set_option maxHeartbeats 4000000 in
set_option maxRecDepth 20000 in
theorem c_L_advise (K D : St) (B : Sr) (x y : Int32) (f : Nat → Int64) {n : Nat} (hn : K.2.2.1 0 = nI n) (h40 : n ≤ 40) {r : Nat} (hb : B.2 0 = nI r) (h30 : r ≤ 30) : CTH yL_advise cL_advise 5 (some .int) [(0, 10, 13, 13)] 7 1 6 [.ref 0, .int x, .int y, .ref 25] (xW K D B ++ [oA f]) (some (.int (kc eA eI (cAd K D x y).1))) (xW K (cAd K D x y).2.2 B ++ [oA (oF (cAd K D x y).1 ((cAd K D x y).2.1).toInt64 f)]) := by
  have hc := c_X2_advise K D B x y hn h40 hb h30
  have hx := x_advise K D B x y
  generalize cAd K D x y = Y at hc hx ⊢
  refine CTH_of (L := [(0, .ref 0), (1, .int x), (2, .int y), (3, .ref 25)]) (by decide) (fun _ => rfl) (fun _ => Nat.le_of_ble_eq_true rfl) ?_
  intro p l e s m args below meth c G h A C hst hY htab hr hlk
  refine Z_aload_n C dL_advise_0 rfl rfl ?_
  refine Z_iconst C (v := 0) dL_advise_1 (by decide) ?_
  refine Z_aload_n C dL_advise_2 rfl rfl ?_
  refine Z_iload_n C dL_advise_3 rfl rfl ?_
  refine Z_iload_n C dL_advise_4 rfl rfl ?_
  refine Z_callX C hst hY.1 (ws' := xW K (Y).2.2 B ++ [oA f]) (st' := [.int Y.2.1, .int 0, .ref 25]) (rest := [.int 0, .ref 25]) [0, 1, 2, 3, 4, 5, 6, 7, 8, 9, 10, 11, 12, 13, 14, 15, 16, 17, 18, 19, 20, 21, 22, 23, 24] hc m_X2_advise K2 g_554 dL_advise_5 rfl rfl rfl (outI 25 rfl rfl rfl (outR _ _ _)) (NW := 26) rfl rfl rfl rfl rfl ⟨Nat.le_of_ble_eq_true rfl, Nat.le_of_ble_eq_true rfl⟩ ⟨Nat.le_of_ble_eq_true rfl, Nat.le_of_ble_eq_true rfl⟩ (Nat.le_of_ble_eq_true rfl) rfl (fun E hE => ?_) (fun hE => ?_)
  · rcases hx with hx | hx
    · rw [hx] at hE; cases hE
    · rw [hx] at hE; cases hE
      refine Z_hand C htab (p1 := []) (p2 := []) (a := 0) (b := 10) (hp := 13) (t := 13) (i5 := 4) (pc9 := 15) (L' := []) rfl (fun z hz => absurd hz List.not_mem_nil) (by decide) (by decide) g_210 (by simp [nW]) (by decide) (Or.inl ⟨dL_advise_13, rfl⟩) (fun q hq => absurd hq List.not_mem_nil) ?_
      refine Z_iconst C (v := 1) dL_advise_15 (by decide) ?_
      exact Z_iret C hr hlk dL_advise_16 (by rw [hx, kc_AI1]) (by rw [hx]; rfl)
  · refine Z_i2l C (v := ((Y).2.1).toInt64) dL_advise_8 rfl ?_
    refine Z_last C (f' := vp_updL f 0 ((Y).2.1).toInt64) (ws' := xW K (Y).2.2 B ++ [oA (vp_updL f 0 ((Y).2.1).toInt64)]) dL_advise_9 rfl (show vp_in (nI 0) 1 from vp_in_nI (by decide) (by decide)) rfl rfl ?_
    refine Z_goto C 17 dL_advise_10 (by decide) ?_
    refine Z_iconst C (v := 0) dL_advise_17 (by decide) ?_
    exact Z_iret C hr hlk dL_advise_18 (by rw [hE]; rfl) (by rw [hE]; rfl)
