def cHang (K : St) (w t f o : Int32) : Option String × Int32 × St := if (isInB w 1 20 && isInB t 1 60) = false ∨ f = o then (some "java/lang/IllegalArgumentException", 0, K) else if hasB K f = false ∨ ¬ o = -1 ∧ hasB K o = false then (some "java/lang/IndexOutOfBoundsException", 0, K) else if isFullB K = true ∨ hangsB K f = false ∨ ¬ o = -1 ∧ hangsB K o = false then (some "java/lang/IllegalStateException", 0, K) else (none, nI (nn K), giveWay (addH K (nn K) w t f o))
def cSky (K : St) (B : Sr) (w : Nat) : Int32 := if w = 0 then K.2.2.1 2 else if w = 1 then K.2.2.1 0 else if w = 2 then K.2.2.1 1 else if w = 3 then cSp K else if w = 4 then leftR B K else if w = 5 then sPw K else if w = 6 then sPr K else sSl K
def cCount (K : St) (B : Sr) (x : Int32) : Option String × Int32 := if isInB x 0 7 then (none, cSky K B (ix x)) else (some "java/lang/IndexOutOfBoundsException", 0)
def cLsG (x : Int32) : Nat → Nat → St → Int32 × St
  | 0, _, T => (-1, T)
  | k + 1, d, T => if hangsB T x = false then (nI d, T) else cLsG x k (d + 1) (liveDay T)
def cLsR (K D : St) (x : Int32) : Int32 × St := cLsG x 121 0 (copyF D K)
def cLs (K D : St) (x : Int32) : Option String × Int32 × St := if hasB K x = false then (some "java/lang/IndexOutOfBoundsException", 0, D) else (none, (cLsR K D x).1, (cLsR K D x).2)
def cFo (K D : St) (B : Sr) (x w : Int32) : Option String × Int32 × St := if isInB x 1 120 = false then (some "java/lang/IllegalArgumentException", 0, D) else if isInB w 0 2 = false then (some "java/lang/IndexOutOfBoundsException", 0, D) else (none, if ix w = 0 then (liveDays (copyF D K) x).2.2.1 1 else if ix w = 1 then leftR B (liveDays (copyF D K) x) else sPw (liveDays (copyF D K) x), liveDays (copyF D K) x)
def cLw (K D : St) (i : Nat) (y : Int32) (d : Nat) : St := liveDays (giveWay (setProp (copyF D K) (nI i) (mn 60 (K.1 2 i + y)))) (nI d)
def cLv (K D : St) (i : Nat) (v : Int32) (d : Nat) : St := liveDays (giveWay (setProp (copyF D K) (nI i) v)) (nI d)
theorem cLw_v (K D : St) (i : Nat) (y : Int32) (d : Nat) : cLw K D i y d = cLv K D i (mn 60 (K.1 2 i + y)) d := rfl
def cAd1 (K : St) (x : Int32) (d i : Nat) (T : St × Int32 × Int32) : St × Int32 × Int32 := if hangsB K (nI i) then if 60 ≤ K.1 2 i then T else if (cLw K T.1 i x d).2.2.1 1 ≤ T.2.1 then (cLw K T.1 i x d, T.2.1, T.2.2) else (cLw K T.1 i x d, (cLw K T.1 i x d).2.2.1 1, nI i) else T
def cAdR (K D : St) (x : Int32) (d : Nat) : St × Int32 × Int32 := fr (cAd1 K x d) (nn K) (liveDays (copyF D K) (nI d), (liveDays (copyF D K) (nI d)).2.2.1 1, -1)
def cAd (K D : St) (x y : Int32) : Option String × Int32 × St := if isInB x 1 60 && isInB y 1 60 then (none, (cAdR K D x (ix y)).2.2, (cAdR K D x (ix y)).1) else (some "java/lang/IllegalArgumentException", 0, D)
def cd0 (K : St) (B : Sr) (i : Nat) (d : Int64) : Int64 := d * 31 + (cSky K B i).toInt64
def cd1 (K : St) (i j : Nat) (d : Int64) : Int64 := d * 31 + (tell K (nI i) (nI j)).toInt64
def cdS (K : St) (i : Nat) (d : Int64) : Int64 := fr (cd1 K i) 10 d
def cd2 (K : St) (B : Sr) (i j : Nat) (d : Int64) : Int64 := d * 31 + (tellR B K (nI i) (nI j)).toInt64
def cdW (K : St) (B : Sr) (i : Nat) (d : Int64) : Int64 := fr (cd2 K B i) 3 d
def cDR (K : St) (B : Sr) (n r : Nat) : Int64 := fr (cdW K B) r (fr (cdS K) n (fr (cd0 K B) 8 971))
def cDg (K : St) (B : Sr) : Int64 := cDR K B (nn K) (ix (B.2 0))
set_option maxHeartbeats 4000000 in
set_option maxRecDepth 20000 in
theorem c_X2_hang (K : St) (D : St) (B : Sr) (w : Int32) (t : Int32) (f : Int32) (o : Int32) {n : Nat} (hn : K.2.2.1 0 = nI n) (h40 : n ≤ 40) {r : Nat} (hb : B.2 0 = nI r) (h30 : r ≤ 30) : CTX yX2_hang cX2_hang 6 (some .int) 6 1 6 [.ref 0, .int w, .int t, .int f, .int o] (twO ++ (stW 1 K ++ (stW 11 D ++ srW 21 B))) ((cHang K w t f o).1) (some (.int ((cHang K w t f o).2.1))) (twO ++ (stW 1 ((cHang K w t f o).2.2) ++ (stW 11 D ++ srW 21 B))) := by
  refine CTX_of (L := [(0, .ref 0), (1, .int w), (2, .int t), (3, .int f), (4, .int o)]) (by decide) (fun _ => rfl) (fun _ => Nat.le_of_ble_eq_true rfl) ?_
  intro p l e s m args below meth c G h A C hst hX hex hr hlk _
  have eN : nn K = n := nn_eq hn h40; have eR : ix (B.2 0) = r := r_eq hb h30
  refine Z_iload_n C dX2_hang_0 rfl rfl ?_
  refine Z_iload_n C dX2_hang_1 rfl rfl ?_
  refine Z_callS C (ws' := twO ++ (stW 1 K ++ (stW 11 D ++ srW 21 B))) (st' := [.int (bI (isInB w 1 20 && isInB t 1 60))]) (rest := []) [] (c_X2_isBody w t) m_X2_isBody g_477 dX2_hang_2 rfl rfl rfl (outS 1 rfl (outS 10 rfl (outS 10 rfl (outR _ _ _)))) (NW := 25) rfl rfl rfl rfl ⟨Nat.le_of_ble_eq_true rfl, Nat.le_of_ble_eq_true rfl⟩ ⟨Nat.le_of_ble_eq_true rfl, Nat.le_of_ble_eq_true rfl⟩ (Nat.le_of_ble_eq_true rfl) rfl ?_
  refine Z_if_eq C 14 dX2_hang_5 (by decide) (fun c1 => ?_) (fun c1 => ?_)
  · have c1 := bI_0.mp c1
    exact Z_throw C hst hX hex hlk atX_38 (text := "no such weight or strength, or both stones are the same") (by simp [strsX]) dX2_hang_14 dX2_hang_17 dX2_hang_18 dX2_hang_20 dX2_hang_23 ⟨Nat.le_of_ble_eq_true rfl, Nat.le_of_ble_eq_true rfl⟩ ⟨Nat.le_of_ble_eq_true rfl, Nat.le_of_ble_eq_true rfl⟩ (Nat.le_of_ble_eq_true rfl) (Nat.le_of_ble_eq_true rfl) (show (cHang K w t f o).1 = some "java/lang/IllegalArgumentException" from by simp [cHang, c1, eN, eR, bI]) (by rw [show ((cHang K w t f o).2.2) = K from by simp [cHang, c1, eN, eR, bI]])
  · have c1 := bI_n0.mp c1
    refine Z_iload_n C dX2_hang_8 rfl rfl ?_
    refine Z_iload C dX2_hang_9 rfl ?_
    refine Z_icmp_ne C 24 dX2_hang_11 (by decide) (fun c2 => ?_) (fun c2 => ?_)
    · refine Z_aload_n C dX2_hang_24 rfl rfl ?_
      refine Z_get C K2 (v := .ref 1) 0 dX2_hang_25 rfl (by decide) g_106 rfl rfl ?_
      refine Z_iload_n C dX2_hang_28 rfl rfl ?_
      refine Z_callV C (ws' := twO ++ (stW 1 K ++ (stW 11 D ++ srW 21 B))) (st' := [.int (bI (hasB K f))]) (rest := []) [1, 2, 3, 4, 5, 6, 7, 8, 9, 10] (c_X1_has K f) m_X1_has K1 g_216 dX2_hang_29 rfl rfl rfl (outS 1 rfl (outS 10 rfl (outS 10 rfl (outR _ _ _)))) (NW := 25) rfl rfl rfl rfl rfl ⟨Nat.le_of_ble_eq_true rfl, Nat.le_of_ble_eq_true rfl⟩ ⟨Nat.le_of_ble_eq_true rfl, Nat.le_of_ble_eq_true rfl⟩ (Nat.le_of_ble_eq_true rfl) rfl ?_
      refine Z_if_eq C 53 dX2_hang_32 (by decide) (fun c3 => ?_) (fun c3 => ?_)
      · have c3 := bI_0.mp c3
        exact Z_throw C hst hX hex hlk atX_67 (text := "no such stone") (by simp [strsX]) dX2_hang_53 dX2_hang_56 dX2_hang_57 dX2_hang_59 dX2_hang_62 ⟨Nat.le_of_ble_eq_true rfl, Nat.le_of_ble_eq_true rfl⟩ ⟨Nat.le_of_ble_eq_true rfl, Nat.le_of_ble_eq_true rfl⟩ (Nat.le_of_ble_eq_true rfl) (Nat.le_of_ble_eq_true rfl) (show (cHang K w t f o).1 = some "java/lang/IndexOutOfBoundsException" from by simp [cHang, c1, c2, c3, eN, eR, bI]) (by rw [show ((cHang K w t f o).2.2) = K from by simp [cHang, c1, c2, c3, eN, eR, bI]])
      · have c3 := bI_n0.mp c3
        refine Z_iload C dX2_hang_35 rfl ?_
        refine Z_iconst C (v := (-1)) dX2_hang_37 (by decide) ?_
        refine Z_icmp_eq C 63 dX2_hang_38 (by decide) (fun c4 => ?_) (fun c4 => ?_)
        · subst c4
          refine Z_aload_n C dX2_hang_63 rfl rfl ?_
          refine Z_get C K2 (v := .ref 1) 0 dX2_hang_64 rfl (by decide) g_106 rfl rfl ?_
          refine Z_callV C (ws' := twO ++ (stW 1 K ++ (stW 11 D ++ srW 21 B))) (st' := [.int (bI (isFullB K))]) (rest := []) [1, 2, 3, 4, 5, 6, 7, 8, 9, 10] (c_X1_isFull K) m_X1_isFull K1 g_481 dX2_hang_67 rfl rfl rfl (outS 1 rfl (outS 10 rfl (outS 10 rfl (outR _ _ _)))) (NW := 25) rfl rfl rfl rfl rfl ⟨Nat.le_of_ble_eq_true rfl, Nat.le_of_ble_eq_true rfl⟩ ⟨Nat.le_of_ble_eq_true rfl, Nat.le_of_ble_eq_true rfl⟩ (Nat.le_of_ble_eq_true rfl) rfl ?_
          refine Z_if_ne C 102 dX2_hang_70 (by decide) (fun c5 => ?_) (fun c5 => ?_)
          · have c5 := bI_n0.mp c5
            exact Z_throw C hst hX hex hlk atX_49 (text := "no more stones, or one of them has fallen") (by simp [strsX]) dX2_hang_102 dX2_hang_105 dX2_hang_106 dX2_hang_108 dX2_hang_111 ⟨Nat.le_of_ble_eq_true rfl, Nat.le_of_ble_eq_true rfl⟩ ⟨Nat.le_of_ble_eq_true rfl, Nat.le_of_ble_eq_true rfl⟩ (Nat.le_of_ble_eq_true rfl) (Nat.le_of_ble_eq_true rfl) (show (cHang K w t f (-1)).1 = some "java/lang/IllegalStateException" from by simp [cHang, c1, c2, c3, c5, eN, eR, bI]) (by rw [show ((cHang K w t f (-1)).2.2) = K from by simp [cHang, c1, c2, c3, c5, eN, eR, bI]])
          · have c5 := bI_0.mp c5
            refine Z_aload_n C dX2_hang_73 rfl rfl ?_
            refine Z_get C K2 (v := .ref 1) 0 dX2_hang_74 rfl (by decide) g_106 rfl rfl ?_
            refine Z_iload_n C dX2_hang_77 rfl rfl ?_
            refine Z_callV C (ws' := twO ++ (stW 1 K ++ (stW 11 D ++ srW 21 B))) (st' := [.int (bI (hangsB K f))]) (rest := []) [1, 2, 3, 4, 5, 6, 7, 8, 9, 10] (c_X1_isHanging K f hn h40) m_X1_isHanging K1 g_218 dX2_hang_78 rfl rfl rfl (outS 1 rfl (outS 10 rfl (outS 10 rfl (outR _ _ _)))) (NW := 25) rfl rfl rfl rfl rfl ⟨Nat.le_of_ble_eq_true rfl, Nat.le_of_ble_eq_true rfl⟩ ⟨Nat.le_of_ble_eq_true rfl, Nat.le_of_ble_eq_true rfl⟩ (Nat.le_of_ble_eq_true rfl) rfl ?_
            refine Z_if_eq C 102 dX2_hang_81 (by decide) (fun c6 => ?_) (fun c6 => ?_)
            · have c6 := bI_0.mp c6
              exact Z_throw C hst hX hex hlk atX_49 (text := "no more stones, or one of them has fallen") (by simp [strsX]) dX2_hang_102 dX2_hang_105 dX2_hang_106 dX2_hang_108 dX2_hang_111 ⟨Nat.le_of_ble_eq_true rfl, Nat.le_of_ble_eq_true rfl⟩ ⟨Nat.le_of_ble_eq_true rfl, Nat.le_of_ble_eq_true rfl⟩ (Nat.le_of_ble_eq_true rfl) (Nat.le_of_ble_eq_true rfl) (show (cHang K w t f (-1)).1 = some "java/lang/IllegalStateException" from by simp [cHang, c1, c2, c3, c5, c6, eN, eR, bI]) (by rw [show ((cHang K w t f (-1)).2.2) = K from by simp [cHang, c1, c2, c3, c5, c6, eN, eR, bI]])
            · have c6 := bI_n0.mp c6
              refine Z_iload C dX2_hang_84 rfl ?_
              refine Z_iconst C (v := (-1)) dX2_hang_86 (by decide) ?_
              refine Z_icmp_eq C 112 dX2_hang_87 (by decide) (fun c7 => ?_) (fun c7 => absurd c7 (by decide))
              have hl := full_lt hn h40 c5
              refine Z_aload_n C dX2_hang_112 rfl rfl ?_
              refine Z_get C K2 (v := .ref 1) 0 dX2_hang_113 rfl (by decide) g_106 rfl rfl ?_
              refine Z_iload_n C dX2_hang_116 rfl rfl ?_
              refine Z_iload_n C dX2_hang_117 rfl rfl ?_
              refine Z_iload_n C dX2_hang_118 rfl rfl ?_
              refine Z_iload C dX2_hang_119 rfl ?_
              refine Z_callV C (ws' := twO ++ (stW 1 (addH K n w t f (-1)) ++ (stW 11 D ++ srW 21 B))) (st' := [.int (nI n)]) (rest := []) [1, 2, 3, 4, 5, 6, 7, 8, 9, 10] (c_X1_addByHolds K w t f (-1) hn hl) m_X1_addByHolds K1 g_517 dX2_hang_121 rfl rfl rfl (outS 1 rfl (outI 10 rfl rfl rfl (outS 10 rfl (outR _ _ _)))) (NW := 25) rfl rfl rfl rfl rfl ⟨Nat.le_of_ble_eq_true rfl, Nat.le_of_ble_eq_true rfl⟩ ⟨Nat.le_of_ble_eq_true rfl, Nat.le_of_ble_eq_true rfl⟩ (Nat.le_of_ble_eq_true rfl) rfl ?_
              refine Z_ws (fun X1 => twO ++ (stW 1 X1 ++ (stW 11 D ++ srW 21 B))) (addH K n w t f (-1)) (fun X1 eX1 => ?_)
              refine Z_istore C (L' := [(5, .int (nI n)), (0, .ref 0), (1, .int w), (2, .int t), (3, .int f), (4, .int (-1))]) dX2_hang_124 (by decide) rfl ?_
              refine Z_aload_n C dX2_hang_126 rfl rfl ?_
              refine Z_get C K2 (v := .ref 1) 0 dX2_hang_127 rfl (by decide) g_106 rfl rfl ?_
              refine Z_callV C (ws' := twO ++ (stW 1 (giveWay X1) ++ (stW 11 D ++ srW 21 B))) (st' := []) (rest := []) [1, 2, 3, 4, 5, 6, 7, 8, 9, 10] (c_X1_giveWay X1 (show X1.2.2.1 0 = nI (n + 1) from by rw [eX1]; exact nI_1 n) (show n + 1 ≤ 40 from hl)) m_X1_giveWay K1 g_510 dX2_hang_130 rfl rfl rfl (outS 1 rfl (outI 10 rfl rfl rfl (outS 10 rfl (outR _ _ _)))) (NW := 25) rfl rfl rfl rfl rfl ⟨Nat.le_of_ble_eq_true rfl, Nat.le_of_ble_eq_true rfl⟩ ⟨Nat.le_of_ble_eq_true rfl, Nat.le_of_ble_eq_true rfl⟩ (Nat.le_of_ble_eq_true rfl) rfl ?_
              refine Z_ws (fun X2 => twO ++ (stW 1 X2 ++ (stW 11 D ++ srW 21 B))) (giveWay X1) (fun X2 eX2 => ?_)
              refine Z_iload C dX2_hang_133 rfl ?_
              exact Z_widen (Nat.le_of_ble_eq_true rfl) (Nat.le_of_ble_eq_true rfl) (Z_iretX C hr hlk dX2_hang_135 (show (cHang K w t f (-1)).1 = none from by subst eX1 eX2; simp [cHang, c1, c2, c3, c5, c6, eN, eR, bI]) (congrArg (fun z => some (Value.int z)) (show ((cHang K w t f (-1)).2.1) = (nI n) from by subst eX1 eX2; simp [cHang, c1, c2, c3, c5, c6, eN, eR, bI])) (by rw [show ((cHang K w t f (-1)).2.2) = X2 from by subst eX1 eX2; simp [cHang, c1, c2, c3, c5, c6, eN, eR, bI]]))
        · refine Z_aload_n C dX2_hang_41 rfl rfl ?_
          refine Z_get C K2 (v := .ref 1) 0 dX2_hang_42 rfl (by decide) g_106 rfl rfl ?_
          refine Z_iload C dX2_hang_45 rfl ?_
          refine Z_callV C (ws' := twO ++ (stW 1 K ++ (stW 11 D ++ srW 21 B))) (st' := [.int (bI (hasB K o))]) (rest := []) [1, 2, 3, 4, 5, 6, 7, 8, 9, 10] (c_X1_has K o) m_X1_has K1 g_216 dX2_hang_47 rfl rfl rfl (outS 1 rfl (outS 10 rfl (outS 10 rfl (outR _ _ _)))) (NW := 25) rfl rfl rfl rfl rfl ⟨Nat.le_of_ble_eq_true rfl, Nat.le_of_ble_eq_true rfl⟩ ⟨Nat.le_of_ble_eq_true rfl, Nat.le_of_ble_eq_true rfl⟩ (Nat.le_of_ble_eq_true rfl) rfl ?_
          refine Z_if_ne C 63 dX2_hang_50 (by decide) (fun c8 => ?_) (fun c8 => ?_)
          · have c8 := bI_n0.mp c8
            refine Z_aload_n C dX2_hang_63 rfl rfl ?_
            refine Z_get C K2 (v := .ref 1) 0 dX2_hang_64 rfl (by decide) g_106 rfl rfl ?_
            refine Z_callV C (ws' := twO ++ (stW 1 K ++ (stW 11 D ++ srW 21 B))) (st' := [.int (bI (isFullB K))]) (rest := []) [1, 2, 3, 4, 5, 6, 7, 8, 9, 10] (c_X1_isFull K) m_X1_isFull K1 g_481 dX2_hang_67 rfl rfl rfl (outS 1 rfl (outS 10 rfl (outS 10 rfl (outR _ _ _)))) (NW := 25) rfl rfl rfl rfl rfl ⟨Nat.le_of_ble_eq_true rfl, Nat.le_of_ble_eq_true rfl⟩ ⟨Nat.le_of_ble_eq_true rfl, Nat.le_of_ble_eq_true rfl⟩ (Nat.le_of_ble_eq_true rfl) rfl ?_
            refine Z_if_ne C 102 dX2_hang_70 (by decide) (fun c9 => ?_) (fun c9 => ?_)
            · have c9 := bI_n0.mp c9
              exact Z_throw C hst hX hex hlk atX_49 (text := "no more stones, or one of them has fallen") (by simp [strsX]) dX2_hang_102 dX2_hang_105 dX2_hang_106 dX2_hang_108 dX2_hang_111 ⟨Nat.le_of_ble_eq_true rfl, Nat.le_of_ble_eq_true rfl⟩ ⟨Nat.le_of_ble_eq_true rfl, Nat.le_of_ble_eq_true rfl⟩ (Nat.le_of_ble_eq_true rfl) (Nat.le_of_ble_eq_true rfl) (show (cHang K w t f o).1 = some "java/lang/IllegalStateException" from by simp [cHang, c1, c2, c3, c4, c8, c9, eN, eR, bI]) (by rw [show ((cHang K w t f o).2.2) = K from by simp [cHang, c1, c2, c3, c4, c8, c9, eN, eR, bI]])
            · have c9 := bI_0.mp c9
              refine Z_aload_n C dX2_hang_73 rfl rfl ?_
              refine Z_get C K2 (v := .ref 1) 0 dX2_hang_74 rfl (by decide) g_106 rfl rfl ?_
              refine Z_iload_n C dX2_hang_77 rfl rfl ?_
              refine Z_callV C (ws' := twO ++ (stW 1 K ++ (stW 11 D ++ srW 21 B))) (st' := [.int (bI (hangsB K f))]) (rest := []) [1, 2, 3, 4, 5, 6, 7, 8, 9, 10] (c_X1_isHanging K f hn h40) m_X1_isHanging K1 g_218 dX2_hang_78 rfl rfl rfl (outS 1 rfl (outS 10 rfl (outS 10 rfl (outR _ _ _)))) (NW := 25) rfl rfl rfl rfl rfl ⟨Nat.le_of_ble_eq_true rfl, Nat.le_of_ble_eq_true rfl⟩ ⟨Nat.le_of_ble_eq_true rfl, Nat.le_of_ble_eq_true rfl⟩ (Nat.le_of_ble_eq_true rfl) rfl ?_
              refine Z_if_eq C 102 dX2_hang_81 (by decide) (fun c10 => ?_) (fun c10 => ?_)
              · have c10 := bI_0.mp c10
                exact Z_throw C hst hX hex hlk atX_49 (text := "no more stones, or one of them has fallen") (by simp [strsX]) dX2_hang_102 dX2_hang_105 dX2_hang_106 dX2_hang_108 dX2_hang_111 ⟨Nat.le_of_ble_eq_true rfl, Nat.le_of_ble_eq_true rfl⟩ ⟨Nat.le_of_ble_eq_true rfl, Nat.le_of_ble_eq_true rfl⟩ (Nat.le_of_ble_eq_true rfl) (Nat.le_of_ble_eq_true rfl) (show (cHang K w t f o).1 = some "java/lang/IllegalStateException" from by simp [cHang, c1, c2, c3, c4, c8, c9, c10, eN, eR, bI]) (by rw [show ((cHang K w t f o).2.2) = K from by simp [cHang, c1, c2, c3, c4, c8, c9, c10, eN, eR, bI]])
              · have c10 := bI_n0.mp c10
                refine Z_iload C dX2_hang_84 rfl ?_
                refine Z_iconst C (v := (-1)) dX2_hang_86 (by decide) ?_
                refine Z_icmp_eq C 112 dX2_hang_87 (by decide) (fun c11 => absurd c11 c4) (fun c11 => ?_)
                refine Z_aload_n C dX2_hang_90 rfl rfl ?_
                refine Z_get C K2 (v := .ref 1) 0 dX2_hang_91 rfl (by decide) g_106 rfl rfl ?_
                refine Z_iload C dX2_hang_94 rfl ?_
                refine Z_callV C (ws' := twO ++ (stW 1 K ++ (stW 11 D ++ srW 21 B))) (st' := [.int (bI (hangsB K o))]) (rest := []) [1, 2, 3, 4, 5, 6, 7, 8, 9, 10] (c_X1_isHanging K o hn h40) m_X1_isHanging K1 g_218 dX2_hang_96 rfl rfl rfl (outS 1 rfl (outS 10 rfl (outS 10 rfl (outR _ _ _)))) (NW := 25) rfl rfl rfl rfl rfl ⟨Nat.le_of_ble_eq_true rfl, Nat.le_of_ble_eq_true rfl⟩ ⟨Nat.le_of_ble_eq_true rfl, Nat.le_of_ble_eq_true rfl⟩ (Nat.le_of_ble_eq_true rfl) rfl ?_
                refine Z_if_ne C 112 dX2_hang_99 (by decide) (fun c12 => ?_) (fun c12 => ?_)
                · have c12 := bI_n0.mp c12
                  have hl := full_lt hn h40 c9
                  refine Z_aload_n C dX2_hang_112 rfl rfl ?_
                  refine Z_get C K2 (v := .ref 1) 0 dX2_hang_113 rfl (by decide) g_106 rfl rfl ?_
                  refine Z_iload_n C dX2_hang_116 rfl rfl ?_
                  refine Z_iload_n C dX2_hang_117 rfl rfl ?_
                  refine Z_iload_n C dX2_hang_118 rfl rfl ?_
                  refine Z_iload C dX2_hang_119 rfl ?_
                  refine Z_callV C (ws' := twO ++ (stW 1 (addH K n w t f o) ++ (stW 11 D ++ srW 21 B))) (st' := [.int (nI n)]) (rest := []) [1, 2, 3, 4, 5, 6, 7, 8, 9, 10] (c_X1_addByHolds K w t f o hn hl) m_X1_addByHolds K1 g_517 dX2_hang_121 rfl rfl rfl (outS 1 rfl (outI 10 rfl rfl rfl (outS 10 rfl (outR _ _ _)))) (NW := 25) rfl rfl rfl rfl rfl ⟨Nat.le_of_ble_eq_true rfl, Nat.le_of_ble_eq_true rfl⟩ ⟨Nat.le_of_ble_eq_true rfl, Nat.le_of_ble_eq_true rfl⟩ (Nat.le_of_ble_eq_true rfl) rfl ?_
                  refine Z_ws (fun X3 => twO ++ (stW 1 X3 ++ (stW 11 D ++ srW 21 B))) (addH K n w t f o) (fun X3 eX3 => ?_)
                  refine Z_istore C (L' := [(5, .int (nI n)), (0, .ref 0), (1, .int w), (2, .int t), (3, .int f), (4, .int o)]) dX2_hang_124 (by decide) rfl ?_
                  refine Z_aload_n C dX2_hang_126 rfl rfl ?_
                  refine Z_get C K2 (v := .ref 1) 0 dX2_hang_127 rfl (by decide) g_106 rfl rfl ?_
                  refine Z_callV C (ws' := twO ++ (stW 1 (giveWay X3) ++ (stW 11 D ++ srW 21 B))) (st' := []) (rest := []) [1, 2, 3, 4, 5, 6, 7, 8, 9, 10] (c_X1_giveWay X3 (show X3.2.2.1 0 = nI (n + 1) from by rw [eX3]; exact nI_1 n) (show n + 1 ≤ 40 from hl)) m_X1_giveWay K1 g_510 dX2_hang_130 rfl rfl rfl (outS 1 rfl (outI 10 rfl rfl rfl (outS 10 rfl (outR _ _ _)))) (NW := 25) rfl rfl rfl rfl rfl ⟨Nat.le_of_ble_eq_true rfl, Nat.le_of_ble_eq_true rfl⟩ ⟨Nat.le_of_ble_eq_true rfl, Nat.le_of_ble_eq_true rfl⟩ (Nat.le_of_ble_eq_true rfl) rfl ?_
                  refine Z_ws (fun X4 => twO ++ (stW 1 X4 ++ (stW 11 D ++ srW 21 B))) (giveWay X3) (fun X4 eX4 => ?_)
                  refine Z_iload C dX2_hang_133 rfl ?_
                  exact Z_widen (Nat.le_of_ble_eq_true rfl) (Nat.le_of_ble_eq_true rfl) (Z_iretX C hr hlk dX2_hang_135 (show (cHang K w t f o).1 = none from by subst eX3 eX4; simp [cHang, c1, c2, c3, c4, c8, c9, c10, c11, c12, eN, eR, bI]) (congrArg (fun z => some (Value.int z)) (show ((cHang K w t f o).2.1) = (nI n) from by subst eX3 eX4; simp [cHang, c1, c2, c3, c4, c8, c9, c10, c11, c12, eN, eR, bI])) (by rw [show ((cHang K w t f o).2.2) = X4 from by subst eX3 eX4; simp [cHang, c1, c2, c3, c4, c8, c9, c10, c11, c12, eN, eR, bI]]))
                · have c12 := bI_0.mp c12
                  exact Z_throw C hst hX hex hlk atX_49 (text := "no more stones, or one of them has fallen") (by simp [strsX]) dX2_hang_102 dX2_hang_105 dX2_hang_106 dX2_hang_108 dX2_hang_111 ⟨Nat.le_of_ble_eq_true rfl, Nat.le_of_ble_eq_true rfl⟩ ⟨Nat.le_of_ble_eq_true rfl, Nat.le_of_ble_eq_true rfl⟩ (Nat.le_of_ble_eq_true rfl) (Nat.le_of_ble_eq_true rfl) (show (cHang K w t f o).1 = some "java/lang/IllegalStateException" from by simp [cHang, c1, c2, c3, c4, c8, c9, c10, c11, c12, eN, eR, bI]) (by rw [show ((cHang K w t f o).2.2) = K from by simp [cHang, c1, c2, c3, c4, c8, c9, c10, c11, c12, eN, eR, bI]])
          · have c8 := bI_0.mp c8
            exact Z_throw C hst hX hex hlk atX_67 (text := "no such stone") (by simp [strsX]) dX2_hang_53 dX2_hang_56 dX2_hang_57 dX2_hang_59 dX2_hang_62 ⟨Nat.le_of_ble_eq_true rfl, Nat.le_of_ble_eq_true rfl⟩ ⟨Nat.le_of_ble_eq_true rfl, Nat.le_of_ble_eq_true rfl⟩ (Nat.le_of_ble_eq_true rfl) (Nat.le_of_ble_eq_true rfl) (show (cHang K w t f o).1 = some "java/lang/IndexOutOfBoundsException" from by simp [cHang, c1, c2, c3, c4, c8, eN, eR, bI]) (by rw [show ((cHang K w t f o).2.2) = K from by simp [cHang, c1, c2, c3, c4, c8, eN, eR, bI]])
    · exact Z_throw C hst hX hex hlk atX_38 (text := "no such weight or strength, or both stones are the same") (by simp [strsX]) dX2_hang_14 dX2_hang_17 dX2_hang_18 dX2_hang_20 dX2_hang_23 ⟨Nat.le_of_ble_eq_true rfl, Nat.le_of_ble_eq_true rfl⟩ ⟨Nat.le_of_ble_eq_true rfl, Nat.le_of_ble_eq_true rfl⟩ (Nat.le_of_ble_eq_true rfl) (Nat.le_of_ble_eq_true rfl) (show (cHang K w t f o).1 = some "java/lang/IllegalArgumentException" from by simp [cHang, c1, c2, eN, eR, bI]) (by rw [show ((cHang K w t f o).2.2) = K from by simp [cHang, c1, c2, eN, eR, bI]])
set_option maxHeartbeats 4000000 in
set_option maxRecDepth 20000 in
theorem c_X2_tellSky (K : St) (D : St) (B : Sr) (x : Int32) {n : Nat} (hn : K.2.2.1 0 = nI n) (h40 : n ≤ 40) {r : Nat} (hb : B.2 0 = nI r) (h30 : r ≤ 30) {w : Nat} (hx : x = nI w) (hw : w < 8) : CT yX2_tellSky cX2_tellSky 2 (some .int) 4 0 0 [.ref 0, .int x] (twO ++ (stW 1 K ++ (stW 11 D ++ srW 21 B))) (some (.int (cSky K B w))) (twO ++ (stW 1 K ++ (stW 11 D ++ srW 21 B))) := by
  refine CT_of (L := [(0, .ref 0), (1, .int x)]) (by decide) (fun _ => rfl) (fun _ => Nat.le_of_ble_eq_true rfl) ?_
  intro p l e s m args below meth c G h A C hr hlk _
  have eN : nn K = n := nn_eq hn h40; have eR : ix (B.2 0) = r := r_eq hb h30
  subst hx
  refine Z_iload_n C dX2_tellSky_0 rfl rfl ?_
  rcases (show w = 0 ∨ w = 1 ∨ w = 2 ∨ w = 3 ∨ w = 4 ∨ w = 5 ∨ w = 6 ∨ w = 7 from by omega) with rfl | rfl | rfl | rfl | rfl | rfl | rfl | rfl
  · refine Z_tIn C 0 44 dX2_tellSky_1 (by decide) (by decide) (by decide) rfl (by decide) ?_
    refine Z_aload_n C dX2_tellSky_44 rfl rfl ?_
    refine Z_get C K2 (v := .ref 1) 0 dX2_tellSky_45 rfl (by decide) g_106 rfl rfl ?_
    refine Z_getN C K1 (v := .int (K.2.2.1 2)) 11 dX2_tellSky_48 rfl (by decide) (show Cond.fieldLinkNest RX2 196 RX1 "day" "I" RX2 ∈ nW by simp [nW]) rfl rfl ?_
    exact Z_iret C hr hlk dX2_tellSky_51 (congrArg (fun z => some (Value.int z)) (show (cSky K B 0) = (K.2.2.1 2) from by simp [cSky])) rfl
  · refine Z_tIn C 1 52 dX2_tellSky_1 (by decide) (by decide) (by decide) rfl (by decide) ?_
    refine Z_aload_n C dX2_tellSky_52 rfl rfl ?_
    refine Z_get C K2 (v := .ref 1) 0 dX2_tellSky_53 rfl (by decide) g_106 rfl rfl ?_
    refine Z_getN C K1 (v := .int (K.2.2.1 0)) 9 dX2_tellSky_56 rfl (by decide) (show Cond.fieldLinkNest RX2 172 RX1 "hung" "I" RX2 ∈ nW by simp [nW]) rfl rfl ?_
    exact Z_iret C hr hlk dX2_tellSky_59 (congrArg (fun z => some (Value.int z)) (show (cSky K B 1) = (K.2.2.1 0) from by simp [cSky])) rfl
  · refine Z_tIn C 2 60 dX2_tellSky_1 (by decide) (by decide) (by decide) rfl (by decide) ?_
    refine Z_aload_n C dX2_tellSky_60 rfl rfl ?_
    refine Z_get C K2 (v := .ref 1) 0 dX2_tellSky_61 rfl (by decide) g_106 rfl rfl ?_
    refine Z_getN C K1 (v := .int (K.2.2.1 1)) 10 dX2_tellSky_64 rfl (by decide) (show Cond.fieldLinkNest RX2 81 RX1 "hanging" "I" RX2 ∈ nW by simp [nW]) rfl rfl ?_
    exact Z_iret C hr hlk dX2_tellSky_67 (congrArg (fun z => some (Value.int z)) (show (cSky K B 2) = (K.2.2.1 1) from by simp [cSky])) rfl
  · refine Z_tIn C 3 68 dX2_tellSky_1 (by decide) (by decide) (by decide) rfl (by decide) ?_
    refine Z_aload_n C dX2_tellSky_68 rfl rfl ?_
    refine Z_get C K2 (v := .ref 1) 0 dX2_tellSky_69 rfl (by decide) g_106 rfl rfl ?_
    refine Z_callV C (ws' := twO ++ (stW 1 K ++ (stW 11 D ++ srW 21 B))) (st' := [.int (cSp K)]) (rest := []) [1, 2, 3, 4, 5, 6, 7, 8, 9, 10] (c_X1_countSpells K hn h40) m_X1_countSpells K1 g_265 dX2_tellSky_72 rfl rfl rfl (outS 1 rfl (outS 10 rfl (outS 10 rfl (outR _ _ _)))) (NW := 25) rfl rfl rfl rfl rfl ⟨Nat.le_of_ble_eq_true rfl, Nat.le_of_ble_eq_true rfl⟩ ⟨Nat.le_of_ble_eq_true rfl, Nat.le_of_ble_eq_true rfl⟩ (Nat.le_of_ble_eq_true rfl) rfl ?_
    exact Z_iret C hr hlk dX2_tellSky_75 (congrArg (fun z => some (Value.int z)) (show (cSky K B 3) = (cSp K) from by simp [cSky])) rfl
  · refine Z_tIn C 4 76 dX2_tellSky_1 (by decide) (by decide) (by decide) rfl (by decide) ?_
    refine Z_aload_n C dX2_tellSky_76 rfl rfl ?_
    refine Z_get C K2 (v := .ref 21) 2 dX2_tellSky_77 rfl (by decide) g_108 rfl rfl ?_
    refine Z_aload_n C dX2_tellSky_80 rfl rfl ?_
    refine Z_get C K2 (v := .ref 1) 0 dX2_tellSky_81 rfl (by decide) g_106 rfl rfl ?_
    refine Z_callV C (ws' := twO ++ (stW 1 K ++ (stW 11 D ++ srW 21 B))) (st' := [.int (leftR B K)]) (rest := []) [21, 22, 23, 24, 1, 2, 3, 4, 5, 6, 7, 8, 9, 10] (c_X0_countLeft B K hb h30 hn h40) m_X0_countLeft K0 g_269 dX2_tellSky_84 rfl rfl rfl (outS 1 rfl (outS 10 rfl (outS 10 rfl (outR _ _ _)))) (NW := 25) rfl rfl rfl rfl rfl ⟨Nat.le_of_ble_eq_true rfl, Nat.le_of_ble_eq_true rfl⟩ ⟨Nat.le_of_ble_eq_true rfl, Nat.le_of_ble_eq_true rfl⟩ (Nat.le_of_ble_eq_true rfl) rfl ?_
    exact Z_iret C hr hlk dX2_tellSky_87 (congrArg (fun z => some (Value.int z)) (show (cSky K B 4) = (leftR B K) from by simp [cSky])) rfl
  · refine Z_tIn C 5 88 dX2_tellSky_1 (by decide) (by decide) (by decide) rfl (by decide) ?_
    refine Z_aload_n C dX2_tellSky_88 rfl rfl ?_
    refine Z_get C K2 (v := .ref 1) 0 dX2_tellSky_89 rfl (by decide) g_106 rfl rfl ?_
    refine Z_callV C (ws' := twO ++ (stW 1 K ++ (stW 11 D ++ srW 21 B))) (st' := [.int (sPw K)]) (rest := []) [1, 2, 3, 4, 5, 6, 7, 8, 9, 10] (c_X1_sumOfPowers K hn h40) m_X1_sumOfPowers K1 g_273 dX2_tellSky_92 rfl rfl rfl (outS 1 rfl (outS 10 rfl (outS 10 rfl (outR _ _ _)))) (NW := 25) rfl rfl rfl rfl rfl ⟨Nat.le_of_ble_eq_true rfl, Nat.le_of_ble_eq_true rfl⟩ ⟨Nat.le_of_ble_eq_true rfl, Nat.le_of_ble_eq_true rfl⟩ (Nat.le_of_ble_eq_true rfl) rfl ?_
    exact Z_iret C hr hlk dX2_tellSky_95 (congrArg (fun z => some (Value.int z)) (show (cSky K B 5) = (sPw K) from by simp [cSky])) rfl
  · refine Z_tIn C 6 96 dX2_tellSky_1 (by decide) (by decide) (by decide) rfl (by decide) ?_
    refine Z_aload_n C dX2_tellSky_96 rfl rfl ?_
    refine Z_get C K2 (v := .ref 1) 0 dX2_tellSky_97 rfl (by decide) g_106 rfl rfl ?_
    refine Z_callV C (ws' := twO ++ (stW 1 K ++ (stW 11 D ++ srW 21 B))) (st' := [.int (sPr K)]) (rest := []) [1, 2, 3, 4, 5, 6, 7, 8, 9, 10] (c_X1_sumOfProps K hn h40) m_X1_sumOfProps K1 g_277 dX2_tellSky_100 rfl rfl rfl (outS 1 rfl (outS 10 rfl (outS 10 rfl (outR _ _ _)))) (NW := 25) rfl rfl rfl rfl rfl ⟨Nat.le_of_ble_eq_true rfl, Nat.le_of_ble_eq_true rfl⟩ ⟨Nat.le_of_ble_eq_true rfl, Nat.le_of_ble_eq_true rfl⟩ (Nat.le_of_ble_eq_true rfl) rfl ?_
    exact Z_iret C hr hlk dX2_tellSky_103 (congrArg (fun z => some (Value.int z)) (show (cSky K B 6) = (sPr K) from by simp [cSky])) rfl
  · refine Z_tOut C 104 dX2_tellSky_1 (by decide) (by decide) ?_
    refine Z_aload_n C dX2_tellSky_104 rfl rfl ?_
    refine Z_get C K2 (v := .ref 1) 0 dX2_tellSky_105 rfl (by decide) g_106 rfl rfl ?_
    refine Z_callV C (ws' := twO ++ (stW 1 K ++ (stW 11 D ++ srW 21 B))) (st' := [.int (sSl K)]) (rest := []) [1, 2, 3, 4, 5, 6, 7, 8, 9, 10] (c_X1_sumOfSpelledLoads K hn h40) m_X1_sumOfSpelledLoads K1 g_281 dX2_tellSky_108 rfl rfl rfl (outS 1 rfl (outS 10 rfl (outS 10 rfl (outR _ _ _)))) (NW := 25) rfl rfl rfl rfl rfl ⟨Nat.le_of_ble_eq_true rfl, Nat.le_of_ble_eq_true rfl⟩ ⟨Nat.le_of_ble_eq_true rfl, Nat.le_of_ble_eq_true rfl⟩ (Nat.le_of_ble_eq_true rfl) rfl ?_
    exact Z_iret C hr hlk dX2_tellSky_111 (congrArg (fun z => some (Value.int z)) (show (cSky K B 7) = (sSl K) from by simp [cSky])) rfl
set_option maxHeartbeats 4000000 in
set_option maxRecDepth 20000 in
theorem c_X2_count (K : St) (D : St) (B : Sr) (x : Int32) {n : Nat} (hn : K.2.2.1 0 = nI n) (h40 : n ≤ 40) {r : Nat} (hb : B.2 0 = nI r) (h30 : r ≤ 30) : CTX yX2_count cX2_count 2 (some .int) 6 1 6 [.ref 0, .int x] (twO ++ (stW 1 K ++ (stW 11 D ++ srW 21 B))) ((cCount K B x).1) (some (.int ((cCount K B x).2))) (twO ++ (stW 1 K ++ (stW 11 D ++ srW 21 B))) := by
  refine CTX_of (L := [(0, .ref 0), (1, .int x)]) (by decide) (fun _ => rfl) (fun _ => Nat.le_of_ble_eq_true rfl) ?_
  intro p l e s m args below meth c G h A C hst hX hex hr hlk _
  have eN : nn K = n := nn_eq hn h40; have eR : ix (B.2 0) = r := r_eq hb h30
  refine Z_iload_n C dX2_count_0 rfl rfl ?_
  refine Z_iconst C (v := 0) dX2_count_1 (by decide) ?_
  refine Z_bipush C (v := 7) dX2_count_2 (by decide) ?_
  refine Z_callS C (ws' := twO ++ (stW 1 K ++ (stW 11 D ++ srW 21 B))) (st' := [.int (bI (isInB x 0 7))]) (rest := []) [] (c_X2_isWithin x 0 7) m_X2_isWithin g_124 dX2_count_4 rfl rfl rfl (outS 1 rfl (outS 10 rfl (outS 10 rfl (outR _ _ _)))) (NW := 25) rfl rfl rfl rfl ⟨Nat.le_of_ble_eq_true rfl, Nat.le_of_ble_eq_true rfl⟩ ⟨Nat.le_of_ble_eq_true rfl, Nat.le_of_ble_eq_true rfl⟩ (Nat.le_of_ble_eq_true rfl) rfl ?_
  refine Z_if_ne C 20 dX2_count_7 (by decide) (fun c1 => ?_) (fun c1 => ?_)
  · have c1 := bI_n0.mp c1
    obtain ⟨w, hw, rfl⟩ := isIn_lit 7 rfl (by decide) c1
    have ew : ix (nI w) = w := ix_nI (by omega)
    refine Z_aload_n C dX2_count_20 rfl rfl ?_
    refine Z_iload_n C dX2_count_21 rfl rfl ?_
    refine Z_callV C (ws' := twO ++ (stW 1 K ++ (stW 11 D ++ srW 21 B))) (st' := [.int (cSky K B w)]) (rest := []) [0, 1, 2, 3, 4, 5, 6, 7, 8, 9, 10, 11, 12, 13, 14, 15, 16, 17, 18, 19, 20, 21, 22, 23, 24] (c_X2_tellSky K D B (nI w) hn h40 hb h30 rfl (by omega)) m_X2_tellSky K2 g_261 dX2_count_22 rfl rfl rfl (outS 1 rfl (outS 10 rfl (outS 10 rfl (outR _ _ _)))) (NW := 25) rfl rfl rfl rfl rfl ⟨Nat.le_of_ble_eq_true rfl, Nat.le_of_ble_eq_true rfl⟩ ⟨Nat.le_of_ble_eq_true rfl, Nat.le_of_ble_eq_true rfl⟩ (Nat.le_of_ble_eq_true rfl) rfl ?_
    exact Z_widen (Nat.le_of_ble_eq_true rfl) (Nat.le_of_ble_eq_true rfl) (Z_iretX C hr hlk dX2_count_25 (show (cCount K B (nI w)).1 = none from by simp [cCount, c1, ew, eN, eR, bI]) (congrArg (fun z => some (Value.int z)) (show ((cCount K B (nI w)).2) = (cSky K B w) from by simp [cCount, c1, ew, eN, eR, bI])) rfl)
  · have c1 := bI_0.mp c1
    exact Z_throw C hst hX hex hlk atX_67 (text := "nothing to tell") (by simp [strsX]) dX2_count_10 dX2_count_13 dX2_count_14 dX2_count_16 dX2_count_19 ⟨Nat.le_of_ble_eq_true rfl, Nat.le_of_ble_eq_true rfl⟩ ⟨Nat.le_of_ble_eq_true rfl, Nat.le_of_ble_eq_true rfl⟩ (Nat.le_of_ble_eq_true rfl) (Nat.le_of_ble_eq_true rfl) (show (cCount K B x).1 = some "java/lang/IndexOutOfBoundsException" from by simp [cCount, c1, eN, eR, bI]) rfl
set_option maxHeartbeats 4000000 in
set_option maxRecDepth 20000 in
theorem c_X2_lasts (K : St) (D : St) (B : Sr) (x : Int32) {n : Nat} (hn : K.2.2.1 0 = nI n) (h40 : n ≤ 40) {r : Nat} (hb : B.2 0 = nI r) (h30 : r ≤ 30) : CTX yX2_lasts cX2_lasts 3 (some .int) 6 1 6 [.ref 0, .int x] (twO ++ (stW 1 K ++ (stW 11 D ++ srW 21 B))) ((cLs K D x).1) (some (.int ((cLs K D x).2.1))) (twO ++ (stW 1 K ++ (stW 11 ((cLs K D x).2.2) ++ srW 21 B))) := by
  refine CTX_of (L := [(0, .ref 0), (1, .int x)]) (by decide) (fun _ => rfl) (fun _ => Nat.le_of_ble_eq_true rfl) ?_
  intro p l e s m args below meth c G h A C hst hX hex hr hlk _
  have eN : nn K = n := nn_eq hn h40; have eR : ix (B.2 0) = r := r_eq hb h30
  refine Z_aload_n C dX2_lasts_0 rfl rfl ?_
  refine Z_get C K2 (v := .ref 1) 0 dX2_lasts_1 rfl (by decide) g_106 rfl rfl ?_
  refine Z_iload_n C dX2_lasts_4 rfl rfl ?_
  refine Z_callV C (ws' := twO ++ (stW 1 K ++ (stW 11 D ++ srW 21 B))) (st' := [.int (bI (hasB K x))]) (rest := []) [1, 2, 3, 4, 5, 6, 7, 8, 9, 10] (c_X1_has K x) m_X1_has K1 g_216 dX2_lasts_5 rfl rfl rfl (outS 1 rfl (outS 10 rfl (outS 10 rfl (outR _ _ _)))) (NW := 25) rfl rfl rfl rfl rfl ⟨Nat.le_of_ble_eq_true rfl, Nat.le_of_ble_eq_true rfl⟩ ⟨Nat.le_of_ble_eq_true rfl, Nat.le_of_ble_eq_true rfl⟩ (Nat.le_of_ble_eq_true rfl) rfl ?_
  refine Z_if_ne C 21 dX2_lasts_8 (by decide) (fun c1 => ?_) (fun c1 => ?_)
  · have c1 := bI_n0.mp c1
    obtain ⟨j, hj, rfl⟩ := has_ix hn h40 c1
    have ej : ix (nI j) = j := ix_nI (by omega)
    refine Z_aload_n C dX2_lasts_21 rfl rfl ?_
    refine Z_get C K2 (v := .ref 11) 1 dX2_lasts_22 rfl (by decide) g_107 rfl rfl ?_
    refine Z_aload_n C dX2_lasts_25 rfl rfl ?_
    refine Z_get C K2 (v := .ref 1) 0 dX2_lasts_26 rfl (by decide) g_106 rfl rfl ?_
    refine Z_callV C (ws' := twO ++ (stW 1 K ++ (stW 11 (copyF D K) ++ srW 21 B))) (st' := []) (rest := []) [11, 12, 13, 14, 15, 16, 17, 18, 19, 20, 1, 2, 3, 4, 5, 6, 7, 8, 9, 10] (c_X1_copyFrom D K hn h40) m_X1_copyFrom K1 g_356 dX2_lasts_29 rfl rfl rfl (outS 1 rfl (outS 10 rfl (outI 10 rfl rfl rfl (outR _ _ _)))) (NW := 25) rfl rfl rfl rfl rfl ⟨Nat.le_of_ble_eq_true rfl, Nat.le_of_ble_eq_true rfl⟩ ⟨Nat.le_of_ble_eq_true rfl, Nat.le_of_ble_eq_true rfl⟩ (Nat.le_of_ble_eq_true rfl) rfl ?_
    refine Z_ws (fun X1 => twO ++ (stW 1 K ++ (stW 11 X1 ++ srW 21 B))) (copyF D K) (fun X1 eX1 => ?_)
    refine Z_iconst C (v := 0) dX2_lasts_32 (by decide) ?_
    refine Z_istore_n C (L' := [(2, .int 0), (0, .ref 0), (1, .int (nI j))]) dX2_lasts_33 rfl (by decide) rfl ?_
    refine Zind (σ := St) (fun k U => ∀ d : Nat, d + k = 121 → U.2.2.1 0 = nI n → cLsG (nI j) k d U = cLsR K D (nI j) → Z p l e _ s m args below meth c 3 G A h _ 0 0 (twO ++ (stW 1 K ++ (stW 11 U ++ srW 21 B))) 34 [(2, .int (nI d)), (0, .ref 0), (1, .int (nI j))] []) 121 X1 (fun U d hd hU hg => ?_) (fun k U ih d hd hU hg => ?_) 0 rfl (show X1.2.2.1 0 = nI _ from by rw [eX1]; exact ((rfl).trans hn)) (by rw [cLsR, eX1])
    · obtain rfl : d = 121 := by omega
      refine Z_iload_n C dX2_lasts_34 rfl rfl ?_
      refine Z_bipush C (v := 120) dX2_lasts_35 (by decide) ?_
      refine Z_icmp_gt C 66 dX2_lasts_37 (by decide) (fun c2 => ?_) (fun c2 => absurd (show (120 : Int32) < nI 121 from by decide) c2)
      refine Z_iconst C (v := (-1)) dX2_lasts_66 (by decide) ?_
      exact Z_widen (Nat.le_of_ble_eq_true rfl) (Nat.le_of_ble_eq_true rfl) (Z_iretX C hr hlk dX2_lasts_67 (show (cLs K D (nI j)).1 = none from by have hR : cLsR K D (nI j) = (-1, U) := (by rw [← hg, cLsG]); simp [cLs, hR, c1, ej, c2]) (congrArg (fun z => some (Value.int z)) (show ((cLs K D (nI j)).2.1) = (-1) from by have hR : cLsR K D (nI j) = (-1, U) := (by rw [← hg, cLsG]); simp [cLs, hR, c1, ej, c2])) (by rw [show ((cLs K D (nI j)).2.2) = U from by have hR : cLsR K D (nI j) = (-1, U) := (by rw [← hg, cLsG]); simp [cLs, hR, c1, ej, c2]]))
    · refine Z_iload_n C dX2_lasts_34 rfl rfl ?_
      refine Z_bipush C (v := 120) dX2_lasts_35 (by decide) ?_
      refine Z_icmp_gt C 66 dX2_lasts_37 (by decide) (fun c3 => absurd c3 (show ¬ nI 120 < nI d from nI_nlt (by omega) (by omega))) (fun c3 => ?_)
      refine Z_aload_n C dX2_lasts_40 rfl rfl ?_
      refine Z_get C K2 (v := .ref 11) 1 dX2_lasts_41 rfl (by decide) g_107 rfl rfl ?_
      refine Z_iload_n C dX2_lasts_44 rfl rfl ?_
      refine Z_callV C (ws' := twO ++ (stW 1 K ++ (stW 11 U ++ srW 21 B))) (st' := [.int (bI (hangsB U (nI j)))]) (rest := []) [11, 12, 13, 14, 15, 16, 17, 18, 19, 20] (c_X1_isHanging U (nI j) hU h40) m_X1_isHanging K1 g_218 dX2_lasts_45 rfl rfl rfl (outS 1 rfl (outS 10 rfl (outS 10 rfl (outR _ _ _)))) (NW := 25) rfl rfl rfl rfl rfl ⟨Nat.le_of_ble_eq_true rfl, Nat.le_of_ble_eq_true rfl⟩ ⟨Nat.le_of_ble_eq_true rfl, Nat.le_of_ble_eq_true rfl⟩ (Nat.le_of_ble_eq_true rfl) rfl ?_
      refine Z_if_ne C 53 dX2_lasts_48 (by decide) (fun c4 => ?_) (fun c4 => ?_)
      · have c4 := bI_n0.mp c4
        refine Z_aload_n C dX2_lasts_53 rfl rfl ?_
        refine Z_get C K2 (v := .ref 11) 1 dX2_lasts_54 rfl (by decide) g_107 rfl rfl ?_
        refine Z_callV C (ws' := twO ++ (stW 1 K ++ (stW 11 (liveDay U) ++ srW 21 B))) (st' := []) (rest := []) [11, 12, 13, 14, 15, 16, 17, 18, 19, 20] (c_X1_liveDay U hU h40) m_X1_liveDay K1 g_368 dX2_lasts_57 rfl rfl rfl (outS 1 rfl (outS 10 rfl (outI 10 rfl rfl rfl (outR _ _ _)))) (NW := 25) rfl rfl rfl rfl rfl ⟨Nat.le_of_ble_eq_true rfl, Nat.le_of_ble_eq_true rfl⟩ ⟨Nat.le_of_ble_eq_true rfl, Nat.le_of_ble_eq_true rfl⟩ (Nat.le_of_ble_eq_true rfl) rfl ?_
        refine Z_ws (fun X2 => twO ++ (stW 1 K ++ (stW 11 X2 ++ srW 21 B))) (liveDay U) (fun X2 eX2 => ?_)
        refine Z_iinc C (L' := [(2, .int (nI (d + 1))), (0, .ref 0), (1, .int (nI j))]) (v := nI (d + 1)) dX2_lasts_60 rfl (nI_inc _) (by decide) rfl ?_
        refine Z_goto C 34 dX2_lasts_63 (by decide) ?_
        exact Z_sub (by simp) (ih X2 (d + 1) (by omega) (show X2.2.2.1 0 = nI _ from by rw [eX2]; exact ((hk_liveDay U).trans hU)) (by rw [← hg, cLsG, if_neg (by rw [c4]; decide), eX2]))
      · have c4 := bI_0.mp c4
        refine Z_iload_n C dX2_lasts_51 rfl rfl ?_
        exact Z_widen (Nat.le_of_ble_eq_true rfl) (Nat.le_of_ble_eq_true rfl) (Z_iretX C hr hlk dX2_lasts_52 (show (cLs K D (nI j)).1 = none from by have hR : cLsR K D (nI j) = (nI d, U) := (by rw [← hg, cLsG, if_pos c4]); simp [cLs, hR, c1, ej, c3, c4]) (congrArg (fun z => some (Value.int z)) (show ((cLs K D (nI j)).2.1) = (nI d) from by have hR : cLsR K D (nI j) = (nI d, U) := (by rw [← hg, cLsG, if_pos c4]); simp [cLs, hR, c1, ej, c3, c4])) (by rw [show ((cLs K D (nI j)).2.2) = U from by have hR : cLsR K D (nI j) = (nI d, U) := (by rw [← hg, cLsG, if_pos c4]); simp [cLs, hR, c1, ej, c3, c4]]))
  · have c1 := bI_0.mp c1
    exact Z_throw C hst hX hex hlk atX_67 (text := "no such stone") (by simp [strsX]) dX2_lasts_11 dX2_lasts_14 dX2_lasts_15 dX2_lasts_17 dX2_lasts_20 ⟨Nat.le_of_ble_eq_true rfl, Nat.le_of_ble_eq_true rfl⟩ ⟨Nat.le_of_ble_eq_true rfl, Nat.le_of_ble_eq_true rfl⟩ (Nat.le_of_ble_eq_true rfl) (Nat.le_of_ble_eq_true rfl) (show (cLs K D x).1 = some "java/lang/IndexOutOfBoundsException" from by simp [cLs, c1, eN, eR, bI]) (by rw [show ((cLs K D x).2.2) = D from by simp [cLs, c1, eN, eR, bI]])
set_option maxHeartbeats 4000000 in
set_option maxRecDepth 20000 in
theorem c_X2_foresee (K : St) (D : St) (B : Sr) (x : Int32) (w : Int32) {n : Nat} (hn : K.2.2.1 0 = nI n) (h40 : n ≤ 40) {r : Nat} (hb : B.2 0 = nI r) (h30 : r ≤ 30) : CTX yX2_foresee cX2_foresee 3 (some .int) 6 1 6 [.ref 0, .int x, .int w] (twO ++ (stW 1 K ++ (stW 11 D ++ srW 21 B))) ((cFo K D B x w).1) (some (.int ((cFo K D B x w).2.1))) (twO ++ (stW 1 K ++ (stW 11 ((cFo K D B x w).2.2) ++ srW 21 B))) := by
  refine CTX_of (L := [(0, .ref 0), (1, .int x), (2, .int w)]) (by decide) (fun _ => rfl) (fun _ => Nat.le_of_ble_eq_true rfl) ?_
  intro p l e s m args below meth c G h A C hst hX hex hr hlk _
  have eN : nn K = n := nn_eq hn h40; have eR : ix (B.2 0) = r := r_eq hb h30
  refine Z_iload_n C dX2_foresee_0 rfl rfl ?_
  refine Z_iconst C (v := 1) dX2_foresee_1 (by decide) ?_
  refine Z_bipush C (v := 120) dX2_foresee_2 (by decide) ?_
  refine Z_callS C (ws' := twO ++ (stW 1 K ++ (stW 11 D ++ srW 21 B))) (st' := [.int (bI (isInB x 1 120))]) (rest := []) [] (c_X2_isWithin x 1 120) m_X2_isWithin g_124 dX2_foresee_4 rfl rfl rfl (outS 1 rfl (outS 10 rfl (outS 10 rfl (outR _ _ _)))) (NW := 25) rfl rfl rfl rfl ⟨Nat.le_of_ble_eq_true rfl, Nat.le_of_ble_eq_true rfl⟩ ⟨Nat.le_of_ble_eq_true rfl, Nat.le_of_ble_eq_true rfl⟩ (Nat.le_of_ble_eq_true rfl) rfl ?_
  refine Z_if_ne C 20 dX2_foresee_7 (by decide) (fun c1 => ?_) (fun c1 => ?_)
  · have c1 := bI_n0.mp c1
    obtain ⟨u, hu, rfl⟩ := isIn_lit1 120 rfl (by decide) c1
    have eu : ix (nI u) = u := ix_nI (by omega)
    refine Z_iload_n C dX2_foresee_20 rfl rfl ?_
    refine Z_iconst C (v := 0) dX2_foresee_21 (by decide) ?_
    refine Z_iconst C (v := 2) dX2_foresee_22 (by decide) ?_
    refine Z_callS C (ws' := twO ++ (stW 1 K ++ (stW 11 D ++ srW 21 B))) (st' := [.int (bI (isInB w 0 2))]) (rest := []) [] (c_X2_isWithin w 0 2) m_X2_isWithin g_124 dX2_foresee_23 rfl rfl rfl (outS 1 rfl (outS 10 rfl (outS 10 rfl (outR _ _ _)))) (NW := 25) rfl rfl rfl rfl ⟨Nat.le_of_ble_eq_true rfl, Nat.le_of_ble_eq_true rfl⟩ ⟨Nat.le_of_ble_eq_true rfl, Nat.le_of_ble_eq_true rfl⟩ (Nat.le_of_ble_eq_true rfl) rfl ?_
    refine Z_if_ne C 39 dX2_foresee_26 (by decide) (fun c2 => ?_) (fun c2 => ?_)
    · have c2 := bI_n0.mp c2
      obtain ⟨q, hq, rfl⟩ := isIn_lit 2 rfl (by decide) c2
      have eq : ix (nI q) = q := ix_nI (by omega)
      refine Z_aload_n C dX2_foresee_39 rfl rfl ?_
      refine Z_get C K2 (v := .ref 11) 1 dX2_foresee_40 rfl (by decide) g_107 rfl rfl ?_
      refine Z_aload_n C dX2_foresee_43 rfl rfl ?_
      refine Z_get C K2 (v := .ref 1) 0 dX2_foresee_44 rfl (by decide) g_106 rfl rfl ?_
      refine Z_callV C (ws' := twO ++ (stW 1 K ++ (stW 11 (copyF D K) ++ srW 21 B))) (st' := []) (rest := []) [11, 12, 13, 14, 15, 16, 17, 18, 19, 20, 1, 2, 3, 4, 5, 6, 7, 8, 9, 10] (c_X1_copyFrom D K hn h40) m_X1_copyFrom K1 g_356 dX2_foresee_47 rfl rfl rfl (outS 1 rfl (outS 10 rfl (outI 10 rfl rfl rfl (outR _ _ _)))) (NW := 25) rfl rfl rfl rfl rfl ⟨Nat.le_of_ble_eq_true rfl, Nat.le_of_ble_eq_true rfl⟩ ⟨Nat.le_of_ble_eq_true rfl, Nat.le_of_ble_eq_true rfl⟩ (Nat.le_of_ble_eq_true rfl) rfl ?_
      refine Z_ws (fun X1 => twO ++ (stW 1 K ++ (stW 11 X1 ++ srW 21 B))) (copyF D K) (fun X1 eX1 => ?_)
      refine Z_aload_n C dX2_foresee_50 rfl rfl ?_
      refine Z_get C K2 (v := .ref 11) 1 dX2_foresee_51 rfl (by decide) g_107 rfl rfl ?_
      refine Z_iload_n C dX2_foresee_54 rfl rfl ?_
      refine Z_callV C (ws' := twO ++ (stW 1 K ++ (stW 11 (liveDays X1 (nI u)) ++ srW 21 B))) (st' := []) (rest := []) [11, 12, 13, 14, 15, 16, 17, 18, 19, 20] (c_X1_liveDays X1 (nI u) (show X1.2.2.1 0 = nI _ from by rw [eX1]; exact ((rfl).trans hn)) h40 rfl (Nat.le_trans hu (by decide))) m_X1_liveDays K1 g_305 dX2_foresee_55 rfl rfl rfl (outS 1 rfl (outS 10 rfl (outI 10 rfl rfl rfl (outR _ _ _)))) (NW := 25) rfl rfl rfl rfl rfl ⟨Nat.le_of_ble_eq_true rfl, Nat.le_of_ble_eq_true rfl⟩ ⟨Nat.le_of_ble_eq_true rfl, Nat.le_of_ble_eq_true rfl⟩ (Nat.le_of_ble_eq_true rfl) rfl ?_
      refine Z_ws (fun X2 => twO ++ (stW 1 K ++ (stW 11 X2 ++ srW 21 B))) (liveDays X1 (nI u)) (fun X2 eX2 => ?_)
      rcases (show q = 0 ∨ q = 1 ∨ q = 2 from by omega) with rfl | rfl | rfl
      · refine Z_iload_n C dX2_foresee_58 rfl rfl ?_
        refine Z_lkp C (off := 25) 84 dX2_foresee_59 (by decide) (by decide) (by decide) ?_
        refine Z_aload_n C dX2_foresee_84 rfl rfl ?_
        refine Z_get C K2 (v := .ref 11) 1 dX2_foresee_85 rfl (by decide) g_107 rfl rfl ?_
        refine Z_getN C K1 (v := .int (X2.2.2.1 1)) 10 dX2_foresee_88 rfl (by decide) (show Cond.fieldLinkNest RX2 81 RX1 "hanging" "I" RX2 ∈ nW by simp [nW]) rfl rfl ?_
        exact Z_widen (Nat.le_of_ble_eq_true rfl) (Nat.le_of_ble_eq_true rfl) (Z_iretX C hr hlk dX2_foresee_91 (show (cFo K D B (nI u) (nI 0)).1 = none from by subst eX1 eX2; simp [cFo, c1, eu, c2, eq, eN, eR, ix_9]) (congrArg (fun z => some (Value.int z)) (show ((cFo K D B (nI u) (nI 0)).2.1) = (X2.2.2.1 1) from by subst eX1 eX2; simp [cFo, c1, eu, c2, eq, eN, eR, ix_9])) (by rw [show ((cFo K D B (nI u) (nI 0)).2.2) = X2 from by subst eX1 eX2; simp [cFo, c1, eu, c2, eq, eN, eR, ix_9]]))
      · refine Z_iload_n C dX2_foresee_58 rfl rfl ?_
        refine Z_lkp C (off := 33) 92 dX2_foresee_59 (by decide) (by decide) (by decide) ?_
        refine Z_aload_n C dX2_foresee_92 rfl rfl ?_
        refine Z_get C K2 (v := .ref 21) 2 dX2_foresee_93 rfl (by decide) g_108 rfl rfl ?_
        refine Z_aload_n C dX2_foresee_96 rfl rfl ?_
        refine Z_get C K2 (v := .ref 11) 1 dX2_foresee_97 rfl (by decide) g_107 rfl rfl ?_
        refine Z_callV C (ws' := twO ++ (stW 1 K ++ (stW 11 X2 ++ srW 21 B))) (st' := [.int (leftR B X2)]) (rest := []) [21, 22, 23, 24, 11, 12, 13, 14, 15, 16, 17, 18, 19, 20] (c_X0_countLeft B X2 hb h30 (show X2.2.2.1 0 = nI _ from by rw [eX2]; exact ((hk_liveDays X1 (nI u)).trans (show X1.2.2.1 0 = nI _ from by rw [eX1]; exact ((rfl).trans hn)))) h40) m_X0_countLeft K0 g_269 dX2_foresee_100 rfl rfl rfl (outS 1 rfl (outS 10 rfl (outS 10 rfl (outR _ _ _)))) (NW := 25) rfl rfl rfl rfl rfl ⟨Nat.le_of_ble_eq_true rfl, Nat.le_of_ble_eq_true rfl⟩ ⟨Nat.le_of_ble_eq_true rfl, Nat.le_of_ble_eq_true rfl⟩ (Nat.le_of_ble_eq_true rfl) rfl ?_
        exact Z_widen (Nat.le_of_ble_eq_true rfl) (Nat.le_of_ble_eq_true rfl) (Z_iretX C hr hlk dX2_foresee_103 (show (cFo K D B (nI u) (nI 1)).1 = none from by subst eX1 eX2; simp [cFo, c1, eu, c2, eq, eN, eR, ix_9]) (congrArg (fun z => some (Value.int z)) (show ((cFo K D B (nI u) (nI 1)).2.1) = (leftR B X2) from by subst eX1 eX2; simp [cFo, c1, eu, c2, eq, eN, eR, ix_9])) (by rw [show ((cFo K D B (nI u) (nI 1)).2.2) = X2 from by subst eX1 eX2; simp [cFo, c1, eu, c2, eq, eN, eR, ix_9]]))
      · refine Z_iload_n C dX2_foresee_58 rfl rfl ?_
        refine Z_lkp C (off := 45) 104 dX2_foresee_59 (by decide) (by decide) (by decide) ?_
        refine Z_aload_n C dX2_foresee_104 rfl rfl ?_
        refine Z_get C K2 (v := .ref 11) 1 dX2_foresee_105 rfl (by decide) g_107 rfl rfl ?_
        refine Z_callV C (ws' := twO ++ (stW 1 K ++ (stW 11 X2 ++ srW 21 B))) (st' := [.int (sPw X2)]) (rest := []) [11, 12, 13, 14, 15, 16, 17, 18, 19, 20] (c_X1_sumOfPowers X2 (show X2.2.2.1 0 = nI _ from by rw [eX2]; exact ((hk_liveDays X1 (nI u)).trans (show X1.2.2.1 0 = nI _ from by rw [eX1]; exact ((rfl).trans hn)))) h40) m_X1_sumOfPowers K1 g_273 dX2_foresee_108 rfl rfl rfl (outS 1 rfl (outS 10 rfl (outS 10 rfl (outR _ _ _)))) (NW := 25) rfl rfl rfl rfl rfl ⟨Nat.le_of_ble_eq_true rfl, Nat.le_of_ble_eq_true rfl⟩ ⟨Nat.le_of_ble_eq_true rfl, Nat.le_of_ble_eq_true rfl⟩ (Nat.le_of_ble_eq_true rfl) rfl ?_
        exact Z_widen (Nat.le_of_ble_eq_true rfl) (Nat.le_of_ble_eq_true rfl) (Z_iretX C hr hlk dX2_foresee_111 (show (cFo K D B (nI u) (nI 2)).1 = none from by subst eX1 eX2; simp [cFo, c1, eu, c2, eq, eN, eR, ix_9]) (congrArg (fun z => some (Value.int z)) (show ((cFo K D B (nI u) (nI 2)).2.1) = (sPw X2) from by subst eX1 eX2; simp [cFo, c1, eu, c2, eq, eN, eR, ix_9])) (by rw [show ((cFo K D B (nI u) (nI 2)).2.2) = X2 from by subst eX1 eX2; simp [cFo, c1, eu, c2, eq, eN, eR, ix_9]]))
    · have c2 := bI_0.mp c2
      exact Z_throw C hst hX hex hlk atX_67 (text := "nothing to tell") (by simp [strsX]) dX2_foresee_29 dX2_foresee_32 dX2_foresee_33 dX2_foresee_35 dX2_foresee_38 ⟨Nat.le_of_ble_eq_true rfl, Nat.le_of_ble_eq_true rfl⟩ ⟨Nat.le_of_ble_eq_true rfl, Nat.le_of_ble_eq_true rfl⟩ (Nat.le_of_ble_eq_true rfl) (Nat.le_of_ble_eq_true rfl) (show (cFo K D B (nI u) w).1 = some "java/lang/IndexOutOfBoundsException" from by simp [cFo, c1, eu, c2, eN, eR, ix_9]) (by rw [show ((cFo K D B (nI u) w).2.2) = D from by simp [cFo, c1, eu, c2, eN, eR, ix_9]])
  · have c1 := bI_0.mp c1
    exact Z_throw C hst hX hex hlk atX_38 (text := "no such days") (by simp [strsX]) dX2_foresee_10 dX2_foresee_13 dX2_foresee_14 dX2_foresee_16 dX2_foresee_19 ⟨Nat.le_of_ble_eq_true rfl, Nat.le_of_ble_eq_true rfl⟩ ⟨Nat.le_of_ble_eq_true rfl, Nat.le_of_ble_eq_true rfl⟩ (Nat.le_of_ble_eq_true rfl) (Nat.le_of_ble_eq_true rfl) (show (cFo K D B x w).1 = some "java/lang/IllegalArgumentException" from by simp [cFo, c1, eN, eR, ix_9]) (by rw [show ((cFo K D B x w).2.2) = D from by simp [cFo, c1, eN, eR, ix_9]])
