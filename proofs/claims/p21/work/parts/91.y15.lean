/-! the law's body: every stair -/
theorem LI_yes {n r : Nat} {B : Sr} {K : St} {M : Md} (h : LI n r B K M) {j : Nat} (hj : j < n) (c : M.1 2 j = 1) : K.2.1 j = true := by
  rw [← LI_hg h hj]
  exact decide_eq_true c
theorem LI_no {n r : Nat} {B : Sr} {K : St} {M : Md} (h : LI n r B K M) {j : Nat} (hj : j < n) (c : ¬ M.1 2 j = 1) : K.2.1 j = false := by
  rw [← LI_hg h hj]
  exact decide_eq_false c
set_option maxHeartbeats 1000000 in
set_option maxRecDepth 20000 in
theorem law_e {p : Program} {l : Launch} {e : Env} {s : State} {m : MethodId} {args : Array Value} {below : List Frame} {meth : Method} {c : Code} {G : gG} {hv : Nat → Nat} {A : Nat → Prop} {Q : State → Prop} {b N : Nat} {xs : Nat → Int32} {i wh : Nat} {k0 n0 n r : Nat} {M : Md} {K D : St} {B : Sr} (C : Cx p s m args c cL_law 23 RL G A) (S : Cs l s A b N xs) (I : LI n r B K M) (hi : i < 30) (hwh : wh < n) (hdf : Df r M) (hk : k0 + 330 ≤ 600104) (hn : n0 + 1980 ≤ 7301314) (kk : ∀ (h' : Nat → Nat) (B2 : Sr), (∀ q, kpA q → h' q = hv q) → LI n r B2 K M → Y p l e room_1 s m args below meth c 23 G A h' Q (k0 + 330) (n0 + 1980) (gW (xW K D B2) n r M (fun _ => none)) 988 [(0, .ref 1000), (1, .ref 0), (2, .ref 100), (3, .int (nI i))] []) : Y p l e room_1 s m args below meth c 23 G A hv Q (k0) (n0) (gW (xW K D B) n r M (fun _ => none)) 817 [(0, .ref 1000), (1, .ref 0), (2, .ref 100), (3, .int (nI i)), (7, .int (nI wh))] [] := by
  have h40 := I.h40
  have h30 := I.h30
  have hC := okC_x K D B
  refine Y_iconst C (v := nI 0) dL_law_817 (by decide) ?_
  refine Y_istore C (L' := [(18, .int (nI 0)), (0, .ref 1000), (1, .ref 0), (2, .ref 100), (3, .int (nI i)), (7, .int (nI wh))]) dL_law_818 (by decide) rfl ?_
  refine Y_sub (L' := [(0, .ref 1000), (1, .ref 0), (2, .ref 100), (3, .int (nI i)), (7, .int (nI wh)), (18, .int (nI 0))]) (by simp) ?_
  have key : ∀ (j k1 : Nat), k1 + j = r → ∀ (hx : Nat → Nat) (B1 : Sr), (∀ q, kpA q → hx q = hv q) → Sam B B1 → LI n r B1 K M → Y p l e room_1 s m args below meth c 23 G A hx Q (k0 + 11 * k1) (n0 + 66 * k1) (gW (xW K D B1) n r M (fun _ => none)) 820 [(0, .ref 1000), (1, .ref 0), (2, .ref 100), (3, .int (nI i)), (7, .int (nI wh)), (18, .int (nI k1))] [] := by
    intro j
    induction j with
    | zero =>
      intro k1 hj hx B1 av hS I1
      obtain rfl : k1 = r := by omega
      refine Y_iload C dL_law_820 rfl ?_
      refine Y_aload_n C dL_law_822 rfl rfl ?_
      refine Y_get C K3 (v := .ref 102) 1 dL_law_823 gW_100 (by decide) g_580 rfl rfl ?_
      refine Y_alen C (i := 3) (v := nI k1) dL_law_826 gW_102 rfl rfl ?_
      refine Y_icmp_ge C 988 dL_law_827 (by decide) (fun cc1 => ?_) (fun cc1 => absurd (Int32.le_refl _) cc1)
      refine Y_sub (L' := [(0, .ref 1000), (1, .ref 0), (2, .ref 100), (3, .int (nI i))]) (by simp) ?_
      refine Y_widen (k' := k0 + 330) (n' := n0 + 1980) (by omega) (by omega) ?_
      exact kk _ B1 av I1
    | succ j ih =>
      intro k1 hj hx B1 av hS I1
      have hkr : k1 < r := by omega
      obtain ⟨ja, jb, hja, hjb, e0, e1, b0, b1, eg, e2⟩ := LI_way I1 hkr
      have hab : ja ≠ jb := fun q => hdf k1 hkr (by rw [e0, e1, q])
      refine Y_iload C dL_law_820 rfl ?_
      refine Y_aload_n C dL_law_822 rfl rfl ?_
      refine Y_get C K3 (v := .ref 102) 1 dL_law_823 gW_100 (by decide) g_580 rfl rfl ?_
      refine Y_alen C (i := 3) (v := nI r) dL_law_826 gW_102 rfl rfl ?_
      refine Y_icmp_ge C 988 dL_law_827 (by decide) (fun cc2 => absurd cc2 (nI_ge hkr (by omega))) (fun cc2 => ?_)
      refine Y_aload_n C dL_law_830 rfl rfl ?_
      refine Y_iload C dL_law_831 rfl ?_
      refine Y_iconst C (v := 0) dL_law_833 (by decide) ?_
      obtain ⟨ja3, jb3⟩ := go_joins I1 (w := 0) hkr (by decide)
      refine Y_stk [.int (nI 0), .int (nI k1), .ref 0] rfl ?_
      refine Y_callG (K' := K) (D' := D) (B' := B1) C S (c_X2_joins K D B1 (nI k1) (nI 0) I1.kn h40 I1.br h30) ja3 m_X2_joins K2 g_116 dL_law_834 rfl rfl ⟨Nat.le_of_ble_eq_true rfl, Nat.le_of_ble_eq_true rfl⟩ ⟨by show k0 + 11 * k1 + 1 ≤ 600104; omega, by show n0 + 66 * k1 + 6 ≤ 7301314; omega⟩ (Nat.le_of_ble_eq_true rfl) ?_
      refine Y_stk [.int ((cJoins K B1 (nI k1) (nI 0)).2)] rfl ?_
      refine Y_stk [.int (nI ja)] (by rw [jb3, e0]) ?_
      refine Y_istore C (L' := [(19, .int (nI ja)), (0, .ref 1000), (1, .ref 0), (2, .ref 100), (3, .int (nI i)), (7, .int (nI wh)), (18, .int (nI k1))]) dL_law_837 (by decide) rfl ?_
      refine Y_aload_n C dL_law_839 rfl rfl ?_
      refine Y_iload C dL_law_840 rfl ?_
      refine Y_iconst C (v := 1) dL_law_842 (by decide) ?_
      obtain ⟨ja4, jb4⟩ := go_joins I1 (w := 1) hkr (by decide)
      refine Y_stk [.int (nI 1), .int (nI k1), .ref 0] rfl ?_
      refine Y_callG (K' := K) (D' := D) (B' := B1) C S (c_X2_joins K D B1 (nI k1) (nI 1) I1.kn h40 I1.br h30) ja4 m_X2_joins K2 g_116 dL_law_843 rfl rfl ⟨Nat.le_of_ble_eq_true rfl, Nat.le_of_ble_eq_true rfl⟩ ⟨by show k0 + 11 * k1 + 1 + 1 ≤ 600104; omega, by show n0 + 66 * k1 + 6 + 6 ≤ 7301314; omega⟩ (Nat.le_of_ble_eq_true rfl) ?_
      refine Y_stk [.int ((cJoins K B1 (nI k1) (nI 1)).2)] rfl ?_
      refine Y_stk [.int (nI jb)] (by rw [jb4, e1]) ?_
      refine Y_istore C (L' := [(20, .int (nI jb)), (19, .int (nI ja)), (0, .ref 1000), (1, .ref 0), (2, .ref 100), (3, .int (nI i)), (7, .int (nI wh)), (18, .int (nI k1))]) dL_law_846 (by decide) rfl ?_
      refine Y_aload_n C dL_law_848 rfl rfl ?_
      refine Y_iload C dL_law_849 rfl ?_
      refine Y_iconst C (v := 2) dL_law_851 (by decide) ?_
      obtain ⟨sa5, sb5⟩ := go_stone I1 (w := 2) hja (by decide)
      refine Y_stk [.int (nI 2), .int (nI ja), .ref 0] rfl ?_
      refine Y_callG (K' := K) (D' := D) (B' := B1) C S (c_X2_stone K D B1 (nI ja) (nI 2) I1.kn h40 I1.br h30) sa5 m_X2_stone K2 g_235 dL_law_852 rfl rfl ⟨Nat.le_of_ble_eq_true rfl, Nat.le_of_ble_eq_true rfl⟩ ⟨by show k0 + 11 * k1 + 1 + 1 + 1 ≤ 600104; omega, by show n0 + 66 * k1 + 6 + 6 + 6 ≤ 7301314; omega⟩ (Nat.le_of_ble_eq_true rfl) ?_
      refine Y_stk [.int ((cStone K (nI ja) (nI 2)).2)] rfl ?_
      refine Y_stk [.int (M.1 2 ja)] (by rw [sb5, tl_row (by decide)]) ?_
      refine Y_iconst C (v := 1) dL_law_855 (by decide) ?_
      refine Y_icmp_ne C 874 dL_law_856 (by decide) (fun cc6 => ?_) (fun cc6 => ?_)
      · have cj := cc6
        refine Y_iconst C (v := 0) dL_law_874 (by decide) ?_
        refine Y_istore C (L' := [(21, .int 0), (20, .int (nI jb)), (19, .int (nI ja)), (0, .ref 1000), (1, .ref 0), (2, .ref 100), (3, .int (nI i)), (7, .int (nI wh)), (18, .int (nI k1))]) dL_law_875 (by decide) rfl ?_
        have gz : M.2.1 2 k1 = 1 := by rw [e2, show K.2.1 ja = false from LI_no I1 hja cj]; rfl
        refine Y_iload C dL_law_877 rfl ?_
        refine Y_iload C dL_law_879 rfl ?_
        refine Y_icmp_eq C 980 dL_law_881 (by decide) (fun cc7 => absurd cc7 (fun z => hab ((nI_eq (by omega) (by omega)).mp z))) (fun cc7 => ?_)
        refine Y_aload_n C dL_law_884 rfl rfl ?_
        refine Y_iload C dL_law_885 rfl ?_
        refine Y_iconst C (v := 2) dL_law_887 (by decide) ?_
        obtain ⟨ja8, jb8⟩ := go_joins I1 (w := 2) hkr (by decide)
        refine Y_stk [.int (nI 2), .int (nI k1), .ref 0] rfl ?_
        refine Y_callG (K' := K) (D' := D) (B' := B1) C S (c_X2_joins K D B1 (nI k1) (nI 2) I1.kn h40 I1.br h30) ja8 m_X2_joins K2 g_116 dL_law_888 rfl rfl ⟨Nat.le_of_ble_eq_true rfl, Nat.le_of_ble_eq_true rfl⟩ ⟨by show k0 + 11 * k1 + 1 + 1 + 1 + 1 ≤ 600104; omega, by show n0 + 66 * k1 + 6 + 6 + 6 + 6 ≤ 7301314; omega⟩ (Nat.le_of_ble_eq_true rfl) ?_
        refine Y_stk [.int ((cJoins K B1 (nI k1) (nI 2)).2)] rfl ?_
        refine Y_stk [.int 1] (by rw [jb8, gz]) ?_
        refine Y_if_ne C 898 dL_law_891 (by decide) (fun cc9 => ?_) (fun cc9 => absurd cc9 (by decide))
        refine Y_iconst C (v := 0) dL_law_898 (by decide) ?_
        refine Y_iload C dL_law_899 rfl ?_
        refine Y_icmp_ne C 980 dL_law_901 (by decide) (fun cc10 => absurd (by decide) cc10) (fun cc10 => ?_)
        refine Y_iload C dL_law_904 rfl ?_
        refine Y_if_eq C 982 dL_law_906 (by decide) (fun cc11 => ?_) (fun cc11 => absurd (by decide) cc11)
        refine Y_iinc C (L' := [(18, .int (nI (k1 + 1))), (21, .int 0), (20, .int (nI jb)), (19, .int (nI ja)), (0, .ref 1000), (1, .ref 0), (2, .ref 100), (3, .int (nI i)), (7, .int (nI wh))]) (v := nI (k1 + 1)) dL_law_982 rfl (nI_inc _) (by decide) rfl ?_
        refine Y_goto C 820 dL_law_985 (by decide) ?_
        refine Y_sub (L' := [(18, .int (nI (k1 + 1))), (0, .ref 1000), (1, .ref 0), (2, .ref 100), (3, .int (nI i)), (7, .int (nI wh))]) (by simp) ?_
        refine Y_sub (L' := [(0, .ref 1000), (1, .ref 0), (2, .ref 100), (3, .int (nI i)), (7, .int (nI wh)), (18, .int (nI (k1 + 1)))]) (by simp) ?_
        refine Y_widen (k' := k0 + 11 * (k1 + 1)) (n' := n0 + 66 * (k1 + 1)) (by omega) (by omega) ?_
        exact ih (k1 + 1) (by omega) _ B1 av hS I1
      · have ka : K.2.1 ja = true := LI_yes I1 hja cc6
        refine Y_aload_n C dL_law_859 rfl rfl ?_
        refine Y_iload C dL_law_860 rfl ?_
        refine Y_iconst C (v := 2) dL_law_862 (by decide) ?_
        obtain ⟨sa12, sb12⟩ := go_stone I1 (w := 2) hjb (by decide)
        refine Y_stk [.int (nI 2), .int (nI jb), .ref 0] rfl ?_
        refine Y_callG (K' := K) (D' := D) (B' := B1) C S (c_X2_stone K D B1 (nI jb) (nI 2) I1.kn h40 I1.br h30) sa12 m_X2_stone K2 g_235 dL_law_863 rfl rfl ⟨Nat.le_of_ble_eq_true rfl, Nat.le_of_ble_eq_true rfl⟩ ⟨by show k0 + 11 * k1 + 1 + 1 + 1 + 1 ≤ 600104; omega, by show n0 + 66 * k1 + 6 + 6 + 6 + 6 ≤ 7301314; omega⟩ (Nat.le_of_ble_eq_true rfl) ?_
        refine Y_stk [.int ((cStone K (nI jb) (nI 2)).2)] rfl ?_
        refine Y_stk [.int (M.1 2 jb)] (by rw [sb12, tl_row (by decide)]) ?_
        refine Y_iconst C (v := 1) dL_law_866 (by decide) ?_
        refine Y_icmp_ne C 874 dL_law_867 (by decide) (fun cc13 => ?_) (fun cc13 => ?_)
        · have cj := cc13
          refine Y_iconst C (v := 0) dL_law_874 (by decide) ?_
          refine Y_istore C (L' := [(21, .int 0), (20, .int (nI jb)), (19, .int (nI ja)), (0, .ref 1000), (1, .ref 0), (2, .ref 100), (3, .int (nI i)), (7, .int (nI wh)), (18, .int (nI k1))]) dL_law_875 (by decide) rfl ?_
          have gz : M.2.1 2 k1 = 1 := by rw [e2, show K.2.1 jb = false from LI_no I1 hjb cj]; cases K.2.1 ja <;> rfl
          refine Y_iload C dL_law_877 rfl ?_
          refine Y_iload C dL_law_879 rfl ?_
          refine Y_icmp_eq C 980 dL_law_881 (by decide) (fun cc14 => absurd cc14 (fun z => hab ((nI_eq (by omega) (by omega)).mp z))) (fun cc14 => ?_)
          refine Y_aload_n C dL_law_884 rfl rfl ?_
          refine Y_iload C dL_law_885 rfl ?_
          refine Y_iconst C (v := 2) dL_law_887 (by decide) ?_
          obtain ⟨ja15, jb15⟩ := go_joins I1 (w := 2) hkr (by decide)
          refine Y_stk [.int (nI 2), .int (nI k1), .ref 0] rfl ?_
          refine Y_callG (K' := K) (D' := D) (B' := B1) C S (c_X2_joins K D B1 (nI k1) (nI 2) I1.kn h40 I1.br h30) ja15 m_X2_joins K2 g_116 dL_law_888 rfl rfl ⟨Nat.le_of_ble_eq_true rfl, Nat.le_of_ble_eq_true rfl⟩ ⟨by show k0 + 11 * k1 + 1 + 1 + 1 + 1 + 1 ≤ 600104; omega, by show n0 + 66 * k1 + 6 + 6 + 6 + 6 + 6 ≤ 7301314; omega⟩ (Nat.le_of_ble_eq_true rfl) ?_
          refine Y_stk [.int ((cJoins K B1 (nI k1) (nI 2)).2)] rfl ?_
          refine Y_stk [.int 1] (by rw [jb15, gz]) ?_
          refine Y_if_ne C 898 dL_law_891 (by decide) (fun cc16 => ?_) (fun cc16 => absurd cc16 (by decide))
          refine Y_iconst C (v := 0) dL_law_898 (by decide) ?_
          refine Y_iload C dL_law_899 rfl ?_
          refine Y_icmp_ne C 980 dL_law_901 (by decide) (fun cc17 => absurd (by decide) cc17) (fun cc17 => ?_)
          refine Y_iload C dL_law_904 rfl ?_
          refine Y_if_eq C 982 dL_law_906 (by decide) (fun cc18 => ?_) (fun cc18 => absurd (by decide) cc18)
          refine Y_iinc C (L' := [(18, .int (nI (k1 + 1))), (21, .int 0), (20, .int (nI jb)), (19, .int (nI ja)), (0, .ref 1000), (1, .ref 0), (2, .ref 100), (3, .int (nI i)), (7, .int (nI wh))]) (v := nI (k1 + 1)) dL_law_982 rfl (nI_inc _) (by decide) rfl ?_
          refine Y_goto C 820 dL_law_985 (by decide) ?_
          refine Y_sub (L' := [(18, .int (nI (k1 + 1))), (0, .ref 1000), (1, .ref 0), (2, .ref 100), (3, .int (nI i)), (7, .int (nI wh))]) (by simp) ?_
          refine Y_sub (L' := [(0, .ref 1000), (1, .ref 0), (2, .ref 100), (3, .int (nI i)), (7, .int (nI wh)), (18, .int (nI (k1 + 1)))]) (by simp) ?_
          refine Y_widen (k' := k0 + 11 * (k1 + 1)) (n' := n0 + 66 * (k1 + 1)) (by omega) (by omega) ?_
          exact ih (k1 + 1) (by omega) _ B1 av hS I1
        · have kb : K.2.1 jb = true := LI_yes I1 hjb cc13
          have gz : M.2.1 2 k1 = 0 := by rw [e2, ka, kb]; rfl
          have ed : Ed r B1 K ja jb := ⟨k1, hkr, by rw [eg, ka, kb]; rfl, Or.inl ⟨b0, b1⟩⟩
          refine Y_iconst C (v := 1) dL_law_870 (by decide) ?_
          refine Y_goto C 875 dL_law_871 (by decide) ?_
          refine Y_istore C (L' := [(21, .int 1), (20, .int (nI jb)), (19, .int (nI ja)), (0, .ref 1000), (1, .ref 0), (2, .ref 100), (3, .int (nI i)), (7, .int (nI wh)), (18, .int (nI k1))]) dL_law_875 (by decide) rfl ?_
          refine Y_iload C dL_law_877 rfl ?_
          refine Y_iload C dL_law_879 rfl ?_
          refine Y_icmp_eq C 980 dL_law_881 (by decide) (fun cc19 => absurd cc19 (fun z => hab ((nI_eq (by omega) (by omega)).mp z))) (fun cc19 => ?_)
          refine Y_aload_n C dL_law_884 rfl rfl ?_
          refine Y_iload C dL_law_885 rfl ?_
          refine Y_iconst C (v := 2) dL_law_887 (by decide) ?_
          obtain ⟨ja20, jb20⟩ := go_joins I1 (w := 2) hkr (by decide)
          refine Y_stk [.int (nI 2), .int (nI k1), .ref 0] rfl ?_
          refine Y_callG (K' := K) (D' := D) (B' := B1) C S (c_X2_joins K D B1 (nI k1) (nI 2) I1.kn h40 I1.br h30) ja20 m_X2_joins K2 g_116 dL_law_888 rfl rfl ⟨Nat.le_of_ble_eq_true rfl, Nat.le_of_ble_eq_true rfl⟩ ⟨by show k0 + 11 * k1 + 1 + 1 + 1 + 1 + 1 ≤ 600104; omega, by show n0 + 66 * k1 + 6 + 6 + 6 + 6 + 6 ≤ 7301314; omega⟩ (Nat.le_of_ble_eq_true rfl) ?_
          refine Y_stk [.int ((cJoins K B1 (nI k1) (nI 2)).2)] rfl ?_
          refine Y_stk [.int 0] (by rw [jb20, gz]) ?_
          refine Y_if_ne C 898 dL_law_891 (by decide) (fun cc21 => absurd rfl cc21) (fun cc21 => ?_)
          refine Y_iconst C (v := 1) dL_law_894 (by decide) ?_
          refine Y_goto C 899 dL_law_895 (by decide) ?_
          refine Y_iload C dL_law_899 rfl ?_
          refine Y_icmp_ne C 980 dL_law_901 (by decide) (fun cc22 => absurd (by decide) cc22) (fun cc22 => ?_)
          refine Y_iload C dL_law_904 rfl ?_
          refine Y_if_eq C 982 dL_law_906 (by decide) (fun cc23 => absurd cc23 (by decide)) (fun cc23 => ?_)
          refine Y_aload_n C dL_law_909 rfl rfl ?_
          refine Y_iload C dL_law_910 rfl ?_
          refine Y_iload C dL_law_912 rfl ?_
          obtain ⟨gp, sp, vp⟩ := go_steps I1 hja hjb
          obtain ⟨xp, hxp⟩ : ∃ Z, Z = (cSteps K B1 (nI ja) (nI jb)).2.1 := ⟨_, rfl⟩
          obtain ⟨Bp, hBp⟩ : ∃ Z, Z = (cSteps K B1 (nI ja) (nI jb)).2.2 := ⟨_, rfl⟩
          refine Y_stk [.int (nI jb), .int (nI ja), .ref 0] rfl ?_
          refine Y_callG (K' := K) (D' := D) (B' := (cSteps K B1 (nI ja) (nI jb)).2.2) C S (c_X2_steps K D B1 (nI ja) (nI jb) I1.kn h40 I1.br h30) gp m_X2_steps K2 g_212 dL_law_914 rfl rfl ⟨Nat.le_of_ble_eq_true rfl, Nat.le_of_ble_eq_true rfl⟩ ⟨by show k0 + 11 * k1 + 1 + 1 + 1 + 1 + 1 + 1 ≤ 600104; omega, by show n0 + 66 * k1 + 6 + 6 + 6 + 6 + 6 + 6 ≤ 7301314; omega⟩ (Nat.le_of_ble_eq_true rfl) ?_
          refine Y_stk [.int ((cSteps K B1 (nI ja) (nI jb)).2.1)] rfl ?_
          refine Y_stk [.int xp] (by rw [← hxp]) ?_
          rw [← hBp]
          rw [← hBp] at sp
          rw [← hxp] at vp
          have Ip := LI_Sam I1 sp
          have wp := vp
          have Sp := sp
          refine Y_iconst C (v := 1) dL_law_917 (by decide) ?_
          refine Y_icmp_ne C 980 dL_law_918 (by decide) (fun cc24 => absurd (sp_one hja hab ka kb ed wp) cc24) (fun cc24 => ?_)
          refine Y_aload_n C dL_law_921 rfl rfl ?_
          refine Y_iload C dL_law_922 rfl ?_
          refine Y_iload C dL_law_924 rfl ?_
          obtain ⟨gq, sq, vq⟩ := go_steps Ip hwh hja
          obtain ⟨xq, hxq⟩ : ∃ Z, Z = (cSteps K Bp (nI wh) (nI ja)).2.1 := ⟨_, rfl⟩
          obtain ⟨Bq, hBq⟩ : ∃ Z, Z = (cSteps K Bp (nI wh) (nI ja)).2.2 := ⟨_, rfl⟩
          refine Y_stk [.int (nI ja), .int (nI wh), .ref 0] rfl ?_
          refine Y_callG (K' := K) (D' := D) (B' := (cSteps K Bp (nI wh) (nI ja)).2.2) C S (c_X2_steps K D Bp (nI wh) (nI ja) Ip.kn h40 Ip.br h30) gq m_X2_steps K2 g_212 dL_law_926 rfl rfl ⟨Nat.le_of_ble_eq_true rfl, Nat.le_of_ble_eq_true rfl⟩ ⟨by show k0 + 11 * k1 + 1 + 1 + 1 + 1 + 1 + 1 + 1 ≤ 600104; omega, by show n0 + 66 * k1 + 6 + 6 + 6 + 6 + 6 + 6 + 6 ≤ 7301314; omega⟩ (Nat.le_of_ble_eq_true rfl) ?_
          refine Y_stk [.int ((cSteps K Bp (nI wh) (nI ja)).2.1)] rfl ?_
          refine Y_stk [.int xq] (by rw [← hxq]) ?_
          rw [← hBq]
          rw [← hBq] at sq
          rw [← hxq] at vq
          have Iq := LI_Sam Ip sq
          have wq := spV_Sam Sp vq
          have Sq := Sam_tr Sp sq
          by_cases cq : xq < 0
          · refine Y_if_lt C 936 dL_law_929 (by decide) (fun cc25 => ?_) (fun cc25 => absurd cq cc25)
            refine Y_iconst C (v := 0) dL_law_936 (by decide) ?_
            refine Y_aload_n C dL_law_937 rfl rfl ?_
            refine Y_iload C dL_law_938 rfl ?_
            refine Y_iload C dL_law_940 rfl ?_
            obtain ⟨gu, su, vu⟩ := go_steps Iq hwh hjb
            obtain ⟨xu, hxu⟩ : ∃ Z, Z = (cSteps K Bq (nI wh) (nI jb)).2.1 := ⟨_, rfl⟩
            obtain ⟨Bu, hBu⟩ : ∃ Z, Z = (cSteps K Bq (nI wh) (nI jb)).2.2 := ⟨_, rfl⟩
            refine Y_stk [.int (nI jb), .int (nI wh), .ref 0, .int 0] rfl ?_
            refine Y_callG (K' := K) (D' := D) (B' := (cSteps K Bq (nI wh) (nI jb)).2.2) C S (c_X2_steps K D Bq (nI wh) (nI jb) Iq.kn h40 Iq.br h30) gu m_X2_steps K2 g_212 dL_law_942 rfl rfl ⟨Nat.le_of_ble_eq_true rfl, Nat.le_of_ble_eq_true rfl⟩ ⟨by show k0 + 11 * k1 + 1 + 1 + 1 + 1 + 1 + 1 + 1 + 1 ≤ 600104; omega, by show n0 + 66 * k1 + 6 + 6 + 6 + 6 + 6 + 6 + 6 + 6 ≤ 7301314; omega⟩ (Nat.le_of_ble_eq_true rfl) ?_
            refine Y_stk [.int ((cSteps K Bq (nI wh) (nI jb)).2.1), .int 0] rfl ?_
            refine Y_stk [.int xu, .int 0] (by rw [← hxu]) ?_
            rw [← hBu]
            rw [← hBu] at su
            rw [← hxu] at vu
            have Iu := LI_Sam Iq su
            have wu := spV_Sam Sq vu
            have Su := Sam_tr Sq su
            have tw := sp_two hja hjb ka kb ed wq wu
            refine Y_if_lt C 952 dL_law_945 (by decide) (fun cc26 => ?_) (fun cc26 => absurd (tw.1.mp cq) cc26)
            refine Y_iconst C (v := 0) dL_law_952 (by decide) ?_
            refine Y_icmp_ne C 980 dL_law_953 (by decide) (fun cc27 => absurd (by decide) cc27) (fun cc27 => ?_)
            refine Y_aload_n C dL_law_956 rfl rfl ?_
            refine Y_iload C dL_law_957 rfl ?_
            refine Y_iload C dL_law_959 rfl ?_
            obtain ⟨gy, sy, vy⟩ := go_steps Iu hwh hja
            obtain ⟨xy, hxy⟩ : ∃ Z, Z = (cSteps K Bu (nI wh) (nI ja)).2.1 := ⟨_, rfl⟩
            obtain ⟨By, hBy⟩ : ∃ Z, Z = (cSteps K Bu (nI wh) (nI ja)).2.2 := ⟨_, rfl⟩
            refine Y_stk [.int (nI ja), .int (nI wh), .ref 0] rfl ?_
            refine Y_callG (K' := K) (D' := D) (B' := (cSteps K Bu (nI wh) (nI ja)).2.2) C S (c_X2_steps K D Bu (nI wh) (nI ja) Iu.kn h40 Iu.br h30) gy m_X2_steps K2 g_212 dL_law_961 rfl rfl ⟨Nat.le_of_ble_eq_true rfl, Nat.le_of_ble_eq_true rfl⟩ ⟨by show k0 + 11 * k1 + 1 + 1 + 1 + 1 + 1 + 1 + 1 + 1 + 1 ≤ 600104; omega, by show n0 + 66 * k1 + 6 + 6 + 6 + 6 + 6 + 6 + 6 + 6 + 6 ≤ 7301314; omega⟩ (Nat.le_of_ble_eq_true rfl) ?_
            refine Y_stk [.int ((cSteps K Bu (nI wh) (nI ja)).2.1)] rfl ?_
            refine Y_stk [.int xy] (by rw [← hxy]) ?_
            rw [← hBy]
            rw [← hBy] at sy
            rw [← hxy] at vy
            have Iy := LI_Sam Iu sy
            have wy := spV_Sam Su vy
            have Sy := Sam_tr Su sy
            refine Y_aload_n C dL_law_964 rfl rfl ?_
            refine Y_iload C dL_law_965 rfl ?_
            refine Y_iload C dL_law_967 rfl ?_
            obtain ⟨gz, sz, vz⟩ := go_steps Iy hwh hjb
            obtain ⟨xz, hxz⟩ : ∃ Z, Z = (cSteps K By (nI wh) (nI jb)).2.1 := ⟨_, rfl⟩
            obtain ⟨Bz, hBz⟩ : ∃ Z, Z = (cSteps K By (nI wh) (nI jb)).2.2 := ⟨_, rfl⟩
            refine Y_stk [.int (nI jb), .int (nI wh), .ref 0, .int xy] rfl ?_
            refine Y_callG (K' := K) (D' := D) (B' := (cSteps K By (nI wh) (nI jb)).2.2) C S (c_X2_steps K D By (nI wh) (nI jb) Iy.kn h40 Iy.br h30) gz m_X2_steps K2 g_212 dL_law_969 rfl rfl ⟨Nat.le_of_ble_eq_true rfl, Nat.le_of_ble_eq_true rfl⟩ ⟨by show k0 + 11 * k1 + 1 + 1 + 1 + 1 + 1 + 1 + 1 + 1 + 1 + 1 ≤ 600104; omega, by show n0 + 66 * k1 + 6 + 6 + 6 + 6 + 6 + 6 + 6 + 6 + 6 + 6 ≤ 7301314; omega⟩ (Nat.le_of_ble_eq_true rfl) ?_
            refine Y_stk [.int ((cSteps K By (nI wh) (nI jb)).2.1), .int xy] rfl ?_
            refine Y_stk [.int xz, .int xy] (by rw [← hxz]) ?_
            rw [← hBz]
            rw [← hBz] at sz
            rw [← hxz] at vz
            have Iz := LI_Sam Iy sz
            have wz := spV_Sam Sy vz
            have Sz := Sam_tr Sy sz
            have tw2 := sp_two hja hjb ka kb ed wy wz
            refine Y_isub C (v := xy - xz) dL_law_972 rfl ?_
            refine Y_mabs C (v := ab (xy - xz)) dL_law_973 g_589 g_590 g_24 g_591 (Nat.le_of_ble_eq_true rfl) (Nat.le_of_ble_eq_true rfl) ⟨by show k0 + 11 * k1 + 1 + 1 + 1 + 1 + 1 + 1 + 1 + 1 + 1 + 1 ≤ 600104; omega, by show n0 + 66 * k1 + 6 + 6 + 6 + 6 + 6 + 6 + 6 + 6 + 6 + 6 ≤ 7301314; omega⟩ rfl ?_
            refine Y_iconst C (v := 1) dL_law_976 (by decide) ?_
            refine Y_icmp_le C 982 dL_law_977 (by decide) (fun cc28 => ?_) (fun cc28 => absurd tw2.2 cc28)
            refine Y_iinc C (L' := [(18, .int (nI (k1 + 1))), (21, .int 1), (20, .int (nI jb)), (19, .int (nI ja)), (0, .ref 1000), (1, .ref 0), (2, .ref 100), (3, .int (nI i)), (7, .int (nI wh))]) (v := nI (k1 + 1)) dL_law_982 rfl (nI_inc _) (by decide) rfl ?_
            refine Y_goto C 820 dL_law_985 (by decide) ?_
            refine Y_sub (L' := [(18, .int (nI (k1 + 1))), (0, .ref 1000), (1, .ref 0), (2, .ref 100), (3, .int (nI i)), (7, .int (nI wh))]) (by simp) ?_
            refine Y_sub (L' := [(0, .ref 1000), (1, .ref 0), (2, .ref 100), (3, .int (nI i)), (7, .int (nI wh)), (18, .int (nI (k1 + 1)))]) (by simp) ?_
            refine Y_widen (k' := k0 + 11 * (k1 + 1)) (n' := n0 + 66 * (k1 + 1)) (by omega) (by omega) ?_
            exact ih (k1 + 1) (by omega) _ Bz av (Sam_tr hS Sz) Iz
          · refine Y_if_lt C 936 dL_law_929 (by decide) (fun cc29 => absurd cc29 cq) (fun cc29 => ?_)
            refine Y_iconst C (v := 1) dL_law_932 (by decide) ?_
            refine Y_goto C 937 dL_law_933 (by decide) ?_
            refine Y_aload_n C dL_law_937 rfl rfl ?_
            refine Y_iload C dL_law_938 rfl ?_
            refine Y_iload C dL_law_940 rfl ?_
            obtain ⟨gu, su, vu⟩ := go_steps Iq hwh hjb
            obtain ⟨xu, hxu⟩ : ∃ Z, Z = (cSteps K Bq (nI wh) (nI jb)).2.1 := ⟨_, rfl⟩
            obtain ⟨Bu, hBu⟩ : ∃ Z, Z = (cSteps K Bq (nI wh) (nI jb)).2.2 := ⟨_, rfl⟩
            refine Y_stk [.int (nI jb), .int (nI wh), .ref 0, .int 1] rfl ?_
            refine Y_callG (K' := K) (D' := D) (B' := (cSteps K Bq (nI wh) (nI jb)).2.2) C S (c_X2_steps K D Bq (nI wh) (nI jb) Iq.kn h40 Iq.br h30) gu m_X2_steps K2 g_212 dL_law_942 rfl rfl ⟨Nat.le_of_ble_eq_true rfl, Nat.le_of_ble_eq_true rfl⟩ ⟨by show k0 + 11 * k1 + 1 + 1 + 1 + 1 + 1 + 1 + 1 + 1 ≤ 600104; omega, by show n0 + 66 * k1 + 6 + 6 + 6 + 6 + 6 + 6 + 6 + 6 ≤ 7301314; omega⟩ (Nat.le_of_ble_eq_true rfl) ?_
            refine Y_stk [.int ((cSteps K Bq (nI wh) (nI jb)).2.1), .int 1] rfl ?_
            refine Y_stk [.int xu, .int 1] (by rw [← hxu]) ?_
            rw [← hBu]
            rw [← hBu] at su
            rw [← hxu] at vu
            have Iu := LI_Sam Iq su
            have wu := spV_Sam Sq vu
            have Su := Sam_tr Sq su
            have tw := sp_two hja hjb ka kb ed wq wu
            refine Y_if_lt C 952 dL_law_945 (by decide) (fun cc30 => absurd cc30 (fun z => cq (tw.1.mpr z))) (fun cc30 => ?_)
            refine Y_iconst C (v := 1) dL_law_948 (by decide) ?_
            refine Y_goto C 953 dL_law_949 (by decide) ?_
            refine Y_icmp_ne C 980 dL_law_953 (by decide) (fun cc31 => absurd (by decide) cc31) (fun cc31 => ?_)
            refine Y_aload_n C dL_law_956 rfl rfl ?_
            refine Y_iload C dL_law_957 rfl ?_
            refine Y_iload C dL_law_959 rfl ?_
            obtain ⟨gy, sy, vy⟩ := go_steps Iu hwh hja
            obtain ⟨xy, hxy⟩ : ∃ Z, Z = (cSteps K Bu (nI wh) (nI ja)).2.1 := ⟨_, rfl⟩
            obtain ⟨By, hBy⟩ : ∃ Z, Z = (cSteps K Bu (nI wh) (nI ja)).2.2 := ⟨_, rfl⟩
            refine Y_stk [.int (nI ja), .int (nI wh), .ref 0] rfl ?_
            refine Y_callG (K' := K) (D' := D) (B' := (cSteps K Bu (nI wh) (nI ja)).2.2) C S (c_X2_steps K D Bu (nI wh) (nI ja) Iu.kn h40 Iu.br h30) gy m_X2_steps K2 g_212 dL_law_961 rfl rfl ⟨Nat.le_of_ble_eq_true rfl, Nat.le_of_ble_eq_true rfl⟩ ⟨by show k0 + 11 * k1 + 1 + 1 + 1 + 1 + 1 + 1 + 1 + 1 + 1 ≤ 600104; omega, by show n0 + 66 * k1 + 6 + 6 + 6 + 6 + 6 + 6 + 6 + 6 + 6 ≤ 7301314; omega⟩ (Nat.le_of_ble_eq_true rfl) ?_
            refine Y_stk [.int ((cSteps K Bu (nI wh) (nI ja)).2.1)] rfl ?_
            refine Y_stk [.int xy] (by rw [← hxy]) ?_
            rw [← hBy]
            rw [← hBy] at sy
            rw [← hxy] at vy
            have Iy := LI_Sam Iu sy
            have wy := spV_Sam Su vy
            have Sy := Sam_tr Su sy
            refine Y_aload_n C dL_law_964 rfl rfl ?_
            refine Y_iload C dL_law_965 rfl ?_
            refine Y_iload C dL_law_967 rfl ?_
            obtain ⟨gz, sz, vz⟩ := go_steps Iy hwh hjb
            obtain ⟨xz, hxz⟩ : ∃ Z, Z = (cSteps K By (nI wh) (nI jb)).2.1 := ⟨_, rfl⟩
            obtain ⟨Bz, hBz⟩ : ∃ Z, Z = (cSteps K By (nI wh) (nI jb)).2.2 := ⟨_, rfl⟩
            refine Y_stk [.int (nI jb), .int (nI wh), .ref 0, .int xy] rfl ?_
            refine Y_callG (K' := K) (D' := D) (B' := (cSteps K By (nI wh) (nI jb)).2.2) C S (c_X2_steps K D By (nI wh) (nI jb) Iy.kn h40 Iy.br h30) gz m_X2_steps K2 g_212 dL_law_969 rfl rfl ⟨Nat.le_of_ble_eq_true rfl, Nat.le_of_ble_eq_true rfl⟩ ⟨by show k0 + 11 * k1 + 1 + 1 + 1 + 1 + 1 + 1 + 1 + 1 + 1 + 1 ≤ 600104; omega, by show n0 + 66 * k1 + 6 + 6 + 6 + 6 + 6 + 6 + 6 + 6 + 6 + 6 ≤ 7301314; omega⟩ (Nat.le_of_ble_eq_true rfl) ?_
            refine Y_stk [.int ((cSteps K By (nI wh) (nI jb)).2.1), .int xy] rfl ?_
            refine Y_stk [.int xz, .int xy] (by rw [← hxz]) ?_
            rw [← hBz]
            rw [← hBz] at sz
            rw [← hxz] at vz
            have Iz := LI_Sam Iy sz
            have wz := spV_Sam Sy vz
            have Sz := Sam_tr Sy sz
            have tw2 := sp_two hja hjb ka kb ed wy wz
            refine Y_isub C (v := xy - xz) dL_law_972 rfl ?_
            refine Y_mabs C (v := ab (xy - xz)) dL_law_973 g_589 g_590 g_24 g_591 (Nat.le_of_ble_eq_true rfl) (Nat.le_of_ble_eq_true rfl) ⟨by show k0 + 11 * k1 + 1 + 1 + 1 + 1 + 1 + 1 + 1 + 1 + 1 + 1 ≤ 600104; omega, by show n0 + 66 * k1 + 6 + 6 + 6 + 6 + 6 + 6 + 6 + 6 + 6 + 6 ≤ 7301314; omega⟩ rfl ?_
            refine Y_iconst C (v := 1) dL_law_976 (by decide) ?_
            refine Y_icmp_le C 982 dL_law_977 (by decide) (fun cc32 => ?_) (fun cc32 => absurd tw2.2 cc32)
            refine Y_iinc C (L' := [(18, .int (nI (k1 + 1))), (21, .int 1), (20, .int (nI jb)), (19, .int (nI ja)), (0, .ref 1000), (1, .ref 0), (2, .ref 100), (3, .int (nI i)), (7, .int (nI wh))]) (v := nI (k1 + 1)) dL_law_982 rfl (nI_inc _) (by decide) rfl ?_
            refine Y_goto C 820 dL_law_985 (by decide) ?_
            refine Y_sub (L' := [(18, .int (nI (k1 + 1))), (0, .ref 1000), (1, .ref 0), (2, .ref 100), (3, .int (nI i)), (7, .int (nI wh))]) (by simp) ?_
            refine Y_sub (L' := [(0, .ref 1000), (1, .ref 0), (2, .ref 100), (3, .int (nI i)), (7, .int (nI wh)), (18, .int (nI (k1 + 1)))]) (by simp) ?_
            refine Y_widen (k' := k0 + 11 * (k1 + 1)) (n' := n0 + 66 * (k1 + 1)) (by omega) (by omega) ?_
            exact ih (k1 + 1) (by omega) _ Bz av (Sam_tr hS Sz) Iz
  refine Y_widen (k' := k0 + 11 * 0) (n' := n0 + 66 * 0) (by omega) (by omega) ?_
  exact key r 0 (by omega) hv B (fun q hq => rfl) ⟨rfl, rfl, rfl⟩ I
