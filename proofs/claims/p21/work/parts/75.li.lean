/-! the class's object and the law's towers between two acts -/
abbrev xW (K D : St) (B : Sr) : List va_E := twO ++ (stW 1 K ++ (stW 11 D ++ srW 21 B))
theorem okC_x (K D : St) (B : Sr) : okC (xW K D B) := fun i e h => by
  have he := List.mem_of_getElem? h
  simp only [xW, twO, stW, srW, List.cons_append, List.nil_append, List.mem_cons, List.not_mem_nil, or_false] at he
  rcases he with rfl | rfl | rfl | rfl | rfl | rfl | rfl | rfl | rfl | rfl | rfl | rfl | rfl | rfl | rfl | rfl | rfl | rfl | rfl | rfl | rfl | rfl | rfl | rfl | rfl <;> simp [eR, sR, vR]
section YG
variable {p : Program} {l : Launch} {e : Env} {R : Room} {s : State} {m : MethodId} {args : Array Value} {below : List Frame} {meth : Method} {c : Code} {cc : ByteArray} {nL : Nat} {own : String} {G : gG} {A : Nat → Prop} {h h0 : Nat → Nat} {Q : State → Prop} {k n : Nat} {pc : Nat} {L : List (Nat × Value)} {st rest : List Value} {b N : Nat} {xs : Nat → Int32} {K D K' D' : St} {B B' : Sr} {n1 r1 : Nat} {M : Md} {T : WF}
theorem xW_in {i : Nat} {e : va_E} (h : (xW K D B)[i]? = some e) : gW (xW K D B) n1 r1 M T i = some e := by
  have hi : i < 25 := (List.getElem?_eq_some_iff.mp h).1
  rw [gW_lo (by omega)]
  exact h
theorem xW_up (i : Nat) : gW (xW K' D' B') n1 r1 M T i = if i < (xW K D B).length then (xW K' D' B')[i]? else gW (xW K D B) n1 r1 M T i := by
  show _ = if i < 25 then _ else _
  by_cases h : i < 25
  · rw [if_pos h, gW_lo (by omega)]
  · rw [if_neg h]
    by_cases h1 : i < 100
    · rw [gW_lo h1, gW_lo h1, List.getElem?_eq_none (by show 25 ≤ i; omega), List.getElem?_eq_none (by show 25 ≤ i; omega)]
    · by_cases h2 : i < 400
      · rw [gW_mid (by omega) h2, gW_mid (by omega) h2]
      · rw [gW_hi (by omega), gW_hi (by omega)]
theorem Y_callG (C : Cx p s m args c cc nL own G A) (S : Cs l s A b N xs) {y : MethodName} {bb : ByteArray} {mL mc ms nA index : Nat} {ret : Option FieldType} {As : List Value} {xE : Option String} {v : Option Value} (hc : CTX y bb mL ret 6 mc ms (.ref 0 :: As) (xW K D B) xE v (xW K' D' B')) (hE : xE = none) (Mm : mV y bb mL ret nA) (Kc : cK y.cls TX2 3 2 tyX2) (hm : Cond.methodLink own index y ∈ gA) (d : decode cc pc = .ok (.invokevirtual index, 3)) (hst : As.reverse ++ .ref 0 :: rest = st) (hnA : As.length = nA) (hR : 7 ≤ R.frames ∧ 8 + (mL + 11) + 180 ≤ R.locals) (hcs : k + mc ≤ R.cells ∧ n + ms ≤ R.slots) (hW : (rest.map fun v => v.category).sum ≤ 8)
    (kk : Y p l e R s m args below meth c nL G A h Q (k + mc) (n + ms) (gW (xW K' D' B') n1 r1 M T) (pc + 3) L (v.toList ++ rest)) : Y p l e R s m args below meth c nL G A h Q k n (gW (xW K D B) n1 r1 M T) pc L st :=
  Y_callX C S hc hE Mm Kc hm d hst (fun _ _ h => xW_in h) rfl xW_up rfl hnA hR hcs hW kk
end YG
/-- all that holds between two acts -/
def LI (n r : Nat) (B : Sr) (K : St) (M : Md) : Prop := Si n r B K M ∧ WB n M ∧ JI n M ∧ M.2.2.2 0 = 0
section LIs
variable {n r : Nat} {B : Sr} {K : St} {M : Md}
theorem LI.h40 (h : LI n r B K M) : n ≤ 40 := h.1.1.1.1.h40
theorem LI.h30 (h : LI n r B K M) : r ≤ 30 := h.1.1.1.1.h30
theorem LI.mn (h : LI n r B K M) : M.2.2.2 1 = nI n := h.1.1.1.1.mn
theorem LI.mr (h : LI n r B K M) : M.2.2.2 2 = nI r := h.1.1.1.1.mr
theorem LI.kn (h : LI n r B K M) : K.2.2.1 0 = nI n := h.1.1.1.1.kn
theorem LI.br (h : LI n r B K M) : B.2 0 = nI r := h.1.1.1.1.br
end LIs
theorem mI_id {M : Md} (h : M.2.2.2 0 = 0) : mI M 0 0 = M := by
  obtain ⟨a, b, c, d⟩ := M
  show (a, b, c, fun k' => if k' = 0 then 0 else d k') = (a, b, c, d)
  congr 3
  funext k
  by_cases hk : k = 0
  · rw [if_pos hk, hk]; exact h.symm
  · rw [if_neg hk]
theorem kc_none {a b : String} {o : Option String} (h : kc a b o = 0) : o = none := by
  cases o with
  | none => rfl
  | some x =>
    unfold kc at h
    dsimp only at h
    split at h
    · exact absurd h (by decide)
    · split at h
      · exact absurd h (by decide)
      · exact absurd h (by decide)
theorem JI_gw {n r : Nat} (h40 : n ≤ 40) (h30 : r ≤ 30) : ∀ (k : Nat) (M : Md), M.2.2.2 1 = nI n → M.2.2.2 2 = nI r → JI n M → JI n (mgw k M)
  | 0, _, _, _, h => h
  | k + 1, M, hn, hr, h => by
    have h1 := JI_Rd h40 hn h
    have hi := mi_Rd M
    have h2 := JI_Drop h40 h30 (M := (mRd M).1) (by rw [hi]; exact hn) (by rw [hi]; exact hr) h1
    rw [mgw]
    split
    · exact JI_gw h40 h30 k _ (by rw [mi_Drop, hi]; exact hn) (by rw [mi_Drop, hi]; exact hr) h2
    · exact h2
theorem JI_Gv {n r : Nat} {M : Md} (h40 : n ≤ 40) (h30 : r ≤ 30) (hn : M.2.2.2 1 = nI n) (hr : M.2.2.2 2 = nI r) (h : JI n M) : JI n (mGv M) := JI_of (mt_Rk _) (JI_gw h40 h30 1000 M hn hr h)
theorem WB_gw {n : Nat} : ∀ (k : Nat) (M : Md), WB n M → WB n (mgw k M)
  | 0, _, h => h
  | k + 1, M, h => by
    rw [mgw]
    split
    · exact WB_gw k _ (WB_round h)
    · exact WB_round h
theorem WB_Gv {n : Nat} {M : Md} (h : WB n M) : WB n (mGv M) := by
  have e := mt_Rk (mgw 1000 M)
  exact WB_of (by show (mRk _).1 0 = _; rw [e]) (by show (mRk _).1 6 = _; rw [e]) (WB_gw 1000 M h)
theorem md1_2 (k : Nat) (M : Md) : (md1 k M).1 2 = M.1 2 ∨ (md1 k M).1 2 = upd (M.1 2) k 0 := by
  unfold md1
  split
  · split
    · split
      · refine Or.inr ?_
        unfold mFall
        rw [mT_fr (mt_fk k)]
        have e : (mFl M k).1 2 = (mTear (tA M 2 k 0) k).1.1 2 := by
          unfold mFl
          funext i
          rw [tA_nk (by decide), tA_nk (by decide), tA_nk (by decide)]
        rw [e]
        unfold mTear
        rw [frA_row k (by decide)]
        show (if (2 : Nat) = 2 then upd (M.1 2) k 0 else M.1 2) = _
        exact if_pos rfl
      · exact Or.inl rfl
    · exact Or.inl rfl
  · exact Or.inl rfl
theorem dn_md1 {k i : Nat} {M : Md} (h : M.1 2 i = 0) : (md1 k M).1 2 i = 0 := by
  rcases md1_2 k M with e | e
  · rw [e]; exact h
  · rw [e]
    show (if i = k then (0 : Int32) else M.1 2 i) = 0
    split
    · rfl
    · exact h
theorem dn_Drop {i : Nat} {M : Md} (h : M.1 2 i = 0) : (mDrop M).1 2 i = 0 := by
  unfold mDrop
  have : ∀ m, (fr md1 m M).1 2 i = 0 := fun m => by
    induction m with
    | zero => exact h
    | succ m ih => exact dn_md1 ih
  exact this _
theorem dn_gw {i : Nat} : ∀ (k : Nat) (M : Md), M.1 2 i = 0 → (mgw k M).1 2 i = 0
  | 0, _, h => h
  | k + 1, M, h => by
    have h1 : (mDrop (mRd M).1).1 2 i = 0 := dn_Drop (by rw [mRd_row M (by decide)]; exact h)
    rw [mgw]
    split
    · exact dn_gw k _ h1
    · exact h1
theorem dn_Gv {i : Nat} {M : Md} (h : M.1 2 i = 0) : (mGv M).1 2 i = 0 := by
  show (mRk _).1 2 i = 0
  rw [mt_Rk]
  exact dn_gw 1000 M h
/-- who fell stays fallen -/
def Dn (n : Nat) (M M' : Md) : Prop := ∀ i, i < n → M.1 2 i = 0 → M'.1 2 i = 0
theorem n_of {n n' : Nat} (h : nI n = nI n') (h1 : n ≤ 41) (h2 : n' ≤ 41) : n = n' := (nI_eq (by omega) (by omega)).mp h
theorem LI_mk {n r n' : Nat} {B : Sr} {K : St} {M : Md} (h : Si n' r B K M) (hn : M.2.2.2 1 = nI n) (h41 : n ≤ 41) (hB : WB n M) (hJ : JI n M) (hz : M.2.2.2 0 = 0) : LI n r B K M := by
  have e : n' = n := n_of (h.1.1.1.mn.symm.trans hn) (by have := h.1.1.1.h40; omega) h41
  subst e
  exact ⟨h, hB, hJ, hz⟩
section LIn
variable {n r : Nat} {B : Sr} {K : St} {M : Md}
theorem nw_i {w t q f o : Int32} : (mNew M n w t q f o).2.2.2 1 = nI (n + 1) ∧ (mNew M n w t q f o).2.2.2 2 = M.2.2.2 2 ∧ (mNew M n w t q f o).2.2.2 0 = M.2.2.2 0 := ⟨rfl, rfl, rfl⟩
theorem n40 (h : LI n r B K M) (hl : n < 40) : ¬ M.2.2.2 1 = 40 := by
  rw [h.mn]
  intro z
  have := (nI_eq (a := n) (b := 40) (by omega) (by omega)).mp z
  omega
theorem LI_new (h : LI n r B K M) (hl : n < 40) {w t q f o : Int32} (hw : ∃ a : Nat, a ≤ 20 ∧ w = nI a) (ht : 0 ≤ t) (hf : okH n f) (ho : okH n o) (hfo : f = -1 → o = -1) (hd : ¬ f = -1 → ¬ f = o) (hq : q ≤ 0 → q = 0) : JI (n + 1) (mNew M n w t q f o) ∧ WB (n + 1) (mNew M n w t q f o) ∧ ∀ {n' r' : Nat} {B' : Sr} {K' : St}, r' = r → Si n' r' B' K' (mGv (mNew M n w t q f o)) → LI (n + 1) r B' K' (mGv (mNew M n w t q f o)) := by
  have hJ := JI_new h.2.2.1 hf ho hfo hd hq ht (w := w)
  have hB := WB_new (t := t) (q := q) (f := f) (o := o) h.2.1 hw
  have hi : (mGv (mNew M n w t q f o)).2.2.2 = (mNew M n w t q f o).2.2.2 := mi_Gv _
  refine ⟨hJ, hB, fun e hS => ?_⟩
  subst e
  exact LI_mk hS (by rw [hi]; exact nw_i.1) (by omega) (WB_Gv hB) (JI_Gv (by omega) h.h30 nw_i.1 (nw_i.2.1.trans h.mr) hJ) (by rw [hi]; exact h.2.2.2)
theorem LI_conj (h : LI n r B K M) (hl : n < 40) {w t q : Int32} (hw : ∃ a : Nat, a ≤ 20 ∧ w = nI a) (h1 : isInB w 1 20 = true) (h2 : isInB t 1 60 = true) (h3 : isInB q 1 200 = true) : (cConj K w t q).1 = none ∧ (cConj K w t q).2.1 = nI n ∧ LI (n + 1) r B (cConj K w t q).2.2 (mGv (mNew M n w t q (-1) (-1))) ∧ JI (n + 1) (mNew M n w t q (-1) (-1)) ∧ WB (n + 1) (mNew M n w t q (-1) (-1)) := by
  have hq := conj_q h.1 w t q
  have e : mConj M w t q = (mGv (mNew M n w t q (-1) (-1)), nI n) := by
    unfold mConj mStone
    rw [h1, h2, h3, if_pos (by rfl), if_neg (n40 h hl), mN_eq h.mn h.h40, mI_id h.2.2.2]
  rw [e] at hq
  obtain ⟨q1, q2, n', q3⟩ := hq
  have g := LI_new h hl (w := w) (t := t) (q := q) (f := -1) (o := -1) hw (Int32.le_trans (by decide) (isInB_ge h2).1) (Or.inl rfl) (Or.inl rfl) (fun _ => rfl) (fun z => absurd rfl z) (fun z => absurd (Int32.le_trans (isInB_ge h3).1 z) (by decide))
  have hz : (mGv (mNew M n w t q (-1) (-1))).2.2.2 0 = 0 := by rw [mi_Gv]; exact h.2.2.2
  have e0 : (cConj K w t q).1 = none := kc_none (q1.symm.trans hz)
  exact ⟨e0, (q2 e0).symm, g.2.2 rfl q3, g.1, g.2.1⟩
theorem mhas (h : LI n r B K M) {k : Nat} (hk : k < n) : mHas M (nI k) = true := isIn_nI h.mn (by have := h.h40; omega) hk
theorem LI_hang (h : LI n r B K M) (hl : n < 40) {w t o : Int32} {k : Nat} (hk : k < n) (hhk : ¬ M.1 2 k = 0) (ho : o = -1 ∨ ∃ j : Nat, j < n ∧ o = nI j ∧ j ≠ k ∧ ¬ M.1 2 j = 0) (hw : ∃ a : Nat, a ≤ 20 ∧ w = nI a) (h1 : isInB w 1 20 = true) (h2 : isInB t 1 60 = true) : (cHang K w t (nI k) o).1 = none ∧ (cHang K w t (nI k) o).2.1 = nI n ∧ LI (n + 1) r B (cHang K w t (nI k) o).2.2 (mGv (mNew M n w t 0 (nI k) o)) ∧ JI (n + 1) (mNew M n w t 0 (nI k) o) ∧ WB (n + 1) (mNew M n w t 0 (nI k) o) := by
  have hq := hang_q h.1 w t (nI k) o
  have h40 := h.h40
  have hko : ¬ nI k = o := by
    rcases ho with rfl | ⟨j, hj, rfl, hjk, -⟩
    · exact nI_m1 (by omega)
    · exact fun z => hjk ((nI_eq (by omega) (by omega)).mp z).symm
  have ho1 : ¬ (¬ o = -1 ∧ mHas M o = false) := fun z => by
    rcases ho with y | ⟨j, hj, rfl, -, -⟩
    · exact z.1 y
    · rw [mhas h hj] at z; exact absurd z.2 (by decide)
  have ho2 : ¬ (¬ o = -1 ∧ mHg M (ix o) = false) := fun z => by
    rcases ho with y | ⟨j, hj, rfl, -, hh⟩
    · exact z.1 y
    · rw [ix_nI (by omega), (JI_hg h.2.2.1 hj).mpr hh] at z; exact absurd z.2 (by decide)
  have e : mHang M w t (nI k) o = (mGv (mNew M n w t 0 (nI k) o), nI n) := by
    unfold mHang mStone
    rw [mI_id h.2.2.2, if_neg (by rw [h1, h2]; exact fun z => by rcases z with z | z | z; exact absurd z (by decide); exact absurd z (by decide); exact hko z), if_neg (by rw [mhas h hk]; exact fun z => by rcases z with z | z; exact absurd z (by decide); exact ho1 z), if_neg (by rw [ix_nI (by omega), (JI_hg h.2.2.1 hk).mpr hhk]; exact fun z => by rcases z with z | z | z; exact n40 h hl z; exact absurd z (by decide); exact ho2 z), mN_eq h.mn h40]
  rw [e] at hq
  obtain ⟨q1, q2, n', q3⟩ := hq
  have hoH : okH n o := by
    rcases ho with y | ⟨j, hj, y, -, -⟩
    · exact Or.inl y
    · exact Or.inr ⟨j, hj, y⟩
  have g := LI_new h hl (w := w) (t := t) (q := 0) (f := nI k) (o := o) hw (Int32.le_trans (by decide) (isInB_ge h2).1) (Or.inr ⟨k, hk, rfl⟩) hoH (fun z => absurd z (nI_m1 (by omega))) (fun _ => hko) (fun _ => rfl)
  have hz : (mGv (mNew M n w t 0 (nI k) o)).2.2.2 0 = 0 := by rw [mi_Gv]; exact h.2.2.2
  have e0 : (cHang K w t (nI k) o).1 = none := kc_none (q1.symm.trans hz)
  exact ⟨e0, (q2 e0).symm, g.2.2 rfl q3, g.1, g.2.1⟩
theorem JI_6 {k : Nat} {v : Int32} (h : JI n M) : JI n (tA M 6 k v) := fun i hi => by
  rw [tA_nk (by decide), tA_nk (by decide), tA_nk (by decide), tA_nk (by decide), tA_nk (by decide)]
  exact h i hi
theorem WB_6 {k b : Nat} {v : Int32} (hb : b ≤ 60) (hv : v = nI b) (h : WB n M) : WB n (tA M 6 k v) := fun i hi => by
  rw [tA_nk (by decide)]
  refine ⟨(h i hi).1, ?_⟩
  by_cases z : i = k
  · subst z; rw [tA_eq]; exact ⟨b, hb, hv⟩
  · rw [tA_ne z]; exact (h i hi).2
theorem LI_prop (h : LI n r B K M) {k b : Nat} (hk : k < n) (hhk : ¬ M.1 2 k = 0) (hb : b ≤ 60) : (cProp K (nI k) (nI b)).1 = none ∧ (cProp K (nI k) (nI b)).2.1 = mHa M - mHa (mGv (tA M 6 k (nI b))) ∧ LI n r B (cProp K (nI k) (nI b)).2.2 (mGv (tA M 6 k (nI b))) ∧ JI n (tA M 6 k (nI b)) ∧ WB n (tA M 6 k (nI b)) := by
  have hq := prop_q h.1 (nI k) (nI b)
  have h40 := h.h40
  have hv : isInB (nI b) 0 60 = true := by
    simp only [isInB, Bool.and_eq_true, Bool.not_eq_true', decide_eq_false_iff_not]
    exact ⟨nI_pos (by omega), show ¬ nI 60 < nI b from nI_nlt hb (by omega)⟩
  have e : mProp M (nI k) (nI b) = (mGv (tA M 6 k (nI b)), mHa M - mHa (mGv (tA M 6 k (nI b)))) := by
    unfold mProp
    rw [mI_id h.2.2.2, mhas h hk, hv, if_neg (by decide), if_neg (by decide), ix_nI (by omega), (JI_hg h.2.2.1 hk).mpr hhk, if_neg (by decide)]
  rw [e] at hq
  obtain ⟨q1, q2, q3⟩ := hq
  have hz : (mGv (tA M 6 k (nI b))).2.2.2 = M.2.2.2 := mi_Gv _
  have hJ : JI n (tA M 6 k (nI b)) := JI_6 h.2.2.1
  have hB : WB n (tA M 6 k (nI b)) := WB_6 hb rfl h.2.1
  have e0 : (cProp K (nI k) (nI b)).1 = none := kc_none (q1.symm.trans (by rw [show (mGv (tA M 6 k (nI b)), mHa M - mHa (mGv (tA M 6 k (nI b)))).1.2.2.2 = M.2.2.2 from hz]; exact h.2.2.2))
  exact ⟨e0, (q2 e0).symm, LI_mk q3 (by rw [hz]; exact h.mn) (by omega) (WB_Gv hB) (JI_Gv h40 h.h30 h.mn h.mr hJ) (by rw [hz]; exact h.2.2.2), hJ, hB⟩
theorem JI_3v {k : Nat} {v : Int32} (hk : k < n) (hhk : ¬ M.1 2 k = 0) (hv : v ≤ 0 → v = 0) (h : JI n M) : JI n (tA M 3 k v) := fun i hi => by
  by_cases z : i = k
  · subst z
    obtain ⟨o4, o5, f4, d45, f2, f3, h2, h1⟩ := h i hi
    rw [show (tA M 3 i v).1 4 i = M.1 4 i from tA_nk (by decide), show (tA M 3 i v).1 5 i = M.1 5 i from tA_nk (by decide), show (tA M 3 i v).1 2 i = M.1 2 i from tA_nk (by decide), show (tA M 3 i v).1 1 i = M.1 1 i from tA_nk (by decide), show (tA M 3 i v).1 3 i = v from tA_eq]
    exact ⟨o4, o5, f4, d45, fun q => absurd q hhk, hv, h2, h1⟩
  · exact JI_row hi h (fun q => tA_ne z)
theorem LI_renew (h : LI n r B K M) {k : Nat} {v : Int32} (hk : k < n) (hhk : ¬ M.1 2 k = 0) (hp : ¬ M.1 3 k = 0) (hv : isInB v 1 200 = true) (hl : (mRk M).2.2.1 1 k ≤ v) : (cRenew K (nI k) v).1 = none ∧ (cRenew K (nI k) v).2.1 = M.1 3 k ∧ LI n r B (cRenew K (nI k) v).2.2 (tA M 3 k v) := by
  have hq := renew_q h.1 (nI k) v
  have h40 := h.h40
  have e : mRenew M (nI k) v = (tA (mRk M) 3 k v, M.1 3 k) := by
    unfold mRenew
    rw [mI_id h.2.2.2, mhas h hk, hv, if_neg (by decide), if_neg (by decide), ix_nI (by omega), if_neg hp, if_pos hl]
  rw [e] at hq
  obtain ⟨q1, q2, q3⟩ := hq
  have hz : (tA (mRk M) 3 k v).2.2.2 = M.2.2.2 := mi_Rk M
  have e0 : (cRenew K (nI k) v).1 = none := kc_none (q1.symm.trans (by rw [show (tA (mRk M) 3 k v, M.1 3 k).1.2.2.2 = M.2.2.2 from hz]; exact h.2.2.2))
  obtain ⟨a, b, c, d⟩ := Hm_Rk M
  have hm : Mq (tA (mRk M) 3 k v) (tA M 3 k v) := ⟨by show (fun k' => if k' = 3 then upd (M.1 3) k v else M.1 k') = fun k' => if k' = 3 then upd ((mRk M).1 3) k v else (mRk M).1 k'; rw [mt_Rk], a.symm, by rw [hz], by rw [hz], (congrFun d 0).symm⟩
  have hS := Si_q hm q3
  exact ⟨e0, (q2 e0).symm, hS, fun i hi => by rw [tA_nk (by decide), tA_nk (by decide)]; exact h.2.1 i hi, JI_3v hk hhk (fun z => absurd (Int32.le_trans (isInB_ge hv).1 z) (by decide)) h.2.2.1, h.2.2.2⟩
theorem mhasR (h : LI n r B K M) {k : Nat} (hk : k < r) : mHasR M (nI k) = true := isIn_nI h.mr (by have := h.h30; omega) hk
def mWay (M : Md) (r : Nat) (a b : Int32) : Md := mI (rW M r (s3 a b)) 2 (nI (r + 1))
theorem LI_stair (h : LI n r B K M) (hr : r < 30) {k o : Nat} (hk : k < n) (ho : o < n) (hko : k ≠ o) (hhk : ¬ M.1 2 k = 0) (hho : ¬ M.1 2 o = 0) : (cStair K B (nI k) (nI o)).1 = none ∧ (cStair K B (nI k) (nI o)).2.1 = nI r ∧ LI n (r + 1) (cStair K B (nI k) (nI o)).2.2 K (mWay M r (nI k) (nI o)) := by
  have hq := stair_q h.1 (nI k) (nI o)
  have h40 := h.h40
  have h30 : ¬ M.2.2.2 2 = 30 := by
    rw [h.mr]
    intro z
    have := (nI_eq (a := r) (b := 30) (by omega) (by omega)).mp z
    omega
  have e : mStair M (nI k) (nI o) = (mWay M r (nI k) (nI o), nI r) := by
    unfold mStair mWay
    rw [mI_id h.2.2.2, mhas h hk, mhas h ho, if_neg (by decide), if_neg (fun z => hko ((nI_eq (by omega) (by omega)).mp z)), ix_nI (by omega), ix_nI (by omega), (JI_hg h.2.2.1 hk).mpr hhk, (JI_hg h.2.2.1 ho).mpr hho, if_neg (fun z => by rcases z with z | z | z; exact h30 z; exact absurd z (by decide); exact absurd z (by decide)), mR_eq h.mr h.h30]
  rw [e] at hq
  obtain ⟨q1, q2, r', q3⟩ := hq
  have e0 : (cStair K B (nI k) (nI o)).1 = none := kc_none (q1.symm.trans h.2.2.2)
  have er : r' = r + 1 := n_of (q3.1.1.1.mr.symm.trans rfl) (by have := q3.1.1.1.h30; omega) (by omega)
  subst er
  exact ⟨e0, (q2 e0).symm, q3, h.2.1, h.2.2.1, h.2.2.2⟩
def mXw (M : Md) (a b : Nat) : Md := wA (wA M 1 a (M.2.1 1 b)) 1 b (M.2.1 1 a)
theorem LI_swap (h : LI n r B K M) {a b : Nat} (ha : a < r) (hb : b < r) (hab : a ≠ b) (ga : ¬ M.2.1 2 a = 1) (gb : ¬ M.2.1 2 b = 1) (h01 : ∀ i, i < r → M.2.1 2 i = 0 ∨ M.2.1 2 i = 1) : (cSwap K B (nI a) (nI b)).1 = none ∧ (cSwap K B (nI a) (nI b)).2.1 = decide (¬ M.2.1 0 a = M.2.1 1 b ∧ ¬ M.2.1 0 b = M.2.1 1 a) ∧ LI n r (cSwap K B (nI a) (nI b)).2.2 K (if ¬ M.2.1 0 a = M.2.1 1 b ∧ ¬ M.2.1 0 b = M.2.1 1 a then mXw M a b else M) := by
  have hq := swap_q h.1 (nI a) (nI b)
  have h30 := h.h30
  have a0 : M.2.1 2 a = 0 := (h01 a ha).resolve_right ga
  have b0 : M.2.1 2 b = 0 := (h01 b hb).resolve_right gb
  have eT : mSwapT M (nI a) (nI b) = 0 := by
    unfold mSwapT
    rw [mhasR h ha, mhasR h hb, if_neg (by decide), if_neg (fun z => hab ((nI_eq (by omega) (by omega)).mp z)), ix_nI (by omega), ix_nI (by omega), a0, b0]
    rfl
  by_cases c : ¬ M.2.1 0 a = M.2.1 1 b ∧ ¬ M.2.1 0 b = M.2.1 1 a
  · have e : mSwap M (nI a) (nI b) = (mXw M a b, true) := by
      unfold mSwap mXw
      rw [mI_id h.2.2.2, eT, if_pos rfl, ix_nI (by omega), ix_nI (by omega), if_neg (by rw [not_or]; exact c)]
    rw [e] at hq
    obtain ⟨q1, q2, q3⟩ := hq
    have e0 : (cSwap K B (nI a) (nI b)).1 = none := kc_none (q1.symm.trans h.2.2.2)
    rw [if_pos c, decide_eq_true c]
    exact ⟨e0, (q2 e0).symm, q3, h.2.1, h.2.2.1, h.2.2.2⟩
  · have e : mSwap M (nI a) (nI b) = (M, false) := by
      unfold mSwap
      rw [mI_id h.2.2.2, eT, if_pos rfl, ix_nI (by omega), ix_nI (by omega), if_pos (by rcases Decidable.not_and_iff_or_not.mp c with z | z; exact Or.inl (Decidable.not_not.mp z); exact Or.inr (Decidable.not_not.mp z))]
    rw [e] at hq
    obtain ⟨q1, q2, q3⟩ := hq
    have e0 : (cSwap K B (nI a) (nI b)).1 = none := kc_none (q1.symm.trans h.2.2.2)
    rw [if_neg c, decide_eq_false c]
    exact ⟨e0, (q2 e0).symm, q3, h.2.1, h.2.2.1, h.2.2.2⟩
end LIn
