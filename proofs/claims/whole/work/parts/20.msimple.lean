/-! ===== the reference and the shelf: calls without a walk ===== -/
def pl (Z : Zs) (i j : Nat) : Int64 := if hook (zk Z i) then chL (zh Z i j) else zm Z i j
def MR (S : ns_St) (m : Nat) (A : Nat → Nat) (Z : Zs) : Prop := MW S m A ∧ fI S 400 m = nI (zn Z) ∧ (∀ i, i < zn Z → aI S (A 1) i = nI (zk Z i) ∧ aI S (A 2) i = nI (zl Z i) ∧ aI S (A 3) i = zv Z i ∧ aI S (A 4) i = nI (bg (zl Z) i)) ∧ fI S 406 m = nI (bg (zl Z) (zn Z)) ∧ (∀ i j, i < zn Z → j < zl Z i → aJ S (A 5) (bg (zl Z) i + j) = pl Z i j) ∧ fI S 407 m = zs Z
/-- no cell was made -/
abbrev sz0 (S S' : ns_St) : Prop := ns_z S' = ns_z S ∧ ns_s S' = ns_s S
section MSIMPLE
variable {S : ns_St} {m : Nat} {A : Nat → Nat} {Z : Zs}
theorem bg_in (hZ : ZI Z) {a j : Nat} (ha : a < zn Z) (hj : j < zl Z a) : bg (zl Z) a + j < 1000000 := by
  have h1 := bg_le (l := zl Z) (n := zn Z) (fun i hi => (hZ.2.1 i hi).2.1) (a + 1) ha
  have h2 : bg (zl Z) (a + 1) = bg (zl Z) a + zl Z a := rfl
  have h3 := hZ.1
  omega
theorem kf_3le {k : Nat} (h : k ≤ 8) : ((3 : Int32) ≤ nI k) ↔ 3 ≤ k := by
  match k, h with
  | 0, _ => decide
  | 1, _ => decide
  | 2, _ => decide
  | 3, _ => decide
  | 4, _ => decide
  | 5, _ => decide
  | 6, _ => decide
  | 7, _ => decide
  | 8, _ => decide
theorem kf_lt3 {k : Nat} (h : k ≤ 8) : (nI k < 3) ↔ k < 3 := by
  match k, h with
  | 0, _ => decide
  | 1, _ => decide
  | 2, _ => decide
  | 3, _ => decide
  | 4, _ => decide
  | 5, _ => decide
  | 6, _ => decide
  | 7, _ => decide
  | 8, _ => decide
theorem kf_7lt {k : Nat} (h : k ≤ 8) : ((7 : Int32) < nI k) ↔ 7 < k := by
  match k, h with
  | 0, _ => decide
  | 1, _ => decide
  | 2, _ => decide
  | 3, _ => decide
  | 4, _ => decide
  | 5, _ => decide
  | 6, _ => decide
  | 7, _ => decide
  | 8, _ => decide
theorem kf_6lt {k : Nat} (h : k ≤ 8) : ((6 : Int32) < nI k) ↔ 6 < k := by
  match k, h with
  | 0, _ => decide
  | 1, _ => decide
  | 2, _ => decide
  | 3, _ => decide
  | 4, _ => decide
  | 5, _ => decide
  | 6, _ => decide
  | 7, _ => decide
  | 8, _ => decide
theorem kf_7le {k : Nat} (h : k ≤ 8) : ((7 : Int32) ≤ nI k) ↔ 7 ≤ k := by
  match k, h with
  | 0, _ => decide
  | 1, _ => decide
  | 2, _ => decide
  | 3, _ => decide
  | 4, _ => decide
  | 5, _ => decide
  | 6, _ => decide
  | 7, _ => decide
  | 8, _ => decide
theorem kf_lt7 {k : Nat} (h : k ≤ 8) : (nI k < 7) ↔ k < 7 := by
  match k, h with
  | 0, _ => decide
  | 1, _ => decide
  | 2, _ => decide
  | 3, _ => decide
  | 4, _ => decide
  | 5, _ => decide
  | 6, _ => decide
  | 7, _ => decide
  | 8, _ => decide
theorem kf_2lt {k : Nat} (h : k ≤ 8) : ((2 : Int32) < nI k) ↔ 2 < k := by
  match k, h with
  | 0, _ => decide
  | 1, _ => decide
  | 2, _ => decide
  | 3, _ => decide
  | 4, _ => decide
  | 5, _ => decide
  | 6, _ => decide
  | 7, _ => decide
  | 8, _ => decide
theorem kf_lt0 {k : Nat} (h : k ≤ 8) : (nI k < 0) ↔ k < 0 := by
  match k, h with
  | 0, _ => decide
  | 1, _ => decide
  | 2, _ => decide
  | 3, _ => decide
  | 4, _ => decide
  | 5, _ => decide
  | 6, _ => decide
  | 7, _ => decide
  | 8, _ => decide
theorem kf_e0 {k : Nat} (h : k ≤ 8) : (nI k = 0) ↔ k = 0 := by
  match k, h with
  | 0, _ => decide
  | 1, _ => decide
  | 2, _ => decide
  | 3, _ => decide
  | 4, _ => decide
  | 5, _ => decide
  | 6, _ => decide
  | 7, _ => decide
  | 8, _ => decide
theorem kf_e1 {k : Nat} (h : k ≤ 8) : (nI k = 1) ↔ k = 1 := by
  match k, h with
  | 0, _ => decide
  | 1, _ => decide
  | 2, _ => decide
  | 3, _ => decide
  | 4, _ => decide
  | 5, _ => decide
  | 6, _ => decide
  | 7, _ => decide
  | 8, _ => decide
theorem kf_e2 {k : Nat} (h : k ≤ 8) : (nI k = 2) ↔ k = 2 := by
  match k, h with
  | 0, _ => decide
  | 1, _ => decide
  | 2, _ => decide
  | 3, _ => decide
  | 4, _ => decide
  | 5, _ => decide
  | 6, _ => decide
  | 7, _ => decide
  | 8, _ => decide
theorem kf_e3 {k : Nat} (h : k ≤ 8) : (nI k = 3) ↔ k = 3 := by
  match k, h with
  | 0, _ => decide
  | 1, _ => decide
  | 2, _ => decide
  | 3, _ => decide
  | 4, _ => decide
  | 5, _ => decide
  | 6, _ => decide
  | 7, _ => decide
  | 8, _ => decide
theorem kf_e4 {k : Nat} (h : k ≤ 8) : (nI k = 4) ↔ k = 4 := by
  match k, h with
  | 0, _ => decide
  | 1, _ => decide
  | 2, _ => decide
  | 3, _ => decide
  | 4, _ => decide
  | 5, _ => decide
  | 6, _ => decide
  | 7, _ => decide
  | 8, _ => decide
theorem kf_e5 {k : Nat} (h : k ≤ 8) : (nI k = 5) ↔ k = 5 := by
  match k, h with
  | 0, _ => decide
  | 1, _ => decide
  | 2, _ => decide
  | 3, _ => decide
  | 4, _ => decide
  | 5, _ => decide
  | 6, _ => decide
  | 7, _ => decide
  | 8, _ => decide
theorem kf_e6 {k : Nat} (h : k ≤ 8) : (nI k = 6) ↔ k = 6 := by
  match k, h with
  | 0, _ => decide
  | 1, _ => decide
  | 2, _ => decide
  | 3, _ => decide
  | 4, _ => decide
  | 5, _ => decide
  | 6, _ => decide
  | 7, _ => decide
  | 8, _ => decide
theorem kf_e7 {k : Nat} (h : k ≤ 8) : (nI k = 7) ↔ k = 7 := by
  match k, h with
  | 0, _ => decide
  | 1, _ => decide
  | 2, _ => decide
  | 3, _ => decide
  | 4, _ => decide
  | 5, _ => decide
  | 6, _ => decide
  | 7, _ => decide
  | 8, _ => decide
theorem kf_e8 {k : Nat} (h : k ≤ 8) : (nI k = 8) ↔ k = 8 := by
  match k, h with
  | 0, _ => decide
  | 1, _ => decide
  | 2, _ => decide
  | 3, _ => decide
  | 4, _ => decide
  | 5, _ => decide
  | 6, _ => decide
  | 7, _ => decide
  | 8, _ => decide

theorem MR_wM (h : MR S m A Z) {j x : Nat} (hj : j < zn Z) (hx : x < zl Z j) (hk : ¬ hook (zk Z j)) (v : Int64) : MR (qJ S (A 5) (bg (zl Z) j + x) v) m A (wM Z j x v) := by
  obtain ⟨hW, hc, hT, hu, hp, hs⟩ := id h
  refine ⟨hW, hc, hT, hu, fun i' j' hi' hj' => ?_, hs⟩
  simp only [wM_zl, wM_zn] at hi' hj' ⊢
  rw [qJ_aJ]
  show _ = if hook (zk Z i') then chL (zh Z i' j') else up2 (zm Z) j x v i' j'
  by_cases y : i' = j ∧ j' = x
  · obtain ⟨rfl, rfl⟩ := y
    rw [if_neg hk]
    simp [up2]
  · rw [if_neg (fun z => y (bg_apart hj' hx z.2)), hp i' j' hi' hj']
    unfold pl
    simp only [up2, if_neg y]
theorem MR_wH (h : MR S m A Z) {j x : Nat} (hj : j < zn Z) (hx : x < zl Z j) (hk : hook (zk Z j)) (c : Option Nat) : MR (qJ S (A 5) (bg (zl Z) j + x) (chL c)) m A (wH Z j x c) := by
  obtain ⟨hW, hc, hT, hu, hp, hs⟩ := id h
  refine ⟨hW, hc, hT, hu, fun i' j' hi' hj' => ?_, hs⟩
  simp only [wH_zl, wH_zn] at hi' hj' ⊢
  rw [qJ_aJ]
  show _ = if hook (zk Z i') then chL (up2 (zh Z) j x c i' j') else zm Z i' j'
  by_cases y : i' = j ∧ j' = x
  · obtain ⟨rfl, rfl⟩ := y
    rw [if_pos hk]
    simp [up2]
  · rw [if_neg (fun z => y (bg_apart hj' hx z.2)), hp i' j' hi' hj']
    unfold pl
    simp only [up2, if_neg y]
theorem MR_wS (h : MR S m A Z) (x : Int32) : MR (pI S 407 m x) m A (wS Z x) := by
  obtain ⟨hW, hc, hT, hu, hp, hs⟩ := id h
  exact ⟨hW, by rw [pI_fI, if_neg (by omega)]; exact hc, hT, by rw [pI_fI, if_neg (by omega)]; exact hu, hp, by rw [pI_fI, if_pos ⟨rfl, rfl⟩]; rfl⟩
theorem m_kind (h : MR S m A Z) (hZ : ZI Z) (t : Int32) : Ev (70, 0, [some (va_rf (some m)), some (.int t)], [], S) (some (.int (o_kind Z t)), S) := by
  obtain ⟨hW, hc, hT, hu, hp, hs⟩ := id h
  have hn := hZ.1
  rw [t70 hW]
  rcases zt_cases (n := zn Z) (by omega) t with ⟨e, g | ⟨g1, g2⟩⟩ | ⟨j, hj, rfl, e⟩
  · simp [g, o_kind, e]
  · simp [g1, g2, o_kind, e, hc]
  · obtain ⟨a1, a2, a3⟩ := there_ok hj (by omega)
    have a4 := in_ok (show j < 2000 by omega) (by omega)
    simp [a1, a2, hc, a3, o_kind, e, (hT j hj).1, a4]
theorem m_length (h : MR S m A Z) (hZ : ZI Z) (t : Int32) : Ev (71, 0, [some (va_rf (some m)), some (.int t)], [], S) (some (.int (o_length Z t)), S) := by
  obtain ⟨hW, hc, hT, hu, hp, hs⟩ := id h
  have hn := hZ.1
  rw [t71 hW]
  rcases zt_cases (n := zn Z) (by omega) t with ⟨e, g | ⟨g1, g2⟩⟩ | ⟨j, hj, rfl, e⟩
  · simp [g, o_length, e]
  · simp [g1, g2, o_length, e, hc]
  · obtain ⟨a1, a2, a3⟩ := there_ok hj (by omega)
    have a4 := in_ok (show j < 2000 by omega) (by omega)
    simp [a1, a2, hc, a3, o_length, e, (hT j hj).2.1, a4]
theorem m_put (h : MR S m A Z) (hZ : ZI Z) (t i : Int32) (v : Int64) : ∃ S', Ev (66, 0, [some (va_rf (some m)), some (.int t), some (.int i), some (.long v), none, none], [], S) (some (.int (o_put Z t i v).1), S') ∧ MR S' m A (o_put Z t i v).2 ∧ sz0 S S' := by
  obtain ⟨hW, hc, hT, hu, hp, hs⟩ := id h
  have hn := hZ.1
  rcases zt_cases (n := zn Z) (by omega) t with ⟨e, g | ⟨g1, g2⟩⟩ | ⟨j, hj, rfl, e⟩
  · refine ⟨S, ?_, by simp only [o_put, e]; exact h, rfl, rfl⟩
    simp only [e66_0, e66_1, e66_2, e66_5, e66_8, e66_9, e66_10, e66_11, e66_14, e66_15, e66_16, e66_18, e66_20, e66_23, e66_26, e66_27, e66_28, e66_29, e66_30, e66_31, e66_34, e66_35, e66_36, e66_37, e66_38, e66_41, e66_44, e66_45, e66_46, e66_47, e66_50, e66_51, e66_54, e66_55, e66_56, e66_57, e66_58, e66_60, e66_63, e66_64, e66_65, e66_66, e66_69, e66_71, e66_72, e66_75, e66_76, e66_79, e66_80, e66_83, e66_84, e66_85, e66_86, t58 hW, mw0 hW, mr1 hW, mk1 hW, mn1 hW, mr2 hW, mk2 hW, mn2 hW, mr4 hW, mk4 hW, mn4 hW, mr5 hW, mk5 hW, mn5 hW, Nat.zero_le, Nat.reduceAdd, Nat.reduceLeDiff, reduceIte, rf_c1, int_c1, none_c1, cat_nil, cat_int, cat_long, cat_rf, toList_s, toList_n, true_and, and_true, Option.some.injEq, exists_eq_left', exists_eq_left, reduceCtorEq, if_true, if_false, eq_self, o_put, e, g]
  · refine ⟨S, ?_, by simp only [o_put, e]; exact h, rfl, rfl⟩
    simp only [e66_0, e66_1, e66_2, e66_5, e66_8, e66_9, e66_10, e66_11, e66_14, e66_15, e66_16, e66_18, e66_20, e66_23, e66_26, e66_27, e66_28, e66_29, e66_30, e66_31, e66_34, e66_35, e66_36, e66_37, e66_38, e66_41, e66_44, e66_45, e66_46, e66_47, e66_50, e66_51, e66_54, e66_55, e66_56, e66_57, e66_58, e66_60, e66_63, e66_64, e66_65, e66_66, e66_69, e66_71, e66_72, e66_75, e66_76, e66_79, e66_80, e66_83, e66_84, e66_85, e66_86, t58 hW, mw0 hW, mr1 hW, mk1 hW, mn1 hW, mr2 hW, mk2 hW, mn2 hW, mr4 hW, mk4 hW, mn4 hW, mr5 hW, mk5 hW, mn5 hW, Nat.zero_le, Nat.reduceAdd, Nat.reduceLeDiff, reduceIte, rf_c1, int_c1, none_c1, cat_nil, cat_int, cat_long, cat_rf, toList_s, toList_n, true_and, and_true, Option.some.injEq, exists_eq_left', exists_eq_left, reduceCtorEq, if_true, if_false, eq_self, o_put, e, g1, g2, hc]
  · obtain ⟨a1, a2, a3⟩ := there_ok hj (by omega)
    have a4 := in_ok (show j < 2000 by omega) (by omega)
    obtain ⟨b1, b2, b3, b4⟩ := hT j hj
    obtain ⟨c1, c2, -, -⟩ := hZ.2.1 j hj
    by_cases q : 2 < zk Z j
    · refine ⟨S, ?_, by simp only [o_put, e, if_pos q]; exact h, rfl, rfl⟩
      have q' : 3 ≤ zk Z j := q
      simp only [e66_0, e66_1, e66_2, e66_5, e66_8, e66_9, e66_10, e66_11, e66_14, e66_15, e66_16, e66_18, e66_20, e66_23, e66_26, e66_27, e66_28, e66_29, e66_30, e66_31, e66_34, e66_35, e66_36, e66_37, e66_38, e66_41, e66_44, e66_45, e66_46, e66_47, e66_50, e66_51, e66_54, e66_55, e66_56, e66_57, e66_58, e66_60, e66_63, e66_64, e66_65, e66_66, e66_69, e66_71, e66_72, e66_75, e66_76, e66_79, e66_80, e66_83, e66_84, e66_85, e66_86, t58 hW, t59, mw0 hW, mr1 hW, mk1 hW, mn1 hW, mr2 hW, mk2 hW, mn2 hW, mr4 hW, mk4 hW, mn4 hW, mr5 hW, mk5 hW, mn5 hW, Nat.zero_le, Nat.reduceAdd, Nat.reduceLeDiff, reduceIte, rf_c1, int_c1, none_c1, cat_nil, cat_int, cat_long, cat_rf, toList_s, toList_n, true_and, and_true, Option.some.injEq, exists_eq_left', exists_eq_left, reduceCtorEq, if_true, if_false, eq_self, o_put, e, if_pos q, a1, a2, a3, a4, hc, b1, kf_3le c1, kf_lt3 c1, kf_7lt c1, kf_6lt c1, kf_7le c1, kf_lt7 c1, kf_2lt c1, kf_lt0 c1, kf_e0 c1, kf_e1 c1, kf_e2 c1, kf_e3 c1, kf_e4 c1, kf_e5 c1, kf_e6 c1, kf_e7 c1, kf_e8 c1, q']
      simp
    · have q' : ¬ 3 ≤ zk Z j := q
      rcases zt_cases (n := zl Z j) (by omega) i with ⟨e2, g⟩ | ⟨x, hx, rfl, e2⟩
      · refine ⟨S, ?_, by simp only [o_put, e, if_neg q, e2]; exact h, rfl, rfl⟩
        simp only [e66_0, e66_1, e66_2, e66_5, e66_8, e66_9, e66_10, e66_11, e66_14, e66_15, e66_16, e66_18, e66_20, e66_23, e66_26, e66_27, e66_28, e66_29, e66_30, e66_31, e66_34, e66_35, e66_36, e66_37, e66_38, e66_41, e66_44, e66_45, e66_46, e66_47, e66_50, e66_51, e66_54, e66_55, e66_56, e66_57, e66_58, e66_60, e66_63, e66_64, e66_65, e66_66, e66_69, e66_71, e66_72, e66_75, e66_76, e66_79, e66_80, e66_83, e66_84, e66_85, e66_86, t58 hW, t59, t57, mw0 hW, mr1 hW, mk1 hW, mn1 hW, mr2 hW, mk2 hW, mn2 hW, mr4 hW, mk4 hW, mn4 hW, mr5 hW, mk5 hW, mn5 hW, Nat.zero_le, Nat.reduceAdd, Nat.reduceLeDiff, reduceIte, rf_c1, int_c1, none_c1, cat_nil, cat_int, cat_long, cat_rf, toList_s, toList_n, true_and, and_true, Option.some.injEq, exists_eq_left', exists_eq_left, reduceCtorEq, if_true, if_false, eq_self, o_put, e, if_neg q, a1, a2, a3, a4, hc, b1, b2, kf_3le c1, kf_lt3 c1, kf_7lt c1, kf_6lt c1, kf_7le c1, kf_lt7 c1, kf_2lt c1, kf_lt0 c1, kf_e0 c1, kf_e1 c1, kf_e2 c1, kf_e3 c1, kf_e4 c1, kf_e5 c1, kf_e6 c1, kf_e7 c1, kf_e8 c1, q', e2]
        rcases g with g | ⟨g1, g2⟩ <;> simp [*]
      · obtain ⟨x1, x2, x3⟩ := there_ok hx (by omega)
        have hb := bg_in hZ hj hx
        have x4 : ns_inb (nI (bg (zl Z) j + x)) 1000000 = true := in_ok hb (by omega)
        have x5 : (nI (bg (zl Z) j + x)).toNatClampNeg = bg (zl Z) j + x := nI_clamp (by omega)
        refine ⟨qJ S (A 5) (bg (zl Z) j + x) (fitv (zk Z j) v), ?_, ?_, rfl, rfl⟩
        · simp only [e66_0, e66_1, e66_2, e66_5, e66_8, e66_9, e66_10, e66_11, e66_14, e66_15, e66_16, e66_18, e66_20, e66_23, e66_26, e66_27, e66_28, e66_29, e66_30, e66_31, e66_34, e66_35, e66_36, e66_37, e66_38, e66_41, e66_44, e66_45, e66_46, e66_47, e66_50, e66_51, e66_54, e66_55, e66_56, e66_57, e66_58, e66_60, e66_63, e66_64, e66_65, e66_66, e66_69, e66_71, e66_72, e66_75, e66_76, e66_79, e66_80, e66_83, e66_84, e66_85, e66_86, t58 hW, t59, t57, mw0 hW, mr1 hW, mk1 hW, mn1 hW, mr2 hW, mk2 hW, mn2 hW, mr4 hW, mk4 hW, mn4 hW, mr5 hW, mk5 hW, mn5 hW, Nat.zero_le, Nat.reduceAdd, Nat.reduceLeDiff, reduceIte, rf_c1, int_c1, none_c1, cat_nil, cat_int, cat_long, cat_rf, toList_s, toList_n, true_and, and_true, Option.some.injEq, exists_eq_left', exists_eq_left, reduceCtorEq, if_true, if_false, eq_self, o_put, e, if_neg q, a1, a2, a3, a4, hc, b1, b2, b4, kf_3le c1, kf_lt3 c1, kf_7lt c1, kf_6lt c1, kf_7le c1, kf_lt7 c1, kf_2lt c1, kf_lt0 c1, kf_e0 c1, kf_e1 c1, kf_e2 c1, kf_e3 c1, kf_e4 c1, kf_e5 c1, kf_e6 c1, kf_e7 c1, kf_e8 c1, q', e2, x1, x2, nI_add, x4, x5, fitv]
          by_cases y0 : zk Z j = 0 <;> by_cases y1 : zk Z j = 1 <;> simp [y0, y1, x4, x5]
        · simp only [o_put, e, if_neg q, e2]
          exact MR_wM h hj hx (fun z => q' z.1) _
theorem t67 (h : MR S m A Z) (hZ : ZI Z) {j : Nat} (hj : j < zn Z) (t : Int32) {r : ns_Rs} : Ev (67, 0, [some (va_rf (some m)), some (.int (nI j)), some (.int t), none], [], S) r ↔ r = (some (.int (if passes (zk Z j) t = true then 1 else 0)), S) := by
  obtain ⟨hW, hc, hT, hu, hp, hs⟩ := id h
  have hn := hZ.1
  have a3 : (nI j).toNatClampNeg = j := nI_clamp (by omega)
  have a4 := in_ok (show j < 2000 by omega) (by omega)
  have b1 := (hT j hj).1
  have c1 := (hZ.2.1 j hj).1
  simp only [e67_0, e67_1, e67_4, e67_5, e67_6, e67_7, e67_8, e67_9, e67_12, e67_13, e67_14, e67_17, e67_18, e67_20, e67_23, e67_24, e67_27, e67_28, e67_29, e67_30, e67_32, e67_35, e67_36, e67_38, e67_41, e67_42, e67_45, e67_46, e67_49, e67_50, e67_51, e67_54, e67_55, e67_58, e67_59, mw0 hW, mr1 hW, mk1 hW, mn1 hW, Nat.zero_le, Nat.reduceAdd, Nat.reduceLeDiff, reduceIte, rf_c1, int_c1, none_c1, cat_nil, cat_int, cat_long, cat_rf, toList_s, toList_n, true_and, and_true, Option.some.injEq, exists_eq_left', exists_eq_left, reduceCtorEq, if_true, if_false, eq_self, a3, a4, b1, kf_3le c1, kf_lt3 c1, kf_7lt c1, kf_6lt c1, kf_7le c1, kf_lt7 c1, kf_2lt c1, kf_lt0 c1, kf_e0 c1, kf_e1 c1, kf_e2 c1, kf_e3 c1, kf_e4 c1, kf_e5 c1, kf_e6 c1, kf_e7 c1, kf_e8 c1, passes]
  by_cases y1 : t = 4
  · subst y1
    by_cases y2 : zk Z j = 4 <;> by_cases y3 : zk Z j = 6 <;> simp [y2, y3]
  · by_cases y2 : t = 7
    · subst y2
      by_cases y3 : 7 ≤ zk Z j
      · have y4 : zk Z j = 7 ∨ zk Z j = 8 := by omega
        rcases y4 with y4 | y4 <;> simp [y3, y4]
      · have y4 : ¬ zk Z j = 7 := by omega
        have y5 : ¬ zk Z j = 8 := by omega
        simp [y3, y4, y5]
    · by_cases y3 : nI (zk Z j) = t <;> simp [y1, y2, y3]
theorem m_number (h : MR S m A Z) (hZ : ZI Z) (t i : Int32) : ∃ S', Ev (72, 0, [some (va_rf (some m)), some (.int t), some (.int i), none], [], S) (some (.long (o_number Z t i).1), S') ∧ MR S' m A (o_number Z t i).2 ∧ sz0 S S' := by
  obtain ⟨hW, hc, hT, hu, hp, hs⟩ := id h
  have hn := hZ.1
  have hW0 : MW (pI S 407 m 0) m A := hW
  have hc0 : fI (pI S 407 m 0) 400 m = nI (zn Z) := by rw [pI_fI, if_neg (by omega)]; exact hc
  have pp : ∀ x y : Int32, pI (pI S 407 m x) 407 m y = pI S 407 m y := pI_pI S 407 m
  rcases zt_cases (n := zn Z) (by omega) t with ⟨e, g⟩ | ⟨j, hj, rfl, e⟩
  · refine ⟨pI S 407 m 1, ?_, by simp only [o_number, e]; exact MR_wS h 1, rfl, rfl⟩
    simp only [e72_0, e72_1, e72_2, e72_5, e72_6, e72_7, e72_10, e72_13, e72_14, e72_15, e72_18, e72_19, e72_20, e72_21, e72_24, e72_25, e72_26, e72_27, e72_28, e72_29, e72_31, e72_34, e72_37, e72_38, e72_39, e72_42, e72_43, e72_44, e72_45, e72_46, e72_47, e72_49, e72_52, e72_53, e72_56, e72_57, e72_60, e72_61, e72_62, e72_63, e72_64, e72_67, e72_70, e72_71, e72_72, e72_75, e72_76, e72_77, e72_78, e72_80, e72_83, e72_84, e72_87, e72_88, e72_89, e72_90, e72_93, e72_94, e72_97, e72_98, e72_101, e72_102, e72_103, e72_104, e72_105, e72_106, t58 hW0, mw0 hW, mr1 hW, mk1 hW, mn1 hW, mr2 hW, mk2 hW, mn2 hW, mr3 hW, mk3 hW, mn3 hW, mr4 hW, mk4 hW, mn4 hW, mr5 hW, mk5 hW, mn5 hW, pI_ns_z, pI_ns_s, pI_ns_k, pI_ns_n, pI_fI, pI_fJ, pI_fR, pI_aI, pI_aJ, pI_aR, pJ_ns_z, pJ_ns_s, pJ_ns_k, pJ_ns_n, pJ_fI, pJ_fJ, pJ_fR, pJ_aI, pJ_aJ, pJ_aR, pR_ns_z, pR_ns_s, pR_ns_k, pR_ns_n, pR_fI, pR_fJ, pR_fR, pR_aI, pR_aJ, pR_aR, qI_ns_z, qI_ns_s, qI_ns_k, qI_ns_n, qI_fI, qI_fJ, qI_fR, qI_aI, qI_aJ, qI_aR, qJ_ns_z, qJ_ns_s, qJ_ns_k, qJ_ns_n, qJ_fI, qJ_fJ, qJ_fR, qJ_aI, qJ_aJ, qJ_aR, qR_ns_z, qR_ns_s, qR_ns_k, qR_ns_n, qR_fI, qR_fJ, qR_fR, qR_aI, qR_aJ, qR_aR, nO_ns_z, nO_ns_s, nO_ns_k, nO_ns_n, nO_fI, nO_fJ, nO_fR, nO_aI, nO_aJ, nO_aR, nA_ns_z, nA_ns_s, nA_ns_k, nA_ns_n, nA_fI, nA_fJ, nA_fR, nA_aI, nA_aJ, nA_aR, nC_ns_z, nC_ns_s, nC_ns_k, nC_ns_n, nC_fI, nC_fJ, nC_fR, nC_aI, nC_aJ, nC_aR, Nat.zero_le, Nat.reduceAdd, Nat.reduceLeDiff, reduceIte, rf_c1, int_c1, none_c1, cat_nil, cat_int, cat_long, cat_rf, toList_s, toList_n, true_and, and_true, Option.some.injEq, exists_eq_left', exists_eq_left, reduceCtorEq, if_true, if_false, eq_self, o_number, e, hc0, pp]
    rcases g with g | ⟨g1, g2⟩ <;> simp [*]
  · obtain ⟨a1, a2, a3⟩ := there_ok hj (by omega)
    have a4 := in_ok (show j < 2000 by omega) (by omega)
    obtain ⟨b1, b2, b3, b4⟩ := hT j hj
    obtain ⟨c1, c2, c3, c4⟩ := hZ.2.1 j hj
    by_cases q : 3 ≤ zk Z j ∧ zk Z j ≤ 6
    · refine ⟨pI S 407 m 4, ?_, by simp only [o_number, e, if_pos q]; exact MR_wS h 4, rfl, rfl⟩
      have q1 : ¬ zk Z j < 3 := by omega
      have q2 : ¬ 6 < zk Z j := by omega
      simp only [e72_0, e72_1, e72_2, e72_5, e72_6, e72_7, e72_10, e72_13, e72_14, e72_15, e72_18, e72_19, e72_20, e72_21, e72_24, e72_25, e72_26, e72_27, e72_28, e72_29, e72_31, e72_34, e72_37, e72_38, e72_39, e72_42, e72_43, e72_44, e72_45, e72_46, e72_47, e72_49, e72_52, e72_53, e72_56, e72_57, e72_60, e72_61, e72_62, e72_63, e72_64, e72_67, e72_70, e72_71, e72_72, e72_75, e72_76, e72_77, e72_78, e72_80, e72_83, e72_84, e72_87, e72_88, e72_89, e72_90, e72_93, e72_94, e72_97, e72_98, e72_101, e72_102, e72_103, e72_104, e72_105, e72_106, t58 hW0, t57, mw0 hW, mr1 hW, mk1 hW, mn1 hW, mr2 hW, mk2 hW, mn2 hW, mr3 hW, mk3 hW, mn3 hW, mr4 hW, mk4 hW, mn4 hW, mr5 hW, mk5 hW, mn5 hW, pI_ns_z, pI_ns_s, pI_ns_k, pI_ns_n, pI_fI, pI_fJ, pI_fR, pI_aI, pI_aJ, pI_aR, pJ_ns_z, pJ_ns_s, pJ_ns_k, pJ_ns_n, pJ_fI, pJ_fJ, pJ_fR, pJ_aI, pJ_aJ, pJ_aR, pR_ns_z, pR_ns_s, pR_ns_k, pR_ns_n, pR_fI, pR_fJ, pR_fR, pR_aI, pR_aJ, pR_aR, qI_ns_z, qI_ns_s, qI_ns_k, qI_ns_n, qI_fI, qI_fJ, qI_fR, qI_aI, qI_aJ, qI_aR, qJ_ns_z, qJ_ns_s, qJ_ns_k, qJ_ns_n, qJ_fI, qJ_fJ, qJ_fR, qJ_aI, qJ_aJ, qJ_aR, qR_ns_z, qR_ns_s, qR_ns_k, qR_ns_n, qR_fI, qR_fJ, qR_fR, qR_aI, qR_aJ, qR_aR, nO_ns_z, nO_ns_s, nO_ns_k, nO_ns_n, nO_fI, nO_fJ, nO_fR, nO_aI, nO_aJ, nO_aR, nA_ns_z, nA_ns_s, nA_ns_k, nA_ns_n, nA_fI, nA_fJ, nA_fR, nA_aI, nA_aJ, nA_aR, nC_ns_z, nC_ns_s, nC_ns_k, nC_ns_n, nC_fI, nC_fJ, nC_fR, nC_aI, nC_aJ, nC_aR, Nat.zero_le, Nat.reduceAdd, Nat.reduceLeDiff, reduceIte, rf_c1, int_c1, none_c1, cat_nil, cat_int, cat_long, cat_rf, toList_s, toList_n, true_and, and_true, Option.some.injEq, exists_eq_left', exists_eq_left, reduceCtorEq, if_true, if_false, eq_self, o_number, e, if_pos q, a1, a2, a3, a4, hc0, b1, kf_3le c1, kf_lt3 c1, kf_7lt c1, kf_6lt c1, kf_7le c1, kf_lt7 c1, kf_2lt c1, kf_lt0 c1, kf_e0 c1, kf_e1 c1, kf_e2 c1, kf_e3 c1, kf_e4 c1, kf_e5 c1, kf_e6 c1, kf_e7 c1, kf_e8 c1, q1, q2, pp]
      simp
    · by_cases q7 : 7 ≤ zk Z j
      · have q1 : ¬ zk Z j < 3 := by omega
        have q2 : 6 < zk Z j := by omega
        have q8 : ¬ zk Z j < 7 := by omega
        by_cases qi : i = 0
        · subst qi
          refine ⟨pI S 407 m 0, ?_, by simp only [o_number, e, if_neg q, if_pos q7]; exact MR_wS h 0, rfl, rfl⟩
          simp only [e72_0, e72_1, e72_2, e72_5, e72_6, e72_7, e72_10, e72_13, e72_14, e72_15, e72_18, e72_19, e72_20, e72_21, e72_24, e72_25, e72_26, e72_27, e72_28, e72_29, e72_31, e72_34, e72_37, e72_38, e72_39, e72_42, e72_43, e72_44, e72_45, e72_46, e72_47, e72_49, e72_52, e72_53, e72_56, e72_57, e72_60, e72_61, e72_62, e72_63, e72_64, e72_67, e72_70, e72_71, e72_72, e72_75, e72_76, e72_77, e72_78, e72_80, e72_83, e72_84, e72_87, e72_88, e72_89, e72_90, e72_93, e72_94, e72_97, e72_98, e72_101, e72_102, e72_103, e72_104, e72_105, e72_106, t58 hW0, t57, mw0 hW, mr1 hW, mk1 hW, mn1 hW, mr2 hW, mk2 hW, mn2 hW, mr3 hW, mk3 hW, mn3 hW, mr4 hW, mk4 hW, mn4 hW, mr5 hW, mk5 hW, mn5 hW, pI_ns_z, pI_ns_s, pI_ns_k, pI_ns_n, pI_fI, pI_fJ, pI_fR, pI_aI, pI_aJ, pI_aR, pJ_ns_z, pJ_ns_s, pJ_ns_k, pJ_ns_n, pJ_fI, pJ_fJ, pJ_fR, pJ_aI, pJ_aJ, pJ_aR, pR_ns_z, pR_ns_s, pR_ns_k, pR_ns_n, pR_fI, pR_fJ, pR_fR, pR_aI, pR_aJ, pR_aR, qI_ns_z, qI_ns_s, qI_ns_k, qI_ns_n, qI_fI, qI_fJ, qI_fR, qI_aI, qI_aJ, qI_aR, qJ_ns_z, qJ_ns_s, qJ_ns_k, qJ_ns_n, qJ_fI, qJ_fJ, qJ_fR, qJ_aI, qJ_aJ, qJ_aR, qR_ns_z, qR_ns_s, qR_ns_k, qR_ns_n, qR_fI, qR_fJ, qR_fR, qR_aI, qR_aJ, qR_aR, nO_ns_z, nO_ns_s, nO_ns_k, nO_ns_n, nO_fI, nO_fJ, nO_fR, nO_aI, nO_aJ, nO_aR, nA_ns_z, nA_ns_s, nA_ns_k, nA_ns_n, nA_fI, nA_fJ, nA_fR, nA_aI, nA_aJ, nA_aR, nC_ns_z, nC_ns_s, nC_ns_k, nC_ns_n, nC_fI, nC_fJ, nC_fR, nC_aI, nC_aJ, nC_aR, Nat.zero_le, Nat.reduceAdd, Nat.reduceLeDiff, reduceIte, rf_c1, int_c1, none_c1, cat_nil, cat_int, cat_long, cat_rf, toList_s, toList_n, true_and, and_true, Option.some.injEq, exists_eq_left', exists_eq_left, reduceCtorEq, if_true, if_false, eq_self, o_number, e, if_neg q, if_pos q7, a1, a2, a3, a4, hc0, b1, b3, kf_3le c1, kf_lt3 c1, kf_7lt c1, kf_6lt c1, kf_7le c1, kf_lt7 c1, kf_2lt c1, kf_lt0 c1, kf_e0 c1, kf_e1 c1, kf_e2 c1, kf_e3 c1, kf_e4 c1, kf_e5 c1, kf_e6 c1, kf_e7 c1, kf_e8 c1, q1, q2, q7, q8]
          simp
        · refine ⟨pI S 407 m 2, ?_, by simp only [o_number, e, if_neg q, if_pos q7, if_neg qi]; exact MR_wS h 2, rfl, rfl⟩
          simp only [e72_0, e72_1, e72_2, e72_5, e72_6, e72_7, e72_10, e72_13, e72_14, e72_15, e72_18, e72_19, e72_20, e72_21, e72_24, e72_25, e72_26, e72_27, e72_28, e72_29, e72_31, e72_34, e72_37, e72_38, e72_39, e72_42, e72_43, e72_44, e72_45, e72_46, e72_47, e72_49, e72_52, e72_53, e72_56, e72_57, e72_60, e72_61, e72_62, e72_63, e72_64, e72_67, e72_70, e72_71, e72_72, e72_75, e72_76, e72_77, e72_78, e72_80, e72_83, e72_84, e72_87, e72_88, e72_89, e72_90, e72_93, e72_94, e72_97, e72_98, e72_101, e72_102, e72_103, e72_104, e72_105, e72_106, t58 hW0, t57, mw0 hW, mr1 hW, mk1 hW, mn1 hW, mr2 hW, mk2 hW, mn2 hW, mr3 hW, mk3 hW, mn3 hW, mr4 hW, mk4 hW, mn4 hW, mr5 hW, mk5 hW, mn5 hW, pI_ns_z, pI_ns_s, pI_ns_k, pI_ns_n, pI_fI, pI_fJ, pI_fR, pI_aI, pI_aJ, pI_aR, pJ_ns_z, pJ_ns_s, pJ_ns_k, pJ_ns_n, pJ_fI, pJ_fJ, pJ_fR, pJ_aI, pJ_aJ, pJ_aR, pR_ns_z, pR_ns_s, pR_ns_k, pR_ns_n, pR_fI, pR_fJ, pR_fR, pR_aI, pR_aJ, pR_aR, qI_ns_z, qI_ns_s, qI_ns_k, qI_ns_n, qI_fI, qI_fJ, qI_fR, qI_aI, qI_aJ, qI_aR, qJ_ns_z, qJ_ns_s, qJ_ns_k, qJ_ns_n, qJ_fI, qJ_fJ, qJ_fR, qJ_aI, qJ_aJ, qJ_aR, qR_ns_z, qR_ns_s, qR_ns_k, qR_ns_n, qR_fI, qR_fJ, qR_fR, qR_aI, qR_aJ, qR_aR, nO_ns_z, nO_ns_s, nO_ns_k, nO_ns_n, nO_fI, nO_fJ, nO_fR, nO_aI, nO_aJ, nO_aR, nA_ns_z, nA_ns_s, nA_ns_k, nA_ns_n, nA_fI, nA_fJ, nA_fR, nA_aI, nA_aJ, nA_aR, nC_ns_z, nC_ns_s, nC_ns_k, nC_ns_n, nC_fI, nC_fJ, nC_fR, nC_aI, nC_aJ, nC_aR, Nat.zero_le, Nat.reduceAdd, Nat.reduceLeDiff, reduceIte, rf_c1, int_c1, none_c1, cat_nil, cat_int, cat_long, cat_rf, toList_s, toList_n, true_and, and_true, Option.some.injEq, exists_eq_left', exists_eq_left, reduceCtorEq, if_true, if_false, eq_self, o_number, e, if_neg q, if_pos q7, if_neg qi, a1, a2, a3, a4, hc0, b1, b3, kf_3le c1, kf_lt3 c1, kf_7lt c1, kf_6lt c1, kf_7le c1, kf_lt7 c1, kf_2lt c1, kf_lt0 c1, kf_e0 c1, kf_e1 c1, kf_e2 c1, kf_e3 c1, kf_e4 c1, kf_e5 c1, kf_e6 c1, kf_e7 c1, kf_e8 c1, q1, q2, q7, q8, pp]
          by_cases z1 : i < 0
          · simp [z1]
          · have z2 : 0 < i := by
              rw [Int32.lt_iff_toInt_lt] at z1 ⊢
              rcases Int.lt_trichotomy i.toInt (0 : Int32).toInt with z | z | z
              · exact absurd z z1
              · exact absurd (Int32.toInt_inj.mp z) qi
              · exact z
            simp [z1, z2]
      · have q1 : zk Z j < 3 := by omega
        have q8 : zk Z j < 7 := by omega
        rcases zt_cases (n := zl Z j) (by omega) i with ⟨e2, g⟩ | ⟨x, hx, rfl, e2⟩
        · refine ⟨pI S 407 m 2, ?_, by simp only [o_number, e, if_neg q, if_neg q7, e2]; exact MR_wS h 2, rfl, rfl⟩
          simp only [e72_0, e72_1, e72_2, e72_5, e72_6, e72_7, e72_10, e72_13, e72_14, e72_15, e72_18, e72_19, e72_20, e72_21, e72_24, e72_25, e72_26, e72_27, e72_28, e72_29, e72_31, e72_34, e72_37, e72_38, e72_39, e72_42, e72_43, e72_44, e72_45, e72_46, e72_47, e72_49, e72_52, e72_53, e72_56, e72_57, e72_60, e72_61, e72_62, e72_63, e72_64, e72_67, e72_70, e72_71, e72_72, e72_75, e72_76, e72_77, e72_78, e72_80, e72_83, e72_84, e72_87, e72_88, e72_89, e72_90, e72_93, e72_94, e72_97, e72_98, e72_101, e72_102, e72_103, e72_104, e72_105, e72_106, t58 hW0, t57, mw0 hW, mr1 hW, mk1 hW, mn1 hW, mr2 hW, mk2 hW, mn2 hW, mr3 hW, mk3 hW, mn3 hW, mr4 hW, mk4 hW, mn4 hW, mr5 hW, mk5 hW, mn5 hW, pI_ns_z, pI_ns_s, pI_ns_k, pI_ns_n, pI_fI, pI_fJ, pI_fR, pI_aI, pI_aJ, pI_aR, pJ_ns_z, pJ_ns_s, pJ_ns_k, pJ_ns_n, pJ_fI, pJ_fJ, pJ_fR, pJ_aI, pJ_aJ, pJ_aR, pR_ns_z, pR_ns_s, pR_ns_k, pR_ns_n, pR_fI, pR_fJ, pR_fR, pR_aI, pR_aJ, pR_aR, qI_ns_z, qI_ns_s, qI_ns_k, qI_ns_n, qI_fI, qI_fJ, qI_fR, qI_aI, qI_aJ, qI_aR, qJ_ns_z, qJ_ns_s, qJ_ns_k, qJ_ns_n, qJ_fI, qJ_fJ, qJ_fR, qJ_aI, qJ_aJ, qJ_aR, qR_ns_z, qR_ns_s, qR_ns_k, qR_ns_n, qR_fI, qR_fJ, qR_fR, qR_aI, qR_aJ, qR_aR, nO_ns_z, nO_ns_s, nO_ns_k, nO_ns_n, nO_fI, nO_fJ, nO_fR, nO_aI, nO_aJ, nO_aR, nA_ns_z, nA_ns_s, nA_ns_k, nA_ns_n, nA_fI, nA_fJ, nA_fR, nA_aI, nA_aJ, nA_aR, nC_ns_z, nC_ns_s, nC_ns_k, nC_ns_n, nC_fI, nC_fJ, nC_fR, nC_aI, nC_aJ, nC_aR, Nat.zero_le, Nat.reduceAdd, Nat.reduceLeDiff, reduceIte, rf_c1, int_c1, none_c1, cat_nil, cat_int, cat_long, cat_rf, toList_s, toList_n, true_and, and_true, Option.some.injEq, exists_eq_left', exists_eq_left, reduceCtorEq, if_true, if_false, eq_self, o_number, e, if_neg q, if_neg q7, e2, a1, a2, a3, a4, hc0, b1, b2, b3, kf_3le c1, kf_lt3 c1, kf_7lt c1, kf_6lt c1, kf_7le c1, kf_lt7 c1, kf_2lt c1, kf_lt0 c1, kf_e0 c1, kf_e1 c1, kf_e2 c1, kf_e3 c1, kf_e4 c1, kf_e5 c1, kf_e6 c1, kf_e7 c1, kf_e8 c1, q1, q7, q8, pp]
          rcases g with g | ⟨g1, g2⟩ <;> simp [*]
        · obtain ⟨x1, x2, x3⟩ := there_ok hx (by omega)
          have hb := bg_in hZ hj hx
          have x4 : ns_inb (nI (bg (zl Z) j + x)) 1000000 = true := in_ok hb (by omega)
          have x5 : (nI (bg (zl Z) j + x)).toNatClampNeg = bg (zl Z) j + x := nI_clamp (by omega)
          have x6 : aJ S (A 5) (bg (zl Z) j + x) = zm Z j x := by rw [hp j x hj hx]; unfold pl; rw [if_neg (fun z => absurd z.1 (by omega))]
          refine ⟨pI S 407 m 0, ?_, by simp only [o_number, e, if_neg q, if_neg q7, e2]; exact MR_wS h 0, rfl, rfl⟩
          simp only [e72_0, e72_1, e72_2, e72_5, e72_6, e72_7, e72_10, e72_13, e72_14, e72_15, e72_18, e72_19, e72_20, e72_21, e72_24, e72_25, e72_26, e72_27, e72_28, e72_29, e72_31, e72_34, e72_37, e72_38, e72_39, e72_42, e72_43, e72_44, e72_45, e72_46, e72_47, e72_49, e72_52, e72_53, e72_56, e72_57, e72_60, e72_61, e72_62, e72_63, e72_64, e72_67, e72_70, e72_71, e72_72, e72_75, e72_76, e72_77, e72_78, e72_80, e72_83, e72_84, e72_87, e72_88, e72_89, e72_90, e72_93, e72_94, e72_97, e72_98, e72_101, e72_102, e72_103, e72_104, e72_105, e72_106, t58 hW0, t57, mw0 hW, mr1 hW, mk1 hW, mn1 hW, mr2 hW, mk2 hW, mn2 hW, mr3 hW, mk3 hW, mn3 hW, mr4 hW, mk4 hW, mn4 hW, mr5 hW, mk5 hW, mn5 hW, pI_ns_z, pI_ns_s, pI_ns_k, pI_ns_n, pI_fI, pI_fJ, pI_fR, pI_aI, pI_aJ, pI_aR, pJ_ns_z, pJ_ns_s, pJ_ns_k, pJ_ns_n, pJ_fI, pJ_fJ, pJ_fR, pJ_aI, pJ_aJ, pJ_aR, pR_ns_z, pR_ns_s, pR_ns_k, pR_ns_n, pR_fI, pR_fJ, pR_fR, pR_aI, pR_aJ, pR_aR, qI_ns_z, qI_ns_s, qI_ns_k, qI_ns_n, qI_fI, qI_fJ, qI_fR, qI_aI, qI_aJ, qI_aR, qJ_ns_z, qJ_ns_s, qJ_ns_k, qJ_ns_n, qJ_fI, qJ_fJ, qJ_fR, qJ_aI, qJ_aJ, qJ_aR, qR_ns_z, qR_ns_s, qR_ns_k, qR_ns_n, qR_fI, qR_fJ, qR_fR, qR_aI, qR_aJ, qR_aR, nO_ns_z, nO_ns_s, nO_ns_k, nO_ns_n, nO_fI, nO_fJ, nO_fR, nO_aI, nO_aJ, nO_aR, nA_ns_z, nA_ns_s, nA_ns_k, nA_ns_n, nA_fI, nA_fJ, nA_fR, nA_aI, nA_aJ, nA_aR, nC_ns_z, nC_ns_s, nC_ns_k, nC_ns_n, nC_fI, nC_fJ, nC_fR, nC_aI, nC_aJ, nC_aR, Nat.zero_le, Nat.reduceAdd, Nat.reduceLeDiff, reduceIte, rf_c1, int_c1, none_c1, cat_nil, cat_int, cat_long, cat_rf, toList_s, toList_n, true_and, and_true, Option.some.injEq, exists_eq_left', exists_eq_left, reduceCtorEq, if_true, if_false, eq_self, o_number, e, if_neg q, if_neg q7, e2, a1, a2, a3, a4, hc0, b1, b2, b3, b4, kf_3le c1, kf_lt3 c1, kf_7lt c1, kf_6lt c1, kf_7le c1, kf_lt7 c1, kf_2lt c1, kf_lt0 c1, kf_e0 c1, kf_e1 c1, kf_e2 c1, kf_e3 c1, kf_e4 c1, kf_e5 c1, kf_e6 c1, kf_e7 c1, kf_e8 c1, q1, q7, q8, x1, x2, nI_add, x4, x5, x6]
          simp
theorem m_below (h : MR S m A Z) (hZ : ZI Z) (t i : Int32) : ∃ S', Ev (73, 0, [some (va_rf (some m)), some (.int t), some (.int i)], [], S) (some (.int (o_below Z t i).1), S') ∧ MR S' m A (o_below Z t i).2 ∧ sz0 S S' := by
  obtain ⟨hW, hc, hT, hu, hp, hs⟩ := id h
  have hn := hZ.1
  have hW0 : MW (pI S 407 m 0) m A := hW
  have hc0 : fI (pI S 407 m 0) 400 m = nI (zn Z) := by rw [pI_fI, if_neg (by omega)]; exact hc
  have pp : ∀ x y : Int32, pI (pI S 407 m x) 407 m y = pI S 407 m y := pI_pI S 407 m
  rcases zt_cases (n := zn Z) (by omega) t with ⟨e, g⟩ | ⟨j, hj, rfl, e⟩
  · refine ⟨pI S 407 m 1, ?_, by simp only [o_below, e]; exact MR_wS h 1, rfl, rfl⟩
    simp only [e73_0, e73_1, e73_2, e73_5, e73_6, e73_7, e73_10, e73_13, e73_14, e73_15, e73_18, e73_21, e73_22, e73_25, e73_26, e73_27, e73_30, e73_33, e73_34, e73_35, e73_38, e73_41, e73_42, e73_43, e73_44, e73_47, e73_48, e73_49, e73_50, e73_51, e73_54, e73_57, e73_58, e73_59, e73_62, e73_63, e73_66, e73_69, e73_70, e73_71, e73_72, e73_75, e73_78, e73_80, t58 hW0, mw0 hW, mr1 hW, mk1 hW, mn1 hW, mr2 hW, mk2 hW, mn2 hW, mr3 hW, mk3 hW, mn3 hW, mr4 hW, mk4 hW, mn4 hW, mr5 hW, mk5 hW, mn5 hW, pI_ns_z, pI_ns_s, pI_ns_k, pI_ns_n, pI_fI, pI_fJ, pI_fR, pI_aI, pI_aJ, pI_aR, pJ_ns_z, pJ_ns_s, pJ_ns_k, pJ_ns_n, pJ_fI, pJ_fJ, pJ_fR, pJ_aI, pJ_aJ, pJ_aR, pR_ns_z, pR_ns_s, pR_ns_k, pR_ns_n, pR_fI, pR_fJ, pR_fR, pR_aI, pR_aJ, pR_aR, qI_ns_z, qI_ns_s, qI_ns_k, qI_ns_n, qI_fI, qI_fJ, qI_fR, qI_aI, qI_aJ, qI_aR, qJ_ns_z, qJ_ns_s, qJ_ns_k, qJ_ns_n, qJ_fI, qJ_fJ, qJ_fR, qJ_aI, qJ_aJ, qJ_aR, qR_ns_z, qR_ns_s, qR_ns_k, qR_ns_n, qR_fI, qR_fJ, qR_fR, qR_aI, qR_aJ, qR_aR, nO_ns_z, nO_ns_s, nO_ns_k, nO_ns_n, nO_fI, nO_fJ, nO_fR, nO_aI, nO_aJ, nO_aR, nA_ns_z, nA_ns_s, nA_ns_k, nA_ns_n, nA_fI, nA_fJ, nA_fR, nA_aI, nA_aJ, nA_aR, nC_ns_z, nC_ns_s, nC_ns_k, nC_ns_n, nC_fI, nC_fJ, nC_fR, nC_aI, nC_aJ, nC_aR, Nat.zero_le, Nat.reduceAdd, Nat.reduceLeDiff, reduceIte, rf_c1, int_c1, none_c1, cat_nil, cat_int, cat_long, cat_rf, toList_s, toList_n, true_and, and_true, Option.some.injEq, exists_eq_left', exists_eq_left, reduceCtorEq, if_true, if_false, eq_self, o_below, e, hc0, pp]
    rcases g with g | ⟨g1, g2⟩ <;> simp [*]
  · obtain ⟨a1, a2, a3⟩ := there_ok hj (by omega)
    have a4 := in_ok (show j < 2000 by omega) (by omega)
    obtain ⟨b1, b2, b3, b4⟩ := hT j hj
    obtain ⟨c1, c2, c3, c4⟩ := hZ.2.1 j hj
    by_cases q : hook (zk Z j)
    · have q1 : ¬ zk Z j < 3 := by omega
      have q2 : ¬ 7 < zk Z j := by omega
      rcases zt_cases (n := zl Z j) (by omega) i with ⟨e2, g⟩ | ⟨x, hx, rfl, e2⟩
      · refine ⟨pI S 407 m 2, ?_, by simp only [o_below, e, if_neg (not_not_intro q), e2]; exact MR_wS h 2, rfl, rfl⟩
        simp only [e73_0, e73_1, e73_2, e73_5, e73_6, e73_7, e73_10, e73_13, e73_14, e73_15, e73_18, e73_21, e73_22, e73_25, e73_26, e73_27, e73_30, e73_33, e73_34, e73_35, e73_38, e73_41, e73_42, e73_43, e73_44, e73_47, e73_48, e73_49, e73_50, e73_51, e73_54, e73_57, e73_58, e73_59, e73_62, e73_63, e73_66, e73_69, e73_70, e73_71, e73_72, e73_75, e73_78, e73_80, t58 hW0, t57, t60, mw0 hW, mr1 hW, mk1 hW, mn1 hW, mr2 hW, mk2 hW, mn2 hW, mr3 hW, mk3 hW, mn3 hW, mr4 hW, mk4 hW, mn4 hW, mr5 hW, mk5 hW, mn5 hW, pI_ns_z, pI_ns_s, pI_ns_k, pI_ns_n, pI_fI, pI_fJ, pI_fR, pI_aI, pI_aJ, pI_aR, pJ_ns_z, pJ_ns_s, pJ_ns_k, pJ_ns_n, pJ_fI, pJ_fJ, pJ_fR, pJ_aI, pJ_aJ, pJ_aR, pR_ns_z, pR_ns_s, pR_ns_k, pR_ns_n, pR_fI, pR_fJ, pR_fR, pR_aI, pR_aJ, pR_aR, qI_ns_z, qI_ns_s, qI_ns_k, qI_ns_n, qI_fI, qI_fJ, qI_fR, qI_aI, qI_aJ, qI_aR, qJ_ns_z, qJ_ns_s, qJ_ns_k, qJ_ns_n, qJ_fI, qJ_fJ, qJ_fR, qJ_aI, qJ_aJ, qJ_aR, qR_ns_z, qR_ns_s, qR_ns_k, qR_ns_n, qR_fI, qR_fJ, qR_fR, qR_aI, qR_aJ, qR_aR, nO_ns_z, nO_ns_s, nO_ns_k, nO_ns_n, nO_fI, nO_fJ, nO_fR, nO_aI, nO_aJ, nO_aR, nA_ns_z, nA_ns_s, nA_ns_k, nA_ns_n, nA_fI, nA_fJ, nA_fR, nA_aI, nA_aJ, nA_aR, nC_ns_z, nC_ns_s, nC_ns_k, nC_ns_n, nC_fI, nC_fJ, nC_fR, nC_aI, nC_aJ, nC_aR, Nat.zero_le, Nat.reduceAdd, Nat.reduceLeDiff, reduceIte, rf_c1, int_c1, none_c1, cat_nil, cat_int, cat_long, cat_rf, toList_s, toList_n, true_and, and_true, Option.some.injEq, exists_eq_left', exists_eq_left, reduceCtorEq, if_true, if_false, eq_self, o_below, e, if_neg (not_not_intro q), e2, a1, a2, a3, a4, hc0, b1, b2, kf_3le c1, kf_lt3 c1, kf_7lt c1, kf_6lt c1, kf_7le c1, kf_lt7 c1, kf_2lt c1, kf_lt0 c1, kf_e0 c1, kf_e1 c1, kf_e2 c1, kf_e3 c1, kf_e4 c1, kf_e5 c1, kf_e6 c1, kf_e7 c1, kf_e8 c1, q1, q2, pp]
        rcases g with g | ⟨g1, g2⟩ <;> simp [*]
      · obtain ⟨x1, x2, x3⟩ := there_ok hx (by omega)
        have hb := bg_in hZ hj hx
        have x4 : ns_inb (nI (bg (zl Z) j + x)) 1000000 = true := in_ok hb (by omega)
        have x5 : (nI (bg (zl Z) j + x)).toNatClampNeg = bg (zl Z) j + x := nI_clamp (by omega)
        have x6 : (aJ S (A 5) (bg (zl Z) j + x)).toInt32 = chI (zh Z j x) := by rw [hp j x hj hx]; unfold pl; rw [if_pos q]; exact chL_i
        refine ⟨pI S 407 m 0, ?_, by simp only [o_below, e, if_neg (not_not_intro q), e2]; exact MR_wS h 0, rfl, rfl⟩
        simp only [e73_0, e73_1, e73_2, e73_5, e73_6, e73_7, e73_10, e73_13, e73_14, e73_15, e73_18, e73_21, e73_22, e73_25, e73_26, e73_27, e73_30, e73_33, e73_34, e73_35, e73_38, e73_41, e73_42, e73_43, e73_44, e73_47, e73_48, e73_49, e73_50, e73_51, e73_54, e73_57, e73_58, e73_59, e73_62, e73_63, e73_66, e73_69, e73_70, e73_71, e73_72, e73_75, e73_78, e73_80, t58 hW0, t57, t60, t61 hW0, mw0 hW, mr1 hW, mk1 hW, mn1 hW, mr2 hW, mk2 hW, mn2 hW, mr3 hW, mk3 hW, mn3 hW, mr4 hW, mk4 hW, mn4 hW, mr5 hW, mk5 hW, mn5 hW, pI_ns_z, pI_ns_s, pI_ns_k, pI_ns_n, pI_fI, pI_fJ, pI_fR, pI_aI, pI_aJ, pI_aR, pJ_ns_z, pJ_ns_s, pJ_ns_k, pJ_ns_n, pJ_fI, pJ_fJ, pJ_fR, pJ_aI, pJ_aJ, pJ_aR, pR_ns_z, pR_ns_s, pR_ns_k, pR_ns_n, pR_fI, pR_fJ, pR_fR, pR_aI, pR_aJ, pR_aR, qI_ns_z, qI_ns_s, qI_ns_k, qI_ns_n, qI_fI, qI_fJ, qI_fR, qI_aI, qI_aJ, qI_aR, qJ_ns_z, qJ_ns_s, qJ_ns_k, qJ_ns_n, qJ_fI, qJ_fJ, qJ_fR, qJ_aI, qJ_aJ, qJ_aR, qR_ns_z, qR_ns_s, qR_ns_k, qR_ns_n, qR_fI, qR_fJ, qR_fR, qR_aI, qR_aJ, qR_aR, nO_ns_z, nO_ns_s, nO_ns_k, nO_ns_n, nO_fI, nO_fJ, nO_fR, nO_aI, nO_aJ, nO_aR, nA_ns_z, nA_ns_s, nA_ns_k, nA_ns_n, nA_fI, nA_fJ, nA_fR, nA_aI, nA_aJ, nA_aR, nC_ns_z, nC_ns_s, nC_ns_k, nC_ns_n, nC_fI, nC_fJ, nC_fR, nC_aI, nC_aJ, nC_aR, Nat.zero_le, Nat.reduceAdd, Nat.reduceLeDiff, reduceIte, rf_c1, int_c1, none_c1, cat_nil, cat_int, cat_long, cat_rf, toList_s, toList_n, true_and, and_true, Option.some.injEq, exists_eq_left', exists_eq_left, reduceCtorEq, if_true, if_false, eq_self, o_below, e, if_neg (not_not_intro q), e2, a1, a2, a3, a4, hc0, b1, b2, b4, kf_3le c1, kf_lt3 c1, kf_7lt c1, kf_6lt c1, kf_7le c1, kf_lt7 c1, kf_2lt c1, kf_lt0 c1, kf_e0 c1, kf_e1 c1, kf_e2 c1, kf_e3 c1, kf_e4 c1, kf_e5 c1, kf_e6 c1, kf_e7 c1, kf_e8 c1, q1, q2, x1, x2, nI_add, x4, x5, x6]
        simp
    · refine ⟨pI S 407 m 4, ?_, by simp only [o_below, e, if_pos q]; exact MR_wS h 4, rfl, rfl⟩
      simp only [e73_0, e73_1, e73_2, e73_5, e73_6, e73_7, e73_10, e73_13, e73_14, e73_15, e73_18, e73_21, e73_22, e73_25, e73_26, e73_27, e73_30, e73_33, e73_34, e73_35, e73_38, e73_41, e73_42, e73_43, e73_44, e73_47, e73_48, e73_49, e73_50, e73_51, e73_54, e73_57, e73_58, e73_59, e73_62, e73_63, e73_66, e73_69, e73_70, e73_71, e73_72, e73_75, e73_78, e73_80, t58 hW0, t60, mw0 hW, mr1 hW, mk1 hW, mn1 hW, mr2 hW, mk2 hW, mn2 hW, mr3 hW, mk3 hW, mn3 hW, mr4 hW, mk4 hW, mn4 hW, mr5 hW, mk5 hW, mn5 hW, pI_ns_z, pI_ns_s, pI_ns_k, pI_ns_n, pI_fI, pI_fJ, pI_fR, pI_aI, pI_aJ, pI_aR, pJ_ns_z, pJ_ns_s, pJ_ns_k, pJ_ns_n, pJ_fI, pJ_fJ, pJ_fR, pJ_aI, pJ_aJ, pJ_aR, pR_ns_z, pR_ns_s, pR_ns_k, pR_ns_n, pR_fI, pR_fJ, pR_fR, pR_aI, pR_aJ, pR_aR, qI_ns_z, qI_ns_s, qI_ns_k, qI_ns_n, qI_fI, qI_fJ, qI_fR, qI_aI, qI_aJ, qI_aR, qJ_ns_z, qJ_ns_s, qJ_ns_k, qJ_ns_n, qJ_fI, qJ_fJ, qJ_fR, qJ_aI, qJ_aJ, qJ_aR, qR_ns_z, qR_ns_s, qR_ns_k, qR_ns_n, qR_fI, qR_fJ, qR_fR, qR_aI, qR_aJ, qR_aR, nO_ns_z, nO_ns_s, nO_ns_k, nO_ns_n, nO_fI, nO_fJ, nO_fR, nO_aI, nO_aJ, nO_aR, nA_ns_z, nA_ns_s, nA_ns_k, nA_ns_n, nA_fI, nA_fJ, nA_fR, nA_aI, nA_aJ, nA_aR, nC_ns_z, nC_ns_s, nC_ns_k, nC_ns_n, nC_fI, nC_fJ, nC_fR, nC_aI, nC_aJ, nC_aR, Nat.zero_le, Nat.reduceAdd, Nat.reduceLeDiff, reduceIte, rf_c1, int_c1, none_c1, cat_nil, cat_int, cat_long, cat_rf, toList_s, toList_n, true_and, and_true, Option.some.injEq, exists_eq_left', exists_eq_left, reduceCtorEq, if_true, if_false, eq_self, o_below, e, if_pos q, a1, a2, a3, a4, hc0, b1, kf_3le c1, kf_lt3 c1, kf_7lt c1, kf_6lt c1, kf_7le c1, kf_lt7 c1, kf_2lt c1, kf_lt0 c1, kf_e0 c1, kf_e1 c1, kf_e2 c1, kf_e3 c1, kf_e4 c1, kf_e5 c1, kf_e6 c1, kf_e7 c1, kf_e8 c1, pp]
      have q' : zk Z j < 3 ∨ (¬ zk Z j < 3 ∧ 7 < zk Z j) := by omega
      rcases q' with q' | ⟨q1, q2⟩ <;> simp [*]
end MSIMPLE
