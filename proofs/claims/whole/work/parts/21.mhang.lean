/-! ===== the reference and the shelf: new things, hanging, tests ===== -/
section MSIMPLE2
variable {S : ns_St} {m : Nat} {A : Nat → Nat} {Z : Zs}
theorem E_sw4 {k pc n t3 t4 t5 t6 td : Nat} {d a b c e : Int} {L : List (Option Value)} {st : List Value} {r : ns_Rs} {x : Int32} (hd : decode (ns_c k) pc = .ok (.tableswitch d 3 6 #[a, b, c, e], n)) (hk : k < 95) (h3 : (pc : Int) + a = (t3 : Int)) (h4 : (pc : Int) + b = (t4 : Int)) (h5 : (pc : Int) + c = (t5 : Int)) (h6 : (pc : Int) + e = (t6 : Int)) (h0 : (pc : Int) + d = (td : Int)) : Ev (k, pc, L, .int x :: st, S) r ↔ if x = 3 then Ev (k, t3, L, st, S) r else if x = 4 then Ev (k, t4, L, st, S) r else if x = 5 then Ev (k, t5, L, st, S) r else if x = 6 then Ev (k, t6, L, st, S) r else Ev (k, td, L, st, S) r := by
  have key : ns_I k pc L (.int x :: st) S (.tableswitch d 3 6 #[a, b, c, e]) = (if x.toInt < 3 ∨ 6 < x.toInt then ns_to k pc L S d st else match (#[a, b, c, e] : Array Int)[(x.toInt - 3).toNat]? with
    | some off => ns_to k pc L S off st
    | none => none) := rfl
  have tt : ∀ (off : Int) (t : Nat), (pc : Int) + off = (t : Int) → ns_to k pc L S off st = some (.inl (k, t, L, st, S)) := by
    intro off t ht
    unfold ns_to
    rw [ht]
    simp
  by_cases y3 : x = 3
  · subst y3
    rw [if_pos rfl]
    exact E1 hd hk rfl (key.trans (tt a t3 h3))
  by_cases y4 : x = 4
  · subst y4
    rw [if_neg y3, if_pos rfl]
    exact E1 hd hk rfl (key.trans (tt b t4 h4))
  by_cases y5 : x = 5
  · subst y5
    rw [if_neg y3, if_neg y4, if_pos rfl]
    exact E1 hd hk rfl (key.trans (tt c t5 h5))
  by_cases y6 : x = 6
  · subst y6
    rw [if_neg y3, if_neg y4, if_neg y5, if_pos rfl]
    exact E1 hd hk rfl (key.trans (tt e t6 h6))
  · rw [if_neg y3, if_neg y4, if_neg y5, if_neg y6]
    have z3 : x.toInt ≠ 3 := fun z => y3 (Int32.toInt_inj.mp z)
    have z4 : x.toInt ≠ 4 := fun z => y4 (Int32.toInt_inj.mp z)
    have z5 : x.toInt ≠ 5 := fun z => y5 (Int32.toInt_inj.mp z)
    have z6 : x.toInt ≠ 6 := fun z => y6 (Int32.toInt_inj.mp z)
    refine E1 hd hk rfl (key.trans ?_)
    rw [if_pos (by omega)]
    exact tt d td h0
theorem t68 (h : MR S m A Z) (hZ : ZI Z) {j b : Nat} (hj : j < zn Z) (hb : b < zn Z) (hh : hook (zk Z j)) {r : ns_Rs} : Ev (68, 0, [some (va_rf (some m)), some (.int (nI j)), some (.int (nI b))], [], S) r ↔ r = (some (.int (if mayh (zk Z b) (zk Z j) = true then 1 else 0)), S) := by
  obtain ⟨hW, hc, hT, hu, hp, hs⟩ := id h
  have hn := hZ.1
  have a3 : (nI j).toNatClampNeg = j := nI_clamp (by omega)
  have a4 := in_ok (show j < 2000 by omega) (by omega)
  have b1 := (hT j hj).1
  have c1 := (hZ.2.1 j hj).1
  have sw := fun (L : List (Option Value)) (st : List Value) (x : Int32) (r : ns_Rs) => E_sw4 (S := S) (L := L) (st := st) (r := r) (x := x) (k := 68) (pc := 6) (t3 := 36) (t4 := 43) (t5 := 51) (t6 := 58) (td := 66) dX4_mayHang_6 (by decide) rfl rfl rfl rfl rfl
  simp only [e68_0, e68_1, e68_4, e68_5, e68_36, e68_37, e68_38, e68_39, e68_42, e68_43, e68_44, e68_45, e68_47, e68_50, e68_51, e68_52, e68_53, e68_54, e68_57, e68_58, e68_59, e68_60, e68_62, e68_65, e68_66, e68_67, sw, t67 h hZ hb, mw0 hW, mr1 hW, mk1 hW, mn1 hW, Nat.zero_le, Nat.reduceAdd, Nat.reduceLeDiff, reduceIte, rf_c1, int_c1, none_c1, cat_nil, cat_int, cat_long, cat_rf, toList_s, toList_n, true_and, and_true, Option.some.injEq, exists_eq_left', exists_eq_left, reduceCtorEq, if_true, if_false, eq_self, a3, a4, b1, kf_3le c1, kf_lt3 c1, kf_7lt c1, kf_6lt c1, kf_7le c1, kf_lt7 c1, kf_2lt c1, kf_lt0 c1, kf_e0 c1, kf_e1 c1, kf_e2 c1, kf_e3 c1, kf_e4 c1, kf_e5 c1, kf_e6 c1, kf_e7 c1, kf_e8 c1]
  have y : zk Z j = 3 ∨ zk Z j = 4 ∨ zk Z j = 5 ∨ zk Z j = 6 ∨ zk Z j = 7 := by omega
  rcases y with y | y | y | y | y <;> rw [y] <;> simp [mayh] <;> intro _ <;> (first | (split <;> simp) | skip)
theorem m_is (h : MR S m A Z) (hZ : ZI Z) (t x : Int32) : Ev (74, 0, [some (va_rf (some m)), some (.int t), some (.int x)], [], S) (some (.int (o_is Z t x)), S) := by
  obtain ⟨hW, hc, hT, hu, hp, hs⟩ := id h
  have hn := hZ.1
  by_cases x1 : x < 0
  · simp only [e74_0, e74_1, e74_2, e74_4, e74_7, e74_10, e74_11, e74_12, e74_15, e74_16, e74_17, e74_20, e74_23, e74_24, e74_25, e74_26, e74_27, e74_30, e74_31, e74_32, e74_33, e74_36, e74_39, e74_40, e74_43, e74_44, t57, mw0 hW, mr1 hW, mk1 hW, mn1 hW, Nat.zero_le, Nat.reduceAdd, Nat.reduceLeDiff, reduceIte, rf_c1, int_c1, none_c1, cat_nil, cat_int, cat_long, cat_rf, toList_s, toList_n, true_and, and_true, Option.some.injEq, exists_eq_left', exists_eq_left, reduceCtorEq, if_true, if_false, eq_self, x1, o_is, true_or]
  by_cases x2 : 8 < x
  · simp only [e74_0, e74_1, e74_2, e74_4, e74_7, e74_10, e74_11, e74_12, e74_15, e74_16, e74_17, e74_20, e74_23, e74_24, e74_25, e74_26, e74_27, e74_30, e74_31, e74_32, e74_33, e74_36, e74_39, e74_40, e74_43, e74_44, t57, mw0 hW, mr1 hW, mk1 hW, mn1 hW, Nat.zero_le, Nat.reduceAdd, Nat.reduceLeDiff, reduceIte, rf_c1, int_c1, none_c1, cat_nil, cat_int, cat_long, cat_rf, toList_s, toList_n, true_and, and_true, Option.some.injEq, exists_eq_left', exists_eq_left, reduceCtorEq, if_true, if_false, eq_self, x1, x2, o_is, or_true]
  rcases zt_cases (n := zn Z) (by omega) t with ⟨e, g⟩ | ⟨j, hj, rfl, e⟩
  · by_cases y : t = -1
    · subst y
      simp only [e74_0, e74_1, e74_2, e74_4, e74_7, e74_10, e74_11, e74_12, e74_15, e74_16, e74_17, e74_20, e74_23, e74_24, e74_25, e74_26, e74_27, e74_30, e74_31, e74_32, e74_33, e74_36, e74_39, e74_40, e74_43, e74_44, t57, t58 hW, mw0 hW, mr1 hW, mk1 hW, mn1 hW, Nat.zero_le, Nat.reduceAdd, Nat.reduceLeDiff, reduceIte, rf_c1, int_c1, none_c1, cat_nil, cat_int, cat_long, cat_rf, toList_s, toList_n, true_and, and_true, Option.some.injEq, exists_eq_left', exists_eq_left, reduceCtorEq, if_true, if_false, eq_self, x1, x2, o_is, e, or_self]
      simp
    · simp only [e74_0, e74_1, e74_2, e74_4, e74_7, e74_10, e74_11, e74_12, e74_15, e74_16, e74_17, e74_20, e74_23, e74_24, e74_25, e74_26, e74_27, e74_30, e74_31, e74_32, e74_33, e74_36, e74_39, e74_40, e74_43, e74_44, t57, t58 hW, mw0 hW, mr1 hW, mk1 hW, mn1 hW, Nat.zero_le, Nat.reduceAdd, Nat.reduceLeDiff, reduceIte, rf_c1, int_c1, none_c1, cat_nil, cat_int, cat_long, cat_rf, toList_s, toList_n, true_and, and_true, Option.some.injEq, exists_eq_left', exists_eq_left, reduceCtorEq, if_true, if_false, eq_self, x1, x2, o_is, e, or_self, y, hc]
      rcases g with g | ⟨g1, g2⟩ <;> simp [*]
  · obtain ⟨a1, a2, a3⟩ := there_ok hj (by omega)
    have y : ¬ nI j = -1 := fun z => a1 (by rw [z]; decide)
    simp only [e74_0, e74_1, e74_2, e74_4, e74_7, e74_10, e74_11, e74_12, e74_15, e74_16, e74_17, e74_20, e74_23, e74_24, e74_25, e74_26, e74_27, e74_30, e74_31, e74_32, e74_33, e74_36, e74_39, e74_40, e74_43, e74_44, t57, t58 hW, t67 h hZ hj, mw0 hW, mr1 hW, mk1 hW, mn1 hW, Nat.zero_le, Nat.reduceAdd, Nat.reduceLeDiff, reduceIte, rf_c1, int_c1, none_c1, cat_nil, cat_int, cat_long, cat_rf, toList_s, toList_n, true_and, and_true, Option.some.injEq, exists_eq_left', exists_eq_left, reduceCtorEq, if_true, if_false, eq_self, x1, x2, o_is, e, or_self, y, hc, a1, a2]
    by_cases z : passes (zk Z j) x = true <;> simp [z]
theorem m_as (h : MR S m A Z) (hZ : ZI Z) (t x : Int32) : Ev (75, 0, [some (va_rf (some m)), some (.int t), some (.int x)], [], S) (some (.int (o_as Z t x)), S) := by
  obtain ⟨hW, hc, hT, hu, hp, hs⟩ := id h
  have hn := hZ.1
  by_cases x1 : x < 0
  · simp only [e75_0, e75_1, e75_2, e75_4, e75_7, e75_10, e75_11, e75_12, e75_15, e75_16, e75_17, e75_20, e75_23, e75_24, e75_25, e75_26, e75_27, e75_30, e75_31, e75_32, e75_33, e75_36, e75_39, e75_40, e75_43, e75_44, t57, mw0 hW, mr1 hW, mk1 hW, mn1 hW, Nat.zero_le, Nat.reduceAdd, Nat.reduceLeDiff, reduceIte, rf_c1, int_c1, none_c1, cat_nil, cat_int, cat_long, cat_rf, toList_s, toList_n, true_and, and_true, Option.some.injEq, exists_eq_left', exists_eq_left, reduceCtorEq, if_true, if_false, eq_self, x1, o_as, true_or]
  by_cases x2 : 8 < x
  · simp only [e75_0, e75_1, e75_2, e75_4, e75_7, e75_10, e75_11, e75_12, e75_15, e75_16, e75_17, e75_20, e75_23, e75_24, e75_25, e75_26, e75_27, e75_30, e75_31, e75_32, e75_33, e75_36, e75_39, e75_40, e75_43, e75_44, t57, mw0 hW, mr1 hW, mk1 hW, mn1 hW, Nat.zero_le, Nat.reduceAdd, Nat.reduceLeDiff, reduceIte, rf_c1, int_c1, none_c1, cat_nil, cat_int, cat_long, cat_rf, toList_s, toList_n, true_and, and_true, Option.some.injEq, exists_eq_left', exists_eq_left, reduceCtorEq, if_true, if_false, eq_self, x1, x2, o_as, or_true]
  rcases zt_cases (n := zn Z) (by omega) t with ⟨e, g⟩ | ⟨j, hj, rfl, e⟩
  · by_cases y : t = -1
    · subst y
      simp only [e75_0, e75_1, e75_2, e75_4, e75_7, e75_10, e75_11, e75_12, e75_15, e75_16, e75_17, e75_20, e75_23, e75_24, e75_25, e75_26, e75_27, e75_30, e75_31, e75_32, e75_33, e75_36, e75_39, e75_40, e75_43, e75_44, t57, t58 hW, mw0 hW, mr1 hW, mk1 hW, mn1 hW, Nat.zero_le, Nat.reduceAdd, Nat.reduceLeDiff, reduceIte, rf_c1, int_c1, none_c1, cat_nil, cat_int, cat_long, cat_rf, toList_s, toList_n, true_and, and_true, Option.some.injEq, exists_eq_left', exists_eq_left, reduceCtorEq, if_true, if_false, eq_self, x1, x2, o_as, e, or_self]
      simp
    · simp only [e75_0, e75_1, e75_2, e75_4, e75_7, e75_10, e75_11, e75_12, e75_15, e75_16, e75_17, e75_20, e75_23, e75_24, e75_25, e75_26, e75_27, e75_30, e75_31, e75_32, e75_33, e75_36, e75_39, e75_40, e75_43, e75_44, t57, t58 hW, mw0 hW, mr1 hW, mk1 hW, mn1 hW, Nat.zero_le, Nat.reduceAdd, Nat.reduceLeDiff, reduceIte, rf_c1, int_c1, none_c1, cat_nil, cat_int, cat_long, cat_rf, toList_s, toList_n, true_and, and_true, Option.some.injEq, exists_eq_left', exists_eq_left, reduceCtorEq, if_true, if_false, eq_self, x1, x2, o_as, e, or_self, y, hc]
      rcases g with g | ⟨g1, g2⟩ <;> simp [*]
  · obtain ⟨a1, a2, a3⟩ := there_ok hj (by omega)
    have y : ¬ nI j = -1 := fun z => a1 (by rw [z]; decide)
    simp only [e75_0, e75_1, e75_2, e75_4, e75_7, e75_10, e75_11, e75_12, e75_15, e75_16, e75_17, e75_20, e75_23, e75_24, e75_25, e75_26, e75_27, e75_30, e75_31, e75_32, e75_33, e75_36, e75_39, e75_40, e75_43, e75_44, t57, t58 hW, t67 h hZ hj, mw0 hW, mr1 hW, mk1 hW, mn1 hW, Nat.zero_le, Nat.reduceAdd, Nat.reduceLeDiff, reduceIte, rf_c1, int_c1, none_c1, cat_nil, cat_int, cat_long, cat_rf, toList_s, toList_n, true_and, and_true, Option.some.injEq, exists_eq_left', exists_eq_left, reduceCtorEq, if_true, if_false, eq_self, x1, x2, o_as, e, or_self, y, hc, a1, a2]
    by_cases z : passes (zk Z j) x = true <;> simp [z]
theorem m_order (h : MR S m A Z) (hZ : ZI Z) (a b : Int32) : Ev (89, 0, [some (va_rf (some m)), some (.int a), some (.int b)], [], S) (some (.int (o_order Z a b)), S) := by
  obtain ⟨hW, hc, hT, hu, hp, hs⟩ := id h
  have hn := hZ.1
  rcases zt_cases (n := zn Z) (by omega) a with ⟨e, g⟩ | ⟨j, hj, rfl, e⟩
  · simp only [e89_0, e89_1, e89_2, e89_5, e89_8, e89_9, e89_10, e89_13, e89_16, e89_17, e89_18, e89_19, e89_22, e89_23, e89_24, e89_26, e89_29, e89_30, e89_33, e89_34, e89_35, e89_37, e89_40, e89_41, e89_42, e89_43, e89_46, e89_47, e89_48, e89_49, e89_52, e89_53, e89_54, e89_57, e89_58, e89_61, e89_62, e89_65, e89_66, e89_67, e89_68, e89_71, e89_72, e89_73, e89_76, e89_77, e89_80, e89_81, t58 hW, mw0 hW, mr1 hW, mk1 hW, mn1 hW, mr3 hW, mk3 hW, mn3 hW, Nat.zero_le, Nat.reduceAdd, Nat.reduceLeDiff, reduceIte, rf_c1, int_c1, none_c1, cat_nil, cat_int, cat_long, cat_rf, toList_s, toList_n, true_and, and_true, Option.some.injEq, exists_eq_left', exists_eq_left, reduceCtorEq, if_true, if_false, eq_self, o_order, e, hc]
    rcases g with g | ⟨g1, g2⟩ <;> simp [*]
  · obtain ⟨a1, a2, a3⟩ := there_ok hj (by omega)
    have a4 := in_ok (show j < 2000 by omega) (by omega)
    rcases zt_cases (n := zn Z) (by omega) b with ⟨e2, g⟩ | ⟨i, hi, rfl, e2⟩
    · simp only [e89_0, e89_1, e89_2, e89_5, e89_8, e89_9, e89_10, e89_13, e89_16, e89_17, e89_18, e89_19, e89_22, e89_23, e89_24, e89_26, e89_29, e89_30, e89_33, e89_34, e89_35, e89_37, e89_40, e89_41, e89_42, e89_43, e89_46, e89_47, e89_48, e89_49, e89_52, e89_53, e89_54, e89_57, e89_58, e89_61, e89_62, e89_65, e89_66, e89_67, e89_68, e89_71, e89_72, e89_73, e89_76, e89_77, e89_80, e89_81, t58 hW, mw0 hW, mr1 hW, mk1 hW, mn1 hW, mr3 hW, mk3 hW, mn3 hW, Nat.zero_le, Nat.reduceAdd, Nat.reduceLeDiff, reduceIte, rf_c1, int_c1, none_c1, cat_nil, cat_int, cat_long, cat_rf, toList_s, toList_n, true_and, and_true, Option.some.injEq, exists_eq_left', exists_eq_left, reduceCtorEq, if_true, if_false, eq_self, o_order, e, e2, hc, a1, a2]
      rcases g with g | ⟨g1, g2⟩ <;> simp [*]
    · obtain ⟨b1, b2, b3⟩ := there_ok hi (by omega)
      have b4 := in_ok (show i < 2000 by omega) (by omega)
      have c1 := (hZ.2.1 j hj).1
      have c2 := (hZ.2.1 i hi).1
      simp only [e89_0, e89_1, e89_2, e89_5, e89_8, e89_9, e89_10, e89_13, e89_16, e89_17, e89_18, e89_19, e89_22, e89_23, e89_24, e89_26, e89_29, e89_30, e89_33, e89_34, e89_35, e89_37, e89_40, e89_41, e89_42, e89_43, e89_46, e89_47, e89_48, e89_49, e89_52, e89_53, e89_54, e89_57, e89_58, e89_61, e89_62, e89_65, e89_66, e89_67, e89_68, e89_71, e89_72, e89_73, e89_76, e89_77, e89_80, e89_81, t58 hW, mw0 hW, mr1 hW, mk1 hW, mn1 hW, mr3 hW, mk3 hW, mn3 hW, Nat.zero_le, Nat.reduceAdd, Nat.reduceLeDiff, reduceIte, rf_c1, int_c1, none_c1, cat_nil, cat_int, cat_long, cat_rf, toList_s, toList_n, true_and, and_true, Option.some.injEq, exists_eq_left', exists_eq_left, reduceCtorEq, if_true, if_false, eq_self, o_order, e, e2, hc, a1, a2, a3, a4, b1, b2, b3, b4, (hT j hj).1, (hT i hi).1, (hT j hj).2.2.1, (hT i hi).2.2.1, kf_e8 c1, kf_e8 c2]
      by_cases y1 : zk Z j = 8 <;> by_cases y2 : zk Z i = 8 <;> simp [y1, y2]
      by_cases y3 : zv Z j < zv Z i
      · have y4 : ¬ zv Z i ≤ zv Z j := Int32.not_le.mpr y3
        simp [y3, y4]
      · have y4 : zv Z i ≤ zv Z j := Int32.not_lt.mp y3
        by_cases y5 : zv Z j = zv Z i <;> simp [y3, y4, y5]
theorem m_hang (h : MR S m A Z) (hZ : ZI Z) (t i c : Int32) : ∃ S', Ev (69, 0, [some (va_rf (some m)), some (.int t), some (.int i), some (.int c)], [], S) (some (.int (o_hang Z t i c).1), S') ∧ MR S' m A (o_hang Z t i c).2 ∧ sz0 S S' := by
  obtain ⟨hW, hc, hT, hu, hp, hs⟩ := id h
  have hn := hZ.1
  rcases zt_cases (n := zn Z) (by omega) t with ⟨e, g⟩ | ⟨j, hj, rfl, e⟩
  · refine ⟨S, ?_, by simp only [o_hang, e]; exact h, rfl, rfl⟩
    simp only [e69_0, e69_1, e69_2, e69_5, e69_8, e69_9, e69_10, e69_13, e69_14, e69_15, e69_18, e69_21, e69_22, e69_23, e69_24, e69_27, e69_28, e69_29, e69_32, e69_35, e69_36, e69_37, e69_38, e69_39, e69_40, e69_43, e69_44, e69_45, e69_46, e69_47, e69_50, e69_53, e69_54, e69_55, e69_56, e69_57, e69_60, e69_61, e69_62, e69_63, e69_66, e69_69, e69_70, e69_71, e69_72, e69_75, e69_76, e69_79, e69_80, e69_81, e69_82, e69_83, e69_84, e69_85, e69_86, e69_87, t58 hW, mw0 hW, mr1 hW, mk1 hW, mn1 hW, mr2 hW, mk2 hW, mn2 hW, mr4 hW, mk4 hW, mn4 hW, mr5 hW, mk5 hW, mn5 hW, Nat.zero_le, Nat.reduceAdd, Nat.reduceLeDiff, reduceIte, rf_c1, int_c1, none_c1, cat_nil, cat_int, cat_long, cat_rf, toList_s, toList_n, true_and, and_true, Option.some.injEq, exists_eq_left', exists_eq_left, reduceCtorEq, if_true, if_false, eq_self, o_hang, e, hc]
    rcases g with g | ⟨g1, g2⟩ <;> simp [*]
  · obtain ⟨a1, a2, a3⟩ := there_ok hj (by omega)
    have a4 := in_ok (show j < 2000 by omega) (by omega)
    obtain ⟨b1, b2, b3, b4⟩ := hT j hj
    obtain ⟨c1, c2, -, -⟩ := hZ.2.1 j hj
    have cc : (c = -1 ∧ zt (zn Z) c = none) ∨ (c ≠ -1 ∧ zt (zn Z) c = none ∧ (c < 0 ∨ (¬ c < 0 ∧ nI (zn Z) - 1 < c))) ∨ ∃ b, b < zn Z ∧ c = nI b ∧ zt (zn Z) c = some b := by
      rcases zt_cases (n := zn Z) (by omega) c with ⟨e2, g⟩ | ⟨b, hb, rfl, e2⟩
      · by_cases y : c = -1
        · exact Or.inl ⟨y, e2⟩
        · exact Or.inr (Or.inl ⟨y, e2, g⟩)
      · exact Or.inr (Or.inr ⟨b, hb, rfl, e2⟩)
    rcases cc with ⟨rfl, e2⟩ | ⟨y, e2, g⟩ | ⟨b, hb, rfl, e2⟩
    · by_cases q : hook (zk Z j)
      · have q1 : ¬ zk Z j < 3 := by omega
        have q2 : ¬ 7 < zk Z j := by omega
        rcases zt_cases (n := zl Z j) (by omega) i with ⟨e3, g⟩ | ⟨x, hx, rfl, e3⟩
        · refine ⟨S, ?_, by simp [o_hang, e, e2, e3, q]; exact h, rfl, rfl⟩
          simp only [e69_0, e69_1, e69_2, e69_5, e69_8, e69_9, e69_10, e69_13, e69_14, e69_15, e69_18, e69_21, e69_22, e69_23, e69_24, e69_27, e69_28, e69_29, e69_32, e69_35, e69_36, e69_37, e69_38, e69_39, e69_40, e69_43, e69_44, e69_45, e69_46, e69_47, e69_50, e69_53, e69_54, e69_55, e69_56, e69_57, e69_60, e69_61, e69_62, e69_63, e69_66, e69_69, e69_70, e69_71, e69_72, e69_75, e69_76, e69_79, e69_80, e69_81, e69_82, e69_83, e69_84, e69_85, e69_86, e69_87, t57, t58 hW, t60, mw0 hW, mr1 hW, mk1 hW, mn1 hW, mr2 hW, mk2 hW, mn2 hW, mr4 hW, mk4 hW, mn4 hW, mr5 hW, mk5 hW, mn5 hW, Nat.zero_le, Nat.reduceAdd, Nat.reduceLeDiff, reduceIte, rf_c1, int_c1, none_c1, cat_nil, cat_int, cat_long, cat_rf, toList_s, toList_n, true_and, and_true, Option.some.injEq, exists_eq_left', exists_eq_left, reduceCtorEq, if_true, if_false, eq_self, o_hang, e, e2, e3, hc, a1, a2, a3, a4, b1, b2, kf_3le c1, kf_lt3 c1, kf_7lt c1, kf_6lt c1, kf_7le c1, kf_lt7 c1, kf_2lt c1, kf_lt0 c1, kf_e0 c1, kf_e1 c1, kf_e2 c1, kf_e3 c1, kf_e4 c1, kf_e5 c1, kf_e6 c1, kf_e7 c1, kf_e8 c1, q1, q2]
          rcases g with g | ⟨g1, g2⟩ <;> simp [*]
        · obtain ⟨x1, x2, x3⟩ := there_ok hx (by omega)
          have hb := bg_in hZ hj hx
          have x4 : ns_inb (nI (bg (zl Z) j + x)) 1000000 = true := in_ok hb (by omega)
          have x5 : (nI (bg (zl Z) j + x)).toNatClampNeg = bg (zl Z) j + x := nI_clamp (by omega)
          refine ⟨qJ S (A 5) (bg (zl Z) j + x) (chL none), ?_, by simp [o_hang, e, e2, e3, q]; exact MR_wH h hj hx q none, rfl, rfl⟩
          simp only [e69_0, e69_1, e69_2, e69_5, e69_8, e69_9, e69_10, e69_13, e69_14, e69_15, e69_18, e69_21, e69_22, e69_23, e69_24, e69_27, e69_28, e69_29, e69_32, e69_35, e69_36, e69_37, e69_38, e69_39, e69_40, e69_43, e69_44, e69_45, e69_46, e69_47, e69_50, e69_53, e69_54, e69_55, e69_56, e69_57, e69_60, e69_61, e69_62, e69_63, e69_66, e69_69, e69_70, e69_71, e69_72, e69_75, e69_76, e69_79, e69_80, e69_81, e69_82, e69_83, e69_84, e69_85, e69_86, e69_87, t57, t58 hW, t60, mw0 hW, mr1 hW, mk1 hW, mn1 hW, mr2 hW, mk2 hW, mn2 hW, mr4 hW, mk4 hW, mn4 hW, mr5 hW, mk5 hW, mn5 hW, Nat.zero_le, Nat.reduceAdd, Nat.reduceLeDiff, reduceIte, rf_c1, int_c1, none_c1, cat_nil, cat_int, cat_long, cat_rf, toList_s, toList_n, true_and, and_true, Option.some.injEq, exists_eq_left', exists_eq_left, reduceCtorEq, if_true, if_false, eq_self, o_hang, e, e2, e3, hc, a1, a2, a3, a4, b1, b2, b4, kf_3le c1, kf_lt3 c1, kf_7lt c1, kf_6lt c1, kf_7le c1, kf_lt7 c1, kf_2lt c1, kf_lt0 c1, kf_e0 c1, kf_e1 c1, kf_e2 c1, kf_e3 c1, kf_e4 c1, kf_e5 c1, kf_e6 c1, kf_e7 c1, kf_e8 c1, q1, q2, x1, x2, nI_add, x4, x5]
          simp [q, x4, x5, chL]
      · refine ⟨S, ?_, by simp [o_hang, e, e2, q]; exact h, rfl, rfl⟩
        simp only [e69_0, e69_1, e69_2, e69_5, e69_8, e69_9, e69_10, e69_13, e69_14, e69_15, e69_18, e69_21, e69_22, e69_23, e69_24, e69_27, e69_28, e69_29, e69_32, e69_35, e69_36, e69_37, e69_38, e69_39, e69_40, e69_43, e69_44, e69_45, e69_46, e69_47, e69_50, e69_53, e69_54, e69_55, e69_56, e69_57, e69_60, e69_61, e69_62, e69_63, e69_66, e69_69, e69_70, e69_71, e69_72, e69_75, e69_76, e69_79, e69_80, e69_81, e69_82, e69_83, e69_84, e69_85, e69_86, e69_87, t57, t58 hW, t60, mw0 hW, mr1 hW, mk1 hW, mn1 hW, mr2 hW, mk2 hW, mn2 hW, mr4 hW, mk4 hW, mn4 hW, mr5 hW, mk5 hW, mn5 hW, Nat.zero_le, Nat.reduceAdd, Nat.reduceLeDiff, reduceIte, rf_c1, int_c1, none_c1, cat_nil, cat_int, cat_long, cat_rf, toList_s, toList_n, true_and, and_true, Option.some.injEq, exists_eq_left', exists_eq_left, reduceCtorEq, if_true, if_false, eq_self, o_hang, e, e2, hc, a1, a2, a3, a4, b1, b2, kf_3le c1, kf_lt3 c1, kf_7lt c1, kf_6lt c1, kf_7le c1, kf_lt7 c1, kf_2lt c1, kf_lt0 c1, kf_e0 c1, kf_e1 c1, kf_e2 c1, kf_e3 c1, kf_e4 c1, kf_e5 c1, kf_e6 c1, kf_e7 c1, kf_e8 c1]
        have q' : zk Z j < 3 ∨ (¬ zk Z j < 3 ∧ 7 < zk Z j) := by omega
        rcases q' with q' | ⟨q1, q2⟩ <;> simp [*]
    · refine ⟨S, ?_, by simp [o_hang, e, e2, y]; exact h, rfl, rfl⟩
      simp only [e69_0, e69_1, e69_2, e69_5, e69_8, e69_9, e69_10, e69_13, e69_14, e69_15, e69_18, e69_21, e69_22, e69_23, e69_24, e69_27, e69_28, e69_29, e69_32, e69_35, e69_36, e69_37, e69_38, e69_39, e69_40, e69_43, e69_44, e69_45, e69_46, e69_47, e69_50, e69_53, e69_54, e69_55, e69_56, e69_57, e69_60, e69_61, e69_62, e69_63, e69_66, e69_69, e69_70, e69_71, e69_72, e69_75, e69_76, e69_79, e69_80, e69_81, e69_82, e69_83, e69_84, e69_85, e69_86, e69_87, t57, t58 hW, t60, mw0 hW, mr1 hW, mk1 hW, mn1 hW, mr2 hW, mk2 hW, mn2 hW, mr4 hW, mk4 hW, mn4 hW, mr5 hW, mk5 hW, mn5 hW, Nat.zero_le, Nat.reduceAdd, Nat.reduceLeDiff, reduceIte, rf_c1, int_c1, none_c1, cat_nil, cat_int, cat_long, cat_rf, toList_s, toList_n, true_and, and_true, Option.some.injEq, exists_eq_left', exists_eq_left, reduceCtorEq, if_true, if_false, eq_self, o_hang, e, e2, hc, a1, a2, a3, a4, b1, b2, y]
      rcases g with g | ⟨g1, g2⟩ <;> simp [*]
    · obtain ⟨u1, u2, u3⟩ := there_ok hb (by omega)
      have y : ¬ nI b = -1 := fun z => u1 (by rw [z]; decide)
      by_cases q : hook (zk Z j)
      · have q1 : ¬ zk Z j < 3 := by omega
        have q2 : ¬ 7 < zk Z j := by omega
        rcases zt_cases (n := zl Z j) (by omega) i with ⟨e3, g⟩ | ⟨x, hx, rfl, e3⟩
        · refine ⟨S, ?_, by simp [o_hang, e, e2, e3, q]; exact h, rfl, rfl⟩
          simp only [e69_0, e69_1, e69_2, e69_5, e69_8, e69_9, e69_10, e69_13, e69_14, e69_15, e69_18, e69_21, e69_22, e69_23, e69_24, e69_27, e69_28, e69_29, e69_32, e69_35, e69_36, e69_37, e69_38, e69_39, e69_40, e69_43, e69_44, e69_45, e69_46, e69_47, e69_50, e69_53, e69_54, e69_55, e69_56, e69_57, e69_60, e69_61, e69_62, e69_63, e69_66, e69_69, e69_70, e69_71, e69_72, e69_75, e69_76, e69_79, e69_80, e69_81, e69_82, e69_83, e69_84, e69_85, e69_86, e69_87, t57, t58 hW, t60, mw0 hW, mr1 hW, mk1 hW, mn1 hW, mr2 hW, mk2 hW, mn2 hW, mr4 hW, mk4 hW, mn4 hW, mr5 hW, mk5 hW, mn5 hW, Nat.zero_le, Nat.reduceAdd, Nat.reduceLeDiff, reduceIte, rf_c1, int_c1, none_c1, cat_nil, cat_int, cat_long, cat_rf, toList_s, toList_n, true_and, and_true, Option.some.injEq, exists_eq_left', exists_eq_left, reduceCtorEq, if_true, if_false, eq_self, o_hang, e, e2, e3, hc, a1, a2, a3, a4, b1, b2, kf_3le c1, kf_lt3 c1, kf_7lt c1, kf_6lt c1, kf_7le c1, kf_lt7 c1, kf_2lt c1, kf_lt0 c1, kf_e0 c1, kf_e1 c1, kf_e2 c1, kf_e3 c1, kf_e4 c1, kf_e5 c1, kf_e6 c1, kf_e7 c1, kf_e8 c1, q1, q2, u1, u2, y]
          rcases g with g | ⟨g1, g2⟩ <;> simp [*]
        · obtain ⟨x1, x2, x3⟩ := there_ok hx (by omega)
          have hbb := bg_in hZ hj hx
          have x4 : ns_inb (nI (bg (zl Z) j + x)) 1000000 = true := in_ok hbb (by omega)
          have x5 : (nI (bg (zl Z) j + x)).toNatClampNeg = bg (zl Z) j + x := nI_clamp (by omega)
          by_cases w : mayh (zk Z b) (zk Z j) = true
          · refine ⟨qJ S (A 5) (bg (zl Z) j + x) (chL (some b)), ?_, by simp [o_hang, e, e2, e3, q, w]; exact MR_wH h hj hx q (some b), rfl, rfl⟩
            simp only [e69_0, e69_1, e69_2, e69_5, e69_8, e69_9, e69_10, e69_13, e69_14, e69_15, e69_18, e69_21, e69_22, e69_23, e69_24, e69_27, e69_28, e69_29, e69_32, e69_35, e69_36, e69_37, e69_38, e69_39, e69_40, e69_43, e69_44, e69_45, e69_46, e69_47, e69_50, e69_53, e69_54, e69_55, e69_56, e69_57, e69_60, e69_61, e69_62, e69_63, e69_66, e69_69, e69_70, e69_71, e69_72, e69_75, e69_76, e69_79, e69_80, e69_81, e69_82, e69_83, e69_84, e69_85, e69_86, e69_87, t57, t58 hW, t60, t68 h hZ hj hb q, mw0 hW, mr1 hW, mk1 hW, mn1 hW, mr2 hW, mk2 hW, mn2 hW, mr4 hW, mk4 hW, mn4 hW, mr5 hW, mk5 hW, mn5 hW, Nat.zero_le, Nat.reduceAdd, Nat.reduceLeDiff, reduceIte, rf_c1, int_c1, none_c1, cat_nil, cat_int, cat_long, cat_rf, toList_s, toList_n, true_and, and_true, Option.some.injEq, exists_eq_left', exists_eq_left, reduceCtorEq, if_true, if_false, eq_self, o_hang, e, e2, e3, hc, a1, a2, a3, a4, b1, b2, b4, kf_3le c1, kf_lt3 c1, kf_7lt c1, kf_6lt c1, kf_7le c1, kf_lt7 c1, kf_2lt c1, kf_lt0 c1, kf_e0 c1, kf_e1 c1, kf_e2 c1, kf_e3 c1, kf_e4 c1, kf_e5 c1, kf_e6 c1, kf_e7 c1, kf_e8 c1, q1, q2, x1, x2, nI_add, x4, x5, u1, u2, y, w]
            have z9 : (nI b).toInt64 = lN b := nI_l (by omega)
            simp [q, x4, x5, chL, z9]
          · refine ⟨S, ?_, by simp [o_hang, e, e2, e3, q, w]; exact h, rfl, rfl⟩
            simp only [e69_0, e69_1, e69_2, e69_5, e69_8, e69_9, e69_10, e69_13, e69_14, e69_15, e69_18, e69_21, e69_22, e69_23, e69_24, e69_27, e69_28, e69_29, e69_32, e69_35, e69_36, e69_37, e69_38, e69_39, e69_40, e69_43, e69_44, e69_45, e69_46, e69_47, e69_50, e69_53, e69_54, e69_55, e69_56, e69_57, e69_60, e69_61, e69_62, e69_63, e69_66, e69_69, e69_70, e69_71, e69_72, e69_75, e69_76, e69_79, e69_80, e69_81, e69_82, e69_83, e69_84, e69_85, e69_86, e69_87, t57, t58 hW, t60, t68 h hZ hj hb q, mw0 hW, mr1 hW, mk1 hW, mn1 hW, mr2 hW, mk2 hW, mn2 hW, mr4 hW, mk4 hW, mn4 hW, mr5 hW, mk5 hW, mn5 hW, Nat.zero_le, Nat.reduceAdd, Nat.reduceLeDiff, reduceIte, rf_c1, int_c1, none_c1, cat_nil, cat_int, cat_long, cat_rf, toList_s, toList_n, true_and, and_true, Option.some.injEq, exists_eq_left', exists_eq_left, reduceCtorEq, if_true, if_false, eq_self, o_hang, e, e2, e3, hc, a1, a2, a3, a4, b1, b2, b4, kf_3le c1, kf_lt3 c1, kf_7lt c1, kf_6lt c1, kf_7le c1, kf_lt7 c1, kf_2lt c1, kf_lt0 c1, kf_e0 c1, kf_e1 c1, kf_e2 c1, kf_e3 c1, kf_e4 c1, kf_e5 c1, kf_e6 c1, kf_e7 c1, kf_e8 c1, q1, q2, x1, x2, u1, u2, y, w]
            simp [q]
      · refine ⟨S, ?_, by simp [o_hang, e, e2, q]; exact h, rfl, rfl⟩
        simp only [e69_0, e69_1, e69_2, e69_5, e69_8, e69_9, e69_10, e69_13, e69_14, e69_15, e69_18, e69_21, e69_22, e69_23, e69_24, e69_27, e69_28, e69_29, e69_32, e69_35, e69_36, e69_37, e69_38, e69_39, e69_40, e69_43, e69_44, e69_45, e69_46, e69_47, e69_50, e69_53, e69_54, e69_55, e69_56, e69_57, e69_60, e69_61, e69_62, e69_63, e69_66, e69_69, e69_70, e69_71, e69_72, e69_75, e69_76, e69_79, e69_80, e69_81, e69_82, e69_83, e69_84, e69_85, e69_86, e69_87, t57, t58 hW, t60, mw0 hW, mr1 hW, mk1 hW, mn1 hW, mr2 hW, mk2 hW, mn2 hW, mr4 hW, mk4 hW, mn4 hW, mr5 hW, mk5 hW, mn5 hW, Nat.zero_le, Nat.reduceAdd, Nat.reduceLeDiff, reduceIte, rf_c1, int_c1, none_c1, cat_nil, cat_int, cat_long, cat_rf, toList_s, toList_n, true_and, and_true, Option.some.injEq, exists_eq_left', exists_eq_left, reduceCtorEq, if_true, if_false, eq_self, o_hang, e, e2, hc, a1, a2, a3, a4, b1, b2, kf_3le c1, kf_lt3 c1, kf_7lt c1, kf_6lt c1, kf_7le c1, kf_lt7 c1, kf_2lt c1, kf_lt0 c1, kf_e0 c1, kf_e1 c1, kf_e2 c1, kf_e3 c1, kf_e4 c1, kf_e5 c1, kf_e6 c1, kf_e7 c1, kf_e8 c1, u1, u2, y]
        have q' : zk Z j < 3 ∨ (¬ zk Z j < 3 ∧ 7 < zk Z j) := by omega
        rcases q' with q' | ⟨q1, q2⟩ <;> simp [*]
end MSIMPLE2
