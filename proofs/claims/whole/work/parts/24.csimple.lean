/-! ===== the class and the shelf: calls without a walk ===== -/
section CSIMPLE
variable {S : ns_St} {sh T wk cur : Nat} {ad na ha : Nat → Nat} {Z : Zs}
theorem CR_wS (h : CR S sh T wk ad na ha cur Z) (x : Int32) : CR (pI S 303 sh x) sh T wk ad na ha cur (wS Z x) := by
  obtain ⟨⟨s1, s2, s3, s4, s5, s6, s7, s8, s9⟩, hT, i1, i2, i3, i4⟩ := id h
  refine ⟨⟨s1, s2, s3, by rw [pI_fI, if_neg (by omega)]; exact s4, by rw [pI_fI, if_pos ⟨rfl, rfl⟩]; rfl, s6, s7, s8, by rw [pI_fI, if_neg (by omega)]; exact s9⟩, fun i hi => ⟨(hT i hi).1, ?_⟩, i1, i2, i3, i4⟩
  obtain ⟨-, t1, t2, t3, t4, t5, t6, t7, t8, t9, t10, t11⟩ := hT i hi
  exact ⟨t1, by rw [pI_fI, if_neg (by omega)]; exact t2, by rw [pI_fI, if_neg (by omega)]; exact t3, by rw [pI_fI, if_neg (by omega)]; exact t4, t5, t6, t7, by rw [pI_fI, if_neg (by omega)]; exact t8, t9, t10, t11⟩
theorem sumL_up (f : Nat → Int64) (x : Nat) (v : Int64) : ∀ n, sumL (va_up f x v) n = if x < n then sumL f n + (v - f x) else sumL f n := by
  intro n
  induction n with
  | zero => rfl
  | succ n ih =>
    show sumL (va_up f x v) n + va_up f x v n = _
    rw [ih]
    by_cases y : n = x
    · subst y
      rw [va_up_self, if_neg (Nat.lt_irrefl _), if_pos (Nat.lt_succ_self _)]
      show _ = sumL f n + f n + (v - f n)
      rw [Int64.add_assoc, Int64.add_comm (f n), Int64.sub_add_cancel]
    · rw [va_up_ne _ _ y]
      by_cases z : x < n
      · rw [if_pos z, if_pos (by omega)]
        show _ = sumL f n + f n + (v - f x)
        rw [Int64.add_assoc, Int64.add_assoc, Int64.add_comm (v - f x)]
      · rw [if_neg z, if_neg (by omega)]
        rfl
theorem sumL_congr {f g : Nat → Int64} : ∀ n, (∀ i, i < n → f i = g i) → sumL f n = sumL g n := by
  intro n
  induction n with
  | zero => intro _; rfl
  | succ n ih =>
    intro hh
    show sumL f n + f n = sumL g n + g n
    rw [ih (fun i hi => hh i (by omega)), hh n (by omega)]
theorem own_wM {j x : Nat} (hk : zk Z j < 3) (hx : x < zl Z j) (v : Int64) : own (wM Z j x v) j = own Z j + (v - zm Z j x) := by
  have e : up2 (zm Z) j x v j = va_up (zm Z j) x v := by
    funext y
    unfold up2 va_up
    by_cases z : y = x <;> simp [z]
  show (if zk Z j < 3 then sumL (up2 (zm Z) j x v j) (zl Z j) else if 7 ≤ zk Z j then (zv Z j).toInt64 else 0) = (if zk Z j < 3 then sumL (zm Z j) (zl Z j) else if 7 ≤ zk Z j then (zv Z j).toInt64 else 0) + (v - zm Z j x)
  rw [if_pos hk, if_pos hk, e, sumL_up, if_pos hx]
theorem own_wM_ne {i j x : Nat} (hi : i ≠ j) (v : Int64) : own (wM Z j x v) i = own Z i := by
  have e : up2 (zm Z) j x v i = zm Z i := by
    funext y
    unfold up2
    rw [if_neg (fun z => hi z.1)]
  show (if zk Z i < 3 then sumL (up2 (zm Z) j x v i) (zl Z i) else if 7 ≤ zk Z i then (zv Z i).toInt64 else 0) = _
  rw [e]
  rfl
theorem CR_put (h : CR S sh T wk ad na ha cur Z) {j x : Nat} (hj : j < zn Z) (hx : x < zl Z j) (hk : zk Z j < 3) (v : Int64) : CR (qJ (pJ S 105 (ad j) (own Z j + (v - zm Z j x))) (na j) x v) sh T wk ad na ha cur (wM Z j x v) := by
  obtain ⟨s, hT, i1, i2, i3, i4⟩ := id h
  refine ⟨s, fun i hi => ⟨(hT i hi).1, ?_⟩, i1, i2, i3, i4⟩
  obtain ⟨-, t1, t2, t3, t4, t5, t6, t7, t8, t9, t10, t11⟩ := hT i hi
  refine ⟨t1, t2, t3, t4, t5, t6, ?_, t8, t9, fun y hy => ?_, t11⟩
  · show fJ (pJ S 105 (ad j) _) 105 (ad i) = _
    rw [pJ_fJ]
    by_cases e : i = j
    · subst e
      rw [if_pos ⟨rfl, rfl⟩, own_wM hk hx]
    · rw [if_neg (fun z => e (i1 i j hi hj z.2)), own_wM_ne e]
      exact t7
  · rw [qJ_aJ, wM_zm]
    unfold up2
    by_cases e : i = j ∧ y = x
    · rw [if_pos ⟨congrArg na e.1, e.2⟩, if_pos e]
    · rw [if_neg (fun z => e ⟨i2 i j hi hj z.1, z.2⟩), if_neg e]
      exact t10 y hy
theorem CR_hang (h : CR S sh T wk ad na ha cur Z) {j x : Nat} (hj : j < zn Z) (c : Option Nat) : CR (qR S (ha j) x (c.map ad)) sh T wk ad na ha cur (wH Z j x c) := by
  obtain ⟨s, hT, i1, i2, i3, i4⟩ := id h
  refine ⟨s, fun i hi => ⟨?_, ?_⟩, i1, i2, i3, i4⟩
  · rw [qR_aR, if_neg (fun z => i4 j hj z.1.symm)]
    exact (hT i hi).1
  · obtain ⟨-, t1, t2, t3, t4, t5, t6, t7, t8, t9, t10, t11⟩ := hT i hi
    refine ⟨t1, t2, t3, t4, t5, t6, t7, t8, t9, t10, fun y hy => ?_⟩
    rw [qR_aR, wH_zh]
    unfold up2
    by_cases e : i = j ∧ y = x
    · rw [if_pos ⟨congrArg ha e.1, e.2⟩, if_pos e]
    · rw [if_neg (fun z => e ⟨i3 i j hi hj z.1, z.2⟩), if_neg e]
      exact t11 y hy
theorem c_status (h : CR S sh T wk ad na ha cur Z) : Ev (34, 0, [some (va_rf (some sh))], [], S) (some (.int (zs Z)), S) := by
  obtain ⟨⟨s1, s2, s3, s4, s5, s6, s7, s8, s9⟩, hT, i1, i2, i3, i4⟩ := id h
  simp only [e34_0, e34_1, e34_4, Nat.zero_le, Nat.reduceAdd, Nat.reduceLeDiff, reduceIte, rf_c1, int_c1, none_c1, cat_nil, cat_int, cat_long, cat_rf, toList_s, toList_n, true_and, and_true, Option.some.injEq, exists_eq_left', exists_eq_left, reduceCtorEq, if_true, if_false, eq_self, s1, s5]
theorem c_count (h : CR S sh T wk ad na ha cur Z) : Ev (35, 0, [some (va_rf (some sh))], [], S) (some (.int (nI (zn Z))), S) := by
  obtain ⟨⟨s1, s2, s3, s4, s5, s6, s7, s8, s9⟩, hT, i1, i2, i3, i4⟩ := id h
  simp only [e35_0, e35_1, e35_4, Nat.zero_le, Nat.reduceAdd, Nat.reduceLeDiff, reduceIte, rf_c1, int_c1, none_c1, cat_nil, cat_int, cat_long, cat_rf, toList_s, toList_n, true_and, and_true, Option.some.injEq, exists_eq_left', exists_eq_left, reduceCtorEq, if_true, if_false, eq_self, s1, s4]
theorem c_kind (h : CR S sh T wk ad na ha cur Z) (hZ : ZI Z) (t : Int32) : Ev (21, 0, [some (va_rf (some sh)), some (.int t), none], [], S) (some (.int (o_kind Z t)), S) := by
  obtain ⟨⟨s1, s2, s3, s4, s5, s6, s7, s8, s9⟩, hT, i1, i2, i3, i4⟩ := id h
  have hn := hZ.1
  simp only [e21_0, e21_1, e21_2, e21_5, e21_6, e21_7, e21_10, e21_11, e21_14, e21_15, e21_18, c36 h hZ, Nat.zero_le, Nat.reduceAdd, Nat.reduceLeDiff, reduceIte, rf_c1, int_c1, none_c1, cat_nil, cat_int, cat_long, cat_rf, toList_s, toList_n, true_and, and_true, Option.some.injEq, exists_eq_left', exists_eq_left, reduceCtorEq, if_true, if_false, eq_self, s1, o_kind]
  rcases zt_cases (n := zn Z) (by omega) t with ⟨e, -⟩ | ⟨j, hj, rfl, e⟩
  · simp [e]
  · obtain ⟨-, t1, t2, t3, -⟩ := hT j hj
    simp [e, t1, t3]
theorem c_length (h : CR S sh T wk ad na ha cur Z) (hZ : ZI Z) (t : Int32) : Ev (22, 0, [some (va_rf (some sh)), some (.int t), none], [], S) (some (.int (o_length Z t)), S) := by
  obtain ⟨⟨s1, s2, s3, s4, s5, s6, s7, s8, s9⟩, hT, i1, i2, i3, i4⟩ := id h
  have hn := hZ.1
  rcases zt_cases (n := zn Z) (by omega) t with ⟨e, -⟩ | ⟨j, hj, rfl, e⟩
  · simp only [e22_0, e22_1, e22_2, e22_5, e22_6, e22_7, e22_10, e22_11, e22_12, e22_13, e22_16, e22_19, e22_22, e22_23, e22_26, e22_27, e22_30, e22_31, e22_34, e22_35, c36 h hZ, Nat.zero_le, Nat.reduceAdd, Nat.reduceLeDiff, reduceIte, rf_c1, int_c1, none_c1, cat_nil, cat_int, cat_long, cat_rf, toList_s, toList_n, true_and, and_true, Option.some.injEq, exists_eq_left', exists_eq_left, reduceCtorEq, if_true, if_false, eq_self, s1, o_length, e, Option.map_none, Option.map_some, Option.some.injEq]
  · 
    obtain ⟨-, t1, t2, t3, t4, t5, t6, t7, t8, ⟨t9, t10, t11, t12⟩, t13, t14⟩ := hT j hj
    obtain ⟨k1, k2, k3, k4⟩ := hZ.2.1 j hj
    simp only [e22_0, e22_1, e22_2, e22_5, e22_6, e22_7, e22_10, e22_11, e22_12, e22_13, e22_16, e22_19, e22_22, e22_23, e22_26, e22_27, e22_30, e22_31, e22_34, e22_35, c36 h hZ, c39 k1, Nat.zero_le, Nat.reduceAdd, Nat.reduceLeDiff, reduceIte, rf_c1, int_c1, none_c1, cat_nil, cat_int, cat_long, cat_rf, toList_s, toList_n, true_and, and_true, Option.some.injEq, exists_eq_left', exists_eq_left, reduceCtorEq, if_true, if_false, eq_self, Option.map_none, Option.map_some, Option.some.injEq, s1, o_length, e, t1, t3, t5, t6, t9, t10, t11, t12]
    by_cases y : zk Z j < 3
    · simp [y, cnl]
    · by_cases y2 : hook (zk Z j)
      · simp [y, chl, if_pos y2]
      · have y3 : zk Z j = 8 := by omega
        simp [y, chl, if_neg y2, k4 y3]
theorem c_order (h : CR S sh T wk ad na ha cur Z) (hZ : ZI Z) (a b : Int32) : Ev (30, 0, [some (va_rf (some sh)), some (.int a), some (.int b), none, none], [], S) (some (.int (o_order Z a b)), S) := by
  obtain ⟨⟨s1, s2, s3, s4, s5, s6, s7, s8, s9⟩, hT, i1, i2, i3, i4⟩ := id h
  have hn := hZ.1
  rcases zt_cases (n := zn Z) (by omega) a with ⟨e, -⟩ | ⟨j, hj, rfl, e⟩
  · simp only [e30_0, e30_1, e30_2, e30_5, e30_6, e30_7, e30_8, e30_11, e30_13, e30_14, e30_17, e30_19, e30_22, e30_23, e30_24, e30_25, e30_28, e30_30, e30_33, e30_35, e30_38, e30_40, e30_43, e30_44, e30_45, e30_46, e30_49, e30_51, e30_54, e30_57, e30_58, e30_59, e30_60, e30_63, e30_65, e30_68, e30_71, e30_72, e30_75, e30_76, c36 h hZ, Nat.zero_le, Nat.reduceAdd, Nat.reduceLeDiff, reduceIte, rf_c1, int_c1, none_c1, cat_nil, cat_int, cat_long, cat_rf, toList_s, toList_n, true_and, and_true, Option.some.injEq, exists_eq_left', exists_eq_left, reduceCtorEq, if_true, if_false, eq_self, s1, o_order, e, Option.map_none, Option.map_some, Option.some.injEq]
  · rcases zt_cases (n := zn Z) (by omega) b with ⟨e2, -⟩ | ⟨i, hi, rfl, e2⟩
    · simp only [e30_0, e30_1, e30_2, e30_5, e30_6, e30_7, e30_8, e30_11, e30_13, e30_14, e30_17, e30_19, e30_22, e30_23, e30_24, e30_25, e30_28, e30_30, e30_33, e30_35, e30_38, e30_40, e30_43, e30_44, e30_45, e30_46, e30_49, e30_51, e30_54, e30_57, e30_58, e30_59, e30_60, e30_63, e30_65, e30_68, e30_71, e30_72, e30_75, e30_76, c36 h hZ, Nat.zero_le, Nat.reduceAdd, Nat.reduceLeDiff, reduceIte, rf_c1, int_c1, none_c1, cat_nil, cat_int, cat_long, cat_rf, toList_s, toList_n, true_and, and_true, Option.some.injEq, exists_eq_left', exists_eq_left, reduceCtorEq, if_true, if_false, eq_self, s1, o_order, e, e2, Option.map_none, Option.map_some, Option.some.injEq]
    · 
      obtain ⟨-, t1, t2, t3, t4, t5, t6, t7, t8, ⟨t9, t10, t11, t12⟩, t13, t14⟩ := hT j hj
      obtain ⟨k1, k2, k3, k4⟩ := hZ.2.1 j hj
      obtain ⟨-, ut1, ut2, ut3, ut4, ut5, ut6, ut7, ut8, ⟨ut9, ut10, ut11, ut12⟩, ut13, ut14⟩ := hT i hi
      obtain ⟨uk1, uk2, uk3, uk4⟩ := hZ.2.1 i hi
      simp only [e30_0, e30_1, e30_2, e30_5, e30_6, e30_7, e30_8, e30_11, e30_13, e30_14, e30_17, e30_19, e30_22, e30_23, e30_24, e30_25, e30_28, e30_30, e30_33, e30_35, e30_38, e30_40, e30_43, e30_44, e30_45, e30_46, e30_49, e30_51, e30_54, e30_57, e30_58, e30_59, e30_60, e30_63, e30_65, e30_68, e30_71, e30_72, e30_75, e30_76, c36 h hZ, Nat.zero_le, Nat.reduceAdd, Nat.reduceLeDiff, reduceIte, rf_c1, int_c1, none_c1, cat_nil, cat_int, cat_long, cat_rf, toList_s, toList_n, true_and, and_true, Option.some.injEq, exists_eq_left', exists_eq_left, reduceCtorEq, if_true, if_false, eq_self, s1, o_order, e, e2, Option.map_none, Option.map_some, Option.some.injEq, t1, t3, t4, ut1, ut3, ut4, kf_e8 k1, kf_e8 uk1]
      by_cases y1 : zk Z j = 8 <;> by_cases y2 : zk Z i = 8 <;> simp [y1, y2]
      by_cases y3 : zv Z j = zv Z i
      · have y4 : ¬ zv Z j < zv Z i := by rw [y3, Int32.lt_iff_toInt_lt]; omega
        simp [y3, y4]
      · by_cases y4 : zv Z j < zv Z i
        · have y5 : ¬ zv Z i ≤ zv Z j := Int32.not_le.mpr y4
          simp [y3, y4, y5]
        · have y5 : zv Z i ≤ zv Z j := Int32.not_lt.mp y4
          simp [y3, y4, y5]
theorem c45 {o : Option Nat} {t x : Int32} {r : ns_Rs} : Ev (45, 0, [some (va_rf o), some (.int t), some (.int x)], [], S) r ↔ r = (some (.int (if x < 0 ∨ 8 < x ∨ (o = none ∧ t ≠ -1) then 1 else 0)), S) := by
  simp only [e45_0, e45_1, e45_4, e45_5, e45_7, e45_10, e45_11, e45_14, e45_15, e45_16, e45_19, e45_20, e45_23, e45_24, Nat.zero_le, Nat.reduceAdd, Nat.reduceLeDiff, reduceIte, rf_c1, int_c1, none_c1, cat_nil, cat_int, cat_long, cat_rf, toList_s, toList_n, true_and, and_true, Option.some.injEq, exists_eq_left', exists_eq_left, reduceCtorEq, if_true, if_false, eq_self]
  by_cases y1 : x < 0 <;> by_cases y2 : 8 < x <;> by_cases y3 : o = none <;> by_cases y4 : t = -1 <;> simp [y1, y2, y3, y4]
theorem c_is (h : CR S sh T wk ad na ha cur Z) (hZ : ZI Z) (t x : Int32) : Ev (25, 0, [some (va_rf (some sh)), some (.int t), some (.int x), none], [], S) (some (.int (o_is Z t x)), S) := by
  obtain ⟨⟨s1, s2, s3, s4, s5, s6, s7, s8, s9⟩, hT, i1, i2, i3, i4⟩ := id h
  have hn := hZ.1
  rcases zt_cases (n := zn Z) (by omega) t with ⟨e, -⟩ | ⟨j, hj, rfl, e⟩
  · simp only [e25_0, e25_1, e25_2, e25_5, e25_6, e25_7, e25_8, e25_9, e25_12, e25_15, e25_16, e25_17, e25_18, e25_21, e25_22, e25_25, e25_26, e25_29, e25_32, e25_33, e25_36, e25_37, c36 h hZ, c45, Nat.zero_le, Nat.reduceAdd, Nat.reduceLeDiff, reduceIte, rf_c1, int_c1, none_c1, cat_nil, cat_int, cat_long, cat_rf, toList_s, toList_n, true_and, and_true, Option.some.injEq, exists_eq_left', exists_eq_left, reduceCtorEq, if_true, if_false, eq_self, s1, o_is, e, Option.map_none, Option.map_some, Option.some.injEq]
    by_cases y1 : x < 0 <;> by_cases y2 : 8 < x <;> by_cases y4 : t = -1 <;> simp [y1, y2, y4]
  · 
    obtain ⟨-, t1, t2, t3, t4, t5, t6, t7, t8, ⟨t9, t10, t11, t12⟩, t13, t14⟩ := hT j hj
    obtain ⟨k1, k2, k3, k4⟩ := hZ.2.1 j hj
    simp only [e25_0, e25_1, e25_2, e25_5, e25_6, e25_7, e25_8, e25_9, e25_12, e25_15, e25_16, e25_17, e25_18, e25_21, e25_22, e25_25, e25_26, e25_29, e25_32, e25_33, e25_36, e25_37, c36 h hZ, c45, c43 k1, Nat.zero_le, Nat.reduceAdd, Nat.reduceLeDiff, reduceIte, rf_c1, int_c1, none_c1, cat_nil, cat_int, cat_long, cat_rf, toList_s, toList_n, true_and, and_true, Option.some.injEq, exists_eq_left', exists_eq_left, reduceCtorEq, if_true, if_false, eq_self, s1, o_is, e, Option.map_none, Option.map_some, Option.some.injEq, t1, t3, false_and, or_false]
    by_cases y1 : x < 0 <;> by_cases y2 : 8 < x <;> by_cases y4 : passes (zk Z j) x = true <;> simp [y1, y2, y4]
theorem c_as (h : CR S sh T wk ad na ha cur Z) (hZ : ZI Z) (t x : Int32) : Ev (26, 0, [some (va_rf (some sh)), some (.int t), some (.int x), none], [], S) (some (.int (o_as Z t x)), S) := by
  obtain ⟨⟨s1, s2, s3, s4, s5, s6, s7, s8, s9⟩, hT, i1, i2, i3, i4⟩ := id h
  have hn := hZ.1
  rcases zt_cases (n := zn Z) (by omega) t with ⟨e, -⟩ | ⟨j, hj, rfl, e⟩
  · simp only [e26_0, e26_1, e26_2, e26_5, e26_6, e26_7, e26_8, e26_9, e26_12, e26_15, e26_16, e26_17, e26_18, e26_21, e26_22, e26_25, e26_26, e26_29, e26_32, e26_33, e26_36, e26_37, c36 h hZ, c45, Nat.zero_le, Nat.reduceAdd, Nat.reduceLeDiff, reduceIte, rf_c1, int_c1, none_c1, cat_nil, cat_int, cat_long, cat_rf, toList_s, toList_n, true_and, and_true, Option.some.injEq, exists_eq_left', exists_eq_left, reduceCtorEq, if_true, if_false, eq_self, s1, o_as, e, Option.map_none, Option.map_some, Option.some.injEq]
    by_cases y1 : x < 0 <;> by_cases y2 : 8 < x <;> by_cases y4 : t = -1 <;> simp [y1, y2, y4]
  · 
    obtain ⟨-, t1, t2, t3, t4, t5, t6, t7, t8, ⟨t9, t10, t11, t12⟩, t13, t14⟩ := hT j hj
    obtain ⟨k1, k2, k3, k4⟩ := hZ.2.1 j hj
    simp only [e26_0, e26_1, e26_2, e26_5, e26_6, e26_7, e26_8, e26_9, e26_12, e26_15, e26_16, e26_17, e26_18, e26_21, e26_22, e26_25, e26_26, e26_29, e26_32, e26_33, e26_36, e26_37, c36 h hZ, c45, c43 k1, Nat.zero_le, Nat.reduceAdd, Nat.reduceLeDiff, reduceIte, rf_c1, int_c1, none_c1, cat_nil, cat_int, cat_long, cat_rf, toList_s, toList_n, true_and, and_true, Option.some.injEq, exists_eq_left', exists_eq_left, reduceCtorEq, if_true, if_false, eq_self, s1, o_as, e, Option.map_none, Option.map_some, Option.some.injEq, t1, t3, false_and, or_false]
    by_cases y1 : x < 0 <;> by_cases y2 : 8 < x <;> by_cases y4 : passes (zk Z j) x = true <;> simp [y1, y2, y4]
theorem c_put (h : CR S sh T wk ad na ha cur Z) (hZ : ZI Z) (t i : Int32) (v : Int64) : ∃ S', Ev (19, 0, [some (va_rf (some sh)), some (.int t), some (.int i), some (.long v), none, none, none, none], [], S) (some (.int (o_put Z t i v).1), S') ∧ CR S' sh T wk ad na ha cur (o_put Z t i v).2 ∧ sz0 S S' := by
  obtain ⟨⟨s1, s2, s3, s4, s5, s6, s7, s8, s9⟩, hT, i1, i2, i3, i4⟩ := id h
  have hn := hZ.1
  rcases zt_cases (n := zn Z) (by omega) t with ⟨e, -⟩ | ⟨j, hj, rfl, e⟩
  · refine ⟨S, ?_, by simp only [o_put, e]; exact h, rfl, rfl⟩
    simp only [e19_0, e19_1, e19_2, e19_5, e19_7, e19_9, e19_12, e19_13, e19_14, e19_16, e19_19, e19_22, e19_25, e19_26, e19_27, e19_28, e19_31, e19_32, e19_34, e19_37, e19_38, e19_41, e19_42, e19_43, e19_45, e19_48, e19_49, e19_52, e19_54, e19_56, e19_57, e19_60, e19_62, e19_64, e19_67, e19_68, e19_69, e19_70, e19_71, e19_74, e19_76, e19_79, e19_80, e19_82, e19_83, e19_84, c36 h hZ, Nat.zero_le, Nat.reduceAdd, Nat.reduceLeDiff, reduceIte, rf_c1, int_c1, none_c1, cat_nil, cat_int, cat_long, cat_rf, toList_s, toList_n, true_and, and_true, Option.some.injEq, exists_eq_left', exists_eq_left, reduceCtorEq, if_true, if_false, eq_self, s1, o_put, e, Option.map_none, Option.map_some, Option.some.injEq]
  · 
    obtain ⟨-, t1, t2, t3, t4, t5, t6, t7, t8, ⟨t9, t10, t11, t12⟩, t13, t14⟩ := hT j hj
    obtain ⟨k1, k2, k3, k4⟩ := hZ.2.1 j hj
    by_cases q : 2 < zk Z j
    · have q1 : ¬ zk Z j < 3 := by omega
      refine ⟨S, ?_, by simp only [o_put, e, if_pos q]; exact h, rfl, rfl⟩
      simp only [e19_0, e19_1, e19_2, e19_5, e19_7, e19_9, e19_12, e19_13, e19_14, e19_16, e19_19, e19_22, e19_25, e19_26, e19_27, e19_28, e19_31, e19_32, e19_34, e19_37, e19_38, e19_41, e19_42, e19_43, e19_45, e19_48, e19_49, e19_52, e19_54, e19_56, e19_57, e19_60, e19_62, e19_64, e19_67, e19_68, e19_69, e19_70, e19_71, e19_74, e19_76, e19_79, e19_80, e19_82, e19_83, e19_84, c36 h hZ, c39 k1, Nat.zero_le, Nat.reduceAdd, Nat.reduceLeDiff, reduceIte, rf_c1, int_c1, none_c1, cat_nil, cat_int, cat_long, cat_rf, toList_s, toList_n, true_and, and_true, Option.some.injEq, exists_eq_left', exists_eq_left, reduceCtorEq, if_true, if_false, eq_self, s1, o_put, e, Option.map_none, Option.map_some, Option.some.injEq, t1, t3, if_pos q, q1]
    · have q1 : zk Z j < 3 := by omega
      have nl : ns_n S (na j) = zl Z j := by rw [t10]; unfold cnl; rw [if_pos q1]
      have n9 : cnl Z j = zl Z j := by unfold cnl; rw [if_pos q1]
      rcases zt_cases (n := zl Z j) (by omega) i with ⟨e2, g⟩ | ⟨x, hx, rfl, e2⟩
      · refine ⟨S, ?_, by simp only [o_put, e, if_neg q, e2]; exact h, rfl, rfl⟩
        simp only [e19_0, e19_1, e19_2, e19_5, e19_7, e19_9, e19_12, e19_13, e19_14, e19_16, e19_19, e19_22, e19_25, e19_26, e19_27, e19_28, e19_31, e19_32, e19_34, e19_37, e19_38, e19_41, e19_42, e19_43, e19_45, e19_48, e19_49, e19_52, e19_54, e19_56, e19_57, e19_60, e19_62, e19_64, e19_67, e19_68, e19_69, e19_70, e19_71, e19_74, e19_76, e19_79, e19_80, e19_82, e19_83, e19_84, c36 h hZ, c39 k1, Nat.zero_le, Nat.reduceAdd, Nat.reduceLeDiff, reduceIte, rf_c1, int_c1, none_c1, cat_nil, cat_int, cat_long, cat_rf, toList_s, toList_n, true_and, and_true, Option.some.injEq, exists_eq_left', exists_eq_left, reduceCtorEq, if_true, if_false, eq_self, s1, o_put, e, Option.map_none, Option.map_some, Option.some.injEq, t1, t3, t5, t9, if_neg q, q1, e2, nl]
        rcases g with g | ⟨g1, g2⟩
        · simp [g]
        · have g3 : nI (zl Z j) ≤ i := by
            obtain ⟨i', hi', rfl⟩ := nI_of g1
            rw [nI_leI (by omega) hi']
            rcases Nat.lt_or_ge i' (zl Z j) with w | w
            · exact absurd e2 (by rw [zt_nI w (by omega)]; simp)
            · exact w
          have g4 : ¬ i < nI (zl Z j) := Int32.not_lt.mpr g3
          simp [g1, g3, g4]
      · obtain ⟨x1, x2, x3⟩ := there_ok hx (by omega)
        have x4 := in_ok hx (by omega)
        have x5 : ¬ nI (zl Z j) ≤ nI x := nI_ge hx (by omega)
        have x6 : aJ S (na j) x = zm Z j x := t13 x (by rw [n9]; exact hx)
        refine ⟨qJ (pJ S 105 (ad j) (own Z j + (fitv (zk Z j) v - zm Z j x))) (na j) x (fitv (zk Z j) v), ?_, ?_, rfl, rfl⟩
        · simp only [e19_0, e19_1, e19_2, e19_5, e19_7, e19_9, e19_12, e19_13, e19_14, e19_16, e19_19, e19_22, e19_25, e19_26, e19_27, e19_28, e19_31, e19_32, e19_34, e19_37, e19_38, e19_41, e19_42, e19_43, e19_45, e19_48, e19_49, e19_52, e19_54, e19_56, e19_57, e19_60, e19_62, e19_64, e19_67, e19_68, e19_69, e19_70, e19_71, e19_74, e19_76, e19_79, e19_80, e19_82, e19_83, e19_84, c36 h hZ, c39 k1, c42 k1 q1, pI_ns_z, pI_ns_s, pI_ns_k, pI_ns_n, pI_fI, pI_fJ, pI_fR, pI_aI, pI_aJ, pI_aR, pJ_ns_z, pJ_ns_s, pJ_ns_k, pJ_ns_n, pJ_fI, pJ_fJ, pJ_fR, pJ_aI, pJ_aJ, pJ_aR, pR_ns_z, pR_ns_s, pR_ns_k, pR_ns_n, pR_fI, pR_fJ, pR_fR, pR_aI, pR_aJ, pR_aR, qI_ns_z, qI_ns_s, qI_ns_k, qI_ns_n, qI_fI, qI_fJ, qI_fR, qI_aI, qI_aJ, qI_aR, qJ_ns_z, qJ_ns_s, qJ_ns_k, qJ_ns_n, qJ_fI, qJ_fJ, qJ_fR, qJ_aI, qJ_aJ, qJ_aR, qR_ns_z, qR_ns_s, qR_ns_k, qR_ns_n, qR_fI, qR_fJ, qR_fR, qR_aI, qR_aJ, qR_aR, nO_ns_z, nO_ns_s, nO_ns_k, nO_ns_n, nO_fI, nO_fJ, nO_fR, nO_aI, nO_aJ, nO_aR, nA_ns_z, nA_ns_s, nA_ns_k, nA_ns_n, nA_fI, nA_fJ, nA_fR, nA_aI, nA_aJ, nA_aR, nC_ns_z, nC_ns_s, nC_ns_k, nC_ns_n, nC_fI, nC_fJ, nC_fR, nC_aI, nC_aJ, nC_aR, Nat.zero_le, Nat.reduceAdd, Nat.reduceLeDiff, reduceIte, rf_c1, int_c1, none_c1, cat_nil, cat_int, cat_long, cat_rf, toList_s, toList_n, true_and, and_true, Option.some.injEq, exists_eq_left', exists_eq_left, reduceCtorEq, if_true, if_false, eq_self, s1, o_put, e, Option.map_none, Option.map_some, Option.some.injEq, t1, t3, t5, t7, t9, if_neg q, q1, e2, nl, x1, x3, x4, x5, x6]
          have x7 : nI x < nI (zl Z j) := nI_lt hx (by omega)
          simp [x4, nl, x7]
        · simp only [o_put, e, if_neg q, e2]
          exact CR_put h hj hx q1 _
end CSIMPLE
