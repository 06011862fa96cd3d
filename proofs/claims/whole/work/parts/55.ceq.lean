/-! ===== equal: looking alike; the class's leaves ===== -/
def lkZ (Z : Zs) (u v : Nat) : Prop := zk Z u = zk Z v ∧ zl Z u = zl Z v ∧ zv Z u = zv Z v ∧ ∀ j, j < cnl Z u → zm Z u j = zm Z v j
theorem lk_cnl {Z : Zs} {u v : Nat} (h1 : zk Z u = zk Z v) (h2 : zl Z u = zl Z v) : cnl Z u = cnl Z v ∧ chl Z u = chl Z v := by
  unfold cnl chl
  rw [h1, h2]
  exact ⟨rfl, rfl⟩
theorem Lks_Z (Z : Zs) : Lks (chl Z) (lkZ Z) := by
  refine ⟨fun u => ⟨rfl, rfl, rfl, fun _ _ => rfl⟩, fun u v h => ⟨⟨h.1.symm, h.2.1.symm, h.2.2.1.symm, fun j hj => (h.2.2.2 j (by rw [(lk_cnl h.1 h.2.1).1]; exact hj)).symm⟩, (lk_cnl h.1 h.2.1).2⟩, fun u v w h h' => ⟨h.1.trans h'.1, h.2.1.trans h'.2.1, h.2.2.1.trans h'.2.2.1, fun j hj => (h.2.2.2 j hj).trans (h'.2.2.2 j (by rw [← (lk_cnl h.1 h.2.1).1]; exact hj))⟩⟩
def EqZ (Z : Zs) (u v : Nat) : Prop := Eqv (chl Z) (zh Z) (lkZ Z) u v
theorem own_lk {Z : Zs} {u v : Nat} (h : lkZ Z u v) : own Z u = own Z v := by
  obtain ⟨h1, h2, h3, h4⟩ := h
  unfold own
  rw [← h1, ← h2, ← h3]
  by_cases y : zk Z u < 3
  · rw [if_pos y, if_pos y]
    refine sumL_congr _ (fun i hi => h4 i ?_)
    unfold cnl
    rw [if_pos y]
    exact hi
  · rw [if_neg y, if_neg y]
section CEQ
variable {S : ns_St} {sh T wk cur : Nat} {ad na ha : Nat → Nat} {Z : Zs}
theorem CR_all (h : CR S sh T wk ad na ha cur Z) {u : Nat} (hu : u < zn Z) : ns_k S (ad u) = 2 ∧ fI S 101 (ad u) = nI (zk Z u) ∧ fI S 102 (ad u) = zv Z u ∧ fR S 103 (ad u) = some (na u) ∧ fR S 104 (ad u) = some (ha u) ∧ fJ S 105 (ad u) = own Z u ∧ (ns_k S (na u) = 7 ∧ ns_n S (na u) = cnl Z u ∧ ns_k S (ha u) = 8 ∧ ns_n S (ha u) = chl Z u) ∧ (∀ j, j < cnl Z u → aJ S (na u) j = zm Z u j) ∧ ∀ j, j < chl Z u → aR S (ha u) j = (zh Z u j).map ad := by
  obtain ⟨-, t1, t2, t3, t4, t5, t6, t7, t8, t9, t10, t11⟩ := h.2.1 u hu
  exact ⟨t1, t3, t4, t5, t6, t7, t9, t10, t11⟩
theorem cl500 (hZ : ZI Z) {u : Nat} (hu : u < zn Z) : cnl Z u ≤ 500 ∧ chl Z u ≤ 500 := by
  have := (hZ.2.1 u hu).2.1
  unfold cnl chl
  constructor <;> split <;> omega
theorem c10in (h : CR S sh T wk ad na ha cur Z) (hZ : ZI Z) {u v : Nat} (hu : u < zn Z) (hv : v < zn Z) (hc : cnl Z u = cnl Z v) : ∀ (d i : Nat), i + d = cnl Z u → (∀ j, j < i → zm Z u j = zm Z v j) → ∃ x, Ev (10, 17, [some (va_rf (some (ad u))), some (va_rf (some (ad v))), some (.int (nI i))], [], S) (some (.int (bI x)), S) ∧ (x = true ↔ ∀ j, j < cnl Z u → zm Z u j = zm Z v j) := by
  obtain ⟨u1, u2, u3, u4, u5, u6, ⟨u7, u8, u9, u10⟩, u11, u12⟩ := CR_all h hu
  obtain ⟨v1, v2, v3, v4, v5, v6, ⟨v7, v8, v9, v10⟩, v11, v12⟩ := CR_all h hv
  have h5 := (cl500 hZ hu).1
  rw [← hc] at v8
  intro d
  induction d with
  | zero =>
    intro i hi hj
    have e : i = cnl Z u := by omega
    subst e
    refine ⟨true, ?_, ⟨fun _ => hj, fun _ => rfl⟩⟩
    have z : nI (cnl Z u) ≤ nI (cnl Z u) := nI_le (Nat.le_refl _) (by omega)
    have b1 : bI true = 1 := rfl
    rw [b1, e10_17]
    simp only [e10_18, e10_19, e10_22, e10_23, e10_26, e10_27, e10_28, e10_31, e10_32, e10_35, e10_36, e10_39, e10_40, e10_41, e10_42, e10_45, e10_46, e10_47, e10_48, e10_51, e10_52, e10_53, e10_56, e10_59, e10_60, Nat.zero_le, Nat.reduceAdd, Nat.reduceLeDiff, reduceIte, rf_c1, int_c1, none_c1, cat_nil, cat_int, cat_long, cat_rf, toList_s, toList_n, true_and, and_true, Option.some.injEq, exists_eq_left', exists_eq_left, reduceCtorEq, if_true, if_false, eq_self, u1, u4, u7, u8, z]
    all_goals simp
  | succ d ih =>
    intro i hi hj
    have hlt : i < cnl Z u := by omega
    have z : ¬ nI (cnl Z u) ≤ nI i := nI_ge hlt (by omega)
    have a3 : (nI i).toNatClampNeg = i := nI_clamp (by omega)
    have a4 := in_ok hlt (by omega)
    have m1 := u11 i hlt
    have m2 := v11 i (by omega)
    by_cases y : zm Z u i = zm Z v i
    · obtain ⟨x, g1, g2⟩ := ih (i + 1) (by omega) (fun j hj' => by
        by_cases w : j = i
        · subst w; exact y
        · exact hj j (by omega))
      refine ⟨x, ?_, g2⟩
      have lc : lg_cmp (zm Z u i) (zm Z v i) = 0 := (lg_cmp_eq _ _).mpr y
      rw [e10_17]
      simp only [e10_18, e10_19, e10_22, e10_23, e10_26, e10_27, e10_28, e10_31, e10_32, e10_35, e10_36, e10_39, e10_40, e10_41, e10_42, e10_45, e10_46, e10_47, e10_48, e10_51, e10_52, e10_53, e10_56, e10_59, e10_60, Nat.zero_le, Nat.reduceAdd, Nat.reduceLeDiff, reduceIte, rf_c1, int_c1, none_c1, cat_nil, cat_int, cat_long, cat_rf, toList_s, toList_n, true_and, and_true, Option.some.injEq, exists_eq_left', exists_eq_left, reduceCtorEq, if_true, if_false, eq_self, u1, u4, u7, u8, v1, v4, v7, v8, z, a3, a4, m1, m2, lc, nI_1]
      simpa using g1
    · refine ⟨false, ?_, ⟨fun q => (by cases q), fun q => absurd (q i hlt) y⟩⟩
      have lc : ¬ lg_cmp (zm Z u i) (zm Z v i) = 0 := fun q => y ((lg_cmp_eq _ _).mp q)
      have b1 : bI false = 0 := rfl
      rw [b1, e10_17]
      simp only [e10_18, e10_19, e10_22, e10_23, e10_26, e10_27, e10_28, e10_31, e10_32, e10_35, e10_36, e10_39, e10_40, e10_41, e10_42, e10_45, e10_46, e10_47, e10_48, e10_51, e10_52, e10_53, e10_56, e10_59, e10_60, Nat.zero_le, Nat.reduceAdd, Nat.reduceLeDiff, reduceIte, rf_c1, int_c1, none_c1, cat_nil, cat_int, cat_long, cat_rf, toList_s, toList_n, true_and, and_true, Option.some.injEq, exists_eq_left', exists_eq_left, reduceCtorEq, if_true, if_false, eq_self, u1, u4, u7, u8, v1, v4, v7, v8, z, a3, a4, m1, m2, lc, nI_1]
      all_goals simp
theorem c10 (h : CR S sh T wk ad na ha cur Z) (hZ : ZI Z) {u v : Nat} (hu : u < zn Z) (hv : v < zn Z) : ∃ x, Ev (10, 0, [some (va_rf (some (ad u))), some (va_rf (some (ad v))), none], [], S) (some (.int (bI x)), S) ∧ (x = true ↔ cnl Z u = cnl Z v ∧ ∀ j, j < cnl Z u → zm Z u j = zm Z v j) := by
  obtain ⟨u1, u2, u3, u4, u5, u6, ⟨u7, u8, u9, u10⟩, u11, u12⟩ := CR_all h hu
  obtain ⟨v1, v2, v3, v4, v5, v6, ⟨v7, v8, v9, v10⟩, v11, v12⟩ := CR_all h hv
  have hu5 := (cl500 hZ hu).1
  have hv5 := (cl500 hZ hv).1
  have q : (nI (cnl Z u) = nI (cnl Z v)) ↔ cnl Z u = cnl Z v := nI_eq (by omega) (by omega)
  by_cases y : cnl Z u = cnl Z v
  · obtain ⟨x, g1, g2⟩ := c10in h hZ hu hv y (cnl Z u) 0 (by omega) (fun j hj => absurd hj (Nat.not_lt_zero j))
    have g1 : Ev (10, 17, [some (va_rf (some (ad u))), some (va_rf (some (ad v))), some (.int 0)], [], S) (some (.int (bI x)), S) := g1
    refine ⟨x, ?_, ⟨fun w => ⟨y, g2.mp w⟩, fun w => g2.mpr w.2⟩⟩
    have q2 : (nI (cnl Z u) = nI (cnl Z v)) = True := eq_true (q.mpr y)
    simp only [e10_0, e10_1, e10_4, e10_5, e10_6, e10_9, e10_10, e10_13, e10_14, e10_15, e10_16, Nat.zero_le, Nat.reduceAdd, Nat.reduceLeDiff, reduceIte, rf_c1, int_c1, none_c1, cat_nil, cat_int, cat_long, cat_rf, toList_s, toList_n, true_and, and_true, Option.some.injEq, exists_eq_left', exists_eq_left, reduceCtorEq, if_true, if_false, eq_self, u1, u4, u7, u8, v1, v4, v7, v8, q2]
    simpa using g1
  · refine ⟨false, ?_, ⟨fun w => (by cases w), fun w => absurd w.1 y⟩⟩
    have q2 : (nI (cnl Z u) = nI (cnl Z v)) = False := eq_false (fun w => y (q.mp w))
    have b1 : bI false = 0 := rfl
    rw [b1]
    simp only [e10_0, e10_1, e10_4, e10_5, e10_6, e10_9, e10_10, e10_13, e10_14, e10_15, e10_16, Nat.zero_le, Nat.reduceAdd, Nat.reduceLeDiff, reduceIte, rf_c1, int_c1, none_c1, cat_nil, cat_int, cat_long, cat_rf, toList_s, toList_n, true_and, and_true, Option.some.injEq, exists_eq_left', exists_eq_left, reduceCtorEq, if_true, if_false, eq_self, u1, u4, u7, u8, v1, v4, v7, v8, q2]
    all_goals simp
theorem c9 (h : CR S sh T wk ad na ha cur Z) (hZ : ZI Z) {u v : Nat} (hu : u < zn Z) (hv : v < zn Z) : ∃ x, Ev (9, 0, [some (va_rf (some (ad u))), some (va_rf (some (ad v)))], [], S) (some (.int (bI x)), S) ∧ (x = true ↔ lkZ Z u v) := by
  obtain ⟨u1, u2, u3, u4, u5, u6, ⟨u7, u8, u9, u10⟩, u11, u12⟩ := CR_all h hu
  obtain ⟨v1, v2, v3, v4, v5, v6, ⟨v7, v8, v9, v10⟩, v11, v12⟩ := CR_all h hv
  have hu5 := (cl500 hZ hu).2
  have hv5 := (cl500 hZ hv).2
  obtain ⟨ku, lu, su, eu⟩ := hZ.2.1 u hu
  obtain ⟨kv, lv, sv, ev⟩ := hZ.2.1 v hv
  have qk : (nI (zk Z u) = nI (zk Z v)) ↔ zk Z u = zk Z v := nI_eq (by omega) (by omega)
  have ql : (nI (chl Z u) = nI (chl Z v)) ↔ chl Z u = chl Z v := nI_eq (by omega) (by omega)
  have b1 : bI false = 0 := rfl
  have no : ¬ lkZ Z u v → Ev (9, 0, [some (va_rf (some (ad u))), some (va_rf (some (ad v)))], [], S) (some (.int 0), S) → ∃ x, Ev (9, 0, [some (va_rf (some (ad u))), some (va_rf (some (ad v)))], [], S) (some (.int (bI x)), S) ∧ (x = true ↔ lkZ Z u v) := fun hn he => ⟨false, he, ⟨fun w => (by cases w), fun w => absurd w hn⟩⟩
  by_cases y1 : zk Z u = zk Z v
  · have r1 : (nI (zk Z u) = nI (zk Z v)) = True := eq_true (qk.mpr y1)
    by_cases y2 : zv Z u = zv Z v
    · have r2 : (zv Z u = zv Z v) = True := eq_true y2
      by_cases y4 : chl Z u = chl Z v
      · have r4 : (nI (chl Z u) = nI (chl Z v)) = True := eq_true (ql.mpr y4)
        obtain ⟨x, g1, g2⟩ := c10 h hZ hu hv
        refine ⟨x, ?_, g2.trans ⟨fun w => ⟨y1, ?_, y2, w.2⟩, fun w => ⟨(lk_cnl w.1 w.2.1).1, w.2.2.2⟩⟩⟩
        · cases x with
          | true =>
            have b2 : bI true = 1 := rfl
            rw [b2] at g1 ⊢
            simp only [e9_0, e9_1, e9_4, e9_5, e9_8, e9_11, e9_12, e9_15, e9_16, e9_19, e9_22, e9_23, e9_24, e9_25, e9_28, e9_29, e9_30, e9_33, e9_34, e9_37, e9_38, e9_39, e9_42, e9_45, e9_46, e9_49, e9_50, Ev_is g1, Nat.zero_le, Nat.reduceAdd, Nat.reduceLeDiff, reduceIte, rf_c1, int_c1, none_c1, cat_nil, cat_int, cat_long, cat_rf, toList_s, toList_n, true_and, and_true, Option.some.injEq, exists_eq_left', exists_eq_left, reduceCtorEq, if_true, if_false, eq_self, u1, u2, u3, u5, u6, u9, u10, v1, v2, v3, v5, v6, v9, v10, r1, r2, r4]
            all_goals simp
          | false =>
            rw [b1] at g1 ⊢
            simp only [e9_0, e9_1, e9_4, e9_5, e9_8, e9_11, e9_12, e9_15, e9_16, e9_19, e9_22, e9_23, e9_24, e9_25, e9_28, e9_29, e9_30, e9_33, e9_34, e9_37, e9_38, e9_39, e9_42, e9_45, e9_46, e9_49, e9_50, Ev_is g1, Nat.zero_le, Nat.reduceAdd, Nat.reduceLeDiff, reduceIte, rf_c1, int_c1, none_c1, cat_nil, cat_int, cat_long, cat_rf, toList_s, toList_n, true_and, and_true, Option.some.injEq, exists_eq_left', exists_eq_left, reduceCtorEq, if_true, if_false, eq_self, u1, u2, u3, u5, u6, u9, u10, v1, v2, v3, v5, v6, v9, v10, r1, r2, r4]
            all_goals simp
        · have c1 := w.1
          have c2 := y4
          unfold cnl at c1
          unfold chl at c2
          rw [← y1] at c1 c2 sv ev
          by_cases z1 : zk Z u < 3
          · rw [if_pos z1, if_pos z1] at c1; exact c1
          · by_cases z2 : hook (zk Z u)
            · rw [if_pos z2, if_pos z2] at c2; exact c2
            · have z3 : zk Z u = 8 := by
                have : ¬ (3 ≤ zk Z u ∧ zk Z u ≤ 7) := z2
                omega
              rw [eu z3, ev z3]
      · have r4 : (nI (chl Z u) = nI (chl Z v)) = False := eq_false (fun w => y4 (ql.mp w))
        refine no (fun w => y4 (lk_cnl w.1 w.2.1).2) ?_
        simp only [e9_0, e9_1, e9_4, e9_5, e9_8, e9_11, e9_12, e9_15, e9_16, e9_19, e9_22, e9_23, e9_24, e9_25, e9_28, e9_29, e9_30, e9_33, e9_34, e9_37, e9_38, e9_39, e9_42, e9_45, e9_46, e9_49, e9_50, Nat.zero_le, Nat.reduceAdd, Nat.reduceLeDiff, reduceIte, rf_c1, int_c1, none_c1, cat_nil, cat_int, cat_long, cat_rf, toList_s, toList_n, true_and, and_true, Option.some.injEq, exists_eq_left', exists_eq_left, reduceCtorEq, if_true, if_false, eq_self, u1, u2, u3, u5, u6, u9, u10, v1, v2, v3, v5, v6, v9, v10, r1, r2, r4]
        all_goals simp
    · refine no (fun w => y2 w.2.2.1) ?_
      simp only [e9_0, e9_1, e9_4, e9_5, e9_8, e9_11, e9_12, e9_15, e9_16, e9_19, e9_22, e9_23, e9_24, e9_25, e9_28, e9_29, e9_30, e9_33, e9_34, e9_37, e9_38, e9_39, e9_42, e9_45, e9_46, e9_49, e9_50, Nat.zero_le, Nat.reduceAdd, Nat.reduceLeDiff, reduceIte, rf_c1, int_c1, none_c1, cat_nil, cat_int, cat_long, cat_rf, toList_s, toList_n, true_and, and_true, Option.some.injEq, exists_eq_left', exists_eq_left, reduceCtorEq, if_true, if_false, eq_self, u1, u2, u3, u5, u6, u9, u10, v1, v2, v3, v5, v6, v9, v10, r1, y2]
      all_goals simp
  · have r1 : (nI (zk Z u) = nI (zk Z v)) = False := eq_false (fun w => y1 (qk.mp w))
    refine no (fun w => y1 w.1) ?_
    simp only [e9_0, e9_1, e9_4, e9_5, e9_8, e9_11, e9_12, e9_15, e9_16, e9_19, e9_22, e9_23, e9_24, e9_25, e9_28, e9_29, e9_30, e9_33, e9_34, e9_37, e9_38, e9_39, e9_42, e9_45, e9_46, e9_49, e9_50, Nat.zero_le, Nat.reduceAdd, Nat.reduceLeDiff, reduceIte, rf_c1, int_c1, none_c1, cat_nil, cat_int, cat_long, cat_rf, toList_s, toList_n, true_and, and_true, Option.some.injEq, exists_eq_left', exists_eq_left, reduceCtorEq, if_true, if_false, eq_self, u1, u2, u3, u5, u6, u9, u10, v1, v2, v3, v5, v6, v9, v10, r1]
    all_goals simp
/-- the groups as the things' links show them -/
def UM (S : ns_St) (sh T wk : Nat) (ad na ha : Nat → Nat) (cur : Nat) (Z : Zs) (mt : Nat) (W : Nat → Prop) (ld : Nat → Option Nat) (J : List Nat) : Prop := CR S sh T wk ad na ha cur Z ∧ ns_k S mt = 1 ∧ (∀ u, W u → fR S 114 (ad u) = (ld u).map ad ∧ fR S 116 (ad u) = (J[J.idxOf u + 1]?).map ad) ∧ fR S 0 mt = J.getLast?.map ad
variable {W : Nat → Prop} {ld : Nat → Option Nat} {J : List Nat} {mt : Nat}
theorem Uf_len (hU : Uf (zn Z) W ld J) (hZ : ZI Z) : J.length < 2000 := by
  by_cases y : J = []
  · rw [y]; decide
  · have := hU.2.2.2.2 y
    have := hZ.1
    omega
theorem c4in (h : UM S sh T wk ad na ha cur Z mt W ld J) (hZ : ZI Z) (hU : Uf (zn Z) W ld J) (a0 : Nat) : ∀ (d u r i : Nat), J.length ≤ J.idxOf u + d → i ≤ J.idxOf u → W u → Rt ld u r → Ev (4, 4, [some (va_rf (some a0)), some (va_rf (some (ad u))), some (.int (nI i))], [], S) (some (va_rf (some (ad r))), S) := by
  have hJ := Uf_len hU hZ
  intro d
  induction d with
  | zero =>
    intro u r i hd hi hu hr
    have ku := CR_k h.1 (hU.2.2.2.1 u hu)
    have l1 := (h.2.2.1 u hu).1
    have hle := List.idxOf_le_length (a := u) (l := J)
    have z : ¬ (2000 : Int32) ≤ nI i := nI_ge (b := 2000) (by omega) (by omega)
    rcases Rt_inv hr with ⟨e, rfl⟩ | ⟨v, e, hv⟩
    · rw [e] at l1
      rw [e4_4]
      simp only [e4_5, e4_8, e4_11, e4_12, e4_15, e4_18, e4_19, e4_22, e4_23, e4_26, e4_29, e4_30, Nat.zero_le, Nat.reduceAdd, Nat.reduceLeDiff, reduceIte, rf_c1, int_c1, none_c1, cat_nil, cat_int, cat_long, cat_rf, toList_s, toList_n, true_and, and_true, Option.some.injEq, exists_eq_left', exists_eq_left, reduceCtorEq, if_true, if_false, eq_self, z, ku, l1, Option.map_none]
    · exfalso
      have h1 := (hU.1 u v e).1
      have h2 := List.idxOf_le_length (a := v) (l := J)
      omega
  | succ d ih =>
    intro u r i hd hi hu hr
    have ku := CR_k h.1 (hU.2.2.2.1 u hu)
    have l1 := (h.2.2.1 u hu).1
    have hle := List.idxOf_le_length (a := u) (l := J)
    have z : ¬ (2000 : Int32) ≤ nI i := nI_ge (b := 2000) (by omega) (by omega)
    rcases Rt_inv hr with ⟨e, rfl⟩ | ⟨v, e, hv⟩
    · rw [e] at l1
      rw [e4_4]
      simp only [e4_5, e4_8, e4_11, e4_12, e4_15, e4_18, e4_19, e4_22, e4_23, e4_26, e4_29, e4_30, Nat.zero_le, Nat.reduceAdd, Nat.reduceLeDiff, reduceIte, rf_c1, int_c1, none_c1, cat_nil, cat_int, cat_long, cat_rf, toList_s, toList_n, true_and, and_true, Option.some.injEq, exists_eq_left', exists_eq_left, reduceCtorEq, if_true, if_false, eq_self, z, ku, l1, Option.map_none]
    · obtain ⟨h1, h2, h3⟩ := hU.1 u v e
      have g := ih v r (i + 1) (by omega) (by omega) h3 hv
      rw [e] at l1
      rw [e4_4]
      simp only [e4_5, e4_8, e4_11, e4_12, e4_15, e4_18, e4_19, e4_22, e4_23, e4_26, e4_29, e4_30, Nat.zero_le, Nat.reduceAdd, Nat.reduceLeDiff, reduceIte, rf_c1, int_c1, none_c1, cat_nil, cat_int, cat_long, cat_rf, toList_s, toList_n, true_and, and_true, Option.some.injEq, exists_eq_left', exists_eq_left, reduceCtorEq, if_true, if_false, eq_self, z, ku, l1, Option.map_some, nI_1]
      simpa using g
theorem c4 (h : UM S sh T wk ad na ha cur Z mt W ld J) (hZ : ZI Z) (hU : Uf (zn Z) W ld J) {u r : Nat} (hu : W u) (hr : Rt ld u r) : Ev (4, 0, [some (va_rf (some (ad u))), none, none], [], S) (some (va_rf (some (ad r))), S) := by
  have g := c4in h hZ hU (ad u) J.length u r 0 (by omega) (by omega) hu hr
  have g : Ev (4, 4, [some (va_rf (some (ad u))), some (va_rf (some (ad u))), some (.int 0)], [], S) (some (va_rf (some (ad r))), S) := g
  simp only [e4_0, e4_1, e4_2, e4_3, Nat.zero_le, Nat.reduceAdd, Nat.reduceLeDiff, reduceIte, rf_c1, int_c1, none_c1, cat_nil, cat_int, cat_long, cat_rf, toList_s, toList_n, true_and, and_true, Option.some.injEq, exists_eq_left', exists_eq_left, reduceCtorEq, if_true, if_false, eq_self]
  exact g
end CEQ
