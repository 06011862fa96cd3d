/-! ===== the class and the shelf: make, token ===== -/
section CMAKE
variable {S : ns_St} {sh T wk cur : Nat} {ad na ha : Nat → Nat} {Z : Zs}
/-- a thing with fresh rows, as make and token build it (in whatever order) -/
theorem CT_new (hZ : ZI Z) {a b c k l : Nat} {v : Int32} (hk : k ≤ 8) (hl8 : k = 8 → l = 0) (hv : k < 7 → v = 0) (h1 : ns_k S a = 2) (h2 : fI S 100 a = nI (zn Z)) (h3 : fI S 101 a = nI k) (h4 : fI S 102 a = v) (h5 : fR S 103 a = some b) (h6 : fR S 104 a = some c) (h7 : fJ S 105 a = v.toInt64) (h8 : fI S 106 a = 0) (h9 : ns_k S b = 7) (h10 : ns_n S b = if k < 3 then l else 0) (h11 : ns_k S c = 8) (h12 : ns_n S c = if hook k then l else 0) (h13 : ∀ j, aJ S b j = 0) (h14 : ∀ j, aR S c j = none) : CT S (va_up ad (zn Z) a) (va_up na (zn Z) b) (va_up ha (zn Z) c) cur (wN Z k l v (fun _ => 0) (fun _ => none)) (zn Z) := by
  have z0 : ∀ n, sumL (fun _ => 0) n = 0 := by
    intro n
    induction n with
    | zero => rfl
    | succ n ih =>
      show sumL (fun _ => 0) n + 0 = 0
      rw [ih]
      rfl
  have e3 : own (wN Z k l v (fun _ => 0) (fun _ => none)) (zn Z) = v.toInt64 := by
    show (if va_up (zk Z) (zn Z) k (zn Z) < 3 then sumL (va_up (zm Z) (zn Z) (fun _ => 0) (zn Z)) (va_up (zl Z) (zn Z) l (zn Z)) else if 7 ≤ va_up (zk Z) (zn Z) k (zn Z) then (va_up (zv Z) (zn Z) v (zn Z)).toInt64 else 0) = _
    simp only [va_up_self, z0]
    by_cases y : k < 3
    · rw [if_pos y, hv (by omega)]; rfl
    · rw [if_neg y]
      by_cases y2 : 7 ≤ k
      · rw [if_pos y2]
      · rw [if_neg y2, hv (by omega)]; rfl
  have e1 : cnl (wN Z k l v (fun _ => 0) (fun _ => none)) (zn Z) = if k < 3 then l else 0 := by
    show (if va_up (zk Z) (zn Z) k (zn Z) < 3 then va_up (zl Z) (zn Z) l (zn Z) else 0) = _
    simp only [va_up_self]
  have e2 : chl (wN Z k l v (fun _ => 0) (fun _ => none)) (zn Z) = if hook k then l else 0 := by
    show (if hook (va_up (zk Z) (zn Z) k (zn Z)) then va_up (zl Z) (zn Z) l (zn Z) else 0) = _
    simp only [va_up_self]
  unfold CT
  rw [e1, e2, e3, wN_zk, wN_zv, wN_zm, wN_zh]
  simp only [va_up_self]
  exact ⟨h1, h2, h3, h4, h5, h6, h7, ⟨0, Nat.zero_le _, h8⟩, ⟨h9, h10, h11, h12⟩, fun j _ => h13 j, fun j _ => h14 j⟩
theorem c_fresh (h : CR S sh T wk ad na ha cur Z) : (∀ i, i < zn Z → ∀ x, ns_z S ≤ x → ad i ≠ x ∧ na i ≠ x ∧ ha i ≠ x) ∧ ∀ x, ns_z S ≤ x → x ≠ T ∧ x ≠ sh ∧ x ≠ wk := by
  obtain ⟨⟨s1, s2, s3, s4, s5, s6, s7, s8, s9⟩, hT, i1, i2, i3, i4⟩ := id h
  refine ⟨fun i hi x hx => ?_, fun x hx => ?_⟩
  · obtain ⟨-, t1, -, -, -, -, -, -, -, ⟨t9, -, t11, -⟩, -⟩ := hT i hi
    have a1 := klt t1 (by decide)
    have a2 := klt t9 (by decide)
    have a3 := klt t11 (by decide)
    exact ⟨by omega, by omega, by omega⟩
  · have a1 := klt s1 (by decide)
    have a2 := klt s6 (by decide)
    have a3 := klt s8 (by decide)
    exact ⟨by omega, by omega, by omega⟩
/-- what a call that may make things hands on -/
def CX (S : ns_St) (sh T wk : Nat) (ad na ha : Nat → Nat) (cur : Nat) (Z : Zs) (S' : ns_St) (Z' : Zs) : Prop := (∃ ad' na' ha', CR S' sh T wk ad' na' ha' cur Z') ∧ ns_z S' ≤ ns_z S + 3 * (zn Z' - zn Z) ∧ ns_s S' ≤ ns_s S + 600 * (zn Z' - zn Z)
theorem CX_0 (h : CR S sh T wk ad na ha cur Z) : CX S sh T wk ad na ha cur Z S Z := ⟨⟨ad, na, ha, h⟩, Nat.le_add_right _ _, Nat.le_add_right _ _⟩
theorem mk_thing (h : CR S sh T wk ad na ha cur Z) (hZ : ZI Z) {S3 S4 : ns_St} {a b c k l : Nat} {v : Int32} (hS4 : S4 = ini5 S3 a (nI (zn Z)) (nI k) v (some b) (some c)) (ex : EX S S3) (qa : ns_z S ≤ a) (qb : ns_z S ≤ b) (qc : ns_z S ≤ c) (hk : k ≤ 8) (hl8 : k = 8 → l = 0) (hv : k < 7 → v = 0) (h1 : ns_k S3 a = 2) (h8 : fI S3 106 a = 0) (h9 : ns_k S3 b = 7) (h10 : ns_n S3 b = if k < 3 then l else 0) (h11 : ns_k S3 c = 8) (h12 : ns_n S3 c = if hook k then l else 0) (h13 : ∀ j, aJ S3 b j = 0) (h14 : ∀ j, aR S3 c j = none) :
    CR S4 sh T wk ad na ha cur Z ∧ ns_k S4 a = 2 ∧ fI S4 100 a = nI (zn Z) ∧ CR (shv S4 sh T (zn Z) a) sh T wk (va_up ad (zn Z) a) (va_up na (zn Z) b) (va_up ha (zn Z) c) cur (wN Z k l v (fun _ => 0) (fun _ => none)) := by
  have ex4 : EX S S4 := by rw [hS4]; exact (((((ex.pI qa _).pI qa _).pI qa _).pR qa _).pR qa _).pJ qa _
  have h4 := CR_EX h ex4
  have e1 : ns_k S4 = ns_k S3 := by rw [hS4]; rfl
  have e2 : ns_n S4 = ns_n S3 := by rw [hS4]; rfl
  have e3 : aJ S4 = aJ S3 := by rw [hS4]; rfl
  have e4 : aR S4 = aR S3 := by rw [hS4]; rfl
  have f100 : fI S4 100 a = nI (zn Z) := by rw [hS4]; simp [pI_fI, pR_fI, pJ_fI]
  have f101 : fI S4 101 a = nI k := by rw [hS4]; simp [pI_fI, pR_fI, pJ_fI]
  have f102 : fI S4 102 a = v := by rw [hS4]; simp [pI_fI, pR_fI, pJ_fI]
  have f106 : fI S4 106 a = 0 := by rw [hS4]; simp [pI_fI, pR_fI, pJ_fI, h8]
  have f103 : fR S4 103 a = some b := by rw [hS4]; simp [pR_fR, pJ_fR]
  have f104 : fR S4 104 a = some c := by rw [hS4]; simp [pR_fR, pJ_fR]
  have f105 : fJ S4 105 a = v.toInt64 := by rw [hS4]; simp [pJ_fJ]
  have hct : CT S4 (va_up ad (zn Z) a) (va_up na (zn Z) b) (va_up ha (zn Z) c) cur (wN Z k l v (fun _ => 0) (fun _ => none)) (zn Z) :=
    CT_new hZ hk hl8 hv (by rw [e1]; exact h1) f100 f101 f102 f103 f104 f105 f106 (by rw [e1]; exact h9) (by rw [e2]; exact h10) (by rw [e1]; exact h11) (by rw [e2]; exact h12) (by rw [e3]; exact h13) (by rw [e4]; exact h14)
  obtain ⟨g1, g2⟩ := c_fresh h
  exact ⟨h4, by rw [e1]; exact h1, f100, CR_shelve (f := fun _ => 0) (hh := fun _ => none) h4 hZ (fun i hi => (g1 i hi _ qa).1) (fun i hi => (g1 i hi _ qb).2.1) (fun i hi => (g1 i hi _ qc).2.2) (g2 _ qc).1 (fun _ _ _ q => by cases q) hct⟩
theorem c37' (h : CR S sh T wk ad na ha cur Z) (hZ : ZI Z) (r : ns_Rs) : Ev (37, 0, [some (va_rf (some sh)), some (.int 1)], [], S) r ↔ r = (some (.int (if zn Z + 1 ≤ 2000 then 1 else 0)), S) := c37 h hZ (k := 1) (by omega)
theorem c_make_go (h : CR S sh T wk ad na ha cur Z) (hZ : ZI Z) (hlt : zn Z < 2000) {k n l1 l2 : Nat} (hk : k ≤ 6) (hn : n ≤ 500) (hl1 : l1 = if k < 3 then n else 0) (hl2 : l2 = if k < 3 then 0 else n) {S4 : ns_St} (hS4 : S4 = ini5 (nO (nA (nA S 7 l1) 8 l2) 1 17) (ns_z S + 2) (nI (zn Z)) (nI k) 0 (some (ns_z S)) (some (ns_z S + 1))) (h4 : CR S4 sh T wk ad na ha cur Z) (a1 : ns_k S4 (ns_z S + 2) = 2) (a2 : fI S4 100 (ns_z S + 2) = nI (zn Z)) : Ev (17, 0, [some (va_rf (some sh)), some (.int (nI k)), some (.int (nI n)), none, none, none], [], S) (some (.int (nI (zn Z))), shv S4 sh T (zn Z) (ns_z S + 2)) := by
  obtain ⟨⟨s1, s2, s3, s4, s5, s6, s7, s8, s9⟩, -⟩ := id h
  have x1 : ¬ nI k < 0 := nI_pos (by omega)
  have x2 : ¬ (6 : Int32) < nI k := by rw [kf_6lt (by omega)]; omega
  have x2' : nI k ≤ (6 : Int32) := Int32.not_lt.mp x2
  have x3 : ¬ (500 : Int32) < nI n := nI_nlt (a := 500) hn (by omega)
  have x4 : zn Z + 1 ≤ 2000 := hlt
  have x5 : ¬ nI n < 0 := nI_pos (by omega)
  have x6 : 0 ≤ nI n := nI_pos' (by omega)
  have k8 : k ≤ 8 := by omega
  have c39' := fun (r : ns_Rs) => c39 (S := S) (r := r) k8
  have hkS : ns_k S sh ≠ 0 := by omega
  have sz : sh < ns_z S := klt s1 (by decide)
  have y2 : (nI n).toNatClampNeg = n := nI_clamp (by omega)
  have y3 : n ≤ 1000000 := by omega
  have y0 : (0 : Int32).toNatClampNeg = 0 := rfl
  have y4 : ¬ (0 : Int32) < 0 := by decide
  have e302 : ¬ sh = ns_z S := by omega
  have e303 : ¬ sh = ns_z S + 1 := by omega
  have e304 : ¬ sh = ns_z S + 1 + 1 := by omega
  have fin : ∀ r1 : ns_Rs, Ev (5, 0, [some (va_rf (some (ns_z S + 1 + 1))), some (.int (nI (zn Z))), some (.int (nI k)), some (.int 0), some (va_rf (some (ns_z S))), some (va_rf (some (ns_z S + 1)))], [], nO (nA (nA S 7 l1) 8 l2) 1 17) r1 ↔ r1 = (none, S4) := by
    intro r1
    rw [hS4]
    exact c5 (by rw [nO_ns_k]; exact if_pos rfl)
  have fin2 := fun r1 => c38 (r := r1) h4 hZ hlt a1
  rw [a2] at fin2
  have fin2 : ∀ r1 : ns_Rs, Ev (38, 0, [some (va_rf (some sh)), some (va_rf (some (ns_z S + 1 + 1)))], [], S4) r1 ↔ r1 = (some (.int (nI (zn Z))), shv S4 sh T (zn Z) (ns_z S + 2)) := fin2
  have s1' : ns_k S4 sh = 4 := h4.1.1
  by_cases w : k < 3
  · rw [if_pos w] at hl1 hl2
    subst hl1
    subst hl2
    simp only [e17_0, e17_1, e17_4, e17_5, e17_7, e17_10, e17_11, e17_12, e17_13, e17_16, e17_19, e17_20, e17_21, e17_24, e17_27, e17_29, e17_30, e17_31, e17_34, e17_36, e17_37, e17_38, e17_41, e17_42, e17_43, e17_46, e17_47, e17_50, e17_51, e17_53, e17_55, e17_56, e17_59, e17_60, e17_63, e17_64, e17_67, e17_69, e17_70, e17_73, e17_74, e17_75, e17_78, e17_79, e17_80, e17_82, e17_84, e17_87, e17_90, c37' h hZ, c39', pI_ns_z, pI_ns_s, pI_ns_k, pI_ns_n, pI_fI, pI_fJ, pI_fR, pI_aI, pI_aJ, pI_aR, pJ_ns_z, pJ_ns_s, pJ_ns_k, pJ_ns_n, pJ_fI, pJ_fJ, pJ_fR, pJ_aI, pJ_aJ, pJ_aR, pR_ns_z, pR_ns_s, pR_ns_k, pR_ns_n, pR_fI, pR_fJ, pR_fR, pR_aI, pR_aJ, pR_aR, qI_ns_z, qI_ns_s, qI_ns_k, qI_ns_n, qI_fI, qI_fJ, qI_fR, qI_aI, qI_aJ, qI_aR, qJ_ns_z, qJ_ns_s, qJ_ns_k, qJ_ns_n, qJ_fI, qJ_fJ, qJ_fR, qJ_aI, qJ_aJ, qJ_aR, qR_ns_z, qR_ns_s, qR_ns_k, qR_ns_n, qR_fI, qR_fJ, qR_fR, qR_aI, qR_aJ, qR_aR, nO_ns_z, nO_ns_s, nO_ns_k, nO_ns_n, nO_fI, nO_fJ, nO_fR, nO_aI, nO_aJ, nO_aR, nA_ns_z, nA_ns_s, nA_ns_k, nA_ns_n, nA_fI, nA_fJ, nA_fR, nA_aI, nA_aJ, nA_aR, nC_ns_z, nC_ns_s, nC_ns_k, nC_ns_n, nC_fI, nC_fJ, nC_fR, nC_aI, nC_aJ, nC_aR, Nat.zero_le, Nat.reduceAdd, Nat.reduceLeDiff, reduceIte, rf_c1, int_c1, none_c1, cat_nil, cat_int, cat_long, cat_rf, toList_s, toList_n, true_and, and_true, Option.some.injEq, exists_eq_left', exists_eq_left, reduceCtorEq, if_true, if_false, eq_self, s1, s4, x1, x2, x2', x3, x4, x5, x6, w, y0, y2, y3, y4, not_false_eq_true, and_self, e302, e303, e304, fin, fin2, s1']
    simp
  · rw [if_neg w] at hl1 hl2
    subst hl1
    subst hl2
    simp only [e17_0, e17_1, e17_4, e17_5, e17_7, e17_10, e17_11, e17_12, e17_13, e17_16, e17_19, e17_20, e17_21, e17_24, e17_27, e17_29, e17_30, e17_31, e17_34, e17_36, e17_37, e17_38, e17_41, e17_42, e17_43, e17_46, e17_47, e17_50, e17_51, e17_53, e17_55, e17_56, e17_59, e17_60, e17_63, e17_64, e17_67, e17_69, e17_70, e17_73, e17_74, e17_75, e17_78, e17_79, e17_80, e17_82, e17_84, e17_87, e17_90, c37' h hZ, c39', pI_ns_z, pI_ns_s, pI_ns_k, pI_ns_n, pI_fI, pI_fJ, pI_fR, pI_aI, pI_aJ, pI_aR, pJ_ns_z, pJ_ns_s, pJ_ns_k, pJ_ns_n, pJ_fI, pJ_fJ, pJ_fR, pJ_aI, pJ_aJ, pJ_aR, pR_ns_z, pR_ns_s, pR_ns_k, pR_ns_n, pR_fI, pR_fJ, pR_fR, pR_aI, pR_aJ, pR_aR, qI_ns_z, qI_ns_s, qI_ns_k, qI_ns_n, qI_fI, qI_fJ, qI_fR, qI_aI, qI_aJ, qI_aR, qJ_ns_z, qJ_ns_s, qJ_ns_k, qJ_ns_n, qJ_fI, qJ_fJ, qJ_fR, qJ_aI, qJ_aJ, qJ_aR, qR_ns_z, qR_ns_s, qR_ns_k, qR_ns_n, qR_fI, qR_fJ, qR_fR, qR_aI, qR_aJ, qR_aR, nO_ns_z, nO_ns_s, nO_ns_k, nO_ns_n, nO_fI, nO_fJ, nO_fR, nO_aI, nO_aJ, nO_aR, nA_ns_z, nA_ns_s, nA_ns_k, nA_ns_n, nA_fI, nA_fJ, nA_fR, nA_aI, nA_aJ, nA_aR, nC_ns_z, nC_ns_s, nC_ns_k, nC_ns_n, nC_fI, nC_fJ, nC_fR, nC_aI, nC_aJ, nC_aR, Nat.zero_le, Nat.reduceAdd, Nat.reduceLeDiff, reduceIte, rf_c1, int_c1, none_c1, cat_nil, cat_int, cat_long, cat_rf, toList_s, toList_n, true_and, and_true, Option.some.injEq, exists_eq_left', exists_eq_left, reduceCtorEq, if_true, if_false, eq_self, s1, s4, x1, x2, x2', x3, x4, x5, x6, w, y0, y2, y3, y4, not_false_eq_true, and_self, e302, e303, e304, fin, fin2, s1']
    simp
theorem c_make (h : CR S sh T wk ad na ha cur Z) (hZ : ZI Z) (k n : Int32) : ∃ S', Ev (17, 0, [some (va_rf (some sh)), some (.int k), some (.int n), none, none, none], [], S) (some (.int (o_make Z k n).1), S') ∧ CX S sh T wk ad na ha cur Z S' (o_make Z k n).2 := by
  obtain ⟨⟨s1, s2, s3, s4, s5, s6, s7, s8, s9⟩, hT, i1, i2, i3, i4⟩ := id h
  have hn := hZ.1
  by_cases x1 : k < 0
  · refine ⟨S, ?_, by simp [o_make, x1]; exact CX_0 h⟩
    simp only [e17_0, e17_1, e17_4, e17_5, e17_7, e17_10, e17_11, e17_12, e17_13, e17_16, e17_19, e17_20, e17_21, e17_24, e17_27, e17_29, e17_30, e17_31, e17_34, e17_36, e17_37, e17_38, e17_41, e17_42, e17_43, e17_46, e17_47, e17_50, e17_51, e17_53, e17_55, e17_56, e17_59, e17_60, e17_63, e17_64, e17_67, e17_69, e17_70, e17_73, e17_74, e17_75, e17_78, e17_79, e17_80, e17_82, e17_84, e17_87, e17_90, Nat.zero_le, Nat.reduceAdd, Nat.reduceLeDiff, reduceIte, rf_c1, int_c1, none_c1, cat_nil, cat_int, cat_long, cat_rf, toList_s, toList_n, true_and, and_true, Option.some.injEq, exists_eq_left', exists_eq_left, reduceCtorEq, if_true, if_false, eq_self, s1, x1, o_make, true_or]
  by_cases x2 : 6 < k
  · refine ⟨S, ?_, by simp [o_make, x1, x2]; exact CX_0 h⟩
    have x2' : ¬ k ≤ 6 := Int32.not_le.mpr x2
    simp only [e17_0, e17_1, e17_4, e17_5, e17_7, e17_10, e17_11, e17_12, e17_13, e17_16, e17_19, e17_20, e17_21, e17_24, e17_27, e17_29, e17_30, e17_31, e17_34, e17_36, e17_37, e17_38, e17_41, e17_42, e17_43, e17_46, e17_47, e17_50, e17_51, e17_53, e17_55, e17_56, e17_59, e17_60, e17_63, e17_64, e17_67, e17_69, e17_70, e17_73, e17_74, e17_75, e17_78, e17_79, e17_80, e17_82, e17_84, e17_87, e17_90, Nat.zero_le, Nat.reduceAdd, Nat.reduceLeDiff, reduceIte, rf_c1, int_c1, none_c1, cat_nil, cat_int, cat_long, cat_rf, toList_s, toList_n, true_and, and_true, Option.some.injEq, exists_eq_left', exists_eq_left, reduceCtorEq, if_true, if_false, eq_self, s1, x1, x2, x2', o_make, or_true]
  have x2' : k ≤ 6 := Int32.not_lt.mp x2
  by_cases x3 : 500 < n
  · refine ⟨S, ?_, by simp [o_make, x1, x2, x3]; exact CX_0 h⟩
    simp only [e17_0, e17_1, e17_4, e17_5, e17_7, e17_10, e17_11, e17_12, e17_13, e17_16, e17_19, e17_20, e17_21, e17_24, e17_27, e17_29, e17_30, e17_31, e17_34, e17_36, e17_37, e17_38, e17_41, e17_42, e17_43, e17_46, e17_47, e17_50, e17_51, e17_53, e17_55, e17_56, e17_59, e17_60, e17_63, e17_64, e17_67, e17_69, e17_70, e17_73, e17_74, e17_75, e17_78, e17_79, e17_80, e17_82, e17_84, e17_87, e17_90, Nat.zero_le, Nat.reduceAdd, Nat.reduceLeDiff, reduceIte, rf_c1, int_c1, none_c1, cat_nil, cat_int, cat_long, cat_rf, toList_s, toList_n, true_and, and_true, Option.some.injEq, exists_eq_left', exists_eq_left, reduceCtorEq, if_true, if_false, eq_self, s1, x1, x2, x2', x3, o_make, or_self, true_or]
  by_cases x4 : zn Z = 2000
  · refine ⟨S, ?_, by simp [o_make, x1, x2, x3, x4]; exact CX_0 h⟩
    have x4' : ¬ zn Z + 1 ≤ 2000 := by omega
    simp only [e17_0, e17_1, e17_4, e17_5, e17_7, e17_10, e17_11, e17_12, e17_13, e17_16, e17_19, e17_20, e17_21, e17_24, e17_27, e17_29, e17_30, e17_31, e17_34, e17_36, e17_37, e17_38, e17_41, e17_42, e17_43, e17_46, e17_47, e17_50, e17_51, e17_53, e17_55, e17_56, e17_59, e17_60, e17_63, e17_64, e17_67, e17_69, e17_70, e17_73, e17_74, e17_75, e17_78, e17_79, e17_80, e17_82, e17_84, e17_87, e17_90, c37' h hZ, Nat.zero_le, Nat.reduceAdd, Nat.reduceLeDiff, reduceIte, rf_c1, int_c1, none_c1, cat_nil, cat_int, cat_long, cat_rf, toList_s, toList_n, true_and, and_true, Option.some.injEq, exists_eq_left', exists_eq_left, reduceCtorEq, if_true, if_false, eq_self, s1, x1, x2, x2', x3, x4', o_make, or_self]
    simp [x4]
  by_cases x5 : n < 0
  · refine ⟨S, ?_, by simp [o_make, x1, x2, x3, x4, x5]; exact CX_0 h⟩
    have x6 : ¬ 0 ≤ n := Int32.not_le.mpr x5
    have x4' : zn Z + 1 ≤ 2000 := by omega
    simp only [e17_0, e17_1, e17_4, e17_5, e17_7, e17_10, e17_11, e17_12, e17_13, e17_16, e17_19, e17_20, e17_21, e17_24, e17_27, e17_29, e17_30, e17_31, e17_34, e17_36, e17_37, e17_38, e17_41, e17_42, e17_43, e17_46, e17_47, e17_50, e17_51, e17_53, e17_55, e17_56, e17_59, e17_60, e17_63, e17_64, e17_67, e17_69, e17_70, e17_73, e17_74, e17_75, e17_78, e17_79, e17_80, e17_82, e17_84, e17_87, e17_90, c37' h hZ, Nat.zero_le, Nat.reduceAdd, Nat.reduceLeDiff, reduceIte, rf_c1, int_c1, none_c1, cat_nil, cat_int, cat_long, cat_rf, toList_s, toList_n, true_and, and_true, Option.some.injEq, exists_eq_left', exists_eq_left, reduceCtorEq, if_true, if_false, eq_self, s1, x1, x2, x2', x3, x4, x4', x5, x6, o_make, or_self]
    simp
  obtain ⟨k', hk', rfl⟩ := nI_of2 (M := 6) (n := 6) rfl x1 (Int32.not_lt.mp x2)
  obtain ⟨n', hn', rfl⟩ := nI_of2 (M := 500) (n := 500) rfl x5 (Int32.not_lt.mp x3)
  have y1 : (nI k').toNatClampNeg = k' := nI_clamp (by omega)
  have y2 : (nI n').toNatClampNeg = n' := nI_clamp (by omega)
  have o1 : o_make Z (nI k') (nI n') = (nI (zn Z), wN Z k' n' 0 (fun _ => 0) (fun _ => none)) := by simp [o_make, x1, x2, x3, x4, x5, y1, y2]
  obtain ⟨l1, hl1⟩ : ∃ l1, l1 = if k' < 3 then n' else 0 := ⟨_, rfl⟩
  obtain ⟨l2, hl2⟩ : ∃ l2, l2 = if k' < 3 then 0 else n' := ⟨_, rfl⟩
  have hl3 : l1 + l2 = n' := by by_cases w : k' < 3 <;> simp [w] at hl1 hl2 <;> omega
  obtain ⟨S4, hS4⟩ : ∃ S4, S4 = ini5 (nO (nA (nA S 7 l1) 8 l2) 1 17) (ns_z S + 2) (nI (zn Z)) (nI k') 0 (some (ns_z S)) (some (ns_z S + 1)) := ⟨_, rfl⟩
  have n1 : ¬ ns_z S + 1 = ns_z S := by omega
  have n2 : ¬ ns_z S = ns_z S + 1 + 1 := by omega
  have n3 : ¬ ns_z S + 1 = ns_z S + 1 + 1 := by omega
  have n4 : ¬ ns_z S = ns_z S + 1 := by omega
  obtain ⟨h4, a1, a2, hcr⟩ := mk_thing (k := k') (l := n') h hZ hS4 (((EX.rf.nA 7 l1).nA 8 l2).nO 1 17) (by omega) (by omega) (by omega) (by omega) (by omega) (fun _ => rfl) (by rw [nO_ns_k]; exact if_pos rfl) (by rw [nO_fI]; exact if_pos rfl) (by simp only [pI_ns_z, pI_ns_s, pI_ns_k, pI_ns_n, pI_fI, pI_fJ, pI_fR, pI_aI, pI_aJ, pI_aR, pJ_ns_z, pJ_ns_s, pJ_ns_k, pJ_ns_n, pJ_fI, pJ_fJ, pJ_fR, pJ_aI, pJ_aJ, pJ_aR, pR_ns_z, pR_ns_s, pR_ns_k, pR_ns_n, pR_fI, pR_fJ, pR_fR, pR_aI, pR_aJ, pR_aR, qI_ns_z, qI_ns_s, qI_ns_k, qI_ns_n, qI_fI, qI_fJ, qI_fR, qI_aI, qI_aJ, qI_aR, qJ_ns_z, qJ_ns_s, qJ_ns_k, qJ_ns_n, qJ_fI, qJ_fJ, qJ_fR, qJ_aI, qJ_aJ, qJ_aR, qR_ns_z, qR_ns_s, qR_ns_k, qR_ns_n, qR_fI, qR_fJ, qR_fR, qR_aI, qR_aJ, qR_aR, nO_ns_z, nO_ns_s, nO_ns_k, nO_ns_n, nO_fI, nO_fJ, nO_fR, nO_aI, nO_aJ, nO_aR, nA_ns_z, nA_ns_s, nA_ns_k, nA_ns_n, nA_fI, nA_fJ, nA_fR, nA_aI, nA_aJ, nA_aR, nC_ns_z, nC_ns_s, nC_ns_k, nC_ns_n, nC_fI, nC_fJ, nC_fR, nC_aI, nC_aJ, nC_aR, n2, n4, if_false, if_true]) (by simp only [pI_ns_z, pI_ns_s, pI_ns_k, pI_ns_n, pI_fI, pI_fJ, pI_fR, pI_aI, pI_aJ, pI_aR, pJ_ns_z, pJ_ns_s, pJ_ns_k, pJ_ns_n, pJ_fI, pJ_fJ, pJ_fR, pJ_aI, pJ_aJ, pJ_aR, pR_ns_z, pR_ns_s, pR_ns_k, pR_ns_n, pR_fI, pR_fJ, pR_fR, pR_aI, pR_aJ, pR_aR, qI_ns_z, qI_ns_s, qI_ns_k, qI_ns_n, qI_fI, qI_fJ, qI_fR, qI_aI, qI_aJ, qI_aR, qJ_ns_z, qJ_ns_s, qJ_ns_k, qJ_ns_n, qJ_fI, qJ_fJ, qJ_fR, qJ_aI, qJ_aJ, qJ_aR, qR_ns_z, qR_ns_s, qR_ns_k, qR_ns_n, qR_fI, qR_fJ, qR_fR, qR_aI, qR_aJ, qR_aR, nO_ns_z, nO_ns_s, nO_ns_k, nO_ns_n, nO_fI, nO_fJ, nO_fR, nO_aI, nO_aJ, nO_aR, nA_ns_z, nA_ns_s, nA_ns_k, nA_ns_n, nA_fI, nA_fJ, nA_fR, nA_aI, nA_aJ, nA_aR, nC_ns_z, nC_ns_s, nC_ns_k, nC_ns_n, nC_fI, nC_fJ, nC_fR, nC_aI, nC_aJ, nC_aR, n4, if_false, if_true]; exact hl1) (by simp only [pI_ns_z, pI_ns_s, pI_ns_k, pI_ns_n, pI_fI, pI_fJ, pI_fR, pI_aI, pI_aJ, pI_aR, pJ_ns_z, pJ_ns_s, pJ_ns_k, pJ_ns_n, pJ_fI, pJ_fJ, pJ_fR, pJ_aI, pJ_aJ, pJ_aR, pR_ns_z, pR_ns_s, pR_ns_k, pR_ns_n, pR_fI, pR_fJ, pR_fR, pR_aI, pR_aJ, pR_aR, qI_ns_z, qI_ns_s, qI_ns_k, qI_ns_n, qI_fI, qI_fJ, qI_fR, qI_aI, qI_aJ, qI_aR, qJ_ns_z, qJ_ns_s, qJ_ns_k, qJ_ns_n, qJ_fI, qJ_fJ, qJ_fR, qJ_aI, qJ_aJ, qJ_aR, qR_ns_z, qR_ns_s, qR_ns_k, qR_ns_n, qR_fI, qR_fJ, qR_fR, qR_aI, qR_aJ, qR_aR, nO_ns_z, nO_ns_s, nO_ns_k, nO_ns_n, nO_fI, nO_fJ, nO_fR, nO_aI, nO_aJ, nO_aR, nA_ns_z, nA_ns_s, nA_ns_k, nA_ns_n, nA_fI, nA_fJ, nA_fR, nA_aI, nA_aJ, nA_aR, nC_ns_z, nC_ns_s, nC_ns_k, nC_ns_n, nC_fI, nC_fJ, nC_fR, nC_aI, nC_aJ, nC_aR, n3, if_false, if_true]) (by
    simp only [pI_ns_z, pI_ns_s, pI_ns_k, pI_ns_n, pI_fI, pI_fJ, pI_fR, pI_aI, pI_aJ, pI_aR, pJ_ns_z, pJ_ns_s, pJ_ns_k, pJ_ns_n, pJ_fI, pJ_fJ, pJ_fR, pJ_aI, pJ_aJ, pJ_aR, pR_ns_z, pR_ns_s, pR_ns_k, pR_ns_n, pR_fI, pR_fJ, pR_fR, pR_aI, pR_aJ, pR_aR, qI_ns_z, qI_ns_s, qI_ns_k, qI_ns_n, qI_fI, qI_fJ, qI_fR, qI_aI, qI_aJ, qI_aR, qJ_ns_z, qJ_ns_s, qJ_ns_k, qJ_ns_n, qJ_fI, qJ_fJ, qJ_fR, qJ_aI, qJ_aJ, qJ_aR, qR_ns_z, qR_ns_s, qR_ns_k, qR_ns_n, qR_fI, qR_fJ, qR_fR, qR_aI, qR_aJ, qR_aR, nO_ns_z, nO_ns_s, nO_ns_k, nO_ns_n, nO_fI, nO_fJ, nO_fR, nO_aI, nO_aJ, nO_aR, nA_ns_z, nA_ns_s, nA_ns_k, nA_ns_n, nA_fI, nA_fJ, nA_fR, nA_aI, nA_aJ, nA_aR, nC_ns_z, nC_ns_s, nC_ns_k, nC_ns_n, nC_fI, nC_fJ, nC_fR, nC_aI, nC_aJ, nC_aR, if_true]
    rw [hl2]
    by_cases w : k' < 3
    · rw [if_pos w, if_neg (show ¬ hook k' by omega)]
    · rw [if_neg w, if_pos (show hook k' by omega)]) (fun j => by simp only [pI_ns_z, pI_ns_s, pI_ns_k, pI_ns_n, pI_fI, pI_fJ, pI_fR, pI_aI, pI_aJ, pI_aR, pJ_ns_z, pJ_ns_s, pJ_ns_k, pJ_ns_n, pJ_fI, pJ_fJ, pJ_fR, pJ_aI, pJ_aJ, pJ_aR, pR_ns_z, pR_ns_s, pR_ns_k, pR_ns_n, pR_fI, pR_fJ, pR_fR, pR_aI, pR_aJ, pR_aR, qI_ns_z, qI_ns_s, qI_ns_k, qI_ns_n, qI_fI, qI_fJ, qI_fR, qI_aI, qI_aJ, qI_aR, qJ_ns_z, qJ_ns_s, qJ_ns_k, qJ_ns_n, qJ_fI, qJ_fJ, qJ_fR, qJ_aI, qJ_aJ, qJ_aR, qR_ns_z, qR_ns_s, qR_ns_k, qR_ns_n, qR_fI, qR_fJ, qR_fR, qR_aI, qR_aJ, qR_aR, nO_ns_z, nO_ns_s, nO_ns_k, nO_ns_n, nO_fI, nO_fJ, nO_fR, nO_aI, nO_aJ, nO_aR, nA_ns_z, nA_ns_s, nA_ns_k, nA_ns_n, nA_fI, nA_fJ, nA_fR, nA_aI, nA_aJ, nA_aR, nC_ns_z, nC_ns_s, nC_ns_k, nC_ns_n, nC_fI, nC_fJ, nC_fR, nC_aI, nC_aJ, nC_aR, n4, if_false, if_true]) (fun j => by simp only [pI_ns_z, pI_ns_s, pI_ns_k, pI_ns_n, pI_fI, pI_fJ, pI_fR, pI_aI, pI_aJ, pI_aR, pJ_ns_z, pJ_ns_s, pJ_ns_k, pJ_ns_n, pJ_fI, pJ_fJ, pJ_fR, pJ_aI, pJ_aJ, pJ_aR, pR_ns_z, pR_ns_s, pR_ns_k, pR_ns_n, pR_fI, pR_fJ, pR_fR, pR_aI, pR_aJ, pR_aR, qI_ns_z, qI_ns_s, qI_ns_k, qI_ns_n, qI_fI, qI_fJ, qI_fR, qI_aI, qI_aJ, qI_aR, qJ_ns_z, qJ_ns_s, qJ_ns_k, qJ_ns_n, qJ_fI, qJ_fJ, qJ_fR, qJ_aI, qJ_aJ, qJ_aR, qR_ns_z, qR_ns_s, qR_ns_k, qR_ns_n, qR_fI, qR_fJ, qR_fR, qR_aI, qR_aJ, qR_aR, nO_ns_z, nO_ns_s, nO_ns_k, nO_ns_n, nO_fI, nO_fJ, nO_fR, nO_aI, nO_aJ, nO_aR, nA_ns_z, nA_ns_s, nA_ns_k, nA_ns_n, nA_fI, nA_fJ, nA_fR, nA_aI, nA_aJ, nA_aR, nC_ns_z, nC_ns_s, nC_ns_k, nC_ns_n, nC_fI, nC_fJ, nC_fR, nC_aI, nC_aJ, nC_aR, if_true])
  refine ⟨_, by rw [o1]; exact c_make_go h hZ (by omega) hk' hn' hl1 hl2 hS4 h4 a1 a2, ?_⟩
  rw [o1]
  refine ⟨⟨_, _, _, hcr⟩, ?_, ?_⟩
  · show ns_z S4 ≤ ns_z S + 3 * (zn Z + 1 - zn Z)
    have e : ns_z S4 = ns_z S + 3 := by rw [hS4]; rfl
    omega
  · show ns_s S4 ≤ ns_s S + 600 * (zn Z + 1 - zn Z)
    have e : ns_s S4 = ns_s S + l1 + l2 + 17 := by rw [hS4]; rfl
    omega
theorem c_token_go (h : CR S sh T wk ad na ha cur Z) (hZ : ZI Z) (hlt : zn Z < 2000) {k l : Nat} {x v : Int32} (hk : (k = 7 ∧ l = 1 ∧ x = 0) ∨ (k = 8 ∧ l = 0 ∧ x ≠ 0)) {S4 : ns_St} (hS4 : S4 = ini5 (nA (nO (nA S 8 l) 1 17) 7 0) (ns_z S + 1) (nI (zn Z)) (nI k) v (some (ns_z S + 2)) (some (ns_z S))) (h4 : CR S4 sh T wk ad na ha cur Z) (a1 : ns_k S4 (ns_z S + 1) = 2) (a2 : fI S4 100 (ns_z S + 1) = nI (zn Z)) : Ev (18, 0, [some (va_rf (some sh)), some (.int v), some (.int x), none, none], [], S) (some (.int (nI (zn Z))), shv S4 sh T (zn Z) (ns_z S + 1)) := by
  obtain ⟨⟨s1, s2, s3, s4, s5, s6, s7, s8, s9⟩, -⟩ := id h
  have x4 : zn Z + 1 ≤ 2000 := hlt
  have sz : sh < ns_z S := klt s1 (by decide)
  have y0 : (0 : Int32).toNatClampNeg = 0 := rfl
  have y1 : (1 : Int32).toNatClampNeg = 1 := rfl
  have y4 : ¬ (0 : Int32) < 0 := by decide
  have y5 : ¬ (1 : Int32) < 0 := by decide
  have y6 : 1 ≤ 1000000 := by omega
  have e302 : ¬ sh = ns_z S := by omega
  have e303 : ¬ sh = ns_z S + 1 := by omega
  have e304 : ¬ sh = ns_z S + 1 + 1 := by omega
  have fin : ∀ r1 : ns_Rs, Ev (5, 0, [some (va_rf (some (ns_z S + 1))), some (.int (nI (zn Z))), some (.int (nI k)), some (.int v), some (va_rf (some (ns_z S + 1 + 1))), some (va_rf (some (ns_z S)))], [], nA (nO (nA S 8 l) 1 17) 7 0) r1 ↔ r1 = (none, S4) := by
    intro r1
    rw [hS4]
    exact c5 (by rw [nA_ns_k, if_neg (by rw [nO_ns_z, nA_ns_z]; omega), nO_ns_k]; exact if_pos rfl)
  have fin2 := fun r1 => c38 (r := r1) h4 hZ hlt a1
  rw [a2] at fin2
  have s1' : ns_k S4 sh = 4 := h4.1.1
  rcases hk with ⟨rfl, rfl, rfl⟩ | ⟨rfl, rfl, hx⟩
  · have fin : ∀ r1 : ns_Rs, Ev (5, 0, [some (va_rf (some (ns_z S + 1))), some (.int (nI (zn Z))), some (.int 7), some (.int v), some (va_rf (some (ns_z S + 1 + 1))), some (va_rf (some (ns_z S)))], [], nA (nO (nA S 8 1) 1 17) 7 0) r1 ↔ r1 = (none, S4) := fin
    simp only [e18_0, e18_1, e18_2, e18_5, e18_8, e18_10, e18_11, e18_12, e18_15, e18_17, e18_20, e18_22, e18_23, e18_24, e18_27, e18_28, e18_31, e18_32, e18_35, e18_37, e18_38, e18_41, e18_42, e18_43, e18_46, e18_47, e18_48, e18_49, e18_51, e18_53, e18_56, e18_59, c37' h hZ, pI_ns_z, pI_ns_s, pI_ns_k, pI_ns_n, pI_fI, pI_fJ, pI_fR, pI_aI, pI_aJ, pI_aR, pJ_ns_z, pJ_ns_s, pJ_ns_k, pJ_ns_n, pJ_fI, pJ_fJ, pJ_fR, pJ_aI, pJ_aJ, pJ_aR, pR_ns_z, pR_ns_s, pR_ns_k, pR_ns_n, pR_fI, pR_fJ, pR_fR, pR_aI, pR_aJ, pR_aR, qI_ns_z, qI_ns_s, qI_ns_k, qI_ns_n, qI_fI, qI_fJ, qI_fR, qI_aI, qI_aJ, qI_aR, qJ_ns_z, qJ_ns_s, qJ_ns_k, qJ_ns_n, qJ_fI, qJ_fJ, qJ_fR, qJ_aI, qJ_aJ, qJ_aR, qR_ns_z, qR_ns_s, qR_ns_k, qR_ns_n, qR_fI, qR_fJ, qR_fR, qR_aI, qR_aJ, qR_aR, nO_ns_z, nO_ns_s, nO_ns_k, nO_ns_n, nO_fI, nO_fJ, nO_fR, nO_aI, nO_aJ, nO_aR, nA_ns_z, nA_ns_s, nA_ns_k, nA_ns_n, nA_fI, nA_fJ, nA_fR, nA_aI, nA_aJ, nA_aR, nC_ns_z, nC_ns_s, nC_ns_k, nC_ns_n, nC_fI, nC_fJ, nC_fR, nC_aI, nC_aJ, nC_aR, Nat.zero_le, Nat.reduceAdd, Nat.reduceLeDiff, reduceIte, rf_c1, int_c1, none_c1, cat_nil, cat_int, cat_long, cat_rf, toList_s, toList_n, true_and, and_true, Option.some.injEq, exists_eq_left', exists_eq_left, reduceCtorEq, if_true, if_false, eq_self, s1, s4, x4, y0, y1, y4, y5, y6, not_false_eq_true, and_self, e302, e303, e304, fin, fin2, s1']
    simp
  · have fin : ∀ r1 : ns_Rs, Ev (5, 0, [some (va_rf (some (ns_z S + 1))), some (.int (nI (zn Z))), some (.int 8), some (.int v), some (va_rf (some (ns_z S + 1 + 1))), some (va_rf (some (ns_z S)))], [], nA (nO (nA S 8 0) 1 17) 7 0) r1 ↔ r1 = (none, S4) := fin
    simp only [e18_0, e18_1, e18_2, e18_5, e18_8, e18_10, e18_11, e18_12, e18_15, e18_17, e18_20, e18_22, e18_23, e18_24, e18_27, e18_28, e18_31, e18_32, e18_35, e18_37, e18_38, e18_41, e18_42, e18_43, e18_46, e18_47, e18_48, e18_49, e18_51, e18_53, e18_56, e18_59, c37' h hZ, pI_ns_z, pI_ns_s, pI_ns_k, pI_ns_n, pI_fI, pI_fJ, pI_fR, pI_aI, pI_aJ, pI_aR, pJ_ns_z, pJ_ns_s, pJ_ns_k, pJ_ns_n, pJ_fI, pJ_fJ, pJ_fR, pJ_aI, pJ_aJ, pJ_aR, pR_ns_z, pR_ns_s, pR_ns_k, pR_ns_n, pR_fI, pR_fJ, pR_fR, pR_aI, pR_aJ, pR_aR, qI_ns_z, qI_ns_s, qI_ns_k, qI_ns_n, qI_fI, qI_fJ, qI_fR, qI_aI, qI_aJ, qI_aR, qJ_ns_z, qJ_ns_s, qJ_ns_k, qJ_ns_n, qJ_fI, qJ_fJ, qJ_fR, qJ_aI, qJ_aJ, qJ_aR, qR_ns_z, qR_ns_s, qR_ns_k, qR_ns_n, qR_fI, qR_fJ, qR_fR, qR_aI, qR_aJ, qR_aR, nO_ns_z, nO_ns_s, nO_ns_k, nO_ns_n, nO_fI, nO_fJ, nO_fR, nO_aI, nO_aJ, nO_aR, nA_ns_z, nA_ns_s, nA_ns_k, nA_ns_n, nA_fI, nA_fJ, nA_fR, nA_aI, nA_aJ, nA_aR, nC_ns_z, nC_ns_s, nC_ns_k, nC_ns_n, nC_fI, nC_fJ, nC_fR, nC_aI, nC_aJ, nC_aR, Nat.zero_le, Nat.reduceAdd, Nat.reduceLeDiff, reduceIte, rf_c1, int_c1, none_c1, cat_nil, cat_int, cat_long, cat_rf, toList_s, toList_n, true_and, and_true, Option.some.injEq, exists_eq_left', exists_eq_left, reduceCtorEq, if_true, if_false, eq_self, s1, s4, x4, hx, y0, y1, y4, y5, y6, not_false_eq_true, and_self, e302, e303, e304, fin, fin2, s1']
    simp
theorem c_token (h : CR S sh T wk ad na ha cur Z) (hZ : ZI Z) (v x : Int32) : ∃ S', Ev (18, 0, [some (va_rf (some sh)), some (.int v), some (.int x), none, none], [], S) (some (.int (o_token Z v x).1), S') ∧ CX S sh T wk ad na ha cur Z S' (o_token Z v x).2 := by
  obtain ⟨⟨s1, s2, s3, s4, s5, s6, s7, s8, s9⟩, hT, i1, i2, i3, i4⟩ := id h
  have hn := hZ.1
  by_cases x4 : zn Z = 2000
  · refine ⟨S, ?_, by simp [o_token, x4]; exact CX_0 h⟩
    have x4' : ¬ zn Z + 1 ≤ 2000 := by omega
    simp only [e18_0, e18_1, e18_2, e18_5, e18_8, e18_10, e18_11, e18_12, e18_15, e18_17, e18_20, e18_22, e18_23, e18_24, e18_27, e18_28, e18_31, e18_32, e18_35, e18_37, e18_38, e18_41, e18_42, e18_43, e18_46, e18_47, e18_48, e18_49, e18_51, e18_53, e18_56, e18_59, c37' h hZ, Nat.zero_le, Nat.reduceAdd, Nat.reduceLeDiff, reduceIte, rf_c1, int_c1, none_c1, cat_nil, cat_int, cat_long, cat_rf, toList_s, toList_n, true_and, and_true, Option.some.injEq, exists_eq_left', exists_eq_left, reduceCtorEq, if_true, if_false, eq_self, s1, x4', o_token]
    simp [x4]
  obtain ⟨k, l, hkl, o1⟩ : ∃ k l : Nat, ((k = 7 ∧ l = 1 ∧ x = 0) ∨ (k = 8 ∧ l = 0 ∧ x ≠ 0)) ∧ o_token Z v x = (nI (zn Z), wN Z k l v (fun _ => 0) (fun _ => none)) := by
    by_cases x5 : x = 0
    · exact ⟨7, 1, Or.inl ⟨rfl, rfl, x5⟩, by simp [o_token, x4, x5]⟩
    · exact ⟨8, 0, Or.inr ⟨rfl, rfl, x5⟩, by simp [o_token, x4, x5]⟩
  obtain ⟨S4, hS4⟩ : ∃ S4, S4 = ini5 (nA (nO (nA S 8 l) 1 17) 7 0) (ns_z S + 1) (nI (zn Z)) (nI k) v (some (ns_z S + 2)) (some (ns_z S)) := ⟨_, rfl⟩
  have n1 : ¬ ns_z S + 1 = ns_z S + 1 + 1 := by omega
  have n2 : ¬ ns_z S = ns_z S + 1 + 1 := by omega
  have n4 : ¬ ns_z S = ns_z S + 1 := by omega
  obtain ⟨h4, a1, a2, hcr⟩ := mk_thing (k := k) (l := l) h hZ hS4 (((EX.rf.nA 8 l).nO 1 17).nA 7 0) (by omega) (by omega) (by omega) (by omega) (by omega) (by omega) (by simp only [pI_ns_z, pI_ns_s, pI_ns_k, pI_ns_n, pI_fI, pI_fJ, pI_fR, pI_aI, pI_aJ, pI_aR, pJ_ns_z, pJ_ns_s, pJ_ns_k, pJ_ns_n, pJ_fI, pJ_fJ, pJ_fR, pJ_aI, pJ_aJ, pJ_aR, pR_ns_z, pR_ns_s, pR_ns_k, pR_ns_n, pR_fI, pR_fJ, pR_fR, pR_aI, pR_aJ, pR_aR, qI_ns_z, qI_ns_s, qI_ns_k, qI_ns_n, qI_fI, qI_fJ, qI_fR, qI_aI, qI_aJ, qI_aR, qJ_ns_z, qJ_ns_s, qJ_ns_k, qJ_ns_n, qJ_fI, qJ_fJ, qJ_fR, qJ_aI, qJ_aJ, qJ_aR, qR_ns_z, qR_ns_s, qR_ns_k, qR_ns_n, qR_fI, qR_fJ, qR_fR, qR_aI, qR_aJ, qR_aR, nO_ns_z, nO_ns_s, nO_ns_k, nO_ns_n, nO_fI, nO_fJ, nO_fR, nO_aI, nO_aJ, nO_aR, nA_ns_z, nA_ns_s, nA_ns_k, nA_ns_n, nA_fI, nA_fJ, nA_fR, nA_aI, nA_aJ, nA_aR, nC_ns_z, nC_ns_s, nC_ns_k, nC_ns_n, nC_fI, nC_fJ, nC_fR, nC_aI, nC_aJ, nC_aR, n1, if_false, if_true]) (by simp only [pI_ns_z, pI_ns_s, pI_ns_k, pI_ns_n, pI_fI, pI_fJ, pI_fR, pI_aI, pI_aJ, pI_aR, pJ_ns_z, pJ_ns_s, pJ_ns_k, pJ_ns_n, pJ_fI, pJ_fJ, pJ_fR, pJ_aI, pJ_aJ, pJ_aR, pR_ns_z, pR_ns_s, pR_ns_k, pR_ns_n, pR_fI, pR_fJ, pR_fR, pR_aI, pR_aJ, pR_aR, qI_ns_z, qI_ns_s, qI_ns_k, qI_ns_n, qI_fI, qI_fJ, qI_fR, qI_aI, qI_aJ, qI_aR, qJ_ns_z, qJ_ns_s, qJ_ns_k, qJ_ns_n, qJ_fI, qJ_fJ, qJ_fR, qJ_aI, qJ_aJ, qJ_aR, qR_ns_z, qR_ns_s, qR_ns_k, qR_ns_n, qR_fI, qR_fJ, qR_fR, qR_aI, qR_aJ, qR_aR, nO_ns_z, nO_ns_s, nO_ns_k, nO_ns_n, nO_fI, nO_fJ, nO_fR, nO_aI, nO_aJ, nO_aR, nA_ns_z, nA_ns_s, nA_ns_k, nA_ns_n, nA_fI, nA_fJ, nA_fR, nA_aI, nA_aJ, nA_aR, nC_ns_z, nC_ns_s, nC_ns_k, nC_ns_n, nC_fI, nC_fJ, nC_fR, nC_aI, nC_aJ, nC_aR, if_true]) (by simp only [pI_ns_z, pI_ns_s, pI_ns_k, pI_ns_n, pI_fI, pI_fJ, pI_fR, pI_aI, pI_aJ, pI_aR, pJ_ns_z, pJ_ns_s, pJ_ns_k, pJ_ns_n, pJ_fI, pJ_fJ, pJ_fR, pJ_aI, pJ_aJ, pJ_aR, pR_ns_z, pR_ns_s, pR_ns_k, pR_ns_n, pR_fI, pR_fJ, pR_fR, pR_aI, pR_aJ, pR_aR, qI_ns_z, qI_ns_s, qI_ns_k, qI_ns_n, qI_fI, qI_fJ, qI_fR, qI_aI, qI_aJ, qI_aR, qJ_ns_z, qJ_ns_s, qJ_ns_k, qJ_ns_n, qJ_fI, qJ_fJ, qJ_fR, qJ_aI, qJ_aJ, qJ_aR, qR_ns_z, qR_ns_s, qR_ns_k, qR_ns_n, qR_fI, qR_fJ, qR_fR, qR_aI, qR_aJ, qR_aR, nO_ns_z, nO_ns_s, nO_ns_k, nO_ns_n, nO_fI, nO_fJ, nO_fR, nO_aI, nO_aJ, nO_aR, nA_ns_z, nA_ns_s, nA_ns_k, nA_ns_n, nA_fI, nA_fJ, nA_fR, nA_aI, nA_aJ, nA_aR, nC_ns_z, nC_ns_s, nC_ns_k, nC_ns_n, nC_fI, nC_fJ, nC_fR, nC_aI, nC_aJ, nC_aR, if_true]) (by
    simp only [pI_ns_z, pI_ns_s, pI_ns_k, pI_ns_n, pI_fI, pI_fJ, pI_fR, pI_aI, pI_aJ, pI_aR, pJ_ns_z, pJ_ns_s, pJ_ns_k, pJ_ns_n, pJ_fI, pJ_fJ, pJ_fR, pJ_aI, pJ_aJ, pJ_aR, pR_ns_z, pR_ns_s, pR_ns_k, pR_ns_n, pR_fI, pR_fJ, pR_fR, pR_aI, pR_aJ, pR_aR, qI_ns_z, qI_ns_s, qI_ns_k, qI_ns_n, qI_fI, qI_fJ, qI_fR, qI_aI, qI_aJ, qI_aR, qJ_ns_z, qJ_ns_s, qJ_ns_k, qJ_ns_n, qJ_fI, qJ_fJ, qJ_fR, qJ_aI, qJ_aJ, qJ_aR, qR_ns_z, qR_ns_s, qR_ns_k, qR_ns_n, qR_fI, qR_fJ, qR_fR, qR_aI, qR_aJ, qR_aR, nO_ns_z, nO_ns_s, nO_ns_k, nO_ns_n, nO_fI, nO_fJ, nO_fR, nO_aI, nO_aJ, nO_aR, nA_ns_z, nA_ns_s, nA_ns_k, nA_ns_n, nA_fI, nA_fJ, nA_fR, nA_aI, nA_aJ, nA_aR, nC_ns_z, nC_ns_s, nC_ns_k, nC_ns_n, nC_fI, nC_fJ, nC_fR, nC_aI, nC_aJ, nC_aR, if_true]
    rw [if_neg (by omega)]) (by simp only [pI_ns_z, pI_ns_s, pI_ns_k, pI_ns_n, pI_fI, pI_fJ, pI_fR, pI_aI, pI_aJ, pI_aR, pJ_ns_z, pJ_ns_s, pJ_ns_k, pJ_ns_n, pJ_fI, pJ_fJ, pJ_fR, pJ_aI, pJ_aJ, pJ_aR, pR_ns_z, pR_ns_s, pR_ns_k, pR_ns_n, pR_fI, pR_fJ, pR_fR, pR_aI, pR_aJ, pR_aR, qI_ns_z, qI_ns_s, qI_ns_k, qI_ns_n, qI_fI, qI_fJ, qI_fR, qI_aI, qI_aJ, qI_aR, qJ_ns_z, qJ_ns_s, qJ_ns_k, qJ_ns_n, qJ_fI, qJ_fJ, qJ_fR, qJ_aI, qJ_aJ, qJ_aR, qR_ns_z, qR_ns_s, qR_ns_k, qR_ns_n, qR_fI, qR_fJ, qR_fR, qR_aI, qR_aJ, qR_aR, nO_ns_z, nO_ns_s, nO_ns_k, nO_ns_n, nO_fI, nO_fJ, nO_fR, nO_aI, nO_aJ, nO_aR, nA_ns_z, nA_ns_s, nA_ns_k, nA_ns_n, nA_fI, nA_fJ, nA_fR, nA_aI, nA_aJ, nA_aR, nC_ns_z, nC_ns_s, nC_ns_k, nC_ns_n, nC_fI, nC_fJ, nC_fR, nC_aI, nC_aJ, nC_aR, n2, n4, if_false, if_true]) (by
    simp only [pI_ns_z, pI_ns_s, pI_ns_k, pI_ns_n, pI_fI, pI_fJ, pI_fR, pI_aI, pI_aJ, pI_aR, pJ_ns_z, pJ_ns_s, pJ_ns_k, pJ_ns_n, pJ_fI, pJ_fJ, pJ_fR, pJ_aI, pJ_aJ, pJ_aR, pR_ns_z, pR_ns_s, pR_ns_k, pR_ns_n, pR_fI, pR_fJ, pR_fR, pR_aI, pR_aJ, pR_aR, qI_ns_z, qI_ns_s, qI_ns_k, qI_ns_n, qI_fI, qI_fJ, qI_fR, qI_aI, qI_aJ, qI_aR, qJ_ns_z, qJ_ns_s, qJ_ns_k, qJ_ns_n, qJ_fI, qJ_fJ, qJ_fR, qJ_aI, qJ_aJ, qJ_aR, qR_ns_z, qR_ns_s, qR_ns_k, qR_ns_n, qR_fI, qR_fJ, qR_fR, qR_aI, qR_aJ, qR_aR, nO_ns_z, nO_ns_s, nO_ns_k, nO_ns_n, nO_fI, nO_fJ, nO_fR, nO_aI, nO_aJ, nO_aR, nA_ns_z, nA_ns_s, nA_ns_k, nA_ns_n, nA_fI, nA_fJ, nA_fR, nA_aI, nA_aJ, nA_aR, nC_ns_z, nC_ns_s, nC_ns_k, nC_ns_n, nC_fI, nC_fJ, nC_fR, nC_aI, nC_aJ, nC_aR, n2, if_false, if_true]
    rcases hkl with ⟨rfl, rfl, -⟩ | ⟨rfl, rfl, -⟩
    · rw [if_pos (show hook 7 by omega)]
    · rw [if_neg (show ¬ hook 8 by omega)]) (fun j => by simp only [pI_ns_z, pI_ns_s, pI_ns_k, pI_ns_n, pI_fI, pI_fJ, pI_fR, pI_aI, pI_aJ, pI_aR, pJ_ns_z, pJ_ns_s, pJ_ns_k, pJ_ns_n, pJ_fI, pJ_fJ, pJ_fR, pJ_aI, pJ_aJ, pJ_aR, pR_ns_z, pR_ns_s, pR_ns_k, pR_ns_n, pR_fI, pR_fJ, pR_fR, pR_aI, pR_aJ, pR_aR, qI_ns_z, qI_ns_s, qI_ns_k, qI_ns_n, qI_fI, qI_fJ, qI_fR, qI_aI, qI_aJ, qI_aR, qJ_ns_z, qJ_ns_s, qJ_ns_k, qJ_ns_n, qJ_fI, qJ_fJ, qJ_fR, qJ_aI, qJ_aJ, qJ_aR, qR_ns_z, qR_ns_s, qR_ns_k, qR_ns_n, qR_fI, qR_fJ, qR_fR, qR_aI, qR_aJ, qR_aR, nO_ns_z, nO_ns_s, nO_ns_k, nO_ns_n, nO_fI, nO_fJ, nO_fR, nO_aI, nO_aJ, nO_aR, nA_ns_z, nA_ns_s, nA_ns_k, nA_ns_n, nA_fI, nA_fJ, nA_fR, nA_aI, nA_aJ, nA_aR, nC_ns_z, nC_ns_s, nC_ns_k, nC_ns_n, nC_fI, nC_fJ, nC_fR, nC_aI, nC_aJ, nC_aR, if_true]) (fun j => by simp only [pI_ns_z, pI_ns_s, pI_ns_k, pI_ns_n, pI_fI, pI_fJ, pI_fR, pI_aI, pI_aJ, pI_aR, pJ_ns_z, pJ_ns_s, pJ_ns_k, pJ_ns_n, pJ_fI, pJ_fJ, pJ_fR, pJ_aI, pJ_aJ, pJ_aR, pR_ns_z, pR_ns_s, pR_ns_k, pR_ns_n, pR_fI, pR_fJ, pR_fR, pR_aI, pR_aJ, pR_aR, qI_ns_z, qI_ns_s, qI_ns_k, qI_ns_n, qI_fI, qI_fJ, qI_fR, qI_aI, qI_aJ, qI_aR, qJ_ns_z, qJ_ns_s, qJ_ns_k, qJ_ns_n, qJ_fI, qJ_fJ, qJ_fR, qJ_aI, qJ_aJ, qJ_aR, qR_ns_z, qR_ns_s, qR_ns_k, qR_ns_n, qR_fI, qR_fJ, qR_fR, qR_aI, qR_aJ, qR_aR, nO_ns_z, nO_ns_s, nO_ns_k, nO_ns_n, nO_fI, nO_fJ, nO_fR, nO_aI, nO_aJ, nO_aR, nA_ns_z, nA_ns_s, nA_ns_k, nA_ns_n, nA_fI, nA_fJ, nA_fR, nA_aI, nA_aJ, nA_aR, nC_ns_z, nC_ns_s, nC_ns_k, nC_ns_n, nC_fI, nC_fJ, nC_fR, nC_aI, nC_aJ, nC_aR, n2, if_false, if_true])
  refine ⟨_, by rw [o1]; exact c_token_go h hZ (by omega) hkl hS4 h4 a1 a2, ?_⟩
  rw [o1]
  refine ⟨⟨_, _, _, hcr⟩, ?_, ?_⟩
  · show ns_z S4 ≤ ns_z S + 3 * (zn Z + 1 - zn Z)
    have e : ns_z S4 = ns_z S + 3 := by rw [hS4]; rfl
    omega
  · show ns_s S4 ≤ ns_s S + 600 * (zn Z + 1 - zn Z)
    have e : ns_s S4 = ns_s S + l + 17 + 0 := by rw [hS4]; rfl
    omega
end CMAKE
