/-! ===== constructors ===== -/
section INIT
variable {S T : ns_St} {m sh : Nat} {r : ns_Rs}
def miF (i : Nat) : Nat := [1, 2, 3, 4, 5, 8, 9, 10, 13, 14, 15, 16, 17, 18, 19].getD i 0
def miK (i : Nat) : Nat := [6, 6, 6, 6, 7, 6, 6, 6, 6, 6, 6, 7, 6, 7, 6].getD i 0
def miN (i : Nat) : Nat := [2000, 2000, 2000, 2000, 1000000, 2000, 2000, 2000, 2000, 2000, 2000, 2000, 2000, 2000, 500].getD i 0
def miM : Nat → Nat
  | 0 => 0
  | i + 1 => miM i + miN i
theorem miF_inj : ∀ i, i < 15 → ∀ j, j < 15 → miF i = miF j → i = j := by decide
def PI (S T : ns_St) (m j : Nat) : Prop := ns_k T m = 5 ∧ ns_z T = ns_z S + j ∧ ns_s T = ns_s S + miM j ∧ (∀ f, fI T f m = fI S f m) ∧ ∀ i, i < j → fR T (400 + miF i) m = some (ns_z S + i) ∧ ns_k T (ns_z S + i) = miK i ∧ ns_n T (ns_z S + i) = miN i
theorem PI_step {j : Nat} (hm : m < ns_z S) (h : PI S T m j) (hj : j < 15) : PI S (pR (nA T (miK j) (miN j)) (400 + miF j) m (some (ns_z T))) m (j + 1) := by
  obtain ⟨h1, h2, h3, h4, h5⟩ := h
  refine ⟨by rw [pR_ns_k, nA_ns_k, if_neg (by omega)]; exact h1, by rw [pR_ns_z, nA_ns_z]; omega, by rw [pR_ns_s, nA_ns_s, h3]; exact Nat.add_assoc _ _ _, h4, fun i hi => ?_⟩
  rw [pR_fR, nA_fR, pR_ns_k, nA_ns_k, pR_ns_n, nA_ns_n]
  by_cases e : i = j
  · subst e
    rw [if_pos ⟨rfl, rfl⟩, if_pos h2.symm, if_pos h2.symm, h2]
    exact ⟨rfl, rfl, rfl⟩
  · rw [if_neg (fun z => e (miF_inj i (by omega) j hj (by omega))), if_neg (by omega), if_neg (by omega)]
    exact h5 i (by omega)
theorem mb_0 (hk : ns_k T m = 5) : Ev (56, 4, [some (va_rf (some m)), none], [], T) r ↔ Ev (56, 13, [some (va_rf (some m)), none], [], pR (nA T 6 2000) 401 m (some (ns_z T))) r := by
  have n1 : (2000 : Int32).toNatClampNeg = 2000 := rfl
  have b1 : ¬ (2000 : Int32) < 0 := by decide
  have b2 : 2000 ≤ 1000000 := by omega
  have kk : ns_k (nA T 6 2000) m = 5 := by rw [nA_ns_k, if_neg (Nat.ne_of_lt (klt hk (by decide)))]; exact hk
  simp only [e56_4, e56_5, e56_8, e56_10, Nat.zero_le, Nat.reduceAdd, Nat.reduceLeDiff, reduceIte, rf_c1, int_c1, none_c1, cat_nil, cat_int, cat_long, cat_rf, toList_s, toList_n, true_and, and_true, Option.some.injEq, exists_eq_left', exists_eq_left, reduceCtorEq, if_true, if_false, eq_self, n1, b1, b2, not_false_eq_true, and_self, kk]
theorem mb_1 (hk : ns_k T m = 5) : Ev (56, 13, [some (va_rf (some m)), none], [], T) r ↔ Ev (56, 22, [some (va_rf (some m)), none], [], pR (nA T 6 2000) 402 m (some (ns_z T))) r := by
  have n1 : (2000 : Int32).toNatClampNeg = 2000 := rfl
  have b1 : ¬ (2000 : Int32) < 0 := by decide
  have b2 : 2000 ≤ 1000000 := by omega
  have kk : ns_k (nA T 6 2000) m = 5 := by rw [nA_ns_k, if_neg (Nat.ne_of_lt (klt hk (by decide)))]; exact hk
  simp only [e56_13, e56_14, e56_17, e56_19, Nat.zero_le, Nat.reduceAdd, Nat.reduceLeDiff, reduceIte, rf_c1, int_c1, none_c1, cat_nil, cat_int, cat_long, cat_rf, toList_s, toList_n, true_and, and_true, Option.some.injEq, exists_eq_left', exists_eq_left, reduceCtorEq, if_true, if_false, eq_self, n1, b1, b2, not_false_eq_true, and_self, kk]
theorem mb_2 (hk : ns_k T m = 5) : Ev (56, 22, [some (va_rf (some m)), none], [], T) r ↔ Ev (56, 31, [some (va_rf (some m)), none], [], pR (nA T 6 2000) 403 m (some (ns_z T))) r := by
  have n1 : (2000 : Int32).toNatClampNeg = 2000 := rfl
  have b1 : ¬ (2000 : Int32) < 0 := by decide
  have b2 : 2000 ≤ 1000000 := by omega
  have kk : ns_k (nA T 6 2000) m = 5 := by rw [nA_ns_k, if_neg (Nat.ne_of_lt (klt hk (by decide)))]; exact hk
  simp only [e56_22, e56_23, e56_26, e56_28, Nat.zero_le, Nat.reduceAdd, Nat.reduceLeDiff, reduceIte, rf_c1, int_c1, none_c1, cat_nil, cat_int, cat_long, cat_rf, toList_s, toList_n, true_and, and_true, Option.some.injEq, exists_eq_left', exists_eq_left, reduceCtorEq, if_true, if_false, eq_self, n1, b1, b2, not_false_eq_true, and_self, kk]
theorem mb_3 (hk : ns_k T m = 5) : Ev (56, 31, [some (va_rf (some m)), none], [], T) r ↔ Ev (56, 40, [some (va_rf (some m)), none], [], pR (nA T 6 2000) 404 m (some (ns_z T))) r := by
  have n1 : (2000 : Int32).toNatClampNeg = 2000 := rfl
  have b1 : ¬ (2000 : Int32) < 0 := by decide
  have b2 : 2000 ≤ 1000000 := by omega
  have kk : ns_k (nA T 6 2000) m = 5 := by rw [nA_ns_k, if_neg (Nat.ne_of_lt (klt hk (by decide)))]; exact hk
  simp only [e56_31, e56_32, e56_35, e56_37, Nat.zero_le, Nat.reduceAdd, Nat.reduceLeDiff, reduceIte, rf_c1, int_c1, none_c1, cat_nil, cat_int, cat_long, cat_rf, toList_s, toList_n, true_and, and_true, Option.some.injEq, exists_eq_left', exists_eq_left, reduceCtorEq, if_true, if_false, eq_self, n1, b1, b2, not_false_eq_true, and_self, kk]
theorem mb_4 (hk : ns_k T m = 5) : Ev (56, 40, [some (va_rf (some m)), none], [], T) r ↔ Ev (56, 48, [some (va_rf (some m)), none], [], pR (nA T 7 1000000) 405 m (some (ns_z T))) r := by
  have n1 : (1000000 : Int32).toNatClampNeg = 1000000 := rfl
  have b1 : ¬ (1000000 : Int32) < 0 := by decide
  have b2 : 1000000 ≤ 1000000 := by omega
  have kk : ns_k (nA T 7 1000000) m = 5 := by rw [nA_ns_k, if_neg (Nat.ne_of_lt (klt hk (by decide)))]; exact hk
  simp only [e56_40, e56_41, e56_43, e56_45, Nat.zero_le, Nat.reduceAdd, Nat.reduceLeDiff, reduceIte, rf_c1, int_c1, none_c1, cat_nil, cat_int, cat_long, cat_rf, toList_s, toList_n, true_and, and_true, Option.some.injEq, exists_eq_left', exists_eq_left, reduceCtorEq, if_true, if_false, eq_self, n1, b1, b2, not_false_eq_true, and_self, kk]
theorem mb_5 (hk : ns_k T m = 5) : Ev (56, 48, [some (va_rf (some m)), none], [], T) r ↔ Ev (56, 57, [some (va_rf (some m)), none], [], pR (nA T 6 2000) 408 m (some (ns_z T))) r := by
  have n1 : (2000 : Int32).toNatClampNeg = 2000 := rfl
  have b1 : ¬ (2000 : Int32) < 0 := by decide
  have b2 : 2000 ≤ 1000000 := by omega
  have kk : ns_k (nA T 6 2000) m = 5 := by rw [nA_ns_k, if_neg (Nat.ne_of_lt (klt hk (by decide)))]; exact hk
  simp only [e56_48, e56_49, e56_52, e56_54, Nat.zero_le, Nat.reduceAdd, Nat.reduceLeDiff, reduceIte, rf_c1, int_c1, none_c1, cat_nil, cat_int, cat_long, cat_rf, toList_s, toList_n, true_and, and_true, Option.some.injEq, exists_eq_left', exists_eq_left, reduceCtorEq, if_true, if_false, eq_self, n1, b1, b2, not_false_eq_true, and_self, kk]
theorem mb_6 (hk : ns_k T m = 5) : Ev (56, 57, [some (va_rf (some m)), none], [], T) r ↔ Ev (56, 66, [some (va_rf (some m)), none], [], pR (nA T 6 2000) 409 m (some (ns_z T))) r := by
  have n1 : (2000 : Int32).toNatClampNeg = 2000 := rfl
  have b1 : ¬ (2000 : Int32) < 0 := by decide
  have b2 : 2000 ≤ 1000000 := by omega
  have kk : ns_k (nA T 6 2000) m = 5 := by rw [nA_ns_k, if_neg (Nat.ne_of_lt (klt hk (by decide)))]; exact hk
  simp only [e56_57, e56_58, e56_61, e56_63, Nat.zero_le, Nat.reduceAdd, Nat.reduceLeDiff, reduceIte, rf_c1, int_c1, none_c1, cat_nil, cat_int, cat_long, cat_rf, toList_s, toList_n, true_and, and_true, Option.some.injEq, exists_eq_left', exists_eq_left, reduceCtorEq, if_true, if_false, eq_self, n1, b1, b2, not_false_eq_true, and_self, kk]
theorem mb_7 (hk : ns_k T m = 5) : Ev (56, 66, [some (va_rf (some m)), none], [], T) r ↔ Ev (56, 75, [some (va_rf (some m)), none], [], pR (nA T 6 2000) 410 m (some (ns_z T))) r := by
  have n1 : (2000 : Int32).toNatClampNeg = 2000 := rfl
  have b1 : ¬ (2000 : Int32) < 0 := by decide
  have b2 : 2000 ≤ 1000000 := by omega
  have kk : ns_k (nA T 6 2000) m = 5 := by rw [nA_ns_k, if_neg (Nat.ne_of_lt (klt hk (by decide)))]; exact hk
  simp only [e56_66, e56_67, e56_70, e56_72, Nat.zero_le, Nat.reduceAdd, Nat.reduceLeDiff, reduceIte, rf_c1, int_c1, none_c1, cat_nil, cat_int, cat_long, cat_rf, toList_s, toList_n, true_and, and_true, Option.some.injEq, exists_eq_left', exists_eq_left, reduceCtorEq, if_true, if_false, eq_self, n1, b1, b2, not_false_eq_true, and_self, kk]
theorem mb_8 (hk : ns_k T m = 5) : Ev (56, 75, [some (va_rf (some m)), none], [], T) r ↔ Ev (56, 84, [some (va_rf (some m)), none], [], pR (nA T 6 2000) 413 m (some (ns_z T))) r := by
  have n1 : (2000 : Int32).toNatClampNeg = 2000 := rfl
  have b1 : ¬ (2000 : Int32) < 0 := by decide
  have b2 : 2000 ≤ 1000000 := by omega
  have kk : ns_k (nA T 6 2000) m = 5 := by rw [nA_ns_k, if_neg (Nat.ne_of_lt (klt hk (by decide)))]; exact hk
  simp only [e56_75, e56_76, e56_79, e56_81, Nat.zero_le, Nat.reduceAdd, Nat.reduceLeDiff, reduceIte, rf_c1, int_c1, none_c1, cat_nil, cat_int, cat_long, cat_rf, toList_s, toList_n, true_and, and_true, Option.some.injEq, exists_eq_left', exists_eq_left, reduceCtorEq, if_true, if_false, eq_self, n1, b1, b2, not_false_eq_true, and_self, kk]
theorem mb_9 (hk : ns_k T m = 5) : Ev (56, 84, [some (va_rf (some m)), none], [], T) r ↔ Ev (56, 93, [some (va_rf (some m)), none], [], pR (nA T 6 2000) 414 m (some (ns_z T))) r := by
  have n1 : (2000 : Int32).toNatClampNeg = 2000 := rfl
  have b1 : ¬ (2000 : Int32) < 0 := by decide
  have b2 : 2000 ≤ 1000000 := by omega
  have kk : ns_k (nA T 6 2000) m = 5 := by rw [nA_ns_k, if_neg (Nat.ne_of_lt (klt hk (by decide)))]; exact hk
  simp only [e56_84, e56_85, e56_88, e56_90, Nat.zero_le, Nat.reduceAdd, Nat.reduceLeDiff, reduceIte, rf_c1, int_c1, none_c1, cat_nil, cat_int, cat_long, cat_rf, toList_s, toList_n, true_and, and_true, Option.some.injEq, exists_eq_left', exists_eq_left, reduceCtorEq, if_true, if_false, eq_self, n1, b1, b2, not_false_eq_true, and_self, kk]
theorem mb_10 (hk : ns_k T m = 5) : Ev (56, 93, [some (va_rf (some m)), none], [], T) r ↔ Ev (56, 102, [some (va_rf (some m)), none], [], pR (nA T 6 2000) 415 m (some (ns_z T))) r := by
  have n1 : (2000 : Int32).toNatClampNeg = 2000 := rfl
  have b1 : ¬ (2000 : Int32) < 0 := by decide
  have b2 : 2000 ≤ 1000000 := by omega
  have kk : ns_k (nA T 6 2000) m = 5 := by rw [nA_ns_k, if_neg (Nat.ne_of_lt (klt hk (by decide)))]; exact hk
  simp only [e56_93, e56_94, e56_97, e56_99, Nat.zero_le, Nat.reduceAdd, Nat.reduceLeDiff, reduceIte, rf_c1, int_c1, none_c1, cat_nil, cat_int, cat_long, cat_rf, toList_s, toList_n, true_and, and_true, Option.some.injEq, exists_eq_left', exists_eq_left, reduceCtorEq, if_true, if_false, eq_self, n1, b1, b2, not_false_eq_true, and_self, kk]
theorem mb_11 (hk : ns_k T m = 5) : Ev (56, 102, [some (va_rf (some m)), none], [], T) r ↔ Ev (56, 111, [some (va_rf (some m)), none], [], pR (nA T 7 2000) 416 m (some (ns_z T))) r := by
  have n1 : (2000 : Int32).toNatClampNeg = 2000 := rfl
  have b1 : ¬ (2000 : Int32) < 0 := by decide
  have b2 : 2000 ≤ 1000000 := by omega
  have kk : ns_k (nA T 7 2000) m = 5 := by rw [nA_ns_k, if_neg (Nat.ne_of_lt (klt hk (by decide)))]; exact hk
  simp only [e56_102, e56_103, e56_106, e56_108, Nat.zero_le, Nat.reduceAdd, Nat.reduceLeDiff, reduceIte, rf_c1, int_c1, none_c1, cat_nil, cat_int, cat_long, cat_rf, toList_s, toList_n, true_and, and_true, Option.some.injEq, exists_eq_left', exists_eq_left, reduceCtorEq, if_true, if_false, eq_self, n1, b1, b2, not_false_eq_true, and_self, kk]
theorem mb_12 (hk : ns_k T m = 5) : Ev (56, 111, [some (va_rf (some m)), none], [], T) r ↔ Ev (56, 120, [some (va_rf (some m)), none], [], pR (nA T 6 2000) 417 m (some (ns_z T))) r := by
  have n1 : (2000 : Int32).toNatClampNeg = 2000 := rfl
  have b1 : ¬ (2000 : Int32) < 0 := by decide
  have b2 : 2000 ≤ 1000000 := by omega
  have kk : ns_k (nA T 6 2000) m = 5 := by rw [nA_ns_k, if_neg (Nat.ne_of_lt (klt hk (by decide)))]; exact hk
  simp only [e56_111, e56_112, e56_115, e56_117, Nat.zero_le, Nat.reduceAdd, Nat.reduceLeDiff, reduceIte, rf_c1, int_c1, none_c1, cat_nil, cat_int, cat_long, cat_rf, toList_s, toList_n, true_and, and_true, Option.some.injEq, exists_eq_left', exists_eq_left, reduceCtorEq, if_true, if_false, eq_self, n1, b1, b2, not_false_eq_true, and_self, kk]
theorem mb_13 (hk : ns_k T m = 5) : Ev (56, 120, [some (va_rf (some m)), none], [], T) r ↔ Ev (56, 129, [some (va_rf (some m)), none], [], pR (nA T 7 2000) 418 m (some (ns_z T))) r := by
  have n1 : (2000 : Int32).toNatClampNeg = 2000 := rfl
  have b1 : ¬ (2000 : Int32) < 0 := by decide
  have b2 : 2000 ≤ 1000000 := by omega
  have kk : ns_k (nA T 7 2000) m = 5 := by rw [nA_ns_k, if_neg (Nat.ne_of_lt (klt hk (by decide)))]; exact hk
  simp only [e56_120, e56_121, e56_124, e56_126, Nat.zero_le, Nat.reduceAdd, Nat.reduceLeDiff, reduceIte, rf_c1, int_c1, none_c1, cat_nil, cat_int, cat_long, cat_rf, toList_s, toList_n, true_and, and_true, Option.some.injEq, exists_eq_left', exists_eq_left, reduceCtorEq, if_true, if_false, eq_self, n1, b1, b2, not_false_eq_true, and_self, kk]
theorem mb_14 (hk : ns_k T m = 5) : Ev (56, 129, [some (va_rf (some m)), none], [], T) r ↔ Ev (56, 138, [some (va_rf (some m)), none], [], pR (nA T 6 500) 419 m (some (ns_z T))) r := by
  have n1 : (500 : Int32).toNatClampNeg = 500 := rfl
  have b1 : ¬ (500 : Int32) < 0 := by decide
  have b2 : 500 ≤ 1000000 := by omega
  have kk : ns_k (nA T 6 500) m = 5 := by rw [nA_ns_k, if_neg (Nat.ne_of_lt (klt hk (by decide)))]; exact hk
  simp only [e56_129, e56_130, e56_133, e56_135, Nat.zero_le, Nat.reduceAdd, Nat.reduceLeDiff, reduceIte, rf_c1, int_c1, none_c1, cat_nil, cat_int, cat_long, cat_rf, toList_s, toList_n, true_and, and_true, Option.some.injEq, exists_eq_left', exists_eq_left, reduceCtorEq, if_true, if_false, eq_self, n1, b1, b2, not_false_eq_true, and_self, kk]
theorem mi_rows (hk : ns_k S m = 5) : ∃ T, PI S T m 15 ∧ ∀ r, Ev (56, 138, [some (va_rf (some m)), none], [], T) r → Ev (56, 0, [some (va_rf (some m)), none], [], S) r := by
  have hm : m < ns_z S := klt hk (by decide)
  have q0 : PI S S m 0 := ⟨hk, rfl, rfl, fun _ => rfl, fun i hi => absurd hi (Nat.not_lt_zero i)⟩
  obtain ⟨T0, hT0⟩ : ∃ T0, T0 = S := ⟨_, rfl⟩
  rw [← hT0] at q0
  have q0 : PI S T0 m 0 := by rw [hT0]; exact ⟨hk, rfl, rfl, fun _ => rfl, fun i hi => absurd hi (Nat.not_lt_zero i)⟩
  obtain ⟨T1, q1, g1⟩ : ∃ T1, PI S T1 m 1 ∧ ∀ r, Ev (56, 13, [some (va_rf (some m)), none], [], T1) r → Ev (56, 4, [some (va_rf (some m)), none], [], T0) r := ⟨_, PI_step hm q0 (by decide), fun r hr => (mb_0 q0.1).mpr hr⟩
  obtain ⟨T2, q2, g2⟩ : ∃ T2, PI S T2 m 2 ∧ ∀ r, Ev (56, 22, [some (va_rf (some m)), none], [], T2) r → Ev (56, 13, [some (va_rf (some m)), none], [], T1) r := ⟨_, PI_step hm q1 (by decide), fun r hr => (mb_1 q1.1).mpr hr⟩
  obtain ⟨T3, q3, g3⟩ : ∃ T3, PI S T3 m 3 ∧ ∀ r, Ev (56, 31, [some (va_rf (some m)), none], [], T3) r → Ev (56, 22, [some (va_rf (some m)), none], [], T2) r := ⟨_, PI_step hm q2 (by decide), fun r hr => (mb_2 q2.1).mpr hr⟩
  obtain ⟨T4, q4, g4⟩ : ∃ T4, PI S T4 m 4 ∧ ∀ r, Ev (56, 40, [some (va_rf (some m)), none], [], T4) r → Ev (56, 31, [some (va_rf (some m)), none], [], T3) r := ⟨_, PI_step hm q3 (by decide), fun r hr => (mb_3 q3.1).mpr hr⟩
  obtain ⟨T5, q5, g5⟩ : ∃ T5, PI S T5 m 5 ∧ ∀ r, Ev (56, 48, [some (va_rf (some m)), none], [], T5) r → Ev (56, 40, [some (va_rf (some m)), none], [], T4) r := ⟨_, PI_step hm q4 (by decide), fun r hr => (mb_4 q4.1).mpr hr⟩
  obtain ⟨T6, q6, g6⟩ : ∃ T6, PI S T6 m 6 ∧ ∀ r, Ev (56, 57, [some (va_rf (some m)), none], [], T6) r → Ev (56, 48, [some (va_rf (some m)), none], [], T5) r := ⟨_, PI_step hm q5 (by decide), fun r hr => (mb_5 q5.1).mpr hr⟩
  obtain ⟨T7, q7, g7⟩ : ∃ T7, PI S T7 m 7 ∧ ∀ r, Ev (56, 66, [some (va_rf (some m)), none], [], T7) r → Ev (56, 57, [some (va_rf (some m)), none], [], T6) r := ⟨_, PI_step hm q6 (by decide), fun r hr => (mb_6 q6.1).mpr hr⟩
  obtain ⟨T8, q8, g8⟩ : ∃ T8, PI S T8 m 8 ∧ ∀ r, Ev (56, 75, [some (va_rf (some m)), none], [], T8) r → Ev (56, 66, [some (va_rf (some m)), none], [], T7) r := ⟨_, PI_step hm q7 (by decide), fun r hr => (mb_7 q7.1).mpr hr⟩
  obtain ⟨T9, q9, g9⟩ : ∃ T9, PI S T9 m 9 ∧ ∀ r, Ev (56, 84, [some (va_rf (some m)), none], [], T9) r → Ev (56, 75, [some (va_rf (some m)), none], [], T8) r := ⟨_, PI_step hm q8 (by decide), fun r hr => (mb_8 q8.1).mpr hr⟩
  obtain ⟨T10, q10, g10⟩ : ∃ T10, PI S T10 m 10 ∧ ∀ r, Ev (56, 93, [some (va_rf (some m)), none], [], T10) r → Ev (56, 84, [some (va_rf (some m)), none], [], T9) r := ⟨_, PI_step hm q9 (by decide), fun r hr => (mb_9 q9.1).mpr hr⟩
  obtain ⟨T11, q11, g11⟩ : ∃ T11, PI S T11 m 11 ∧ ∀ r, Ev (56, 102, [some (va_rf (some m)), none], [], T11) r → Ev (56, 93, [some (va_rf (some m)), none], [], T10) r := ⟨_, PI_step hm q10 (by decide), fun r hr => (mb_10 q10.1).mpr hr⟩
  obtain ⟨T12, q12, g12⟩ : ∃ T12, PI S T12 m 12 ∧ ∀ r, Ev (56, 111, [some (va_rf (some m)), none], [], T12) r → Ev (56, 102, [some (va_rf (some m)), none], [], T11) r := ⟨_, PI_step hm q11 (by decide), fun r hr => (mb_11 q11.1).mpr hr⟩
  obtain ⟨T13, q13, g13⟩ : ∃ T13, PI S T13 m 13 ∧ ∀ r, Ev (56, 120, [some (va_rf (some m)), none], [], T13) r → Ev (56, 111, [some (va_rf (some m)), none], [], T12) r := ⟨_, PI_step hm q12 (by decide), fun r hr => (mb_12 q12.1).mpr hr⟩
  obtain ⟨T14, q14, g14⟩ : ∃ T14, PI S T14 m 14 ∧ ∀ r, Ev (56, 129, [some (va_rf (some m)), none], [], T14) r → Ev (56, 120, [some (va_rf (some m)), none], [], T13) r := ⟨_, PI_step hm q13 (by decide), fun r hr => (mb_13 q13.1).mpr hr⟩
  obtain ⟨T15, q15, g15⟩ : ∃ T15, PI S T15 m 15 ∧ ∀ r, Ev (56, 138, [some (va_rf (some m)), none], [], T15) r → Ev (56, 129, [some (va_rf (some m)), none], [], T14) r := ⟨_, PI_step hm q14 (by decide), fun r hr => (mb_14 q14.1).mpr hr⟩
  refine ⟨T15, q15, fun r hr => ?_⟩
  have w := g1 r (g2 r (g3 r (g4 r (g5 r (g6 r (g7 r (g8 r (g9 r (g10 r (g11 r (g12 r (g13 r (g14 r (g15 r hr))))))))))))))
  rw [hT0] at w
  simp only [e56_0, e56_1, Nat.zero_le, Nat.reduceAdd, Nat.reduceLeDiff, reduceIte, rf_c1, int_c1, none_c1, cat_nil, cat_int, cat_long, cat_rf, toList_s, toList_n, true_and, and_true, Option.some.injEq, exists_eq_left', exists_eq_left, reduceCtorEq, if_true, if_false, eq_self]
  exact w
def miA (z f : Nat) : Nat := z + [100, 0, 1, 2, 3, 4, 106, 107, 5, 6, 7, 111, 112, 8, 9, 10, 11, 12, 13, 14].getD f 0
theorem miA_inj : ∀ f, f < 20 → ∀ g, g < 20 → miA 0 f = miA 0 g → f = g := by decide
theorem PI_MW (h : PI S T m 15) : MW T m (miA (ns_z S)) := by
  obtain ⟨h1, h2, h3, h4, h5⟩ := h
  refine ⟨h1, fun f hf => ?_, fun f hf => ?_, fun f g hf hg e => miA_inj f hf g hg (by unfold miA at e ⊢; omega)⟩
  · simp only [List.mem_cons, List.not_mem_nil, or_false] at hf
    rcases hf with rfl | rfl | rfl | rfl | rfl | rfl | rfl | rfl | rfl | rfl | rfl | rfl
    · exact h5 0 (by decide)
    · exact h5 1 (by decide)
    · exact h5 2 (by decide)
    · exact h5 3 (by decide)
    · exact h5 5 (by decide)
    · exact h5 6 (by decide)
    · exact h5 7 (by decide)
    · exact h5 8 (by decide)
    · exact h5 9 (by decide)
    · exact h5 10 (by decide)
    · exact h5 12 (by decide)
    · exact h5 14 (by decide)
  · simp only [List.mem_cons, List.not_mem_nil, or_false] at hf
    rcases hf with rfl | rfl | rfl
    · exact h5 4 (by decide)
    · exact h5 11 (by decide)
    · exact h5 13 (by decide)
theorem mi_loop {A : Nat → Nat} : ∀ (d i : Nat) (T : ns_St), i + d = 2000 → MR T m A zz → ∃ T', MR T' m A zz ∧ sz0 T T' ∧ ∀ r, r = (none, T') → Ev (56, 140, [some (va_rf (some m)), some (.int (nI i))], [], T) r := by
  intro d
  induction d with
  | zero =>
    intro i T hi h
    have e : i = 2000 := by omega
    subst e
    refine ⟨T, h, ⟨rfl, rfl⟩, fun r hr => ?_⟩
    have z : (2000 : Int32) ≤ nI 2000 := by decide
    simp only [e56_140, e56_141, e56_144, e56_160, Nat.zero_le, Nat.reduceAdd, Nat.reduceLeDiff, reduceIte, rf_c1, int_c1, none_c1, cat_nil, cat_int, cat_long, cat_rf, toList_s, toList_n, true_and, and_true, Option.some.injEq, exists_eq_left', exists_eq_left, reduceCtorEq, if_true, if_false, eq_self, z]
    exact hr
  | succ d ih =>
    intro i T hi h
    have hW := h.1
    have z : ¬ (2000 : Int32) ≤ nI i := nI_ge (b := 2000) (by omega) (by omega)
    have a3 : (nI i).toNatClampNeg = i := nI_clamp (by omega)
    have a4 := in_ok (show i < 2000 by omega) (by omega)
    have h' : MR (qI T (A 17) i (-1)) m A zz := ⟨hW, h.2.1, fun i hi => absurd hi (Nat.not_lt_zero i), h.2.2.2.1, h.2.2.2.2.1, h.2.2.2.2.2⟩
    obtain ⟨T', g1, g2, g3⟩ := ih (i + 1) _ (by omega) h'
    refine ⟨T', g1, g2, fun r hr => ?_⟩
    have g4 := g3 r hr
    rw [e56_140]
    simp only [e56_141, e56_144, e56_147, e56_148, e56_151, e56_152, e56_153, e56_154, e56_157, mw0 hW, mr17 hW, mk17 hW, mn17 hW, Nat.zero_le, Nat.reduceAdd, Nat.reduceLeDiff, reduceIte, rf_c1, int_c1, none_c1, cat_nil, cat_int, cat_long, cat_rf, toList_s, toList_n, true_and, and_true, Option.some.injEq, exists_eq_left', exists_eq_left, reduceCtorEq, if_true, if_false, eq_self, z, a3, a4, nI_1]
    exact g4
theorem m_init (hk : ns_k S m = 5) (h0 : ∀ f, fI S f m = 0) : ∃ S' A, Ev (56, 0, [some (va_rf (some m)), none], [], S) (none, S') ∧ MR S' m A zz ∧ ns_z S' = ns_z S + 15 ∧ ns_s S' = ns_s S + 1026500 := by
  obtain ⟨T, q, g⟩ := mi_rows hk
  have hR : MR T m (miA (ns_z S)) zz := ⟨PI_MW q, by rw [q.2.2.2.1, h0]; rfl, fun i hi => absurd hi (Nat.not_lt_zero i), by rw [q.2.2.2.1, h0]; rfl, fun i j hi => absurd hi (Nat.not_lt_zero i), by rw [q.2.2.2.1, h0]; rfl⟩
  obtain ⟨T', g1, g2, g3⟩ := mi_loop 2000 0 T (by omega) hR
  refine ⟨T', miA (ns_z S), ?_, g1, by rw [g2.1, q.2.1], by rw [g2.2, q.2.2.1]; rfl⟩
  refine g _ ?_
  simp only [e56_138, e56_139, Nat.zero_le, Nat.reduceAdd, Nat.reduceLeDiff, reduceIte, rf_c1, int_c1, none_c1, cat_nil, cat_int, cat_long, cat_rf, toList_s, toList_n, true_and, and_true, Option.some.injEq, exists_eq_left', exists_eq_left, reduceCtorEq, if_true, if_false, eq_self]
  exact g3 _ rfl
theorem c11 {a : Nat} : Ev (11, 0, [some (va_rf (some a))], [], S) r ↔ r = (none, S) := by
  simp only [e11_0, e11_1, e11_4, Nat.zero_le, Nat.reduceAdd, Nat.reduceLeDiff, reduceIte, rf_c1, int_c1, none_c1, cat_nil, cat_int, cat_long, cat_rf, toList_s, toList_n, true_and, and_true, Option.some.injEq, exists_eq_left', exists_eq_left, reduceCtorEq, if_true, if_false, eq_self]
theorem c0 {a : Nat} : Ev (0, 0, [some (va_rf (some a))], [], S) r ↔ r = (none, S) := by
  simp only [e0_0, e0_1, e0_4, Nat.zero_le, Nat.reduceAdd, Nat.reduceLeDiff, reduceIte, rf_c1, int_c1, none_c1, cat_nil, cat_int, cat_long, cat_rf, toList_s, toList_n, true_and, and_true, Option.some.injEq, exists_eq_left', exists_eq_left, reduceCtorEq, if_true, if_false, eq_self]
theorem ci_run (hk : ns_k S sh = 4) {S' : ns_St} (hS : pI (pI (pR (nO (pR (nA S 8 2000) 300 sh (some (ns_z S))) 2 6) 301 sh (some (ns_z S + 1))) 302 sh 0) 303 sh 0 = S') : Ev (16, 0, [some (va_rf (some sh))], [], S) (none, S') := by
  have hz : sh < ns_z S := klt hk (by decide)
  have z1 : ¬ sh = ns_z S := by omega
  have z2 : ¬ sh = ns_z S + 1 := by omega
  have n1 : (2000 : Int32).toNatClampNeg = 2000 := rfl
  have b1 : ¬ (2000 : Int32) < 0 := by decide
  have b2 : 2000 ≤ 1000000 := by omega
  simp only [e16_0, e16_1, e16_4, e16_5, e16_8, e16_11, e16_14, e16_15, e16_18, e16_19, e16_22, e16_25, e16_26, e16_27, e16_30, e16_31, e16_32, e16_35, c11, pR_ns_z, nA_ns_z, pR_ns_k, nA_ns_k, nO_ns_k, pI_ns_k, Nat.zero_le, Nat.reduceAdd, Nat.reduceLeDiff, reduceIte, rf_c1, int_c1, none_c1, cat_nil, cat_int, cat_long, cat_rf, toList_s, toList_n, true_and, and_true, Option.some.injEq, exists_eq_left', exists_eq_left, reduceCtorEq, if_true, if_false, eq_self, hk, z1, z2, n1, b1, b2, not_false_eq_true, and_self, exists_eq', hS]
end INIT
