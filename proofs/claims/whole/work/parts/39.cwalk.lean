/-! ===== the class's walk: notes, arrive, leave, meet ===== -/
section CWK
variable {S : ns_St}
def bN (S : ns_St) (a : Nat) (w : Int32) (fr : Option Nat) : ns_St := pR (pI (pR (pR (pJ (pI (pR (pR (pI (pI (pI S 106 a w) 107 a 1) 108 a 0) 109 a fr) 110 a none) 111 a 1) 112 a (fJ S 105 a)) 113 a none) 114 a none) 115 a 0) 116 a none
theorem bN_fI (a : Nat) (w : Int32) (fr : Option Nat) (f x : Nat) : fI (bN S a w fr) f x = if x = a then (if f = 106 then w else if f = 107 then 1 else if f = 108 then 0 else if f = 111 then 1 else if f = 115 then 0 else fI S f x) else fI S f x := by
  unfold bN
  simp only [pR_fI, pI_fI, pJ_fI]
  by_cases h : x = a
  · subst h
    simp only [and_true, if_true]
    by_cases h1 : f = 106
    · subst h1; rfl
    · by_cases h2 : f = 107
      · subst h2; rfl
      · by_cases h3 : f = 108
        · subst h3; rfl
        · by_cases h4 : f = 111
          · subst h4; rfl
          · simp only [h1, h2, h3, h4, if_false]
  · simp only [h, and_false, if_false]
theorem bN_fJ (a : Nat) (w : Int32) (fr : Option Nat) (f x : Nat) : fJ (bN S a w fr) f x = if f = 112 ∧ x = a then fJ S 105 a else fJ S f x := by
  unfold bN
  simp only [pR_fJ, pI_fJ, pJ_fJ]
theorem bN_fR (a : Nat) (w : Int32) (fr : Option Nat) (f x : Nat) : fR (bN S a w fr) f x = if x = a then (if f = 109 then fr else if f = 110 ∨ f = 113 ∨ f = 114 ∨ f = 116 then none else fR S f x) else fR S f x := by
  unfold bN
  simp only [pR_fR, pI_fR, pJ_fR]
  by_cases h : x = a
  · subst h
    simp only [and_true, if_true]
    by_cases h1 : f = 116
    · subst h1; rfl
    · by_cases h2 : f = 114
      · subst h2; rfl
      · by_cases h3 : f = 113
        · subst h3; rfl
        · by_cases h4 : f = 110
          · subst h4; rfl
          · simp only [h1, h2, h3, h4, if_false, false_or]
  · simp only [h, and_false, if_false]
theorem bN_k (a : Nat) (w : Int32) (fr : Option Nat) : ns_k (bN S a w fr) = ns_k S := by unfold bN; simp only [pR_ns_k, pI_ns_k, pJ_ns_k]
theorem bN_n (a : Nat) (w : Int32) (fr : Option Nat) : ns_n (bN S a w fr) = ns_n S := by unfold bN; simp only [pR_ns_n, pI_ns_n, pJ_ns_n]
theorem bN_aJ (a : Nat) (w : Int32) (fr : Option Nat) : aJ (bN S a w fr) = aJ S := by unfold bN; simp only [pR_aJ, pI_aJ, pJ_aJ]
theorem bN_aR (a : Nat) (w : Int32) (fr : Option Nat) : aR (bN S a w fr) = aR S := by unfold bN; simp only [pR_aR, pI_aR, pJ_aR]
theorem c7 {a : Nat} (ha : ns_k S a = 2) {w : Int32} {fr : Option Nat} {r : ns_Rs} : Ev (7, 0, [some (va_rf (some a)), some (.int w), some (va_rf fr)], [], S) r ↔ r = (none, bN S a w fr) := by
  simp only [e7_0, e7_1, e7_2, e7_5, e7_6, e7_7, e7_10, e7_11, e7_12, e7_15, e7_16, e7_17, e7_20, e7_21, e7_22, e7_25, e7_26, e7_27, e7_30, e7_31, e7_32, e7_35, e7_38, e7_39, e7_40, e7_43, e7_44, e7_45, e7_48, e7_49, e7_50, e7_53, e7_54, e7_55, e7_58, pI_ns_z, pI_ns_s, pI_ns_k, pI_ns_n, pI_fI, pI_fJ, pI_fR, pI_aI, pI_aJ, pI_aR, pJ_ns_z, pJ_ns_s, pJ_ns_k, pJ_ns_n, pJ_fI, pJ_fJ, pJ_fR, pJ_aI, pJ_aJ, pJ_aR, pR_ns_z, pR_ns_s, pR_ns_k, pR_ns_n, pR_fI, pR_fJ, pR_fR, pR_aI, pR_aJ, pR_aR, qI_ns_z, qI_ns_s, qI_ns_k, qI_ns_n, qI_fI, qI_fJ, qI_fR, qI_aI, qI_aJ, qI_aR, qJ_ns_z, qJ_ns_s, qJ_ns_k, qJ_ns_n, qJ_fI, qJ_fJ, qJ_fR, qJ_aI, qJ_aJ, qJ_aR, qR_ns_z, qR_ns_s, qR_ns_k, qR_ns_n, qR_fI, qR_fJ, qR_fR, qR_aI, qR_aJ, qR_aR, nO_ns_z, nO_ns_s, nO_ns_k, nO_ns_n, nO_fI, nO_fJ, nO_fR, nO_aI, nO_aJ, nO_aR, nA_ns_z, nA_ns_s, nA_ns_k, nA_ns_n, nA_fI, nA_fJ, nA_fR, nA_aI, nA_aJ, nA_aR, nC_ns_z, nC_ns_s, nC_ns_k, nC_ns_n, nC_fI, nC_fJ, nC_fR, nC_aI, nC_aJ, nC_aR, Nat.zero_le, Nat.reduceAdd, Nat.reduceLeDiff, reduceIte, rf_c1, int_c1, none_c1, cat_nil, cat_int, cat_long, cat_rf, toList_s, toList_n, true_and, and_true, Option.some.injEq, exists_eq_left', exists_eq_left, reduceCtorEq, if_true, if_false, eq_self, ha]
  simp
  rfl
theorem bN_z (a : Nat) (w : Int32) (fr : Option Nat) : ns_z (bN S a w fr) = ns_z S := by unfold bN; simp only [pR_ns_z, pI_ns_z, pJ_ns_z]
theorem bN_s (a : Nat) (w : Int32) (fr : Option Nat) : ns_s (bN S a w fr) = ns_s S := by unfold bN; simp only [pR_ns_s, pI_ns_s, pJ_ns_s]
def aN (S : ns_St) (a b : Nat) : ns_St := if fI S 111 a ≤ fI S 111 b then pI (pJ S 112 a (fJ S 112 a + fJ S 112 b)) 111 a (fI S 111 b + 1) else pJ S 112 a (fJ S 112 a + fJ S 112 b)
theorem aN_fI (a b f x : Nat) : fI (aN S a b) f x = if f = 111 ∧ x = a then (if fI S 111 a ≤ fI S 111 b then fI S 111 b + 1 else fI S 111 a) else fI S f x := by
  unfold aN
  by_cases h : fI S 111 a ≤ fI S 111 b
  · simp only [h, if_true, pI_fI, pJ_fI]
  · simp only [h, if_false, pJ_fI]
    by_cases g : f = 111 ∧ x = a
    · rw [if_pos g, g.1, g.2]
    · rw [if_neg g]
theorem aN_fJ (a b f x : Nat) : fJ (aN S a b) f x = if f = 112 ∧ x = a then fJ S 112 a + fJ S 112 b else fJ S f x := by
  unfold aN
  split <;> rfl
theorem aN_fR (a b : Nat) : fR (aN S a b) = fR S := by
  unfold aN
  split <;> rfl
theorem aN_k (a b : Nat) : ns_k (aN S a b) = ns_k S := by
  unfold aN
  split <;> rfl
theorem aN_n (a b : Nat) : ns_n (aN S a b) = ns_n S := by
  unfold aN
  split <;> rfl
theorem aN_z (a b : Nat) : ns_z (aN S a b) = ns_z S := by
  unfold aN
  split <;> rfl
theorem aN_s (a b : Nat) : ns_s (aN S a b) = ns_s S := by
  unfold aN
  split <;> rfl
theorem aN_aJ (a b : Nat) : aJ (aN S a b) = aJ S := by
  unfold aN
  split <;> rfl
theorem aN_aR (a b : Nat) : aR (aN S a b) = aR S := by
  unfold aN
  split <;> rfl
theorem c8 {a b : Nat} (ha : ns_k S a = 2) (hb : ns_k S b = 2) {r : ns_Rs} : Ev (8, 0, [some (va_rf (some a)), some (va_rf (some b))], [], S) r ↔ r = (none, aN S a b) := by
  simp only [e8_0, e8_1, e8_2, e8_5, e8_6, e8_9, e8_10, e8_13, e8_14, e8_17, e8_18, e8_21, e8_24, e8_25, e8_26, e8_29, e8_30, e8_31, e8_34, pI_ns_z, pI_ns_s, pI_ns_k, pI_ns_n, pI_fI, pI_fJ, pI_fR, pI_aI, pI_aJ, pI_aR, pJ_ns_z, pJ_ns_s, pJ_ns_k, pJ_ns_n, pJ_fI, pJ_fJ, pJ_fR, pJ_aI, pJ_aJ, pJ_aR, pR_ns_z, pR_ns_s, pR_ns_k, pR_ns_n, pR_fI, pR_fJ, pR_fR, pR_aI, pR_aJ, pR_aR, qI_ns_z, qI_ns_s, qI_ns_k, qI_ns_n, qI_fI, qI_fJ, qI_fR, qI_aI, qI_aJ, qI_aR, qJ_ns_z, qJ_ns_s, qJ_ns_k, qJ_ns_n, qJ_fI, qJ_fJ, qJ_fR, qJ_aI, qJ_aJ, qJ_aR, qR_ns_z, qR_ns_s, qR_ns_k, qR_ns_n, qR_fI, qR_fJ, qR_fR, qR_aI, qR_aJ, qR_aR, nO_ns_z, nO_ns_s, nO_ns_k, nO_ns_n, nO_fI, nO_fJ, nO_fR, nO_aI, nO_aJ, nO_aR, nA_ns_z, nA_ns_s, nA_ns_k, nA_ns_n, nA_fI, nA_fJ, nA_fR, nA_aI, nA_aJ, nA_aR, nC_ns_z, nC_ns_s, nC_ns_k, nC_ns_n, nC_fI, nC_fJ, nC_fR, nC_aI, nC_aJ, nC_aR, Nat.zero_le, Nat.reduceAdd, Nat.reduceLeDiff, reduceIte, rf_c1, int_c1, none_c1, cat_nil, cat_int, cat_long, cat_rf, toList_s, toList_n, true_and, and_true, Option.some.injEq, exists_eq_left', exists_eq_left, reduceCtorEq, if_true, if_false, eq_self, ha, hb]
  unfold aN
  by_cases h : fI S 111 a ≤ fI S 111 b
  · have h' : ¬ fI S 111 b < fI S 111 a := Int32.not_lt.mpr h
    simp [h, h']
  · have h' : fI S 111 b < fI S 111 a := Int32.not_le.mp h
    simp [h, h']
/-- arrive -/
def rN (S : ns_St) (wk a : Nat) (fr : Option Nat) : ns_St := pI (pR (match fR S 202 wk with
  | none => bN S a (fI S 200 wk) fr
  | some l => pR (bN S a (fI S 200 wk) fr) 110 l (some a)) 202 wk (some a)) 203 wk (fI S 203 wk + 1)
theorem c14 {wk a : Nat} (hw : ns_k S wk = 3) (ha : ns_k S a = 2) (hl : ∀ l, fR S 202 wk = some l → ns_k S l = 2) {fr : Option Nat} {r : ns_Rs} : Ev (14, 0, [some (va_rf (some wk)), some (va_rf (some a)), some (va_rf fr)], [], S) r ↔ r = (some (va_rf (some a)), rN S wk a fr) := by
  have hne : wk ≠ a := fun z => by rw [z, ha] at hw; cases hw
  unfold rN
  cases h : fR S 202 wk with
  | none =>
    simp only [e14_0, e14_1, e14_2, e14_5, e14_6, e14_9, e14_10, e14_13, e14_16, e14_17, e14_20, e14_21, e14_24, e14_25, e14_26, e14_29, e14_30, e14_31, e14_34, e14_35, e14_36, e14_39, e14_40, c7 ha, bN_fI, bN_fR, bN_k, pI_ns_z, pI_ns_s, pI_ns_k, pI_ns_n, pI_fI, pI_fJ, pI_fR, pI_aI, pI_aJ, pI_aR, pJ_ns_z, pJ_ns_s, pJ_ns_k, pJ_ns_n, pJ_fI, pJ_fJ, pJ_fR, pJ_aI, pJ_aJ, pJ_aR, pR_ns_z, pR_ns_s, pR_ns_k, pR_ns_n, pR_fI, pR_fJ, pR_fR, pR_aI, pR_aJ, pR_aR, qI_ns_z, qI_ns_s, qI_ns_k, qI_ns_n, qI_fI, qI_fJ, qI_fR, qI_aI, qI_aJ, qI_aR, qJ_ns_z, qJ_ns_s, qJ_ns_k, qJ_ns_n, qJ_fI, qJ_fJ, qJ_fR, qJ_aI, qJ_aJ, qJ_aR, qR_ns_z, qR_ns_s, qR_ns_k, qR_ns_n, qR_fI, qR_fJ, qR_fR, qR_aI, qR_aJ, qR_aR, nO_ns_z, nO_ns_s, nO_ns_k, nO_ns_n, nO_fI, nO_fJ, nO_fR, nO_aI, nO_aJ, nO_aR, nA_ns_z, nA_ns_s, nA_ns_k, nA_ns_n, nA_fI, nA_fJ, nA_fR, nA_aI, nA_aJ, nA_aR, nC_ns_z, nC_ns_s, nC_ns_k, nC_ns_n, nC_fI, nC_fJ, nC_fR, nC_aI, nC_aJ, nC_aR, Nat.zero_le, Nat.reduceAdd, Nat.reduceLeDiff, reduceIte, rf_c1, int_c1, none_c1, cat_nil, cat_int, cat_long, cat_rf, toList_s, toList_n, true_and, and_true, Option.some.injEq, exists_eq_left', exists_eq_left, reduceCtorEq, if_true, if_false, eq_self, ha, hw, hne, h]
  | some l =>
    have hl2 := hl l h
    have hlw : l ≠ wk := fun z => by rw [z, hw] at hl2; cases hl2
    simp only [e14_0, e14_1, e14_2, e14_5, e14_6, e14_9, e14_10, e14_13, e14_16, e14_17, e14_20, e14_21, e14_24, e14_25, e14_26, e14_29, e14_30, e14_31, e14_34, e14_35, e14_36, e14_39, e14_40, c7 ha, bN_fI, bN_fR, bN_k, pI_ns_z, pI_ns_s, pI_ns_k, pI_ns_n, pI_fI, pI_fJ, pI_fR, pI_aI, pI_aJ, pI_aR, pJ_ns_z, pJ_ns_s, pJ_ns_k, pJ_ns_n, pJ_fI, pJ_fJ, pJ_fR, pJ_aI, pJ_aJ, pJ_aR, pR_ns_z, pR_ns_s, pR_ns_k, pR_ns_n, pR_fI, pR_fJ, pR_fR, pR_aI, pR_aJ, pR_aR, qI_ns_z, qI_ns_s, qI_ns_k, qI_ns_n, qI_fI, qI_fJ, qI_fR, qI_aI, qI_aJ, qI_aR, qJ_ns_z, qJ_ns_s, qJ_ns_k, qJ_ns_n, qJ_fI, qJ_fJ, qJ_fR, qJ_aI, qJ_aJ, qJ_aR, qR_ns_z, qR_ns_s, qR_ns_k, qR_ns_n, qR_fI, qR_fJ, qR_fR, qR_aI, qR_aJ, qR_aR, nO_ns_z, nO_ns_s, nO_ns_k, nO_ns_n, nO_fI, nO_fJ, nO_fR, nO_aI, nO_aJ, nO_aR, nA_ns_z, nA_ns_s, nA_ns_k, nA_ns_n, nA_fI, nA_fJ, nA_fR, nA_aI, nA_aJ, nA_aR, nC_ns_z, nC_ns_s, nC_ns_k, nC_ns_n, nC_fI, nC_fJ, nC_fR, nC_aI, nC_aJ, nC_aR, Nat.zero_le, Nat.reduceAdd, Nat.reduceLeDiff, reduceIte, rf_c1, int_c1, none_c1, cat_nil, cat_int, cat_long, cat_rf, toList_s, toList_n, true_and, and_true, Option.some.injEq, exists_eq_left', exists_eq_left, reduceCtorEq, if_true, if_false, eq_self, ha, hw, hne, h, hl2]
def lN' (S : ns_St) (a : Nat) : ns_St := match fR S 109 a with
  | none => pI S 107 a 0
  | some b => aN (pI S 107 a 0) b a
theorem c15 {wk a : Nat} (ha : ns_k S a = 2) (hb : ∀ b, fR S 109 a = some b → ns_k S b = 2) {r : ns_Rs} : Ev (15, 0, [some (va_rf (some wk)), some (va_rf (some a)), none], [], S) r ↔ r = (some (va_rf (fR S 109 a)), lN' S a) := by
  unfold lN'
  cases h : fR S 109 a with
  | none =>
    simp only [e15_0, e15_1, e15_2, e15_5, e15_6, e15_9, e15_10, e15_11, e15_14, e15_15, e15_16, e15_19, e15_20, pI_ns_z, pI_ns_s, pI_ns_k, pI_ns_n, pI_fI, pI_fJ, pI_fR, pI_aI, pI_aJ, pI_aR, pJ_ns_z, pJ_ns_s, pJ_ns_k, pJ_ns_n, pJ_fI, pJ_fJ, pJ_fR, pJ_aI, pJ_aJ, pJ_aR, pR_ns_z, pR_ns_s, pR_ns_k, pR_ns_n, pR_fI, pR_fJ, pR_fR, pR_aI, pR_aJ, pR_aR, qI_ns_z, qI_ns_s, qI_ns_k, qI_ns_n, qI_fI, qI_fJ, qI_fR, qI_aI, qI_aJ, qI_aR, qJ_ns_z, qJ_ns_s, qJ_ns_k, qJ_ns_n, qJ_fI, qJ_fJ, qJ_fR, qJ_aI, qJ_aJ, qJ_aR, qR_ns_z, qR_ns_s, qR_ns_k, qR_ns_n, qR_fI, qR_fJ, qR_fR, qR_aI, qR_aJ, qR_aR, nO_ns_z, nO_ns_s, nO_ns_k, nO_ns_n, nO_fI, nO_fJ, nO_fR, nO_aI, nO_aJ, nO_aR, nA_ns_z, nA_ns_s, nA_ns_k, nA_ns_n, nA_fI, nA_fJ, nA_fR, nA_aI, nA_aJ, nA_aR, nC_ns_z, nC_ns_s, nC_ns_k, nC_ns_n, nC_fI, nC_fJ, nC_fR, nC_aI, nC_aJ, nC_aR, Nat.zero_le, Nat.reduceAdd, Nat.reduceLeDiff, reduceIte, rf_c1, int_c1, none_c1, cat_nil, cat_int, cat_long, cat_rf, toList_s, toList_n, true_and, and_true, Option.some.injEq, exists_eq_left', exists_eq_left, reduceCtorEq, if_true, if_false, eq_self, ha, h]
    simp
  | some b =>
    have hb2 := hb b h
    have g := fun (r : ns_Rs) => c8 (S := pI S 107 a 0) (a := b) (b := a) (r := r) hb2 ha
    simp only [e15_0, e15_1, e15_2, e15_5, e15_6, e15_9, e15_10, e15_11, e15_14, e15_15, e15_16, e15_19, e15_20, g, pI_ns_z, pI_ns_s, pI_ns_k, pI_ns_n, pI_fI, pI_fJ, pI_fR, pI_aI, pI_aJ, pI_aR, pJ_ns_z, pJ_ns_s, pJ_ns_k, pJ_ns_n, pJ_fI, pJ_fJ, pJ_fR, pJ_aI, pJ_aJ, pJ_aR, pR_ns_z, pR_ns_s, pR_ns_k, pR_ns_n, pR_fI, pR_fJ, pR_fR, pR_aI, pR_aJ, pR_aR, qI_ns_z, qI_ns_s, qI_ns_k, qI_ns_n, qI_fI, qI_fJ, qI_fR, qI_aI, qI_aJ, qI_aR, qJ_ns_z, qJ_ns_s, qJ_ns_k, qJ_ns_n, qJ_fI, qJ_fJ, qJ_fR, qJ_aI, qJ_aJ, qJ_aR, qR_ns_z, qR_ns_s, qR_ns_k, qR_ns_n, qR_fI, qR_fJ, qR_fR, qR_aI, qR_aJ, qR_aR, nO_ns_z, nO_ns_s, nO_ns_k, nO_ns_n, nO_fI, nO_fJ, nO_fR, nO_aI, nO_aJ, nO_aR, nA_ns_z, nA_ns_s, nA_ns_k, nA_ns_n, nA_fI, nA_fJ, nA_fR, nA_aI, nA_aJ, nA_aR, nC_ns_z, nC_ns_s, nC_ns_k, nC_ns_n, nC_fI, nC_fJ, nC_fR, nC_aI, nC_aJ, nC_aR, Nat.zero_le, Nat.reduceAdd, Nat.reduceLeDiff, reduceIte, rf_c1, int_c1, none_c1, cat_nil, cat_int, cat_long, cat_rf, toList_s, toList_n, true_and, and_true, Option.some.injEq, exists_eq_left', exists_eq_left, reduceCtorEq, if_true, if_false, eq_self, ha, h, hb2]
    simp
end CWK
