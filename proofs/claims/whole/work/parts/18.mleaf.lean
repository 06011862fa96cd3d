/-! ===== the reference: its world, its leaves ===== -/
/-- the rows of the reference: which field, what kind, how long -/
def m_len (f : Nat) : Nat := if f = 19 then 500 else if f = 5 then 1000000 else 2000
def MW (S : ns_St) (m : Nat) (A : Nat → Nat) : Prop := ns_k S m = 5 ∧ (∀ f, f ∈ [1, 2, 3, 4, 8, 9, 10, 13, 14, 15, 17, 19] → fR S (400 + f) m = some (A f) ∧ ns_k S (A f) = 6 ∧ ns_n S (A f) = m_len f) ∧ (∀ f, f ∈ [5, 16, 18] → fR S (400 + f) m = some (A f) ∧ ns_k S (A f) = 7 ∧ ns_n S (A f) = m_len f) ∧ ∀ f g, f < 20 → g < 20 → A f = A g → f = g
section MLEAF
variable {S : ns_St} {m : Nat} {A : Nat → Nat} {r : ns_Rs}
theorem mw0 (h : MW S m A) : ns_k S m = 5 := h.1
theorem mwi (h : MW S m A) {f g : Nat} (hf : f < 20) (hg : g < 20) : (A f = A g) ↔ f = g := ⟨h.2.2.2 f g hf hg, fun e => e ▸ rfl⟩
theorem mr1 (h : MW S m A) : fR S 401 m = some (A 1) := (h.2.1 1 (by decide)).1
theorem mk1 (h : MW S m A) : ns_k S (A 1) = 6 := (h.2.1 1 (by decide)).2.1
theorem mn1 (h : MW S m A) : ns_n S (A 1) = 2000 := (h.2.1 1 (by decide)).2.2
theorem mr2 (h : MW S m A) : fR S 402 m = some (A 2) := (h.2.1 2 (by decide)).1
theorem mk2 (h : MW S m A) : ns_k S (A 2) = 6 := (h.2.1 2 (by decide)).2.1
theorem mn2 (h : MW S m A) : ns_n S (A 2) = 2000 := (h.2.1 2 (by decide)).2.2
theorem mr3 (h : MW S m A) : fR S 403 m = some (A 3) := (h.2.1 3 (by decide)).1
theorem mk3 (h : MW S m A) : ns_k S (A 3) = 6 := (h.2.1 3 (by decide)).2.1
theorem mn3 (h : MW S m A) : ns_n S (A 3) = 2000 := (h.2.1 3 (by decide)).2.2
theorem mr4 (h : MW S m A) : fR S 404 m = some (A 4) := (h.2.1 4 (by decide)).1
theorem mk4 (h : MW S m A) : ns_k S (A 4) = 6 := (h.2.1 4 (by decide)).2.1
theorem mn4 (h : MW S m A) : ns_n S (A 4) = 2000 := (h.2.1 4 (by decide)).2.2
theorem mr8 (h : MW S m A) : fR S 408 m = some (A 8) := (h.2.1 8 (by decide)).1
theorem mk8 (h : MW S m A) : ns_k S (A 8) = 6 := (h.2.1 8 (by decide)).2.1
theorem mn8 (h : MW S m A) : ns_n S (A 8) = 2000 := (h.2.1 8 (by decide)).2.2
theorem mr9 (h : MW S m A) : fR S 409 m = some (A 9) := (h.2.1 9 (by decide)).1
theorem mk9 (h : MW S m A) : ns_k S (A 9) = 6 := (h.2.1 9 (by decide)).2.1
theorem mn9 (h : MW S m A) : ns_n S (A 9) = 2000 := (h.2.1 9 (by decide)).2.2
theorem mr10 (h : MW S m A) : fR S 410 m = some (A 10) := (h.2.1 10 (by decide)).1
theorem mk10 (h : MW S m A) : ns_k S (A 10) = 6 := (h.2.1 10 (by decide)).2.1
theorem mn10 (h : MW S m A) : ns_n S (A 10) = 2000 := (h.2.1 10 (by decide)).2.2
theorem mr13 (h : MW S m A) : fR S 413 m = some (A 13) := (h.2.1 13 (by decide)).1
theorem mk13 (h : MW S m A) : ns_k S (A 13) = 6 := (h.2.1 13 (by decide)).2.1
theorem mn13 (h : MW S m A) : ns_n S (A 13) = 2000 := (h.2.1 13 (by decide)).2.2
theorem mr14 (h : MW S m A) : fR S 414 m = some (A 14) := (h.2.1 14 (by decide)).1
theorem mk14 (h : MW S m A) : ns_k S (A 14) = 6 := (h.2.1 14 (by decide)).2.1
theorem mn14 (h : MW S m A) : ns_n S (A 14) = 2000 := (h.2.1 14 (by decide)).2.2
theorem mr15 (h : MW S m A) : fR S 415 m = some (A 15) := (h.2.1 15 (by decide)).1
theorem mk15 (h : MW S m A) : ns_k S (A 15) = 6 := (h.2.1 15 (by decide)).2.1
theorem mn15 (h : MW S m A) : ns_n S (A 15) = 2000 := (h.2.1 15 (by decide)).2.2
theorem mr17 (h : MW S m A) : fR S 417 m = some (A 17) := (h.2.1 17 (by decide)).1
theorem mk17 (h : MW S m A) : ns_k S (A 17) = 6 := (h.2.1 17 (by decide)).2.1
theorem mn17 (h : MW S m A) : ns_n S (A 17) = 2000 := (h.2.1 17 (by decide)).2.2
theorem mr19 (h : MW S m A) : fR S 419 m = some (A 19) := (h.2.1 19 (by decide)).1
theorem mk19 (h : MW S m A) : ns_k S (A 19) = 6 := (h.2.1 19 (by decide)).2.1
theorem mn19 (h : MW S m A) : ns_n S (A 19) = 500 := (h.2.1 19 (by decide)).2.2
theorem mr5 (h : MW S m A) : fR S 405 m = some (A 5) := (h.2.2.1 5 (by decide)).1
theorem mk5 (h : MW S m A) : ns_k S (A 5) = 7 := (h.2.2.1 5 (by decide)).2.1
theorem mn5 (h : MW S m A) : ns_n S (A 5) = 1000000 := (h.2.2.1 5 (by decide)).2.2
theorem mr16 (h : MW S m A) : fR S 416 m = some (A 16) := (h.2.2.1 16 (by decide)).1
theorem mk16 (h : MW S m A) : ns_k S (A 16) = 7 := (h.2.2.1 16 (by decide)).2.1
theorem mn16 (h : MW S m A) : ns_n S (A 16) = 2000 := (h.2.2.1 16 (by decide)).2.2
theorem mr18 (h : MW S m A) : fR S 418 m = some (A 18) := (h.2.2.1 18 (by decide)).1
theorem mk18 (h : MW S m A) : ns_k S (A 18) = 7 := (h.2.2.1 18 (by decide)).2.1
theorem mn18 (h : MW S m A) : ns_n S (A 18) = 2000 := (h.2.2.1 18 (by decide)).2.2
theorem t57 {v lo hi : Int32} : Ev (57, 0, [some (.int v), some (.int lo), some (.int hi)], [], S) r ↔ r = (some (.int (if v < lo then 0 else if hi < v then 0 else 1)), S) := by
  simp only [e57_0, e57_1, e57_2, e57_5, e57_6, e57_7, e57_10, e57_11, e57_14, e57_15, Nat.zero_le, Nat.reduceAdd, Nat.reduceLeDiff, reduceIte, rf_c1, int_c1, none_c1, cat_nil, cat_int, cat_long, cat_rf, toList_s, toList_n, true_and, and_true, Option.some.injEq, exists_eq_left', exists_eq_left, reduceCtorEq, if_true, if_false, eq_self]
  by_cases h1 : v < lo <;> by_cases h2 : hi < v <;> simp [h1, h2]
theorem t59 {v : Int32} : Ev (59, 0, [some (.int v)], [], S) r ↔ r = (some (.int (if 3 ≤ v then 0 else 1)), S) := by
  simp only [e59_0, e59_1, e59_2, e59_5, e59_6, e59_9, e59_10, Nat.zero_le, Nat.reduceAdd, Nat.reduceLeDiff, reduceIte, rf_c1, int_c1, none_c1, cat_nil, cat_int, cat_long, cat_rf, toList_s, toList_n, true_and, and_true, Option.some.injEq, exists_eq_left', exists_eq_left, reduceCtorEq, if_true, if_false, eq_self]
  by_cases h1 : 3 ≤ v <;> simp [h1]
theorem t60 {v : Int32} : Ev (60, 0, [some (.int v)], [], S) r ↔ r = (some (.int (if v < 3 then 0 else if 7 < v then 0 else 1)), S) := by
  simp only [e60_0, e60_1, e60_2, e60_4, e60_7, t57, Nat.zero_le, Nat.reduceAdd, Nat.reduceLeDiff, reduceIte, rf_c1, int_c1, none_c1, cat_nil, cat_int, cat_long, cat_rf, toList_s, toList_n, true_and, and_true, Option.some.injEq, exists_eq_left', exists_eq_left, reduceCtorEq, if_true, if_false, eq_self]
  by_cases h1 : v < 3 <;> by_cases h2 : 7 < v <;> simp [h1, h2]
theorem t58 {v : Int32} (h : MW S m A) : Ev (58, 0, [some (va_rf (some m)), some (.int v)], [], S) r ↔ r = (some (.int (if v < 0 then 0 else if fI S 400 m - 1 < v then 0 else 1)), S) := by
  simp only [e58_0, e58_1, e58_2, e58_3, e58_6, e58_7, e58_8, e58_11, t57, mw0 h, Nat.zero_le, Nat.reduceAdd, Nat.reduceLeDiff, reduceIte, rf_c1, int_c1, none_c1, cat_nil, cat_int, cat_long, cat_rf, toList_s, toList_n, true_and, and_true, Option.some.injEq, exists_eq_left', exists_eq_left, reduceCtorEq, if_true, if_false, eq_self]
  by_cases h1 : v < 0 <;> by_cases h2 : fI S 400 m - 1 < v <;> simp [h1, h2]
theorem t61 {t i : Int32} (h : MW S m A) : Ev (61, 0, [some (va_rf (some m)), some (.int t), some (.int i)], [], S) r ↔ ns_inb t 2000 = true ∧ ns_inb (aI S (A 4) t.toNatClampNeg + i) 1000000 = true ∧ r = (some (.int (aJ S (A 5) (aI S (A 4) t.toNatClampNeg + i).toNatClampNeg).toInt32), S) := by
  simp only [e61_0, e61_1, e61_4, e61_5, e61_8, e61_9, e61_10, e61_11, e61_12, e61_13, e61_14, mw0 h, mr4 h, mk4 h, mn4 h, mr5 h, mk5 h, mn5 h, Nat.zero_le, Nat.reduceAdd, Nat.reduceLeDiff, reduceIte, rf_c1, int_c1, none_c1, cat_nil, cat_int, cat_long, cat_rf, toList_s, toList_n, true_and, and_true, Option.some.injEq, exists_eq_left', exists_eq_left, reduceCtorEq, if_true, if_false, eq_self]
theorem t62 {t : Int32} (h : MW S m A) : Ev (62, 0, [some (va_rf (some m)), some (.int t)], [], S) r ↔ ns_inb t 2000 = true ∧ r = (some (.int (if aI S (A 1) t.toNatClampNeg < 3 then 0 else if 7 < aI S (A 1) t.toNatClampNeg then 0 else aI S (A 2) t.toNatClampNeg)), S) := by
  simp only [e62_0, e62_1, e62_4, e62_5, e62_6, e62_9, e62_12, e62_13, e62_16, e62_17, e62_18, e62_21, e62_22, t60, mw0 h, mr1 h, mk1 h, mn1 h, mr2 h, mk2 h, mn2 h, Nat.zero_le, Nat.reduceAdd, Nat.reduceLeDiff, reduceIte, rf_c1, int_c1, none_c1, cat_nil, cat_int, cat_long, cat_rf, toList_s, toList_n, true_and, and_true, Option.some.injEq, exists_eq_left', exists_eq_left, reduceCtorEq, if_true, if_false, eq_self]
  by_cases h0 : ns_inb t 2000 = true <;> by_cases h1 : aI S (A 1) t.toNatClampNeg < 3 <;> by_cases h2 : 7 < aI S (A 1) t.toNatClampNeg <;> simp [h0, h1, h2]
theorem t93 (h : MW S m A) : Ev (93, 0, [some (va_rf (some m))], [], S) r ↔ r = (some (.int (fI S 407 m)), S) := by
  simp only [e93_0, e93_1, e93_4, mw0 h, Nat.zero_le, Nat.reduceAdd, Nat.reduceLeDiff, reduceIte, rf_c1, int_c1, none_c1, cat_nil, cat_int, cat_long, cat_rf, toList_s, toList_n, true_and, and_true, Option.some.injEq, exists_eq_left', exists_eq_left, reduceCtorEq, if_true, if_false, eq_self]
theorem t94 (h : MW S m A) : Ev (94, 0, [some (va_rf (some m))], [], S) r ↔ r = (some (.int (fI S 400 m)), S) := by
  simp only [e94_0, e94_1, e94_4, mw0 h, Nat.zero_le, Nat.reduceAdd, Nat.reduceLeDiff, reduceIte, rf_c1, int_c1, none_c1, cat_nil, cat_int, cat_long, cat_rf, toList_s, toList_n, true_and, and_true, Option.some.injEq, exists_eq_left', exists_eq_left, reduceCtorEq, if_true, if_false, eq_self]
theorem t70 {v : Int32} (h : MW S m A) : Ev (70, 0, [some (va_rf (some m)), some (.int v)], [], S) r ↔ (if v < 0 then r = (some (.int (-1)), S) else if fI S 400 m - 1 < v then r = (some (.int (-1)), S) else ns_inb v 2000 = true ∧ r = (some (.int (aI S (A 1) v.toNatClampNeg)), S)) := by
  simp only [e70_0, e70_1, e70_2, e70_5, e70_8, e70_9, e70_12, e70_13, e70_14, e70_17, e70_18, t58 h, mw0 h, mr1 h, mk1 h, mn1 h, Nat.zero_le, Nat.reduceAdd, Nat.reduceLeDiff, reduceIte, rf_c1, int_c1, none_c1, cat_nil, cat_int, cat_long, cat_rf, toList_s, toList_n, true_and, and_true, Option.some.injEq, exists_eq_left', exists_eq_left, reduceCtorEq, if_true, if_false, eq_self]
  by_cases h1 : v < 0 <;> by_cases h2 : fI S 400 m - 1 < v <;> simp [h1, h2]
theorem t71 {v : Int32} (h : MW S m A) : Ev (71, 0, [some (va_rf (some m)), some (.int v)], [], S) r ↔ (if v < 0 then r = (some (.int (-1)), S) else if fI S 400 m - 1 < v then r = (some (.int (-1)), S) else ns_inb v 2000 = true ∧ r = (some (.int (aI S (A 2) v.toNatClampNeg)), S)) := by
  simp only [e71_0, e71_1, e71_2, e71_5, e71_8, e71_9, e71_12, e71_13, e71_14, e71_17, e71_18, t58 h, mw0 h, mr2 h, mk2 h, mn2 h, Nat.zero_le, Nat.reduceAdd, Nat.reduceLeDiff, reduceIte, rf_c1, int_c1, none_c1, cat_nil, cat_int, cat_long, cat_rf, toList_s, toList_n, true_and, and_true, Option.some.injEq, exists_eq_left', exists_eq_left, reduceCtorEq, if_true, if_false, eq_self]
  by_cases h1 : v < 0 <;> by_cases h2 : fI S 400 m - 1 < v <;> simp [h1, h2]
end MLEAF
