/-! ===== the class's walk: what its notes mean, and meet ===== -/
abbrev Dn : Type := (Nat → Int32) × (Nat → Int64)
def nadd (N : Dn) (b c : Nat) : Dn := (va_up N.1 b (if N.1 b ≤ N.1 c then N.1 c + 1 else N.1 b), va_up N.2 b (N.2 b + N.2 c))
def nnew (ow : Nat → Int64) (N : Dn) (c : Nat) : Dn := (va_up N.1 c 1, va_up N.2 c (ow c))
def nstep (hk : Nat → Nat) (ch : Nat → Nat → Option Nat) (ow : Nat → Int64) (X : Dx) (N : Dn) : Dn := match X.1 with
  | [] => N
  | (u, p) :: t => if hk u ≤ p then (match t with
    | [] => N
    | (b, _) :: _ => nadd N b u) else match ch u p with
    | none => N
    | some c => if X.2.1 c = 0 then nnew ow N c else if X.2.1 c = 1 then N else nadd N u c
section CWK2
variable {S : ns_St} {sh T wk cur : Nat} {ad na ha : Nat → Nat} {Z : Zs}
theorem rN_fI (a : Nat) (fr : Option Nat) (f x : Nat) : fI (rN S wk a fr) f x = if f = 203 ∧ x = wk then fI S 203 wk + 1 else fI (bN S a (fI S 200 wk) fr) f x := by
  unfold rN
  rw [pI_fI, pR_fI]
  cases h : fR S 202 wk with
  | none => rfl
  | some l =>
    show (if f = 203 ∧ x = wk then _ else fI (pR (bN S a (fI S 200 wk) fr) 110 l (some a)) f x) = _
    rw [pR_fI]
theorem rN_fJ (a : Nat) (fr : Option Nat) (f x : Nat) : fJ (rN S wk a fr) f x = fJ (bN S a (fI S 200 wk) fr) f x := by
  unfold rN
  rw [pI_fJ, pR_fJ]
  cases h : fR S 202 wk with
  | none => rfl
  | some l =>
    show fJ (pR (bN S a (fI S 200 wk) fr) 110 l (some a)) f x = _
    rw [pR_fJ]
theorem rN_fR (a : Nat) (fr : Option Nat) (f x : Nat) : fR (rN S wk a fr) f x = if f = 202 ∧ x = wk then some a else if f = 110 ∧ fR S 202 wk = some x then some a else fR (bN S a (fI S 200 wk) fr) f x := by
  unfold rN
  cases h : fR S 202 wk with
  | none => simp only [pI_fR, pR_fR, reduceCtorEq, and_false, if_false]
  | some l =>
    have e : (some l = some x) ↔ x = l := by simp [eq_comm]
    simp only [pI_fR, pR_fR, e]
theorem rN_k (a : Nat) (fr : Option Nat) : ns_k (rN S wk a fr) = ns_k S := by
  unfold rN
  rw [pI_ns_k, pR_ns_k]
  cases h : fR S 202 wk with
  | none => exact bN_k _ _ _
  | some l => exact (pR_ns_k ..).trans (bN_k _ _ _)
theorem rN_n (a : Nat) (fr : Option Nat) : ns_n (rN S wk a fr) = ns_n S := by
  unfold rN
  rw [pI_ns_n, pR_ns_n]
  cases h : fR S 202 wk with
  | none => exact bN_n _ _ _
  | some l => exact (pR_ns_n ..).trans (bN_n _ _ _)
theorem rN_z (a : Nat) (fr : Option Nat) : ns_z (rN S wk a fr) = ns_z S := by
  unfold rN
  rw [pI_ns_z, pR_ns_z]
  cases h : fR S 202 wk with
  | none => exact bN_z _ _ _
  | some l => exact (pR_ns_z ..).trans (bN_z _ _ _)
theorem rN_s (a : Nat) (fr : Option Nat) : ns_s (rN S wk a fr) = ns_s S := by
  unfold rN
  rw [pI_ns_s, pR_ns_s]
  cases h : fR S 202 wk with
  | none => exact bN_s _ _ _
  | some l => exact (pR_ns_s ..).trans (bN_s _ _ _)
theorem rN_aJ (a : Nat) (fr : Option Nat) : aJ (rN S wk a fr) = aJ S := by
  unfold rN
  rw [pI_aJ, pR_aJ]
  cases h : fR S 202 wk with
  | none => exact bN_aJ _ _ _
  | some l => exact (pR_aJ ..).trans (bN_aJ _ _ _)
theorem rN_aR (a : Nat) (fr : Option Nat) : aR (rN S wk a fr) = aR S := by
  unfold rN
  rw [pI_aR, pR_aR]
  cases h : fR S 202 wk with
  | none => exact bN_aR _ _ _
  | some l => exact (pR_aR ..).trans (bN_aR _ _ _)
-- meet
theorem c13n {fr : Option Nat} {r : ns_Rs} : Ev (13, 0, [some (va_rf (some wk)), some (va_rf none), some (va_rf fr)], [], S) r ↔ r = (some (va_rf fr), S) := by
  simp only [e13_0, e13_1, e13_4, e13_5, e13_6, e13_7, e13_10, e13_11, e13_14, e13_17, e13_18, e13_19, e13_20, e13_23, e13_24, e13_25, e13_28, e13_31, e13_32, e13_33, e13_36, e13_37, e13_38, e13_41, e13_44, e13_45, e13_46, e13_49, e13_52, e13_53, e13_56, e13_57, e13_60, e13_63, e13_64, e13_65, e13_68, e13_69, pI_ns_z, pI_ns_s, pI_ns_k, pI_ns_n, pI_fI, pI_fJ, pI_fR, pI_aI, pI_aJ, pI_aR, pJ_ns_z, pJ_ns_s, pJ_ns_k, pJ_ns_n, pJ_fI, pJ_fJ, pJ_fR, pJ_aI, pJ_aJ, pJ_aR, pR_ns_z, pR_ns_s, pR_ns_k, pR_ns_n, pR_fI, pR_fJ, pR_fR, pR_aI, pR_aJ, pR_aR, qI_ns_z, qI_ns_s, qI_ns_k, qI_ns_n, qI_fI, qI_fJ, qI_fR, qI_aI, qI_aJ, qI_aR, qJ_ns_z, qJ_ns_s, qJ_ns_k, qJ_ns_n, qJ_fI, qJ_fJ, qJ_fR, qJ_aI, qJ_aJ, qJ_aR, qR_ns_z, qR_ns_s, qR_ns_k, qR_ns_n, qR_fI, qR_fJ, qR_fR, qR_aI, qR_aJ, qR_aR, nO_ns_z, nO_ns_s, nO_ns_k, nO_ns_n, nO_fI, nO_fJ, nO_fR, nO_aI, nO_aJ, nO_aR, nA_ns_z, nA_ns_s, nA_ns_k, nA_ns_n, nA_fI, nA_fJ, nA_fR, nA_aI, nA_aJ, nA_aR, nC_ns_z, nC_ns_s, nC_ns_k, nC_ns_n, nC_fI, nC_fJ, nC_fR, nC_aI, nC_aJ, nC_aR, Nat.zero_le, Nat.reduceAdd, Nat.reduceLeDiff, reduceIte, rf_c1, int_c1, none_c1, cat_nil, cat_int, cat_long, cat_rf, toList_s, toList_n, true_and, and_true, Option.some.injEq, exists_eq_left', exists_eq_left, reduceCtorEq, if_true, if_false, eq_self]
theorem c13a {c : Nat} {fr : Option Nat} {r : ns_Rs} (hw : ns_k S wk = 3) (hc : ns_k S c = 2) (hl : ∀ l, fR S 202 wk = some l → ns_k S l = 2) (y : fI S 106 c ≠ fI S 200 wk) : Ev (13, 0, [some (va_rf (some wk)), some (va_rf (some c)), some (va_rf fr)], [], S) r ↔ r = (some (va_rf (some c)), rN S wk c fr) := by
  simp only [e13_0, e13_1, e13_4, e13_5, e13_6, e13_7, e13_10, e13_11, e13_14, e13_17, e13_18, e13_19, e13_20, e13_23, e13_24, e13_25, e13_28, e13_31, e13_32, e13_33, e13_36, e13_37, e13_38, e13_41, e13_44, e13_45, e13_46, e13_49, e13_52, e13_53, e13_56, e13_57, e13_60, e13_63, e13_64, e13_65, e13_68, e13_69, c14 hw hc hl, pI_ns_z, pI_ns_s, pI_ns_k, pI_ns_n, pI_fI, pI_fJ, pI_fR, pI_aI, pI_aJ, pI_aR, pJ_ns_z, pJ_ns_s, pJ_ns_k, pJ_ns_n, pJ_fI, pJ_fJ, pJ_fR, pJ_aI, pJ_aJ, pJ_aR, pR_ns_z, pR_ns_s, pR_ns_k, pR_ns_n, pR_fI, pR_fJ, pR_fR, pR_aI, pR_aJ, pR_aR, qI_ns_z, qI_ns_s, qI_ns_k, qI_ns_n, qI_fI, qI_fJ, qI_fR, qI_aI, qI_aJ, qI_aR, qJ_ns_z, qJ_ns_s, qJ_ns_k, qJ_ns_n, qJ_fI, qJ_fJ, qJ_fR, qJ_aI, qJ_aJ, qJ_aR, qR_ns_z, qR_ns_s, qR_ns_k, qR_ns_n, qR_fI, qR_fJ, qR_fR, qR_aI, qR_aJ, qR_aR, nO_ns_z, nO_ns_s, nO_ns_k, nO_ns_n, nO_fI, nO_fJ, nO_fR, nO_aI, nO_aJ, nO_aR, nA_ns_z, nA_ns_s, nA_ns_k, nA_ns_n, nA_fI, nA_fJ, nA_fR, nA_aI, nA_aJ, nA_aR, nC_ns_z, nC_ns_s, nC_ns_k, nC_ns_n, nC_fI, nC_fJ, nC_fR, nC_aI, nC_aJ, nC_aR, Nat.zero_le, Nat.reduceAdd, Nat.reduceLeDiff, reduceIte, rf_c1, int_c1, none_c1, cat_nil, cat_int, cat_long, cat_rf, toList_s, toList_n, true_and, and_true, Option.some.injEq, exists_eq_left', exists_eq_left, reduceCtorEq, if_true, if_false, eq_self, hw, hc, y]
theorem c13o {c : Nat} {fr : Option Nat} {r : ns_Rs} (hw : ns_k S wk = 3) (hc : ns_k S c = 2) (y : fI S 106 c = fI S 200 wk) (y1 : fI S 107 c = 1) : Ev (13, 0, [some (va_rf (some wk)), some (va_rf (some c)), some (va_rf fr)], [], S) r ↔ r = (some (va_rf fr), pI (pI S 204 wk 1) 205 wk (if fI S 205 wk ≠ 0 then 1 else if some c = fR S 201 wk then 1 else 0)) := by
  by_cases g : fI S 205 wk = 0
  · by_cases g2 : some c = fR S 201 wk
    · simp only [e13_0, e13_1, e13_4, e13_5, e13_6, e13_7, e13_10, e13_11, e13_14, e13_17, e13_18, e13_19, e13_20, e13_23, e13_24, e13_25, e13_28, e13_31, e13_32, e13_33, e13_36, e13_37, e13_38, e13_41, e13_44, e13_45, e13_46, e13_49, e13_52, e13_53, e13_56, e13_57, e13_60, e13_63, e13_64, e13_65, e13_68, e13_69, pI_ns_z, pI_ns_s, pI_ns_k, pI_ns_n, pI_fI, pI_fJ, pI_fR, pI_aI, pI_aJ, pI_aR, pJ_ns_z, pJ_ns_s, pJ_ns_k, pJ_ns_n, pJ_fI, pJ_fJ, pJ_fR, pJ_aI, pJ_aJ, pJ_aR, pR_ns_z, pR_ns_s, pR_ns_k, pR_ns_n, pR_fI, pR_fJ, pR_fR, pR_aI, pR_aJ, pR_aR, qI_ns_z, qI_ns_s, qI_ns_k, qI_ns_n, qI_fI, qI_fJ, qI_fR, qI_aI, qI_aJ, qI_aR, qJ_ns_z, qJ_ns_s, qJ_ns_k, qJ_ns_n, qJ_fI, qJ_fJ, qJ_fR, qJ_aI, qJ_aJ, qJ_aR, qR_ns_z, qR_ns_s, qR_ns_k, qR_ns_n, qR_fI, qR_fJ, qR_fR, qR_aI, qR_aJ, qR_aR, nO_ns_z, nO_ns_s, nO_ns_k, nO_ns_n, nO_fI, nO_fJ, nO_fR, nO_aI, nO_aJ, nO_aR, nA_ns_z, nA_ns_s, nA_ns_k, nA_ns_n, nA_fI, nA_fJ, nA_fR, nA_aI, nA_aJ, nA_aR, nC_ns_z, nC_ns_s, nC_ns_k, nC_ns_n, nC_fI, nC_fJ, nC_fR, nC_aI, nC_aJ, nC_aR, Nat.zero_le, Nat.reduceAdd, Nat.reduceLeDiff, reduceIte, rf_c1, int_c1, none_c1, cat_nil, cat_int, cat_long, cat_rf, toList_s, toList_n, true_and, and_true, Option.some.injEq, exists_eq_left', exists_eq_left, reduceCtorEq, if_true, if_false, eq_self, hw, hc, y, y1, g, ← g2]
      simp
    · simp only [e13_0, e13_1, e13_4, e13_5, e13_6, e13_7, e13_10, e13_11, e13_14, e13_17, e13_18, e13_19, e13_20, e13_23, e13_24, e13_25, e13_28, e13_31, e13_32, e13_33, e13_36, e13_37, e13_38, e13_41, e13_44, e13_45, e13_46, e13_49, e13_52, e13_53, e13_56, e13_57, e13_60, e13_63, e13_64, e13_65, e13_68, e13_69, pI_ns_z, pI_ns_s, pI_ns_k, pI_ns_n, pI_fI, pI_fJ, pI_fR, pI_aI, pI_aJ, pI_aR, pJ_ns_z, pJ_ns_s, pJ_ns_k, pJ_ns_n, pJ_fI, pJ_fJ, pJ_fR, pJ_aI, pJ_aJ, pJ_aR, pR_ns_z, pR_ns_s, pR_ns_k, pR_ns_n, pR_fI, pR_fJ, pR_fR, pR_aI, pR_aJ, pR_aR, qI_ns_z, qI_ns_s, qI_ns_k, qI_ns_n, qI_fI, qI_fJ, qI_fR, qI_aI, qI_aJ, qI_aR, qJ_ns_z, qJ_ns_s, qJ_ns_k, qJ_ns_n, qJ_fI, qJ_fJ, qJ_fR, qJ_aI, qJ_aJ, qJ_aR, qR_ns_z, qR_ns_s, qR_ns_k, qR_ns_n, qR_fI, qR_fJ, qR_fR, qR_aI, qR_aJ, qR_aR, nO_ns_z, nO_ns_s, nO_ns_k, nO_ns_n, nO_fI, nO_fJ, nO_fR, nO_aI, nO_aJ, nO_aR, nA_ns_z, nA_ns_s, nA_ns_k, nA_ns_n, nA_fI, nA_fJ, nA_fR, nA_aI, nA_aJ, nA_aR, nC_ns_z, nC_ns_s, nC_ns_k, nC_ns_n, nC_fI, nC_fJ, nC_fR, nC_aI, nC_aJ, nC_aR, Nat.zero_le, Nat.reduceAdd, Nat.reduceLeDiff, reduceIte, rf_c1, int_c1, none_c1, cat_nil, cat_int, cat_long, cat_rf, toList_s, toList_n, true_and, and_true, Option.some.injEq, exists_eq_left', exists_eq_left, reduceCtorEq, if_true, if_false, eq_self, hw, hc, y, y1, g, g2]
      simp
  · simp only [e13_0, e13_1, e13_4, e13_5, e13_6, e13_7, e13_10, e13_11, e13_14, e13_17, e13_18, e13_19, e13_20, e13_23, e13_24, e13_25, e13_28, e13_31, e13_32, e13_33, e13_36, e13_37, e13_38, e13_41, e13_44, e13_45, e13_46, e13_49, e13_52, e13_53, e13_56, e13_57, e13_60, e13_63, e13_64, e13_65, e13_68, e13_69, pI_ns_z, pI_ns_s, pI_ns_k, pI_ns_n, pI_fI, pI_fJ, pI_fR, pI_aI, pI_aJ, pI_aR, pJ_ns_z, pJ_ns_s, pJ_ns_k, pJ_ns_n, pJ_fI, pJ_fJ, pJ_fR, pJ_aI, pJ_aJ, pJ_aR, pR_ns_z, pR_ns_s, pR_ns_k, pR_ns_n, pR_fI, pR_fJ, pR_fR, pR_aI, pR_aJ, pR_aR, qI_ns_z, qI_ns_s, qI_ns_k, qI_ns_n, qI_fI, qI_fJ, qI_fR, qI_aI, qI_aJ, qI_aR, qJ_ns_z, qJ_ns_s, qJ_ns_k, qJ_ns_n, qJ_fI, qJ_fJ, qJ_fR, qJ_aI, qJ_aJ, qJ_aR, qR_ns_z, qR_ns_s, qR_ns_k, qR_ns_n, qR_fI, qR_fJ, qR_fR, qR_aI, qR_aJ, qR_aR, nO_ns_z, nO_ns_s, nO_ns_k, nO_ns_n, nO_fI, nO_fJ, nO_fR, nO_aI, nO_aJ, nO_aR, nA_ns_z, nA_ns_s, nA_ns_k, nA_ns_n, nA_fI, nA_fJ, nA_fR, nA_aI, nA_aJ, nA_aR, nC_ns_z, nC_ns_s, nC_ns_k, nC_ns_n, nC_fI, nC_fJ, nC_fR, nC_aI, nC_aJ, nC_aR, Nat.zero_le, Nat.reduceAdd, Nat.reduceLeDiff, reduceIte, rf_c1, int_c1, none_c1, cat_nil, cat_int, cat_long, cat_rf, toList_s, toList_n, true_and, and_true, Option.some.injEq, exists_eq_left', exists_eq_left, reduceCtorEq, if_true, if_false, eq_self, hw, hc, y, y1, g]
    simp [g]
theorem c13l {c f : Nat} {r : ns_Rs} (hw : ns_k S wk = 3) (hc : ns_k S c = 2) (hf : ns_k S f = 2) (y : fI S 106 c = fI S 200 wk) (y1 : fI S 107 c = 0) : Ev (13, 0, [some (va_rf (some wk)), some (va_rf (some c)), some (va_rf (some f))], [], S) r ↔ r = (some (va_rf (some f)), aN S f c) := by
  simp only [e13_0, e13_1, e13_4, e13_5, e13_6, e13_7, e13_10, e13_11, e13_14, e13_17, e13_18, e13_19, e13_20, e13_23, e13_24, e13_25, e13_28, e13_31, e13_32, e13_33, e13_36, e13_37, e13_38, e13_41, e13_44, e13_45, e13_46, e13_49, e13_52, e13_53, e13_56, e13_57, e13_60, e13_63, e13_64, e13_65, e13_68, e13_69, c8 hf hc, pI_ns_z, pI_ns_s, pI_ns_k, pI_ns_n, pI_fI, pI_fJ, pI_fR, pI_aI, pI_aJ, pI_aR, pJ_ns_z, pJ_ns_s, pJ_ns_k, pJ_ns_n, pJ_fI, pJ_fJ, pJ_fR, pJ_aI, pJ_aJ, pJ_aR, pR_ns_z, pR_ns_s, pR_ns_k, pR_ns_n, pR_fI, pR_fJ, pR_fR, pR_aI, pR_aJ, pR_aR, qI_ns_z, qI_ns_s, qI_ns_k, qI_ns_n, qI_fI, qI_fJ, qI_fR, qI_aI, qI_aJ, qI_aR, qJ_ns_z, qJ_ns_s, qJ_ns_k, qJ_ns_n, qJ_fI, qJ_fJ, qJ_fR, qJ_aI, qJ_aJ, qJ_aR, qR_ns_z, qR_ns_s, qR_ns_k, qR_ns_n, qR_fI, qR_fJ, qR_fR, qR_aI, qR_aJ, qR_aR, nO_ns_z, nO_ns_s, nO_ns_k, nO_ns_n, nO_fI, nO_fJ, nO_fR, nO_aI, nO_aJ, nO_aR, nA_ns_z, nA_ns_s, nA_ns_k, nA_ns_n, nA_fI, nA_fJ, nA_fR, nA_aI, nA_aJ, nA_aR, nC_ns_z, nC_ns_s, nC_ns_k, nC_ns_n, nC_fI, nC_fJ, nC_fR, nC_aI, nC_aJ, nC_aR, Nat.zero_le, Nat.reduceAdd, Nat.reduceLeDiff, reduceIte, rf_c1, int_c1, none_c1, cat_nil, cat_int, cat_long, cat_rf, toList_s, toList_n, true_and, and_true, Option.some.injEq, exists_eq_left', exists_eq_left, reduceCtorEq, if_true, if_false, eq_self, hw, hc, hf, y, y1]
theorem CR_k (h : CR S sh T wk ad na ha cur Z) {u : Nat} (hu : u < zn Z) : ns_k S (ad u) = 2 := (h.2.1 u hu).2.1
theorem CR_w (h : CR S sh T wk ad na ha cur Z) {u : Nat} (hu : u < zn Z) : ∃ w, w ≤ cur ∧ fI S 106 (ad u) = nI w := (h.2.1 u hu).2.2.2.2.2.2.2.2.1
theorem CR_nw (h : CR S sh T wk ad na ha cur Z) {u : Nat} (hu : u < zn Z) : ad u ≠ wk := fun z => by
  have h1 := CR_k h hu
  rw [z, h.1.2.2.2.2.2.2.2.1] at h1
  cases h1
theorem CR_inj (h : CR S sh T wk ad na ha cur Z) {u v : Nat} (hu : u < zn Z) (hv : v < zn Z) : ad u = ad v ↔ u = v := ⟨h.2.2.1 u v hu hv, fun z => by rw [z]⟩
theorem CR_200 (h : CR S sh T wk ad na ha cur Z) : fI S 200 wk = nI cur := h.1.2.2.2.2.2.2.2.2
theorem CR_wk (h : CR S sh T wk ad na ha cur Z) : ns_k S wk = 3 := h.1.2.2.2.2.2.2.2.1
theorem CR_same {S' : ns_St} {cur' : Nat} (h : CR S sh T wk ad na ha cur Z) (h1 : ns_k S' = ns_k S) (h2 : ns_n S' = ns_n S) (h3 : aJ S' = aJ S) (h4 : aR S' = aR S) (h5 : ∀ f a, (100 ≤ f ∧ f < 106) ∨ 300 ≤ f → fI S' f a = fI S f a) (h6 : ∀ f a, (100 ≤ f ∧ f < 106) ∨ 300 ≤ f → fR S' f a = fR S f a) (h7 : ∀ a, fJ S' 105 a = fJ S 105 a) (h8 : ∀ u, u < zn Z → ∃ w, w ≤ cur' ∧ fI S' 106 (ad u) = nI w) (h9 : fI S' 200 wk = nI cur') : CR S' sh T wk ad na ha cur' Z := by
  obtain ⟨⟨s1, s2, s3, s4, s5, s6, s7, s8, s9⟩, hT, i1, i2, i3, i4⟩ := h
  refine ⟨⟨by rw [h1]; exact s1, by rw [h6 _ _ (by omega)]; exact s2, by rw [h6 _ _ (by omega)]; exact s3, by rw [h5 _ _ (by omega)]; exact s4, by rw [h5 _ _ (by omega)]; exact s5, by rw [h1]; exact s6, by rw [h2]; exact s7, by rw [h1]; exact s8, h9⟩, fun i hi => ⟨by rw [h4]; exact (hT i hi).1, ?_⟩, i1, i2, i3, i4⟩
  obtain ⟨-, t1, t2, t3, t4, t5, t6, t7, -, t9, t10, t11⟩ := hT i hi
  exact ⟨by rw [h1]; exact t1, by rw [h5 _ _ (by omega)]; exact t2, by rw [h5 _ _ (by omega)]; exact t3, by rw [h5 _ _ (by omega)]; exact t4, by rw [h6 _ _ (by omega)]; exact t5, by rw [h6 _ _ (by omega)]; exact t6, by rw [h7]; exact t7, h8 i hi, by rw [h1, h2]; exact t9, by rw [h3]; exact t10, by rw [h4]; exact t11⟩
def cln (S : ns_St) (a : Nat) : Prop := fR S 114 a = none ∧ fI S 115 a = 0 ∧ fR S 116 a = none
def ST (S : ns_St) (ad : Nat → Nat) : List (Nat × Nat) → Prop
  | [] => True
  | (u, p) :: t => fI S 108 (ad u) = nI p ∧ fR S 109 (ad u) = t.head?.map (fun x => ad x.1) ∧ ST S ad t
theorem ST_congr {S' : ns_St} {ad : Nat → Nat} : ∀ (t : List (Nat × Nat)), (∀ u, u ∈ t.map Prod.fst → fI S' 108 (ad u) = fI S 108 (ad u) ∧ fR S' 109 (ad u) = fR S 109 (ad u)) → ST S ad t → ST S' ad t
  | [], _, _ => trivial
  | (u, p) :: t, h, hh => ⟨by rw [(h u (by simp)).1]; exact hh.1, by rw [(h u (by simp)).2]; exact hh.2.1, ST_congr t (fun v hv => h v (by simp only [List.map_cons, List.mem_cons]; exact Or.inr hv)) hh.2.2⟩
def NX (S : ns_St) (ad : Nat → Nat) (l : List Nat) : Prop := ∀ i x, l[i]? = some x → fR S 110 (ad x) = (l[i + 1]?).map ad
def NM (S : ns_St) (a cur m : Nat) (x : Int32) (y : Int64) : Prop := if m = 0 then fI S 106 a ≠ nI cur else fI S 106 a = nI cur ∧ fI S 107 a = (if m = 1 then 1 else 0) ∧ fI S 111 a = x ∧ fJ S 112 a = y
theorem NM_c {S' : ns_St} {a m : Nat} {x : Int32} {y : Int64} (h1 : fI S' 106 a = fI S 106 a) (h2 : fI S' 107 a = fI S 107 a) (h3 : fI S' 111 a = fI S 111 a) (h4 : fJ S' 112 a = fJ S 112 a) (h : NM S a cur m x y) : NM S' a cur m x y := by
  unfold NM at h ⊢
  rw [h1, h2, h3, h4]
  exact h
theorem NM_z {a m : Nat} {x : Int32} {y : Int64} (hm : m = 0) (h : NM S a cur m x y) : fI S 106 a ≠ nI cur := by
  unfold NM at h
  rw [if_pos hm] at h
  exact h
theorem NM_n {a m : Nat} {x : Int32} {y : Int64} (hm : m ≠ 0) (h : NM S a cur m x y) : fI S 106 a = nI cur ∧ fI S 107 a = (if m = 1 then 1 else 0) ∧ fI S 111 a = x ∧ fJ S 112 a = y := by
  unfold NM at h
  rw [if_neg hm] at h
  exact h
theorem NM_i {a m : Nat} {x : Int32} {y : Int64} (hm : m ≠ 0) (h : fI S 106 a = nI cur ∧ fI S 107 a = (if m = 1 then 1 else 0) ∧ fI S 111 a = x ∧ fJ S 112 a = y) : NM S a cur m x y := by
  unfold NM
  rw [if_neg hm]
  exact h
def CW (S : ns_St) (sh T wk : Nat) (ad na ha : Nat → Nat) (cur : Nat) (Z : Zs) (G : Nat → Prop) (s0 : Nat) (X : Dx) (N : Dn) : Prop :=
  CR S sh T wk ad na ha cur Z ∧ (fR S 201 wk = some (ad s0) ∧ fR S 202 wk = X.2.2.1.getLast?.map ad ∧ fI S 203 wk = nI X.2.2.1.length ∧ fI S 204 wk = (if X.2.2.2.2.1 = true then 1 else 0) ∧ fI S 205 wk = (if X.2.2.2.2.2 = true then 1 else 0)) ∧ (∀ u, u < zn Z → NM S (ad u) cur (X.2.1 u) (N.1 u) (N.2 u)) ∧ (∀ u, u < zn Z → G u ∨ X.2.1 u ≠ 0 → cln S (ad u)) ∧ ST S ad X.1 ∧ NX S ad X.2.2.1
variable {G : Nat → Prop} {s0 : Nat} {N : Dn}
theorem CW_place {u p : Nat} {t : List (Nat × Nat)} {X2 : (Nat → Nat) × List Nat × List Nat × Bool × Bool} (hu : u < zn Z) (ht : ∀ v, v ∈ t.map Prod.fst → v < zn Z ∧ v ≠ u) (h : CW S sh T wk ad na ha cur Z G s0 ((u, p) :: t, X2) N) : CW (pI S 108 (ad u) (nI (p + 1))) sh T wk ad na ha cur Z G s0 ((u, p + 1) :: t, X2) N := by
  obtain ⟨hC, ⟨w1, w2, w3, w4, w5⟩, hm, hc, hs, hx⟩ := h
  have q : ∀ f x, f ≠ 108 → fI (pI S 108 (ad u) (nI (p + 1))) f x = fI S f x := fun f x hf => by rw [pI_fI, if_neg (fun z => hf z.1)]
  refine ⟨CR_same hC rfl rfl rfl rfl (fun f a hf => q f a (by omega)) (fun f a _ => rfl) (fun _ => rfl) (fun v hv => by rw [q _ _ (by omega)]; exact CR_w hC hv) (by rw [q _ _ (by omega)]; exact CR_200 hC), ⟨w1, w2, by rw [q _ _ (by omega)]; exact w3, by rw [q _ _ (by omega)]; exact w4, by rw [q _ _ (by omega)]; exact w5⟩, fun v hv => ?_, fun v hv hg => ?_, ⟨by rw [pI_fI, if_pos ⟨rfl, rfl⟩], hs.2.1, ST_congr (S := S) t (fun v hv => ⟨?_, rfl⟩) hs.2.2⟩, hx⟩
  · exact NM_c (q _ _ (by omega)) (q _ _ (by omega)) (q _ _ (by omega)) rfl (hm v hv)
  · have := hc v hv hg
    unfold cln
    rw [q _ _ (by omega)]
    exact this
  · obtain ⟨v1, v2⟩ := ht v hv
    rw [pI_fI, if_neg (fun z => v2 ((CR_inj hC v1 hu).mp z.2))]
theorem CW_open {stk : List (Nat × Nat)} {mk : Nat → Nat} {pre post : List Nat} {ring met : Bool} {c : Nat} (hc : c < zn Z) (hs0 : s0 < zn Z) (h : CW S sh T wk ad na ha cur Z G s0 (stk, mk, pre, post, ring, met) N) : CW (pI (pI S 204 wk 1) 205 wk (if fI S 205 wk ≠ 0 then 1 else if some (ad c) = fR S 201 wk then 1 else 0)) sh T wk ad na ha cur Z G s0 (stk, mk, pre, post, true, met || c == s0) N := by
  obtain ⟨hC, ⟨w1, w2, w3, w4, w5⟩, hm, hc', hs, hx⟩ := h
  dsimp only at w1 w2 w3 w4 w5 hm hc' hs hx
  have ev : (if fI S 205 wk ≠ 0 then (1 : Int32) else if some (ad c) = fR S 201 wk then 1 else 0) = (if (met || c == s0) = true then 1 else 0) := by
    rw [w1, w5]
    have e : (some (ad c) = some (ad s0)) ↔ c = s0 := by rw [Option.some.injEq]; exact CR_inj hC hc hs0
    cases met with
    | true => simp
    | false => simp [e]
  rw [ev]
  have q : ∀ f x y, f ≠ 204 → f ≠ 205 → fI (pI (pI S 204 wk 1) 205 wk y) f x = fI S f x := fun f x y h1 h2 => by rw [pI_fI, if_neg (fun z => h2 z.1), pI_fI, if_neg (fun z => h1 z.1)]
  refine ⟨CR_same hC rfl rfl rfl rfl (fun f a hf => q f a _ (by omega) (by omega)) (fun f a _ => rfl) (fun _ => rfl) (fun v hv => by rw [q _ _ _ (by omega) (by omega)]; exact CR_w hC hv) (by rw [q _ _ _ (by omega) (by omega)]; exact CR_200 hC), ⟨w1, w2, by rw [q _ _ _ (by omega) (by omega)]; exact w3, by rw [pI_fI, if_neg (by omega), pI_fI, if_pos ⟨rfl, rfl⟩]; rfl, by rw [pI_fI, if_pos ⟨rfl, rfl⟩]⟩, fun v hv => ?_, fun v hv hg => ?_, ST_congr _ (fun v hv => ⟨q _ _ _ (by omega) (by omega), rfl⟩) hs, hx⟩
  · exact NM_c (q _ _ _ (by omega) (by omega)) (q _ _ _ (by omega) (by omega)) (q _ _ _ (by omega) (by omega)) rfl (hm v hv)
  · have := hc' v hv hg
    unfold cln
    rw [q _ _ _ (by omega) (by omega)]
    exact this
theorem CW_add {X : Dx} {b c : Nat} (hb : b < zn Z) (hc : c < zn Z) (hb1 : X.2.1 b ≠ 0) (hc1 : X.2.1 c ≠ 0) (h : CW S sh T wk ad na ha cur Z G s0 X N) : CW (aN S (ad b) (ad c)) sh T wk ad na ha cur Z G s0 X (nadd N b c) := by
  obtain ⟨hC, ⟨w1, w2, w3, w4, w5⟩, hm, hc', hs, hx⟩ := h
  have q : ∀ f x, f ≠ 111 → fI (aN S (ad b) (ad c)) f x = fI S f x := fun f x h1 => by rw [aN_fI, if_neg (fun z => h1 z.1)]
  have mb := NM_n hb1 (hm b hb)
  have mc := NM_n hc1 (hm c hc)
  refine ⟨CR_same hC (aN_k _ _) (aN_n _ _) (aN_aJ _ _) (aN_aR _ _) (fun f a hf => q f a (by omega)) (fun f a _ => by rw [aN_fR]) (fun a => by rw [aN_fJ, if_neg (by omega)]) (fun v hv => by rw [q _ _ (by omega)]; exact CR_w hC hv) (by rw [q _ _ (by omega)]; exact CR_200 hC), ⟨by rw [aN_fR]; exact w1, by rw [aN_fR]; exact w2, by rw [q _ _ (by omega)]; exact w3, by rw [q _ _ (by omega)]; exact w4, by rw [q _ _ (by omega)]; exact w5⟩, fun v hv => ?_, fun v hv hg => ?_, ST_congr _ (fun v hv => ⟨q _ _ (by omega), by rw [aN_fR]⟩) hs, fun i x hi => by rw [aN_fR]; exact hx i x hi⟩
  · by_cases z : v = b
    · subst z
      refine NM_i hb1 ⟨by rw [q 106 _ (by omega)]; exact mb.1, by rw [q 107 _ (by omega)]; exact mb.2.1, ?_, ?_⟩
      · rw [aN_fI, if_pos ⟨rfl, rfl⟩, mb.2.2.1, mc.2.2.1]
        exact (va_up_self _ _ _).symm
      · rw [aN_fJ, if_pos ⟨rfl, rfl⟩, mb.2.2.2, mc.2.2.2]
        exact (va_up_self _ _ _).symm
    · have e1 : (nadd N b c).1 v = N.1 v := va_up_ne _ _ z
      have e2 : (nadd N b c).2 v = N.2 v := va_up_ne _ _ z
      rw [e1, e2]
      exact NM_c (q _ _ (by omega)) (q _ _ (by omega)) (by rw [aN_fI, if_neg (fun g => z ((CR_inj hC hv hb).mp g.2))]) (by rw [aN_fJ, if_neg (fun g => z ((CR_inj hC hv hb).mp g.2))]) (hm v hv)
  · have := hc' v hv hg
    unfold cln
    rw [q _ _ (by omega), aN_fR]
    exact this
theorem CW_close {u p : Nat} {t : List (Nat × Nat)} {mk : Nat → Nat} {pre post : List Nat} {ring met : Bool} (hu : u < zn Z) (hu1 : mk u = 1) (h : CW S sh T wk ad na ha cur Z G s0 ((u, p) :: t, mk, pre, post, ring, met) N) : CW (pI S 107 (ad u) 0) sh T wk ad na ha cur Z G s0 (t, va_up mk u 2, pre, post ++ [u], ring, met) N := by
  obtain ⟨hC, ⟨w1, w2, w3, w4, w5⟩, hm, hc', hs, hx⟩ := h
  dsimp only at w1 w2 w3 w4 w5 hm hc' hs hx
  have q : ∀ f x, f ≠ 107 → fI (pI S 107 (ad u) 0) f x = fI S f x := fun f x hf => by rw [pI_fI, if_neg (fun z => hf z.1)]
  refine ⟨CR_same hC rfl rfl rfl rfl (fun f a hf => q f a (by omega)) (fun f a _ => rfl) (fun _ => rfl) (fun v hv => by rw [q _ _ (by omega)]; exact CR_w hC hv) (by rw [q _ _ (by omega)]; exact CR_200 hC), ⟨w1, w2, by rw [q _ _ (by omega)]; exact w3, by rw [q _ _ (by omega)]; exact w4, by rw [q _ _ (by omega)]; exact w5⟩, fun v hv => ?_, fun v hv hg => ?_, ST_congr t (fun v hv => ⟨q _ _ (by omega), rfl⟩) hs.2.2, hx⟩
  · show NM _ _ _ (va_up mk u 2 v) _ _
    by_cases z : v = u
    · subst z
      have mv := NM_n (by omega) (hm v hv)
      rw [va_up_self]
      refine NM_i (by omega) ⟨by rw [q _ _ (by omega)]; exact mv.1, ?_, by rw [q _ _ (by omega)]; exact mv.2.2.1, mv.2.2.2⟩
      rw [pI_fI, if_pos ⟨rfl, rfl⟩]
      rfl
    · rw [va_up_ne _ _ z]
      exact NM_c (q _ _ (by omega)) (by rw [pI_fI, if_neg (fun g => z ((CR_inj hC hv hu).mp g.2))]) (q _ _ (by omega)) rfl (hm v hv)
  · have hg' : G v ∨ mk v ≠ 0 := hg.imp id (fun g => by
      have g : va_up mk u 2 v ≠ 0 := g
      by_cases z : v = u
      · subst z; omega
      · rw [va_up_ne _ _ z] at g; exact g)
    have := hc' v hv hg'
    unfold cln
    rw [q _ _ (by omega)]
    exact this
theorem CW_new {c : Nat} {stk : List (Nat × Nat)} {mk : Nat → Nat} {pre post : List Nat} {ring met : Bool} (hpre : ∀ v, v ∈ pre → v < zn Z ∧ mk v ≠ 0) (hnd : pre.Nodup) (hst : ∀ v, v ∈ stk.map Prod.fst → v < zn Z ∧ mk v ≠ 0) (hc : c < zn Z) (hc0 : mk c = 0) (h : CW S sh T wk ad na ha cur Z G s0 (stk, mk, pre, post, ring, met) N) : CW (rN S wk (ad c) (stk.head?.map (fun x => ad x.1))) sh T wk ad na ha cur Z G s0 ((c, 0) :: stk, va_up mk c 1, pre ++ [c], post, ring, met) (nnew (own Z) N c) := by
  obtain ⟨hC, ⟨w1, w2, w3, w4, w5⟩, hm, hc', hs, hx⟩ := h
  dsimp only at w1 w2 w3 w4 w5 hm hc' hs hx
  have hcw := CR_nw hC hc
  have e200 := CR_200 hC
  have qi : ∀ f x, x ≠ ad c → (f = 203 → x ≠ wk) → fI (rN S wk (ad c) (stk.head?.map (fun x => ad x.1))) f x = fI S f x := fun f x h1 h2 => by
    rw [rN_fI, if_neg (fun z => h2 z.1 z.2), bN_fI, if_neg h1]
  have qj : ∀ f x, x ≠ ad c → fJ (rN S wk (ad c) (stk.head?.map (fun x => ad x.1))) f x = fJ S f x := fun f x h1 => by
    rw [rN_fJ, bN_fJ, if_neg (fun z => h1 z.2)]
  have qr : ∀ f x, x ≠ ad c → (f = 202 → x ≠ wk) → f ≠ 110 → fR (rN S wk (ad c) (stk.head?.map (fun x => ad x.1))) f x = fR S f x := fun f x h1 h2 h3 => by
    rw [rN_fR, if_neg (fun z => h2 z.1 z.2), if_neg (fun z => h3 z.1), bN_fR, if_neg h1]
  have nc : ∀ v, v < zn Z → v ≠ c → ad v ≠ ad c := fun v hv hvc z => hvc ((CR_inj hC hv hc).mp z)
  have lastp : ∀ v, pre.getLast? = some v → v ∈ pre := fun v hv => List.mem_of_getLast? hv
  refine ⟨CR_same hC (rN_k _ _) (rN_n _ _) (rN_aJ _ _) (rN_aR _ _) (fun f a hf => ?_) (fun f a hf => ?_) (fun a => ?_) (fun v hv => ?_) ?_, ⟨?_, ?_, ?_, ?_, ?_⟩, fun v hv => ?_, fun v hv hg => ?_, ⟨?_, ?_, ST_congr stk (fun v hv => ?_) hs⟩, fun i x hi => ?_⟩
  · rw [rN_fI, if_neg (by omega), bN_fI]
    split
    · rw [if_neg (by omega), if_neg (by omega), if_neg (by omega), if_neg (by omega), if_neg (by omega)]
    · rfl
  · rw [rN_fR, if_neg (by omega), if_neg (by omega), bN_fR]
    split
    · rw [if_neg (by omega), if_neg (by omega)]
    · rfl
  · rw [rN_fJ, bN_fJ, if_neg (by omega)]
  · by_cases z : v = c
    · subst z
      exact ⟨cur, Nat.le_refl _, by rw [rN_fI, if_neg (by omega), bN_fI, if_pos rfl, if_pos rfl, e200]⟩
    · rw [qi _ _ (nc v hv z) (by omega)]
      exact CR_w hC hv
  · rw [qi _ _ (fun z => hcw z.symm) (by omega)]; exact e200
  · rw [qr _ _ (fun z => hcw z.symm) (by omega) (by omega)]; exact w1
  · rw [rN_fR, if_pos ⟨rfl, rfl⟩]
    simp
  · rw [rN_fI, if_pos ⟨rfl, rfl⟩, w3]
    show nI pre.length + 1 = nI (pre ++ [c]).length
    rw [nI_1, List.length_append]
    simp only [List.length_cons, List.length_nil]
  · rw [qi _ _ (fun z => hcw z.symm) (by omega)]; exact w4
  · rw [qi _ _ (fun z => hcw z.symm) (by omega)]; exact w5
  · show NM _ _ _ (va_up mk c 1 v) _ _
    by_cases z : v = c
    · subst z
      rw [va_up_self]
      refine NM_i (by omega) ⟨by rw [rN_fI, if_neg (by omega), bN_fI, if_pos rfl, if_pos rfl, e200], by rw [rN_fI, if_neg (by omega), bN_fI, if_pos rfl, if_neg (by omega), if_pos rfl]; rfl, ?_, ?_⟩
      · rw [rN_fI, if_neg (by omega), bN_fI, if_pos rfl, if_neg (by omega), if_neg (by omega), if_neg (by omega), if_pos rfl]
        exact (va_up_self _ _ _).symm
      · rw [rN_fJ, bN_fJ, if_pos ⟨rfl, rfl⟩]
        rw [(hC.2.1 v hc).2.2.2.2.2.2.2.1]
        exact (va_up_self _ _ _).symm
    · have n1 := nc v hv z
      have e1 : (nnew (own Z) N c).1 v = N.1 v := va_up_ne _ _ z
      have e2 : (nnew (own Z) N c).2 v = N.2 v := va_up_ne _ _ z
      rw [va_up_ne _ _ z, e1, e2]
      exact NM_c (qi _ _ n1 (by omega)) (qi _ _ n1 (by omega)) (qi _ _ n1 (by omega)) (qj _ _ n1) (hm v hv)
  · by_cases z : v = c
    · subst z
      refine ⟨?_, ?_, ?_⟩
      · rw [rN_fR, if_neg (by omega), if_neg (by omega), bN_fR, if_pos rfl, if_neg (by omega), if_pos (by omega)]
      · rw [rN_fI, if_neg (by omega), bN_fI, if_pos rfl, if_neg (by omega), if_neg (by omega), if_neg (by omega), if_neg (by omega), if_pos rfl]
      · rw [rN_fR, if_neg (by omega), if_neg (by omega), bN_fR, if_pos rfl, if_neg (by omega), if_pos (by omega)]
    · have n1 := nc v hv z
      have hg' : G v ∨ mk v ≠ 0 := hg.imp id (fun g => by
        have g : va_up mk c 1 v ≠ 0 := g
        rw [va_up_ne _ _ z] at g; exact g)
      have := hc' v hv hg'
      unfold cln
      rw [qr _ _ n1 (by omega) (by omega), qr _ _ n1 (by omega) (by omega), qi _ _ n1 (by omega)]
      exact this
  · rw [rN_fI, if_neg (by omega), bN_fI, if_pos rfl, if_neg (by omega), if_neg (by omega), if_pos rfl]
    rfl
  · rw [rN_fR, if_neg (by omega), if_neg (by omega), bN_fR, if_pos rfl, if_pos rfl]
  · obtain ⟨v1, v2⟩ := hst v hv
    have n1 := nc v v1 (fun z => by subst z; exact v2 hc0)
    exact ⟨qi _ _ n1 (by omega), qr _ _ n1 (by omega) (by omega)⟩
  · have hi : (pre ++ [c])[i]? = some x := hi
    show _ = ((pre ++ [c])[i + 1]?).map ad
    by_cases y : i < pre.length
    · rw [List.getElem?_append_left y] at hi
      have hxp : x ∈ pre := List.mem_of_getElem? hi
      obtain ⟨x1, x2⟩ := hpre x hxp
      have n1 := nc x x1 (fun z => by subst z; exact x2 hc0)
      rw [rN_fR, if_neg (by omega)]
      by_cases y2 : i + 1 < pre.length
      · rw [List.getElem?_append_left y2]
        have hne : ¬ (110 = 110 ∧ fR S 202 wk = some (ad x)) := fun g => by
          rw [w2, List.getLast?_eq_getElem?] at g
          cases hl : pre[pre.length - 1]? with
          | none => rw [hl] at g; cases g.2
          | some l =>
            rw [hl] at g
            have g2 : ad l = ad x := by simpa using g.2
            have hlp : l ∈ pre := List.mem_of_getElem? hl
            have := (CR_inj hC (hpre l hlp).1 x1).mp g2
            subst this
            have e := (List.getElem?_inj (by omega) hnd).mp (hl.trans hi.symm)
            omega
        rw [if_neg hne, bN_fR, if_neg n1]
        exact hx i x hi
      · have y3 : i + 1 = pre.length := by omega
        rw [List.getElem?_append_right (by omega), y3, Nat.sub_self]
        have hpos : 110 = 110 ∧ fR S 202 wk = some (ad x) := ⟨rfl, by
          rw [w2, List.getLast?_eq_getElem?]
          rw [show pre.length - 1 = i by omega, hi]
          rfl⟩
        rw [if_pos hpos]
        rfl
    · have hlen : i < (pre ++ [c]).length := (List.getElem?_eq_some_iff.mp hi).1
      have y4 : i = pre.length := by
        rw [List.length_append] at hlen
        simp only [List.length_cons, List.length_nil] at hlen
        omega
      subst y4
      rw [List.getElem?_append_right (Nat.le_refl _), Nat.sub_self] at hi
      have : c = x := by simpa using hi
      subst this
      rw [List.getElem?_append_right (by omega)]
      have e : (pre.length + 1 - pre.length) = 1 := by omega
      rw [e, rN_fR, if_neg (by omega)]
      have hne : ¬ (110 = 110 ∧ fR S 202 wk = some (ad c)) := fun g => by
        rw [w2] at g
        cases hl : pre.getLast? with
        | none => rw [hl] at g; cases g.2
        | some l =>
          rw [hl] at g
          have g2 : ad l = ad c := by simpa using g.2
          have hlp := lastp l hl
          have := (CR_inj hC (hpre l hlp).1 hc).mp g2
          subst this
          exact (hpre l hlp).2 hc0
      rw [if_neg hne, bN_fR, if_pos rfl, if_neg (by omega), if_pos (by omega)]
      rfl
end CWK2
