/-! ===== the class and the shelf: new things, hanging, numbers ===== -/
section CNEW
variable {S : ns_St} {sh T wk cur : Nat} {ad na ha : Nat → Nat} {Z : Zs}
/-- what was there is there still, as it was -/
def EX (S S' : ns_St) : Prop := ns_z S ≤ ns_z S' ∧ ∀ x, x < ns_z S → ns_k S' x = ns_k S x ∧ ns_n S' x = ns_n S x ∧ (∀ f, fI S' f x = fI S f x) ∧ (∀ f, fJ S' f x = fJ S f x) ∧ (∀ f, fR S' f x = fR S f x) ∧ aJ S' x = aJ S x ∧ aR S' x = aR S x
theorem EX.tr {S1 S2 : ns_St} (h : EX S S1) (h' : EX S1 S2) : EX S S2 := ⟨Nat.le_trans h.1 h'.1, fun x hx => by
  obtain ⟨a1, a2, a3, a4, a5, a6, a7⟩ := h.2 x hx
  obtain ⟨b1, b2, b3, b4, b5, b6, b7⟩ := h'.2 x (Nat.lt_of_lt_of_le hx h.1)
  exact ⟨b1.trans a1, b2.trans a2, fun f => (b3 f).trans (a3 f), fun f => (b4 f).trans (a4 f), fun f => (b5 f).trans (a5 f), b6.trans a6, b7.trans a7⟩⟩
theorem EX.rf : EX S S := ⟨Nat.le_refl _, fun _ _ => ⟨rfl, rfl, fun _ => rfl, fun _ => rfl, fun _ => rfl, rfl, rfl⟩⟩
theorem EX.nO {S1 : ns_St} (h : EX S S1) (ci n : Nat) : EX S (nO S1 ci n) := h.tr ⟨by rw [nO_ns_z]; omega, fun x hx => by
  have e : ¬ x = ns_z S1 := by omega
  exact ⟨by rw [nO_ns_k, if_neg e], rfl, fun f => by rw [nO_fI, if_neg e], fun f => by rw [nO_fJ, if_neg e], fun f => by rw [nO_fR, if_neg e], rfl, rfl⟩⟩
theorem EX.nA {S1 : ns_St} (h : EX S S1) (kd n : Nat) : EX S (nA S1 kd n) := h.tr ⟨by rw [nA_ns_z]; omega, fun x hx => by
  have e : ¬ x = ns_z S1 := by omega
  exact ⟨by rw [nA_ns_k, if_neg e], by rw [nA_ns_n, if_neg e], fun f => rfl, fun f => rfl, fun f => rfl, by funext i; rw [nA_aJ, if_neg e], by funext i; rw [nA_aR, if_neg e]⟩⟩
theorem EX.nC {S1 : ns_St} (h : EX S S1) (b : Nat) : EX S (nC S1 b) := h.tr ⟨by rw [nC_ns_z]; omega, fun x hx => by
  have e : ¬ x = ns_z S1 := by omega
  exact ⟨by rw [nC_ns_k, if_neg e], by rw [nC_ns_n, if_neg e], fun f => rfl, fun f => rfl, fun f => rfl, by funext i; rw [nC_aJ, if_neg e], by funext i; rw [nC_aR, if_neg e]⟩⟩
theorem EX.pI {S1 : ns_St} (h : EX S S1) {f a : Nat} (ha : ns_z S ≤ a) (v : Int32) : EX S (pI S1 f a v) := ⟨h.1, fun x hx => by
  obtain ⟨a1, a2, a3, a4, a5, a6, a7⟩ := h.2 x hx
  exact ⟨a1, a2, fun g => by rw [pI_fI, if_neg (by omega)]; exact a3 g, a4, a5, a6, a7⟩⟩
theorem EX.pJ {S1 : ns_St} (h : EX S S1) {f a : Nat} (ha : ns_z S ≤ a) (v : Int64) : EX S (pJ S1 f a v) := ⟨h.1, fun x hx => by
  obtain ⟨a1, a2, a3, a4, a5, a6, a7⟩ := h.2 x hx
  exact ⟨a1, a2, a3, fun g => by rw [pJ_fJ, if_neg (by omega)]; exact a4 g, a5, a6, a7⟩⟩
theorem EX.pR {S1 : ns_St} (h : EX S S1) {f a : Nat} (ha : ns_z S ≤ a) (v : Option Nat) : EX S (pR S1 f a v) := ⟨h.1, fun x hx => by
  obtain ⟨a1, a2, a3, a4, a5, a6, a7⟩ := h.2 x hx
  exact ⟨a1, a2, a3, a4, fun g => by rw [pR_fR, if_neg (by omega)]; exact a5 g, a6, a7⟩⟩
theorem klt {x k : Nat} (h : ns_k S x = k) (hk : k ≠ 0) : x < ns_z S := ns_k_lt (by omega)
theorem CT_EX {S' : ns_St} {i : Nat} (h : CT S ad na ha cur Z i) (he : EX S S') : CT S' ad na ha cur Z i := by
  obtain ⟨t1, t2, t3, t4, t5, t6, t7, t8, ⟨t9, t10, t11, t12⟩, t13, t14⟩ := h
  obtain ⟨a1, a2, a3, a4, a5, a6, a7⟩ := he.2 _ (klt t1 (by decide))
  obtain ⟨b1, b2, b3, b4, b5, b6, b7⟩ := he.2 _ (klt t9 (by decide))
  obtain ⟨c1, c2, c3, c4, c5, c6, c7⟩ := he.2 _ (klt t11 (by decide))
  exact ⟨by rw [a1, t1], by rw [a3, t2], by rw [a3, t3], by rw [a3, t4], by rw [a5, t5], by rw [a5, t6], by rw [a4, t7], by rw [a3]; exact t8, ⟨by rw [b1, t9], by rw [b2, t10], by rw [c1, t11], by rw [c2, t12]⟩, fun j hj => by rw [b6]; exact t13 j hj, fun j hj => by rw [c7]; exact t14 j hj⟩
theorem CR_EX {S' : ns_St} (h : CR S sh T wk ad na ha cur Z) (he : EX S S') : CR S' sh T wk ad na ha cur Z := by
  obtain ⟨⟨s1, s2, s3, s4, s5, s6, s7, s8, s9⟩, hT, i1, i2, i3, i4⟩ := id h
  obtain ⟨a1, a2, a3, a4, a5, a6, a7⟩ := he.2 _ (klt s1 (by decide))
  obtain ⟨b1, b2, b3, b4, b5, b6, b7⟩ := he.2 _ (klt s6 (by decide))
  obtain ⟨c1, c2, c3, c4, c5, c6, c7⟩ := he.2 _ (klt s8 (by decide))
  exact ⟨⟨by rw [a1, s1], by rw [a5, s2], by rw [a5, s3], by rw [a3, s4], by rw [a3, s5], by rw [b1, s6], by rw [b2, s7], by rw [c1, s8], by rw [c3, s9]⟩, fun i hi => ⟨by rw [b7]; exact (hT i hi).1, CT_EX (hT i hi).2 he⟩, i1, i2, i3, i4⟩
/-- what shelve does to the pool -/
abbrev shv (S : ns_St) (sh T n a : Nat) : ns_St := pI (qR S T n (some a)) 302 sh (nI (n + 1))
theorem c38 (h : CR S sh T wk ad na ha cur Z) (hZ : ZI Z) (hlt : zn Z < 2000) {a : Nat} (hk : ns_k S a = 2) {r : ns_Rs} : Ev (38, 0, [some (va_rf (some sh)), some (va_rf (some a))], [], S) r ↔ r = (some (.int (fI S 100 a)), shv S sh T (zn Z) a) := by
  obtain ⟨⟨s1, s2, s3, s4, s5, s6, s7, s8, s9⟩, hT, i1, i2, i3, i4⟩ := id h
  have hn := hZ.1
  have n1 : nI 2000 = (2000 : Int32) := rfl
  have y1 : ¬ nI (zn Z) < 0 := nI_pos (by omega)
  have y2 : ¬ ((2000 : Int32) ≤ nI (zn Z)) := by
    rw [← n1, nI_leI (by omega) (by omega)]; omega
  have y3 := in_ok hlt (by omega)
  have y4 : (nI (zn Z)).toNatClampNeg = zn Z := nI_clamp (by omega)
  have y5 : nI (zn Z) < (2000 : Int32) := nI_lt (b := 2000) hlt (by omega)
  have y6 : ns_okT S (some a) = true := by simp [ns_okT, hk]
  simp only [e38_0, e38_1, e38_4, e38_7, e38_8, e38_11, e38_12, e38_15, e38_16, e38_19, e38_20, e38_21, e38_22, e38_25, e38_26, e38_29, e38_30, e38_31, e38_32, e38_33, e38_36, e38_37, e38_38, e38_41, e38_42, e38_45, pI_ns_z, pI_ns_s, pI_ns_k, pI_ns_n, pI_fI, pI_fJ, pI_fR, pI_aI, pI_aJ, pI_aR, pJ_ns_z, pJ_ns_s, pJ_ns_k, pJ_ns_n, pJ_fI, pJ_fJ, pJ_fR, pJ_aI, pJ_aJ, pJ_aR, pR_ns_z, pR_ns_s, pR_ns_k, pR_ns_n, pR_fI, pR_fJ, pR_fR, pR_aI, pR_aJ, pR_aR, qI_ns_z, qI_ns_s, qI_ns_k, qI_ns_n, qI_fI, qI_fJ, qI_fR, qI_aI, qI_aJ, qI_aR, qJ_ns_z, qJ_ns_s, qJ_ns_k, qJ_ns_n, qJ_fI, qJ_fJ, qJ_fR, qJ_aI, qJ_aJ, qJ_aR, qR_ns_z, qR_ns_s, qR_ns_k, qR_ns_n, qR_fI, qR_fJ, qR_fR, qR_aI, qR_aJ, qR_aR, nO_ns_z, nO_ns_s, nO_ns_k, nO_ns_n, nO_fI, nO_fJ, nO_fR, nO_aI, nO_aJ, nO_aR, nA_ns_z, nA_ns_s, nA_ns_k, nA_ns_n, nA_fI, nA_fJ, nA_fR, nA_aI, nA_aJ, nA_aR, nC_ns_z, nC_ns_s, nC_ns_k, nC_ns_n, nC_fI, nC_fJ, nC_fR, nC_aI, nC_aJ, nC_aR, Nat.zero_le, Nat.reduceAdd, Nat.reduceLeDiff, reduceIte, rf_c1, int_c1, none_c1, cat_nil, cat_int, cat_long, cat_rf, toList_s, toList_n, true_and, and_true, Option.some.injEq, exists_eq_left', exists_eq_left, reduceCtorEq, if_true, if_false, eq_self, s1, s2, s4, s6, s7, n1, y1, y2, y3, y4, y5, y6, hk, nI_1]
  simp
theorem CR_shelve {k l : Nat} {v : Int32} {f : Nat → Int64} {hh : Nat → Option Nat} (h : CR S sh T wk ad na ha cur Z) (hZ : ZI Z) {a b c : Nat} (fa : ∀ i, i < zn Z → ad i ≠ a) (fb : ∀ i, i < zn Z → na i ≠ b) (fc : ∀ i, i < zn Z → ha i ≠ c) (hc : c ≠ T) (hcl : ∀ j x, j < l → hh j = some x → x < zn Z) (hn : CT S (va_up ad (zn Z) a) (va_up na (zn Z) b) (va_up ha (zn Z) c) cur (wN Z k l v f hh) (zn Z)) : CR (shv S sh T (zn Z) a) sh T wk (va_up ad (zn Z) a) (va_up na (zn Z) b) (va_up ha (zn Z) c) cur (wN Z k l v f hh) := by
  obtain ⟨⟨s1, s2, s3, s4, s5, s6, s7, s8, s9⟩, hT, i1, i2, i3, i4⟩ := id h
  have inj : ∀ (g : Nat → Nat) (x : Nat), (∀ i j, i < zn Z → j < zn Z → g i = g j → i = j) → (∀ i, i < zn Z → g i ≠ x) → ∀ i j, i < zn Z + 1 → j < zn Z + 1 → va_up g (zn Z) x i = va_up g (zn Z) x j → i = j := by
    intro g x h1 h2 i j hi hj e
    by_cases y1 : i = zn Z <;> by_cases y2 : j = zn Z
    · omega
    · rw [y1, va_up_self, va_up_ne _ _ y2] at e
      exact absurd e.symm (h2 j (by omega))
    · rw [y2, va_up_self, va_up_ne _ _ y1] at e
      exact absurd e (h2 i (by omega))
    · rw [va_up_ne _ _ y1, va_up_ne _ _ y2] at e
      exact h1 i j (by omega) (by omega) e
  -- a thing's picture is the same behind shelve
  have st : ∀ (ad na ha : Nat → Nat) (Y : Zs) (i : Nat), ha i ≠ T → CT S ad na ha cur Y i → CT (shv S sh T (zn Z) a) ad na ha cur Y i := by
    intro ad na ha Y i hne ht
    obtain ⟨t1, t2, t3, t4, t5, t6, t7, t8, t9, t10, t11⟩ := ht
    refine ⟨t1, by rw [pI_fI, if_neg (by omega)]; exact t2, by rw [pI_fI, if_neg (by omega)]; exact t3, by rw [pI_fI, if_neg (by omega)]; exact t4, t5, t6, t7, by rw [pI_fI, if_neg (by omega)]; exact t8, t9, t10, fun j hj => ?_⟩
    show aR (qR S T (zn Z) (some a)) (ha i) j = _
    rw [qR_aR, if_neg (fun z => hne z.1)]
    exact t11 j hj
  refine ⟨⟨s1, s2, s3, by rw [pI_fI, if_pos ⟨rfl, rfl⟩]; rfl, by rw [pI_fI, if_neg (by omega)]; exact s5, s6, s7, s8, by rw [pI_fI, if_neg (by omega)]; exact s9⟩, fun i hi => ?_, inj ad a i1 fa, inj na b i2 fb, inj ha c i3 fc, fun i hi => ?_⟩
  · have hi : i < zn Z + 1 := hi
    show aR (qR S T (zn Z) (some a)) T i = _ ∧ _
    rw [qR_aR]
    by_cases y : i = zn Z
    · subst y
      rw [if_pos ⟨rfl, rfl⟩, va_up_self]
      exact ⟨rfl, st _ _ _ _ _ (by rw [va_up_self]; exact hc) hn⟩
    · rw [if_neg (fun z => y z.2), va_up_ne _ _ y]
      refine ⟨(hT i (by omega)).1, st _ _ _ _ _ (by rw [va_up_ne _ _ y]; exact i4 i (by omega)) ?_⟩
      obtain ⟨-, t1, t2, t3, t4, t5, t6, t7, t8, ⟨t9, t10, t11, t12⟩, t13, t14⟩ := hT i (by omega)
      have e1 : cnl (wN Z k l v f hh) i = cnl Z i := by
        show (if va_up (zk Z) (zn Z) k i < 3 then va_up (zl Z) (zn Z) l i else 0) = _
        rw [va_up_ne _ _ y, va_up_ne _ _ y]; rfl
      have e2 : chl (wN Z k l v f hh) i = chl Z i := by
        show (if hook (va_up (zk Z) (zn Z) k i) then va_up (zl Z) (zn Z) l i else 0) = _
        rw [va_up_ne _ _ y, va_up_ne _ _ y]; rfl
      have e3 : own (wN Z k l v f hh) i = own Z i := by
        show (if va_up (zk Z) (zn Z) k i < 3 then sumL (va_up (zm Z) (zn Z) f i) (va_up (zl Z) (zn Z) l i) else if 7 ≤ va_up (zk Z) (zn Z) k i then (va_up (zv Z) (zn Z) v i).toInt64 else 0) = _
        rw [va_up_ne _ _ y, va_up_ne _ _ y, va_up_ne _ _ y, va_up_ne _ _ y]; rfl
      unfold CT
      rw [e1, e2, e3, wN_zk, wN_zv, wN_zm, wN_zh]
      simp only [va_up_ne _ _ y]
      refine ⟨t1, t2, t3, t4, t5, t6, t7, t8, ⟨t9, t10, t11, t12⟩, t13, fun j hj => ?_⟩
      rw [t14 j hj]
      cases hz : zh Z i j with
      | none => rfl
      | some x =>
        have hj' : j < zl Z i := by
          unfold chl at hj
          by_cases w : hook (zk Z i)
          · rw [if_pos w] at hj; exact hj
          · rw [if_neg w] at hj; omega
        have := hZ.2.2 i j x (by omega) hj' hz
        show some (ad x) = some (va_up ad (zn Z) a x)
        rw [va_up_ne _ _ (by omega)]
  · have hi : i < zn Z + 1 := hi
    by_cases y : i = zn Z
    · subst y
      rw [va_up_self]; exact hc
    · rw [va_up_ne _ _ y]; exact i4 i (by omega)
/-- the pool behind a thing's constructor -/
abbrev ini5 (S : ns_St) (a : Nat) (id k v : Int32) (b c : Option Nat) : ns_St := pJ (pR (pR (pI (pI (pI S 100 a id) 101 a k) 102 a v) 103 a b) 104 a c) 105 a v.toInt64
theorem c5 {a : Nat} (hk : ns_k S a = 2) {id k v : Int32} {b c : Option Nat} {r : ns_Rs} : Ev (5, 0, [some (va_rf (some a)), some (.int id), some (.int k), some (.int v), some (va_rf b), some (va_rf c)], [], S) r ↔ r = (none, ini5 S a id k v b c) := by
  simp only [e5_0, e5_1, e5_4, e5_5, e5_6, e5_9, e5_10, e5_11, e5_14, e5_15, e5_16, e5_19, e5_20, e5_22, e5_25, e5_26, e5_28, e5_31, e5_32, e5_33, e5_34, e5_37, pI_ns_z, pI_ns_s, pI_ns_k, pI_ns_n, pI_fI, pI_fJ, pI_fR, pI_aI, pI_aJ, pI_aR, pJ_ns_z, pJ_ns_s, pJ_ns_k, pJ_ns_n, pJ_fI, pJ_fJ, pJ_fR, pJ_aI, pJ_aJ, pJ_aR, pR_ns_z, pR_ns_s, pR_ns_k, pR_ns_n, pR_fI, pR_fJ, pR_fR, pR_aI, pR_aJ, pR_aR, qI_ns_z, qI_ns_s, qI_ns_k, qI_ns_n, qI_fI, qI_fJ, qI_fR, qI_aI, qI_aJ, qI_aR, qJ_ns_z, qJ_ns_s, qJ_ns_k, qJ_ns_n, qJ_fI, qJ_fJ, qJ_fR, qJ_aI, qJ_aJ, qJ_aR, qR_ns_z, qR_ns_s, qR_ns_k, qR_ns_n, qR_fI, qR_fJ, qR_fR, qR_aI, qR_aJ, qR_aR, nO_ns_z, nO_ns_s, nO_ns_k, nO_ns_n, nO_fI, nO_fJ, nO_fR, nO_aI, nO_aJ, nO_aR, nA_ns_z, nA_ns_s, nA_ns_k, nA_ns_n, nA_fI, nA_fJ, nA_fR, nA_aI, nA_aJ, nA_aR, nC_ns_z, nC_ns_s, nC_ns_k, nC_ns_n, nC_fI, nC_fJ, nC_fR, nC_aI, nC_aJ, nC_aR, Nat.zero_le, Nat.reduceAdd, Nat.reduceLeDiff, reduceIte, rf_c1, int_c1, none_c1, cat_nil, cat_int, cat_long, cat_rf, toList_s, toList_n, true_and, and_true, Option.some.injEq, exists_eq_left', exists_eq_left, reduceCtorEq, if_true, if_false, eq_self, hk]
end CNEW
