/-! ===== the reference and the shelf: a thing more ===== -/
section MADD
variable {S : ns_St} {m : Nat} {A : Nat → Nat} {Z : Zs}
/-- the loop of add: u0 the first place, i of them written with w -/
def mQ (S0 T : ns_St) (m : Nat) (A : Nat → Nat) (u0 i : Nat) (w : Int64) : Prop := MW T m A ∧ fI T 406 m = nI (u0 + i) ∧ (∀ f, f ≠ 406 → fI T f m = fI S0 f m) ∧ aI T = aI S0 ∧ (∀ p, aJ T (A 5) p = if u0 ≤ p ∧ p < u0 + i then w else aJ S0 (A 5) p) ∧ sz0 S0 T
def hkw (k : Nat) : Int64 := if hook k then -1 else 0
theorem m_addloop {S0 : ns_St} {k l u0 : Nat} {v : Int32} (hk : k ≤ 8) (hu : u0 + l ≤ 1000000) : ∀ (d i : Nat) (T : ns_St), i + d = l → mQ S0 T m A u0 i (hkw k) → ∃ T', mQ S0 T' m A u0 l (hkw k) ∧ ∀ r, Ev (63, 91, [some (va_rf (some m)), some (.int (nI k)), some (.int (nI l)), some (.int v), some (.int (nI l))], [], T') r → Ev (63, 46, [some (va_rf (some m)), some (.int (nI k)), some (.int (nI l)), some (.int v), some (.int (nI i))], [], T) r := by
  intro d
  induction d with
  | zero =>
    intro i T hi hq
    have e : i = l := by omega
    subst e
    refine ⟨T, hq, fun r hr => ?_⟩
    rw [e63_46]
    have z : nI i ≤ nI i := nI_le (Nat.le_refl _) (by omega)
    simp only [e63_0, e63_1, e63_4, e63_5, e63_8, e63_9, e63_10, e63_11, e63_14, e63_15, e63_18, e63_19, e63_20, e63_21, e63_24, e63_25, e63_28, e63_29, e63_30, e63_31, e63_34, e63_35, e63_38, e63_39, e63_42, e63_43, e63_44, e63_48, e63_49, e63_52, e63_53, e63_56, e63_57, e63_60, e63_61, e63_64, e63_67, e63_70, e63_73, e63_74, e63_75, e63_76, e63_77, e63_80, e63_81, e63_82, e63_85, e63_88, Nat.zero_le, Nat.reduceAdd, Nat.reduceLeDiff, reduceIte, rf_c1, int_c1, none_c1, cat_nil, cat_int, cat_long, cat_rf, toList_s, toList_n, true_and, and_true, Option.some.injEq, exists_eq_left', exists_eq_left, reduceCtorEq, if_true, if_false, eq_self, z]
    exact hr
  | succ d ih =>
    intro i T hi hq
    obtain ⟨q1, q2, q3, q4, q5, q6⟩ := hq
    have hlt : i < l := by omega
    have z : ¬ nI l ≤ nI i := nI_ge hlt (by omega)
    have x4 : ns_inb (nI (u0 + i)) 1000000 = true := in_ok (by omega) (by omega)
    have x5 : (nI (u0 + i)).toNatClampNeg = u0 + i := nI_clamp (by omega)
    have hq' : mQ S0 (pI (qJ T (A 5) (u0 + i) (hkw k)) 406 m (nI (u0 + i + 1))) m A u0 (i + 1) (hkw k) := by
      refine ⟨q1, by rw [pI_fI, if_pos ⟨rfl, rfl⟩]; rfl, fun f hf => ?_, q4, fun p => ?_, q6⟩
      · rw [pI_fI, if_neg (fun z => hf z.1)]
        exact q3 f hf
      · show aJ (qJ T (A 5) (u0 + i) (hkw k)) (A 5) p = _
        rw [qJ_aJ]
        by_cases y : p = u0 + i
        · subst y
          rw [if_pos ⟨rfl, rfl⟩, if_pos (by omega)]
        · rw [if_neg (fun z => y z.2), q5]
          by_cases y2 : u0 ≤ p ∧ p < u0 + i
          · rw [if_pos y2, if_pos (by omega)]
          · rw [if_neg y2, if_neg (by omega)]
    obtain ⟨T', g1, g2⟩ := ih (i + 1) _ (by omega) hq'
    refine ⟨T', g1, fun r hr => ?_⟩
    have g3 := g2 r hr
    rw [e63_46]
    simp only [e63_0, e63_1, e63_4, e63_5, e63_8, e63_9, e63_10, e63_11, e63_14, e63_15, e63_18, e63_19, e63_20, e63_21, e63_24, e63_25, e63_28, e63_29, e63_30, e63_31, e63_34, e63_35, e63_38, e63_39, e63_42, e63_43, e63_44, e63_48, e63_49, e63_52, e63_53, e63_56, e63_57, e63_60, e63_61, e63_64, e63_67, e63_70, e63_73, e63_74, e63_75, e63_76, e63_77, e63_80, e63_81, e63_82, e63_85, e63_88, t60, mw0 q1, mr5 q1, mk5 q1, mn5 q1, pI_ns_z, pI_ns_s, pI_ns_k, pI_ns_n, pI_fI, pI_fJ, pI_fR, pI_aI, pI_aJ, pI_aR, pJ_ns_z, pJ_ns_s, pJ_ns_k, pJ_ns_n, pJ_fI, pJ_fJ, pJ_fR, pJ_aI, pJ_aJ, pJ_aR, pR_ns_z, pR_ns_s, pR_ns_k, pR_ns_n, pR_fI, pR_fJ, pR_fR, pR_aI, pR_aJ, pR_aR, qI_ns_z, qI_ns_s, qI_ns_k, qI_ns_n, qI_fI, qI_fJ, qI_fR, qI_aI, qI_aJ, qI_aR, qJ_ns_z, qJ_ns_s, qJ_ns_k, qJ_ns_n, qJ_fI, qJ_fJ, qJ_fR, qJ_aI, qJ_aJ, qJ_aR, qR_ns_z, qR_ns_s, qR_ns_k, qR_ns_n, qR_fI, qR_fJ, qR_fR, qR_aI, qR_aJ, qR_aR, nO_ns_z, nO_ns_s, nO_ns_k, nO_ns_n, nO_fI, nO_fJ, nO_fR, nO_aI, nO_aJ, nO_aR, nA_ns_z, nA_ns_s, nA_ns_k, nA_ns_n, nA_fI, nA_fJ, nA_fR, nA_aI, nA_aJ, nA_aR, nC_ns_z, nC_ns_s, nC_ns_k, nC_ns_n, nC_fI, nC_fJ, nC_fR, nC_aI, nC_aJ, nC_aR, Nat.zero_le, Nat.reduceAdd, Nat.reduceLeDiff, reduceIte, rf_c1, int_c1, none_c1, cat_nil, cat_int, cat_long, cat_rf, toList_s, toList_n, true_and, and_true, Option.some.injEq, exists_eq_left', exists_eq_left, reduceCtorEq, if_true, if_false, eq_self, z, q2, x4, x5, kf_3le hk, kf_lt3 hk, kf_7lt hk, kf_6lt hk, kf_7le hk, kf_lt7 hk, kf_2lt hk, kf_lt0 hk, kf_e0 hk, kf_e1 hk, kf_e2 hk, kf_e3 hk, kf_e4 hk, kf_e5 hk, kf_e6 hk, kf_e7 hk, kf_e8 hk, nI_1]
    unfold hkw at g3
    by_cases y : hook k
    · have y1 : ¬ k < 3 := by omega
      have y2 : ¬ 7 < k := by omega
      simp only [if_pos y] at g3
      simp [y1, y2, x4]
      exact g3
    · simp only [if_neg y] at g3
      have y' : k < 3 ∨ (¬ k < 3 ∧ 7 < k) := by omega
      rcases y' with y1 | ⟨y1, y2⟩
      · simp [y1, x4]
        exact g3
      · simp [y1, y2, x4]
        exact g3
theorem m_add (h : MR S m A Z) (hZ : ZI Z) (hlt : zn Z < 2000) {k l : Nat} (hk : k ≤ 8) (hl : l ≤ 500) (v : Int32) : ∃ S', Ev (63, 0, [some (va_rf (some m)), some (.int (nI k)), some (.int (nI l)), some (.int v), none], [], S) (some (.int (nI (zn Z))), S') ∧ MR S' m A (wN Z k l v (fun _ => 0) (fun _ => none)) ∧ sz0 S S' := by
  obtain ⟨hW, hc, hT, hu, hp, hs⟩ := id h
  have hn := hZ.1
  have hB := bg_le (l := zl Z) (n := zn Z) (fun i hi => (hZ.2.1 i hi).2.1) (zn Z) (Nat.le_refl _)
  have a3 : (nI (zn Z)).toNatClampNeg = zn Z := nI_clamp (by omega)
  have a4 := in_ok (show zn Z < 2000 by omega) (by omega)
  generalize hS1 : qI (qI (qI (qI S (A 1) (zn Z) (nI k)) (A 2) (zn Z) (nI l)) (A 3) (zn Z) v) (A 4) (zn Z) (nI (bg (zl Z) (zn Z))) = S1
  have hW1 : MW S1 m A := by rw [← hS1]; exact hW
  have e1 : fI S1 = fI S := by rw [← hS1]; rfl
  have e2 : aJ S1 = aJ S := by rw [← hS1]; rfl
  have e3 : sz0 S S1 := by rw [← hS1]; exact ⟨rfl, rfl⟩
  have e4 : ∀ f i, f ∈ [1, 2, 3, 4] → aI S1 (A f) i = if i = zn Z then (if f = 1 then nI k else if f = 2 then nI l else if f = 3 then v else nI (bg (zl Z) (zn Z))) else aI S (A f) i := by
    intro f i hf
    rw [← hS1]
    simp only [qI_aI]
    rcases (show f = 1 ∨ f = 2 ∨ f = 3 ∨ f = 4 by simpa using hf) with rfl | rfl | rfl | rfl <;> by_cases y : i = zn Z <;> simp [y, mwi hW]
  have q0 : mQ S1 S1 m A (bg (zl Z) (zn Z)) 0 (hkw k) := ⟨hW1, by rw [e1]; exact hu, fun _ _ => rfl, rfl, fun p => by rw [if_neg (by omega)], rfl, rfl⟩
  obtain ⟨T, ⟨q1, q2, q3, q4, q5, q6⟩, g2⟩ := m_addloop (u0 := bg (zl Z) (zn Z)) (l := l) (v := v) hk (by omega) l 0 S1 (by omega) q0
  refine ⟨pI T 400 m (nI (zn Z + 1)), ?_, ?_, q6.1.trans e3.1, q6.2.trans e3.2⟩
  · have c1 : fI T 400 m = nI (zn Z) := by rw [q3 400 (by decide), e1]; exact hc
    have g3 := g2 (some (.int (nI (zn Z))), pI T 400 m (nI (zn Z + 1))) (by
      simp only [e63_91, e63_92, e63_93, e63_96, e63_97, e63_98, e63_101, e63_102, e63_105, e63_106, e63_107, mw0 q1, pI_ns_z, pI_ns_s, pI_ns_k, pI_ns_n, pI_fI, pI_fJ, pI_fR, pI_aI, pI_aJ, pI_aR, pJ_ns_z, pJ_ns_s, pJ_ns_k, pJ_ns_n, pJ_fI, pJ_fJ, pJ_fR, pJ_aI, pJ_aJ, pJ_aR, pR_ns_z, pR_ns_s, pR_ns_k, pR_ns_n, pR_fI, pR_fJ, pR_fR, pR_aI, pR_aJ, pR_aR, qI_ns_z, qI_ns_s, qI_ns_k, qI_ns_n, qI_fI, qI_fJ, qI_fR, qI_aI, qI_aJ, qI_aR, qJ_ns_z, qJ_ns_s, qJ_ns_k, qJ_ns_n, qJ_fI, qJ_fJ, qJ_fR, qJ_aI, qJ_aJ, qJ_aR, qR_ns_z, qR_ns_s, qR_ns_k, qR_ns_n, qR_fI, qR_fJ, qR_fR, qR_aI, qR_aJ, qR_aR, nO_ns_z, nO_ns_s, nO_ns_k, nO_ns_n, nO_fI, nO_fJ, nO_fR, nO_aI, nO_aJ, nO_aR, nA_ns_z, nA_ns_s, nA_ns_k, nA_ns_n, nA_fI, nA_fJ, nA_fR, nA_aI, nA_aJ, nA_aR, nC_ns_z, nC_ns_s, nC_ns_k, nC_ns_n, nC_fI, nC_fJ, nC_fR, nC_aI, nC_aJ, nC_aR, Nat.zero_le, Nat.reduceAdd, Nat.reduceLeDiff, reduceIte, rf_c1, int_c1, none_c1, cat_nil, cat_int, cat_long, cat_rf, toList_s, toList_n, true_and, and_true, Option.some.injEq, exists_eq_left', exists_eq_left, reduceCtorEq, if_true, if_false, eq_self, c1, nI_1]
      simp [nI_pred])
    simp only [e63_0, e63_1, e63_4, e63_5, e63_8, e63_9, e63_10, e63_11, e63_14, e63_15, e63_18, e63_19, e63_20, e63_21, e63_24, e63_25, e63_28, e63_29, e63_30, e63_31, e63_34, e63_35, e63_38, e63_39, e63_42, e63_43, e63_44, mw0 hW, mr1 hW, mk1 hW, mn1 hW, mr2 hW, mk2 hW, mn2 hW, mr3 hW, mk3 hW, mn3 hW, mr4 hW, mk4 hW, mn4 hW, pI_ns_z, pI_ns_s, pI_ns_k, pI_ns_n, pI_fI, pI_fJ, pI_fR, pI_aI, pI_aJ, pI_aR, pJ_ns_z, pJ_ns_s, pJ_ns_k, pJ_ns_n, pJ_fI, pJ_fJ, pJ_fR, pJ_aI, pJ_aJ, pJ_aR, pR_ns_z, pR_ns_s, pR_ns_k, pR_ns_n, pR_fI, pR_fJ, pR_fR, pR_aI, pR_aJ, pR_aR, qI_ns_z, qI_ns_s, qI_ns_k, qI_ns_n, qI_fI, qI_fJ, qI_fR, qI_aI, qI_aJ, qI_aR, qJ_ns_z, qJ_ns_s, qJ_ns_k, qJ_ns_n, qJ_fI, qJ_fJ, qJ_fR, qJ_aI, qJ_aJ, qJ_aR, qR_ns_z, qR_ns_s, qR_ns_k, qR_ns_n, qR_fI, qR_fJ, qR_fR, qR_aI, qR_aJ, qR_aR, nO_ns_z, nO_ns_s, nO_ns_k, nO_ns_n, nO_fI, nO_fJ, nO_fR, nO_aI, nO_aJ, nO_aR, nA_ns_z, nA_ns_s, nA_ns_k, nA_ns_n, nA_fI, nA_fJ, nA_fR, nA_aI, nA_aJ, nA_aR, nC_ns_z, nC_ns_s, nC_ns_k, nC_ns_n, nC_fI, nC_fJ, nC_fR, nC_aI, nC_aJ, nC_aR, Nat.zero_le, Nat.reduceAdd, Nat.reduceLeDiff, reduceIte, rf_c1, int_c1, none_c1, cat_nil, cat_int, cat_long, cat_rf, toList_s, toList_n, true_and, and_true, Option.some.injEq, exists_eq_left', exists_eq_left, reduceCtorEq, if_true, if_false, eq_self, hc, hu, a3, a4, hS1]
    exact g3
  · refine ⟨q1, by rw [pI_fI, if_pos ⟨rfl, rfl⟩]; rfl, fun i hi => ?_, ?_, fun i j hi hj => ?_, ?_⟩
    · show aI T (A 1) i = _ ∧ aI T (A 2) i = _ ∧ aI T (A 3) i = _ ∧ aI T (A 4) i = _
      rw [q4, e4 1 i (by decide), e4 2 i (by decide), e4 3 i (by decide), e4 4 i (by decide)]
      simp only [wN_zn] at hi
      have hb : bg (zl (wN Z k l v (fun _ => 0) (fun _ => none))) i = bg (zl Z) i := bg_congr (n := i) (fun x hx => by rw [wN_zl, va_up_ne _ _ (by omega)]) i (Nat.le_refl _)
      rw [hb]
      simp only [wN_zk, wN_zl, wN_zv]
      by_cases y : i = zn Z
      · subst y
        simp [va_up_self]
      · rw [va_up_ne _ _ y, va_up_ne _ _ y, va_up_ne _ _ y]
        simp only [if_neg y]
        exact hT i (by omega)
    · rw [pI_fI, if_neg (by omega), q2]
      simp only [wN_zn]
      have hb : bg (zl (wN Z k l v (fun _ => 0) (fun _ => none))) (zn Z) = bg (zl Z) (zn Z) := bg_congr (n := zn Z) (fun x hx => by rw [wN_zl, va_up_ne _ _ (by omega)]) (zn Z) (Nat.le_refl _)
      show _ = nI (bg _ (zn Z) + zl (wN Z k l v (fun _ => 0) (fun _ => none)) (zn Z))
      rw [hb, wN_zl, va_up_self]
    · show aJ T (A 5) _ = _
      simp only [wN_zn] at hi
      have hb : bg (zl (wN Z k l v (fun _ => 0) (fun _ => none))) i = bg (zl Z) i := bg_congr (n := i) (fun x hx => by rw [wN_zl, va_up_ne _ _ (by omega)]) i (Nat.le_refl _)
      rw [hb, q5, e2]
      by_cases y : i = zn Z
      · subst y
        rw [wN_zl, va_up_self] at hj
        rw [if_pos (by omega)]
        show _ = if hook (va_up (zk Z) (zn Z) k (zn Z)) then chL (va_up (zh Z) (zn Z) (fun _ => none) (zn Z) j) else va_up (zm Z) (zn Z) (fun _ => 0) (zn Z) j
        simp only [va_up_self]
        rfl
      · rw [wN_zl, va_up_ne _ _ y] at hj
        have h1 := bg_mono (l := zl Z) (show i + 1 ≤ zn Z by omega)
        have h2 : bg (zl Z) (i + 1) = bg (zl Z) i + zl Z i := rfl
        rw [if_neg (by omega), hp i j (by omega) hj]
        show _ = if hook (va_up (zk Z) (zn Z) k i) then chL (va_up (zh Z) (zn Z) (fun _ => none) i j) else va_up (zm Z) (zn Z) (fun _ => 0) i j
        simp only [va_up_ne _ _ y]
        rfl
    · rw [pI_fI, if_neg (by omega), q3 407 (by decide), e1]
      exact hs
theorem m_make (h : MR S m A Z) (hZ : ZI Z) (k n : Int32) : ∃ S', Ev (64, 0, [some (va_rf (some m)), some (.int k), some (.int n)], [], S) (some (.int (o_make Z k n).1), S') ∧ MR S' m A (o_make Z k n).2 ∧ sz0 S S' := by
  obtain ⟨hW, hc, hT, hu, hp, hs⟩ := id h
  have hn := hZ.1
  by_cases x1 : k < 0
  · refine ⟨S, ?_, by simp [o_make, x1]; exact h, rfl, rfl⟩
    simp only [e64_0, e64_1, e64_2, e64_4, e64_7, e64_10, e64_11, e64_12, e64_13, e64_16, e64_19, e64_20, e64_23, e64_26, e64_29, e64_31, e64_32, e64_33, e64_36, e64_38, e64_41, e64_42, e64_43, e64_44, e64_45, e64_48, t57, mw0 hW, Nat.zero_le, Nat.reduceAdd, Nat.reduceLeDiff, reduceIte, rf_c1, int_c1, none_c1, cat_nil, cat_int, cat_long, cat_rf, toList_s, toList_n, true_and, and_true, Option.some.injEq, exists_eq_left', exists_eq_left, reduceCtorEq, if_true, if_false, eq_self, x1, o_make, true_or]
  by_cases x2 : 6 < k
  · refine ⟨S, ?_, by simp [o_make, x1, x2]; exact h, rfl, rfl⟩
    simp only [e64_0, e64_1, e64_2, e64_4, e64_7, e64_10, e64_11, e64_12, e64_13, e64_16, e64_19, e64_20, e64_23, e64_26, e64_29, e64_31, e64_32, e64_33, e64_36, e64_38, e64_41, e64_42, e64_43, e64_44, e64_45, e64_48, t57, mw0 hW, Nat.zero_le, Nat.reduceAdd, Nat.reduceLeDiff, reduceIte, rf_c1, int_c1, none_c1, cat_nil, cat_int, cat_long, cat_rf, toList_s, toList_n, true_and, and_true, Option.some.injEq, exists_eq_left', exists_eq_left, reduceCtorEq, if_true, if_false, eq_self, x1, x2, o_make, or_true]
  by_cases x3 : 500 < n
  · refine ⟨S, ?_, by simp [o_make, x1, x2, x3]; exact h, rfl, rfl⟩
    simp only [e64_0, e64_1, e64_2, e64_4, e64_7, e64_10, e64_11, e64_12, e64_13, e64_16, e64_19, e64_20, e64_23, e64_26, e64_29, e64_31, e64_32, e64_33, e64_36, e64_38, e64_41, e64_42, e64_43, e64_44, e64_45, e64_48, t57, mw0 hW, Nat.zero_le, Nat.reduceAdd, Nat.reduceLeDiff, reduceIte, rf_c1, int_c1, none_c1, cat_nil, cat_int, cat_long, cat_rf, toList_s, toList_n, true_and, and_true, Option.some.injEq, exists_eq_left', exists_eq_left, reduceCtorEq, if_true, if_false, eq_self, x1, x2, x3, o_make, or_self, true_or]
    simp
  have hce : (nI (zn Z) = 2000) ↔ zn Z = 2000 := by
    have := nI_eq (a := zn Z) (b := 2000) (by omega) (by omega)
    exact this
  by_cases x4 : zn Z = 2000
  · refine ⟨S, ?_, by simp [o_make, x1, x2, x3, x4]; exact h, rfl, rfl⟩
    simp only [e64_0, e64_1, e64_2, e64_4, e64_7, e64_10, e64_11, e64_12, e64_13, e64_16, e64_19, e64_20, e64_23, e64_26, e64_29, e64_31, e64_32, e64_33, e64_36, e64_38, e64_41, e64_42, e64_43, e64_44, e64_45, e64_48, t57, mw0 hW, Nat.zero_le, Nat.reduceAdd, Nat.reduceLeDiff, reduceIte, rf_c1, int_c1, none_c1, cat_nil, cat_int, cat_long, cat_rf, toList_s, toList_n, true_and, and_true, Option.some.injEq, exists_eq_left', exists_eq_left, reduceCtorEq, if_true, if_false, eq_self, x1, x2, x3, x4, o_make, or_self, or_true, hc, hce]
    simp [hc, hce, x4, show nI 2000 = (2000 : Int32) from rfl]
  by_cases x5 : n < 0
  · refine ⟨S, ?_, by simp [o_make, x1, x2, x3, x4, x5]; exact h, rfl, rfl⟩
    have x6 : ¬ 0 ≤ n := Int32.not_le.mpr x5
    simp only [e64_0, e64_1, e64_2, e64_4, e64_7, e64_10, e64_11, e64_12, e64_13, e64_16, e64_19, e64_20, e64_23, e64_26, e64_29, e64_31, e64_32, e64_33, e64_36, e64_38, e64_41, e64_42, e64_43, e64_44, e64_45, e64_48, t57, mw0 hW, Nat.zero_le, Nat.reduceAdd, Nat.reduceLeDiff, reduceIte, rf_c1, int_c1, none_c1, cat_nil, cat_int, cat_long, cat_rf, toList_s, toList_n, true_and, and_true, Option.some.injEq, exists_eq_left', exists_eq_left, reduceCtorEq, if_true, if_false, eq_self, x1, x2, x3, x4, x5, x6, o_make, or_self, hc, hce]
    simp [x3, x5]
  · have x6 : 0 ≤ n := Int32.not_lt.mp x5
    obtain ⟨k', hk', rfl⟩ := nI_of2 (M := 6) (n := 6) rfl x1 (Int32.not_lt.mp x2)
    obtain ⟨n', hn', rfl⟩ := nI_of2 (M := 500) (n := 500) rfl x5 (Int32.not_lt.mp x3)
    obtain ⟨S', g1, g2, g3⟩ := m_add h hZ (by omega) (k := k') (l := n') (by omega) hn' 0
    have y1 : (nI k').toNatClampNeg = k' := nI_clamp (by omega)
    have y2 : (nI n').toNatClampNeg = n' := nI_clamp (by omega)
    refine ⟨S', ?_, by simp [o_make, x1, x2, x3, x4, x5, y1, y2]; exact g2, g3⟩
    simp only [e64_0, e64_1, e64_2, e64_4, e64_7, e64_10, e64_11, e64_12, e64_13, e64_16, e64_19, e64_20, e64_23, e64_26, e64_29, e64_31, e64_32, e64_33, e64_36, e64_38, e64_41, e64_42, e64_43, e64_44, e64_45, e64_48, t57, Ev_is g1, mw0 hW, Nat.zero_le, Nat.reduceAdd, Nat.reduceLeDiff, reduceIte, rf_c1, int_c1, none_c1, cat_nil, cat_int, cat_long, cat_rf, toList_s, toList_n, true_and, and_true, Option.some.injEq, exists_eq_left', exists_eq_left, reduceCtorEq, if_true, if_false, eq_self, x1, x2, x3, x4, x5, x6, o_make, or_self, hc, hce]
    simp [x3, x5]
theorem m_token (h : MR S m A Z) (hZ : ZI Z) (v x : Int32) : ∃ S', Ev (65, 0, [some (va_rf (some m)), some (.int v), some (.int x)], [], S) (some (.int (o_token Z v x).1), S') ∧ MR S' m A (o_token Z v x).2 ∧ sz0 S S' := by
  obtain ⟨hW, hc, hT, hu, hp, hs⟩ := id h
  have hn := hZ.1
  have hce : (nI (zn Z) = 2000) ↔ zn Z = 2000 := nI_eq (a := zn Z) (b := 2000) (by omega) (by omega)
  by_cases x4 : zn Z = 2000
  · refine ⟨S, ?_, by simp [o_token, x4]; exact h, rfl, rfl⟩
    simp only [e65_0, e65_1, e65_4, e65_7, e65_10, e65_12, e65_13, e65_14, e65_15, e65_18, e65_20, e65_23, e65_25, e65_26, e65_29, e65_30, e65_33, e65_34, e65_35, e65_38, mw0 hW, Nat.zero_le, Nat.reduceAdd, Nat.reduceLeDiff, reduceIte, rf_c1, int_c1, none_c1, cat_nil, cat_int, cat_long, cat_rf, toList_s, toList_n, true_and, and_true, Option.some.injEq, exists_eq_left', exists_eq_left, reduceCtorEq, if_true, if_false, eq_self, x4, o_token, hc, hce]
    simp [hc, hce, x4, show nI 2000 = (2000 : Int32) from rfl]
  · by_cases x5 : x = 0
    · obtain ⟨S', g1, g2, g3⟩ := m_add h hZ (by omega) (k := 7) (l := 1) (by omega) (by omega) v
      have g1 : Ev (63, 0, [some (va_rf (some m)), some (.int 7), some (.int 1), some (.int v), none], [], S) (some (.int (nI (zn Z))), S') := g1
      refine ⟨S', ?_, by simp [o_token, x4, x5]; exact g2, g3⟩
      simp only [e65_0, e65_1, e65_4, e65_7, e65_10, e65_12, e65_13, e65_14, e65_15, e65_18, e65_20, e65_23, e65_25, e65_26, e65_29, e65_30, e65_33, e65_34, e65_35, e65_38, Ev_is g1, mw0 hW, Nat.zero_le, Nat.reduceAdd, Nat.reduceLeDiff, reduceIte, rf_c1, int_c1, none_c1, cat_nil, cat_int, cat_long, cat_rf, toList_s, toList_n, true_and, and_true, Option.some.injEq, exists_eq_left', exists_eq_left, reduceCtorEq, if_true, if_false, eq_self, x4, x5, o_token, hc, hce]
    · obtain ⟨S', g1, g2, g3⟩ := m_add h hZ (by omega) (k := 8) (l := 0) (by omega) (by omega) v
      have g1 : Ev (63, 0, [some (va_rf (some m)), some (.int 8), some (.int 0), some (.int v), none], [], S) (some (.int (nI (zn Z))), S') := g1
      refine ⟨S', ?_, by simp [o_token, x4, x5]; exact g2, g3⟩
      simp only [e65_0, e65_1, e65_4, e65_7, e65_10, e65_12, e65_13, e65_14, e65_15, e65_18, e65_20, e65_23, e65_25, e65_26, e65_29, e65_30, e65_33, e65_34, e65_35, e65_38, Ev_is g1, mw0 hW, Nat.zero_le, Nat.reduceAdd, Nat.reduceLeDiff, reduceIte, rf_c1, int_c1, none_c1, cat_nil, cat_int, cat_long, cat_rf, toList_s, toList_n, true_and, and_true, Option.some.injEq, exists_eq_left', exists_eq_left, reduceCtorEq, if_true, if_false, eq_self, x4, x5, o_token, hc, hce]
theorem m_status (h : MR S m A Z) : Ev (93, 0, [some (va_rf (some m))], [], S) (some (.int (zs Z)), S) := by
  rw [t93 h.1, h.2.2.2.2.2]
theorem m_count (h : MR S m A Z) : Ev (94, 0, [some (va_rf (some m))], [], S) (some (.int (nI (zn Z))), S) := by
  rw [t94 h.1, h.2.1]
end MADD
