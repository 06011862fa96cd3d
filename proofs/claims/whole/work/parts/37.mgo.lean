/-! ===== the reference's goThrough and depth ===== -/
section GO
theorem dpre_step (hk : Nat → Nat) (ch : Nat → Nat → Option Nat) (s0 : Nat) (X : Dx) {x : Nat} (h : x ∈ X.2.2.1) : x ∈ (dstep hk ch s0 X).2.2.1 := by
  unfold dstep
  repeat' split
  all_goals first | exact h | exact List.mem_append_left _ h
theorem dpre_run (hk : Nat → Nat) (ch : Nat → Nat → Option Nat) (s0 : Nat) {x : Nat} : ∀ (k : Nat) (X : Dx), x ∈ X.2.2.1 → x ∈ (drun hk ch s0 k X).2.2.1
  | 0, _, h => h
  | k + 1, X, h => dpre_run hk ch s0 k _ (dpre_step hk ch s0 X h)
variable {Z : Zs}
/-- the walk from s, over nothing -/
def wkE (Z : Zs) (s : Nat) : Dx := dend (chl Z) (zh Z) s (zn Z) (dbeg (fun _ => 0) [] [] s)
def depZ (Z : Zs) (s : Nat) : Nat := dpF (chl Z) (zh Z) (wkE Z s).2.2.2.1 s
/-- why a walk from t is refused -/
def rf (Z : Zs) (t : Int32) : Int32 := match zt (zn Z) t with
  | none => 1
  | some s => if (wkE Z s).2.2.2.2.1 = true then 5 else if 400 < depZ Z s then 6 else 0
def o_depth (Z : Zs) (t : Int32) : Int32 × Zs := (match zt (zn Z) t with
  | none => -1
  | some s => if rf Z t = 0 then nI (depZ Z s) else -1, wS Z (rf Z t))
theorem wkE_ok (hZ : ZI Z) {s : Nat} (hs : s < zn Z) : dInv (chl Z) (zh Z) (zn Z) (wkE Z s) ∧ (wkE Z s).1 = [] ∧ s ∈ (wkE Z s).2.2.2.1 := by
  have hB := dInv_beg (chl Z) (zh Z) (zn Z) hs rfl (dInv_0 (chl Z) (zh Z) (zn Z))
  obtain ⟨h1, h2⟩ := dend_all (chl Z) (zh Z) s (zn Z) (X := d0) (zch hZ) _ _ rfl hB
  refine ⟨h1, h2, ?_⟩
  have h3 : s ∈ (wkE Z s).2.2.1 := dpre_run (chl Z) (zh Z) s _ _ (by simp [dbeg])
  have h4 := (h1.2.2.2.2.1.2 s).mp h3
  have h5 : ¬ (wkE Z s).2.1 s = 1 := fun z => by
    have := (h1.2.1 s).mp z
    have e : (dend (chl Z) (zh Z) s (zn Z) (dbeg (fun _ => 0) [] [] s)).1 = [] := h2
    rw [e] at this
    simp at this
  have h6 : (wkE Z s).2.1 s ≤ 2 := h1.2.2.1 s
  have h4 : (wkE Z s).2.1 s ≠ 0 := h4
  exact (h1.2.2.2.2.2.1.2 s).mpr (by show (wkE Z s).2.1 s = 2; omega)
theorem depZ_le (hZ : ZI Z) {s : Nat} (hs : s < zn Z) : depZ Z s ≤ 2000 := by
  obtain ⟨h1, -, -⟩ := wkE_ok hZ hs
  have h2 := (stk_len hZ h1).2.2
  have h3 := dpF_le (chl Z) (zh Z) (wkE Z s).2.2.2.1.length _ rfl s
  have h4 := hZ.1
  unfold depZ
  omega
variable {S : ns_St} {m : Nat} {A : Nat → Nat}
theorem m_go (h : MR S m A Z) (hZ : ZI Z) (t : Int32) : ∃ S', Ev (80, 0, [some (va_rf (some m)), some (.int t)], [], S) (some (.int (rf Z t)), S') ∧ MR S' m A Z ∧ sz0 S S' ∧ ∀ s, zt (zn Z) t = some s → (wkE Z s).2.2.2.2.1 = false → MX S' m A Z (wkE Z s) ∧ ∀ u, u ∈ (wkE Z s).2.2.2.1 → aI S' (A 15) u = nI (dpF (chl Z) (zh Z) (wkE Z s).2.2.2.1 u) := by
  have hn := hZ.1
  have hW := h.1
  have hc := h.2.1
  rcases zt_cases (n := zn Z) (by omega) t with ⟨e, g⟩ | ⟨s, hs, rfl, e⟩
  · refine ⟨S, ?_, h, ⟨rfl, rfl⟩, fun s hs => by rw [e] at hs; cases hs⟩
    simp only [e80_0, e80_1, e80_2, e80_5, e80_8, e80_9, e80_10, e80_11, e80_14, e80_15, e80_16, e80_19, e80_22, e80_23, e80_24, e80_25, e80_28, e80_29, e80_32, e80_33, e80_34, e80_37, e80_40, e80_42, e80_45, e80_46, t58 hW, mw0 hW, Nat.zero_le, Nat.reduceAdd, Nat.reduceLeDiff, reduceIte, rf_c1, int_c1, none_c1, cat_nil, cat_int, cat_long, cat_rf, toList_s, toList_n, true_and, and_true, Option.some.injEq, exists_eq_left', exists_eq_left, reduceCtorEq, if_true, if_false, eq_self, rf, e, hc]
    rcases g with g | ⟨g1, g2⟩ <;> simp [*]
  · obtain ⟨a1, a2, a3⟩ := there_ok hs (by omega)
    have a4 := in_ok (show s < 2000 by omega) (by omega)
    obtain ⟨S1, g1, g2, g3⟩ := m_begin h hZ
    obtain ⟨k1, k2, k3⟩ := wkE_ok hZ hs
    have hw := m_walk hZ g2 (dInv_0 (chl Z) (zh Z) (zn Z)) hs rfl
    have hw : wAns m A Z S1 (wkE Z s) (77, 0, [some (va_rf (some m)), some (.int (nI s)), none, none, none], [], S1) := hw
    unfold wAns at hw
    by_cases r : (wkE Z s).2.2.2.2.1 = true
    · rw [if_pos r] at hw
      obtain ⟨S2, w1, w2, w3⟩ := hw
      refine ⟨S2, ?_, w2, ⟨w1.1.trans g3.1, w1.2.trans g3.2⟩, fun s' hs' hr => ?_⟩
      · simp only [e80_0, e80_1, e80_2, e80_5, e80_8, e80_9, e80_10, e80_11, e80_14, e80_15, e80_16, e80_19, e80_22, e80_23, e80_24, e80_25, e80_28, e80_29, e80_32, e80_33, e80_34, e80_37, e80_40, e80_42, e80_45, e80_46, t58 hW, Ev_is g1, Ev_is w3, mw0 hW, Nat.zero_le, Nat.reduceAdd, Nat.reduceLeDiff, reduceIte, rf_c1, int_c1, none_c1, cat_nil, cat_int, cat_long, cat_rf, toList_s, toList_n, true_and, and_true, Option.some.injEq, exists_eq_left', exists_eq_left, reduceCtorEq, if_true, if_false, eq_self, rf, e, hc, a1, a2, r, mw0 g2.1.1]
        simp
      · rw [e] at hs'
        cases hs'
        rw [r] at hr
        cases hr
    · rw [if_neg r] at hw
      obtain ⟨S2, w1, w2, w3⟩ := hw
      have r' : (wkE Z s).2.2.2.2.1 = false := by
        cases hh : (wkE Z s).2.2.2.2.1 with
        | true => exact absurd hh r
        | false => rfl
      obtain ⟨S3, q1, q2, q3, q4⟩ := m_depths hZ k1 r' _ [] (wkE Z s).2.2.2.1 S2 none none none none rfl rfl w2 (fun u hu => by cases hu)
      have q4 : Ev (79, 2, [some (va_rf (some m)), some (.int 0), none, none, none, none], [], S2) (none, S3) := q4
      have q5 : Ev (79, 0, [some (va_rf (some m)), none, none, none, none, none], [], S2) (none, S3) := by
        simp only [e79_0, e79_1, Nat.zero_le, Nat.reduceAdd, Nat.reduceLeDiff, reduceIte, rf_c1, int_c1, none_c1, cat_nil, cat_int, cat_long, cat_rf, toList_s, toList_n, true_and, and_true, Option.some.injEq, exists_eq_left', exists_eq_left, reduceCtorEq, if_true, if_false, eq_self]
        exact q4
      have q6 := q3 s k3
      have q6 : aI S3 (A 15) s = nI (depZ Z s) := q6
      have dl := depZ_le hZ hs
      have z1 : (nI (depZ Z s) ≤ (400 : Int32)) ↔ depZ Z s ≤ 400 := nI_leI (b := 400) (by omega) (by omega)
      refine ⟨S3, ?_, q2.1, ⟨q1.1.trans (w1.1.trans g3.1), q1.2.trans (w1.2.trans g3.2)⟩, fun s' hs' hr => ?_⟩
      · have hW3 := q2.1.1
        simp only [e80_0, e80_1, e80_2, e80_5, e80_8, e80_9, e80_10, e80_11, e80_14, e80_15, e80_16, e80_19, e80_22, e80_23, e80_24, e80_25, e80_28, e80_29, e80_32, e80_33, e80_34, e80_37, e80_40, e80_42, e80_45, e80_46, t58 hW, Ev_is g1, Ev_is w3, Ev_is q5, mw0 hW, mw0 hW3, mr15 hW3, mk15 hW3, mn15 hW3, Nat.zero_le, Nat.reduceAdd, Nat.reduceLeDiff, reduceIte, rf_c1, int_c1, none_c1, cat_nil, cat_int, cat_long, cat_rf, toList_s, toList_n, true_and, and_true, Option.some.injEq, exists_eq_left', exists_eq_left, reduceCtorEq, if_true, if_false, eq_self, rf, e, hc, a1, a2, a3, a4, r, mw0 g2.1.1, mw0 w2.1.1, q6, z1]
        by_cases y : 400 < depZ Z s
        · have y2 : ¬ depZ Z s ≤ 400 := by omega
          simp [y, y2]
        · have y2 : depZ Z s ≤ 400 := by omega
          simp [y, y2]
      · rw [e] at hs'
        cases hs'
        exact ⟨q2, q3⟩
theorem m_depth (h : MR S m A Z) (hZ : ZI Z) (t : Int32) : ∃ S', Ev (83, 0, [some (va_rf (some m)), some (.int t)], [], S) (some (.int (o_depth Z t).1), S') ∧ MR S' m A (o_depth Z t).2 ∧ sz0 S S' := by
  have hn := hZ.1
  have hW := h.1
  obtain ⟨S1, g1, g2, g3, g4⟩ := m_go h hZ t
  refine ⟨pI S1 407 m (rf Z t), ?_, MR_wS g2 _, g3⟩
  have hW1 := g2.1
  rcases zt_cases (n := zn Z) (by omega) t with ⟨e, g⟩ | ⟨s, hs, rfl, e⟩
  · have r1 : rf Z t = 1 := by unfold rf; rw [e]
    rw [r1] at g1 ⊢
    simp only [e83_0, e83_1, e83_2, e83_3, e83_6, e83_9, e83_10, e83_13, e83_16, e83_17, e83_20, e83_21, e83_22, e83_25, e83_26, Ev_is g1, mw0 hW, mw0 hW1, mr15 hW1, mk15 hW1, mn15 hW1, pI_ns_z, pI_ns_s, pI_ns_k, pI_ns_n, pI_fI, pI_fJ, pI_fR, pI_aI, pI_aJ, pI_aR, pJ_ns_z, pJ_ns_s, pJ_ns_k, pJ_ns_n, pJ_fI, pJ_fJ, pJ_fR, pJ_aI, pJ_aJ, pJ_aR, pR_ns_z, pR_ns_s, pR_ns_k, pR_ns_n, pR_fI, pR_fJ, pR_fR, pR_aI, pR_aJ, pR_aR, qI_ns_z, qI_ns_s, qI_ns_k, qI_ns_n, qI_fI, qI_fJ, qI_fR, qI_aI, qI_aJ, qI_aR, qJ_ns_z, qJ_ns_s, qJ_ns_k, qJ_ns_n, qJ_fI, qJ_fJ, qJ_fR, qJ_aI, qJ_aJ, qJ_aR, qR_ns_z, qR_ns_s, qR_ns_k, qR_ns_n, qR_fI, qR_fJ, qR_fR, qR_aI, qR_aJ, qR_aR, nO_ns_z, nO_ns_s, nO_ns_k, nO_ns_n, nO_fI, nO_fJ, nO_fR, nO_aI, nO_aJ, nO_aR, nA_ns_z, nA_ns_s, nA_ns_k, nA_ns_n, nA_fI, nA_fJ, nA_fR, nA_aI, nA_aJ, nA_aR, nC_ns_z, nC_ns_s, nC_ns_k, nC_ns_n, nC_fI, nC_fJ, nC_fR, nC_aI, nC_aJ, nC_aR, Nat.zero_le, Nat.reduceAdd, Nat.reduceLeDiff, reduceIte, rf_c1, int_c1, none_c1, cat_nil, cat_int, cat_long, cat_rf, toList_s, toList_n, true_and, and_true, Option.some.injEq, exists_eq_left', exists_eq_left, reduceCtorEq, if_true, if_false, eq_self, o_depth, e]
    simp
  · obtain ⟨a1, a2, a3⟩ := there_ok hs (by omega)
    have a4 := in_ok (show s < 2000 by omega) (by omega)
    by_cases y : rf Z (nI s) = 0
    · have hr : (wkE Z s).2.2.2.2.1 = false := by
        cases hh : (wkE Z s).2.2.2.2.1 with
        | true =>
          unfold rf at y
          rw [e] at y
          simp only [hh, if_true] at y
          exact absurd y (by decide)
        | false => rfl
      obtain ⟨q1, q2⟩ := g4 s e hr
      have q3 : aI S1 (A 15) s = nI (depZ Z s) := q2 s (wkE_ok hZ hs).2.2
      simp only [e83_0, e83_1, e83_2, e83_3, e83_6, e83_9, e83_10, e83_13, e83_16, e83_17, e83_20, e83_21, e83_22, e83_25, e83_26, Ev_is g1, mw0 hW, mw0 hW1, mr15 hW1, mk15 hW1, mn15 hW1, pI_ns_z, pI_ns_s, pI_ns_k, pI_ns_n, pI_fI, pI_fJ, pI_fR, pI_aI, pI_aJ, pI_aR, pJ_ns_z, pJ_ns_s, pJ_ns_k, pJ_ns_n, pJ_fI, pJ_fJ, pJ_fR, pJ_aI, pJ_aJ, pJ_aR, pR_ns_z, pR_ns_s, pR_ns_k, pR_ns_n, pR_fI, pR_fJ, pR_fR, pR_aI, pR_aJ, pR_aR, qI_ns_z, qI_ns_s, qI_ns_k, qI_ns_n, qI_fI, qI_fJ, qI_fR, qI_aI, qI_aJ, qI_aR, qJ_ns_z, qJ_ns_s, qJ_ns_k, qJ_ns_n, qJ_fI, qJ_fJ, qJ_fR, qJ_aI, qJ_aJ, qJ_aR, qR_ns_z, qR_ns_s, qR_ns_k, qR_ns_n, qR_fI, qR_fJ, qR_fR, qR_aI, qR_aJ, qR_aR, nO_ns_z, nO_ns_s, nO_ns_k, nO_ns_n, nO_fI, nO_fJ, nO_fR, nO_aI, nO_aJ, nO_aR, nA_ns_z, nA_ns_s, nA_ns_k, nA_ns_n, nA_fI, nA_fJ, nA_fR, nA_aI, nA_aJ, nA_aR, nC_ns_z, nC_ns_s, nC_ns_k, nC_ns_n, nC_fI, nC_fJ, nC_fR, nC_aI, nC_aJ, nC_aR, Nat.zero_le, Nat.reduceAdd, Nat.reduceLeDiff, reduceIte, rf_c1, int_c1, none_c1, cat_nil, cat_int, cat_long, cat_rf, toList_s, toList_n, true_and, and_true, Option.some.injEq, exists_eq_left', exists_eq_left, reduceCtorEq, if_true, if_false, eq_self, o_depth, e, y, a3, a4, q3]
    · simp only [e83_0, e83_1, e83_2, e83_3, e83_6, e83_9, e83_10, e83_13, e83_16, e83_17, e83_20, e83_21, e83_22, e83_25, e83_26, Ev_is g1, mw0 hW, mw0 hW1, mr15 hW1, mk15 hW1, mn15 hW1, pI_ns_z, pI_ns_s, pI_ns_k, pI_ns_n, pI_fI, pI_fJ, pI_fR, pI_aI, pI_aJ, pI_aR, pJ_ns_z, pJ_ns_s, pJ_ns_k, pJ_ns_n, pJ_fI, pJ_fJ, pJ_fR, pJ_aI, pJ_aJ, pJ_aR, pR_ns_z, pR_ns_s, pR_ns_k, pR_ns_n, pR_fI, pR_fJ, pR_fR, pR_aI, pR_aJ, pR_aR, qI_ns_z, qI_ns_s, qI_ns_k, qI_ns_n, qI_fI, qI_fJ, qI_fR, qI_aI, qI_aJ, qI_aR, qJ_ns_z, qJ_ns_s, qJ_ns_k, qJ_ns_n, qJ_fI, qJ_fJ, qJ_fR, qJ_aI, qJ_aJ, qJ_aR, qR_ns_z, qR_ns_s, qR_ns_k, qR_ns_n, qR_fI, qR_fJ, qR_fR, qR_aI, qR_aJ, qR_aR, nO_ns_z, nO_ns_s, nO_ns_k, nO_ns_n, nO_fI, nO_fJ, nO_fR, nO_aI, nO_aJ, nO_aR, nA_ns_z, nA_ns_s, nA_ns_k, nA_ns_n, nA_fI, nA_fJ, nA_fR, nA_aI, nA_aJ, nA_aR, nC_ns_z, nC_ns_s, nC_ns_k, nC_ns_n, nC_fI, nC_fJ, nC_fR, nC_aI, nC_aJ, nC_aR, Nat.zero_le, Nat.reduceAdd, Nat.reduceLeDiff, reduceIte, rf_c1, int_c1, none_c1, cat_nil, cat_int, cat_long, cat_rf, toList_s, toList_n, true_and, and_true, Option.some.injEq, exists_eq_left', exists_eq_left, reduceCtorEq, if_true, if_false, eq_self, o_depth, e, y]
end GO
