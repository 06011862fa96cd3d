/-! ===== the reference's walk from its beginning ===== -/
section MWALK3
variable {S : ns_St} {m : Nat} {A : Nat → Nat} {Z : Zs}
/-- the marks' row from S0 on, its first i places wiped -/
theorem m_beginloop (hZ : ZI Z) : ∀ (d i : Nat) (S : ns_St), i + d = zn Z → MR S m A Z → (∀ u, u < i → aI S (A 8) u = 0) → ∃ S', sz0 S S' ∧ MR S' m A Z ∧ (∀ u, u < zn Z → aI S' (A 8) u = 0) ∧ ∀ r, Ev (76, 23, [some (va_rf (some m)), some (.int (nI (zn Z)))], [], S') r → Ev (76, 2, [some (va_rf (some m)), some (.int (nI i))], [], S) r := by
  have hn := hZ.1
  intro d
  induction d with
  | zero =>
    intro i S hi h h0
    have e : i = zn Z := by omega
    subst e
    refine ⟨S, ⟨rfl, rfl⟩, h, h0, fun r hr => ?_⟩
    have z : nI (zn Z) ≤ nI (zn Z) := nI_le (Nat.le_refl _) (by omega)
    rw [e76_2]
    simp only [e76_3, e76_4, e76_7, mw0 h.1, Nat.zero_le, Nat.reduceAdd, Nat.reduceLeDiff, reduceIte, rf_c1, int_c1, none_c1, cat_nil, cat_int, cat_long, cat_rf, toList_s, toList_n, true_and, and_true, Option.some.injEq, exists_eq_left', exists_eq_left, reduceCtorEq, if_true, if_false, eq_self, h.2.1, z]
    exact hr
  | succ d ih =>
    intro i S hi h h0
    have hW := h.1
    have z : ¬ nI (zn Z) ≤ nI i := nI_ge (by omega) (by omega)
    have a3 : (nI i).toNatClampNeg = i := nI_clamp (by omega)
    have a4 := in_ok (show i < 2000 by omega) (by omega)
    have h' : MR (qI S (A 8) i 0) m A Z := MR_same h rfl rfl rfl (fun f _ => rfl) (fun f hf => by
      funext x
      have hf' : f = 1 ∨ f = 2 ∨ f = 3 ∨ f = 4 := by simpa using hf
      rw [qI_aI, if_neg (fun z => absurd ((mwi hW (by omega) (by decide)).mp z.1) (by omega))]) rfl
    obtain ⟨S', g1, g2, g3, g4⟩ := ih (i + 1) (qI S (A 8) i 0) (by omega) h' (fun u hu => by
      rw [qI_aI]
      by_cases y : u = i
      · subst y; rw [if_pos ⟨rfl, rfl⟩]
      · rw [if_neg (fun z => y z.2)]; exact h0 u (by omega))
    refine ⟨S', ⟨g1.1, g1.2⟩, g2, g3, fun r hr => ?_⟩
    have g5 := g4 r hr
    rw [e76_2]
    simp only [e76_3, e76_4, e76_7, e76_10, e76_11, e76_14, e76_15, e76_16, e76_17, e76_20, mw0 hW, mr8 hW, mk8 hW, mn8 hW, Nat.zero_le, Nat.reduceAdd, Nat.reduceLeDiff, reduceIte, rf_c1, int_c1, none_c1, cat_nil, cat_int, cat_long, cat_rf, toList_s, toList_n, true_and, and_true, Option.some.injEq, exists_eq_left', exists_eq_left, reduceCtorEq, if_true, if_false, eq_self, h.2.1, z, a3, a4, nI_1]
    exact g5
abbrev d0 : Dx := ([], fun _ => 0, [], [], false, false)
theorem m_begin (h : MR S m A Z) (hZ : ZI Z) : ∃ S', Ev (76, 0, [some (va_rf (some m)), none], [], S) (none, S') ∧ MX S' m A Z d0 ∧ sz0 S S' := by
  obtain ⟨S1, g1, g2, g3, g4⟩ := m_beginloop hZ (zn Z) 0 S (by omega) h (fun u hu => absurd hu (Nat.not_lt_zero u))
  refine ⟨pI (pI S1 411 m 0) 412 m 0, ?_, ?_, g1⟩
  · have g5 := g4 (none, pI (pI S1 411 m 0) 412 m 0) (by
      simp only [e76_23, e76_24, e76_25, e76_28, e76_29, e76_30, e76_33, mw0 g2.1, pI_ns_z, pI_ns_s, pI_ns_k, pI_ns_n, pI_fI, pI_fJ, pI_fR, pI_aI, pI_aJ, pI_aR, pJ_ns_z, pJ_ns_s, pJ_ns_k, pJ_ns_n, pJ_fI, pJ_fJ, pJ_fR, pJ_aI, pJ_aJ, pJ_aR, pR_ns_z, pR_ns_s, pR_ns_k, pR_ns_n, pR_fI, pR_fJ, pR_fR, pR_aI, pR_aJ, pR_aR, qI_ns_z, qI_ns_s, qI_ns_k, qI_ns_n, qI_fI, qI_fJ, qI_fR, qI_aI, qI_aJ, qI_aR, qJ_ns_z, qJ_ns_s, qJ_ns_k, qJ_ns_n, qJ_fI, qJ_fJ, qJ_fR, qJ_aI, qJ_aJ, qJ_aR, qR_ns_z, qR_ns_s, qR_ns_k, qR_ns_n, qR_fI, qR_fJ, qR_fR, qR_aI, qR_aJ, qR_aR, nO_ns_z, nO_ns_s, nO_ns_k, nO_ns_n, nO_fI, nO_fJ, nO_fR, nO_aI, nO_aJ, nO_aR, nA_ns_z, nA_ns_s, nA_ns_k, nA_ns_n, nA_fI, nA_fJ, nA_fR, nA_aI, nA_aJ, nA_aR, nC_ns_z, nC_ns_s, nC_ns_k, nC_ns_n, nC_fI, nC_fJ, nC_fR, nC_aI, nC_aJ, nC_aR, Nat.zero_le, Nat.reduceAdd, Nat.reduceLeDiff, reduceIte, rf_c1, int_c1, none_c1, cat_nil, cat_int, cat_long, cat_rf, toList_s, toList_n, true_and, and_true, Option.some.injEq, exists_eq_left', exists_eq_left, reduceCtorEq, if_true, if_false, eq_self])
    simp only [e76_0, e76_1, Nat.zero_le, Nat.reduceAdd, Nat.reduceLeDiff, reduceIte, rf_c1, int_c1, none_c1, cat_nil, cat_int, cat_long, cat_rf, toList_s, toList_n, true_and, and_true, Option.some.injEq, exists_eq_left', exists_eq_left, reduceCtorEq, if_true, if_false, eq_self]
    exact g5
  · have hR : MR (pI (pI S1 411 m 0) 412 m 0) m A Z := MR_same g2 rfl rfl rfl (fun f hf => by rw [pI_fI, if_neg (by omega), pI_fI, if_neg (by omega)]) (fun f _ => rfl) rfl
    refine ⟨hR, g3, ⟨?_, fun i hi => absurd hi (Nat.not_lt_zero i)⟩, ⟨?_, fun i hi => absurd hi (Nat.not_lt_zero i)⟩, trivial⟩
    · rw [pI_fI, if_neg (by omega), pI_fI, if_pos ⟨rfl, rfl⟩]; rfl
    · rw [pI_fI, if_pos ⟨rfl, rfl⟩]; rfl
/-- walk(s) over what earlier walks have left -/
theorem m_walk (hZ : ZI Z) {mk : Nat → Nat} {pre post : List Nat} (h : MX S m A Z ([], mk, pre, post, false, false)) (hI : dInv (chl Z) (zh Z) (zn Z) ([], mk, pre, post, false, false)) {s : Nat} (hs : s < zn Z) (h0 : mk s = 0) : wAns m A Z S (dend (chl Z) (zh Z) s (zn Z) (dbeg mk pre post s)) (77, 0, [some (va_rf (some m)), some (.int (nI s)), none, none, none], [], S) := by
  have hn := hZ.1
  have hR := h.1
  have hW := hR.1
  obtain ⟨-, m1, ⟨m2, m2'⟩, ⟨m3, m3'⟩, m4⟩ := id h
  dsimp only at m1 m2 m2' m3 m3' m4
  have hB := dInv_beg (chl Z) (zh Z) (zn Z) hs h0 hI
  obtain ⟨ks1, ks2, ks3⟩ := stk_len hZ hB
  have ks2 : (pre ++ [s]).length ≤ zn Z := ks2
  simp only [List.length_append, List.length_cons, List.length_nil] at ks2
  have hM := MX_come (c := s) (ring := false) (met := false) (t := []) hR m1 m2 m2' m3 m3' m4
  have hq := m_walkloop hZ s (nI s) _ (dbeg mk pre post s) _ none none rfl hB hM rfl
  refine wAns_go ⟨rfl, rfl⟩ (fun r hr => ?_) hq
  have a5 : atI (dbeg mk pre post s) = 0 := rfl
  rw [a5] at hr
  have s3 : (nI s).toNatClampNeg = s := nI_clamp (by omega)
  have s4 := in_ok (show s < 2000 by omega) (by omega)
  have s5 : aI S (A 8) s = nI (mk s) := m1 s hs
  have s6 : ¬ nI 0 = (2 : Int32) := by decide
  have cm : ∀ r, Ev (78, 0, [some (va_rf (some m)), some (.int (nI s)), some (.int 0)], [], S) r ↔ r = (none, qI (qI (pI (qI (qI S (A 8) s 1) (A 9) pre.length (nI s)) 411 m (nI (pre.length + 1))) (A 13) 0 (nI s)) (A 14) 0 0) := fun r => m_come (r := r) hR hZ (c := s) (d := 0) (pl := pre.length) hs (by omega) (by omega) m2
  simp only [e77_0, e77_1, e77_4, e77_5, e77_6, e77_7, e77_10, e77_11, e77_12, e77_13, e77_14, e77_15, e77_16, e77_17, mw0 hW, mr8 hW, mk8 hW, mn8 hW, Nat.zero_le, Nat.reduceAdd, Nat.reduceLeDiff, reduceIte, rf_c1, int_c1, none_c1, cat_nil, cat_int, cat_long, cat_rf, toList_s, toList_n, true_and, and_true, Option.some.injEq, exists_eq_left', exists_eq_left, reduceCtorEq, if_true, if_false, eq_self, s3, s4, s5, h0, s6, cm]
  exact hr
theorem m_walk2 (hZ : ZI Z) {mk : Nat → Nat} {pre post : List Nat} (h : MX S m A Z ([], mk, pre, post, false, false)) {s : Nat} (hs : s < zn Z) (h0 : mk s = 2) : Ev (77, 0, [some (va_rf (some m)), some (.int (nI s)), none, none, none], [], S) (some (.int 1), S) := by
  have hn := hZ.1
  have hR := h.1
  have hW := hR.1
  have s3 : (nI s).toNatClampNeg = s := nI_clamp (by omega)
  have s4 := in_ok (show s < 2000 by omega) (by omega)
  have s5 : aI S (A 8) s = nI (mk s) := h.2.1 s hs
  have s6 : nI 2 = (2 : Int32) := rfl
  simp only [e77_0, e77_1, e77_4, e77_5, e77_6, e77_7, e77_10, e77_11, e77_12, e77_13, e77_14, e77_15, e77_16, e77_17, mw0 hW, mr8 hW, mk8 hW, mn8 hW, Nat.zero_le, Nat.reduceAdd, Nat.reduceLeDiff, reduceIte, rf_c1, int_c1, none_c1, cat_nil, cat_int, cat_long, cat_rf, toList_s, toList_n, true_and, and_true, Option.some.injEq, exists_eq_left', exists_eq_left, reduceCtorEq, if_true, if_false, eq_self, s3, s4, s5, h0, s6]
  simp
end MWALK3
