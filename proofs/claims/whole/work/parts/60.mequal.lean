/-! ===== equal: the reference, all of it ===== -/
section MEQ2
variable {S : ns_St} {m : Nat} {A : Nat → Nat} {Z : Zs}
/-- the walk from b over what the walk from a has left meets a ring just where a fresh one does; else it goes on in order -/
theorem wk_two (hZ : ZI Z) {b : Nat} (hb : b < zn Z) {mk : Nat → Nat} {pre post : List Nat} (hI : dInv (chl Z) (zh Z) (zn Z) ([], mk, pre, post, false, false)) (h0 : mk b = 0) : (dend (chl Z) (zh Z) b (zn Z) (dbeg mk pre post b)).2.2.2.2.1 = (wkE Z b).2.2.2.2.1 := by
  have hB := dInv_beg (chl Z) (zh Z) (zn Z) hb h0 hI
  have hB0 := dInv_beg (chl Z) (zh Z) (zn Z) hb rfl (dInv_0 (chl Z) (zh Z) (zn Z))
  obtain ⟨e1, e2⟩ := dend_all (chl Z) (zh Z) b (zn Z) (X := dbeg mk pre post b) (zch hZ) _ _ rfl hB
  obtain ⟨k1, k2, k3⟩ := wkE_ok hZ hb
  have hbp : b ∈ (dend (chl Z) (zh Z) b (zn Z) (dbeg mk pre post b)).2.2.2.1 := by
    have hpre : b ∈ (dend (chl Z) (zh Z) b (zn Z) (dbeg mk pre post b)).2.2.1 := dpre_run (chl Z) (zh Z) b _ _ (by show b ∈ pre ++ [b]; simp)
    have h1 := (e1.2.2.2.2.1.2 b).mp hpre
    have h2 : ¬ (dend (chl Z) (zh Z) b (zn Z) (dbeg mk pre post b)).2.1 b = 1 := fun z => by
      have := (e1.2.1 b).mp z
      rw [e2] at this
      cases this
    have h3 := e1.2.2.1 b
    exact (e1.2.2.2.2.2.1.2 b).mpr (by omega)
  cases h1 : (dend (chl Z) (zh Z) b (zn Z) (dbeg mk pre post b)).2.2.2.2.1 with
  | false =>
    obtain ⟨t1, t2⟩ := dend_topo e1 h1
    exact (noring b (zch hZ) hB0 (Topo_acy t1 t2 hbp)).symm
  | true =>
    cases h2 : (wkE Z b).2.2.2.2.1 with
    | true => rfl
    | false =>
      obtain ⟨t1, t2⟩ := dend_topo k1 h2
      have := noring b (zch hZ) hB (Topo_acy t1 t2 k3)
      rw [h1] at this
      cases this
theorem dep_two (hZ : ZI Z) {a : Nat} (ha : a < zn Z) (hr : (wkE Z a).2.2.2.2.1 = false) {X : Dx} (hI : dInv (chl Z) (zh Z) (zn Z) X) (hX : X.2.2.2.2.1 = false) (hm : a ∈ X.2.2.2.1) : dpF (chl Z) (zh Z) X.2.2.2.1 a = depZ Z a := by
  obtain ⟨k1, k2, k3⟩ := wkE_ok hZ ha
  obtain ⟨t1, t2⟩ := dend_topo k1 hr
  obtain ⟨s1, s2⟩ := dend_topo hI hX
  obtain ⟨P, Q, e⟩ := List.append_of_mem hm
  exact dpF_same s1 s2 t1 t2 P.length P a Q (Nat.le_refl _) e k3
theorem rf_there {a : Nat} (hZ : ZI Z) (ha : a < zn Z) : rf Z (nI a) = if (wkE Z a).2.2.2.2.1 = true then 5 else if 400 < depZ Z a then 6 else 0 := by
  unfold rf
  rw [zt_nI ha (by have := hZ.1; omega)]
theorem m_equal (h : MR S m A Z) (hZ : ZI Z) (s t : Int32) : ∃ S' x, Ev (88, 0, [some (va_rf (some m)), some (.int s), some (.int t)], [], S) (some (.int x), S') ∧ AnsE Z s t x ∧ MR S' m A (wS Z (es Z s t)) ∧ sz0 S S' := by
  have hn := hZ.1
  have hW := h.1
  have h400 := h.2.1
  have k0 : ∀ x, ns_k (pI S 407 m x) m = 5 := fun x => by rw [pI_ns_k]; exact mw0 hW
  have r0 : ∀ x, fI (pI S 407 m x) 400 m = nI (zn Z) := fun x => by rw [pI_fI, if_neg (by omega)]; exact h400
  have hM0 := MR_wS h 0
  have t1 := fun (v : Int32) (r : ns_Rs) => t58 (S := pI S 407 m 0) (m := m) (A := A) (v := v) (r := r) hM0.1
  have h1v : fI (pI S 407 m 0) 400 m = nI (zn Z) := r0 0
  rw [h1v] at t1
  -- one is not there
  have away : (zt (zn Z) s = none ∨ zt (zn Z) t = none) → es Z s t = 1 ∧ AnsE Z s t (-1) := fun hq => by
    unfold AnsE es rf
    rcases hq with q | q
    · rw [q]
      refine ⟨?_, ?_⟩
      · cases zt (zn Z) t with
        | none => rfl
        | some b =>
          unfold fr2
          dsimp only
          repeat' split
          all_goals first | rfl | simp_all
      · cases zt (zn Z) t <;> rfl
    · rw [q]
      refine ⟨?_, ?_⟩
      · cases zt (zn Z) s with
        | none => rfl
        | some b =>
          unfold fr2
          dsimp only
          repeat' split
          all_goals first | rfl | simp_all
      · cases zt (zn Z) s <;> rfl
  rcases zt_cases (n := zn Z) (by omega) s with ⟨e1, g⟩ | ⟨a, ha, rfl, e1⟩
  · obtain ⟨q1, q2⟩ := away (Or.inl e1)
    refine ⟨pI (pI S 407 m 0) 407 m 1, -1, ?_, q2, by rw [q1, pI_pI]; exact MR_wS h 1, ⟨rfl, rfl⟩⟩
    rcases g with g | ⟨g, g'⟩
    · simp only [e88_0, e88_1, e88_2, e88_5, e88_6, e88_7, e88_10, e88_13, e88_14, e88_15, e88_18, e88_21, e88_22, e88_23, e88_26, e88_27, t1, mw0 hW, mr17 hW, mk17 hW, mn17 hW, k0, Nat.zero_le, Nat.reduceAdd, Nat.reduceLeDiff, reduceIte, rf_c1, int_c1, none_c1, cat_nil, cat_int, cat_long, cat_rf, toList_s, toList_n, true_and, and_true, Option.some.injEq, exists_eq_left', exists_eq_left, reduceCtorEq, if_true, if_false, eq_self, g]
    · simp only [e88_0, e88_1, e88_2, e88_5, e88_6, e88_7, e88_10, e88_13, e88_14, e88_15, e88_18, e88_21, e88_22, e88_23, e88_26, e88_27, t1, mw0 hW, mr17 hW, mk17 hW, mn17 hW, k0, Nat.zero_le, Nat.reduceAdd, Nat.reduceLeDiff, reduceIte, rf_c1, int_c1, none_c1, cat_nil, cat_int, cat_long, cat_rf, toList_s, toList_n, true_and, and_true, Option.some.injEq, exists_eq_left', exists_eq_left, reduceCtorEq, if_true, if_false, eq_self, g, g']
  · obtain ⟨a1, a2, a3⟩ := there_ok ha (by omega)
    rcases zt_cases (n := zn Z) (by omega) t with ⟨e2, g⟩ | ⟨b, hb, rfl, e2⟩
    · obtain ⟨q1, q2⟩ := away (Or.inr e2)
      refine ⟨pI (pI S 407 m 0) 407 m 1, -1, ?_, q2, by rw [q1, pI_pI]; exact MR_wS h 1, ⟨rfl, rfl⟩⟩
      rcases g with g | ⟨g, g'⟩
      · simp only [e88_0, e88_1, e88_2, e88_5, e88_6, e88_7, e88_10, e88_13, e88_14, e88_15, e88_18, e88_21, e88_22, e88_23, e88_26, e88_27, t1, mw0 hW, mr17 hW, mk17 hW, mn17 hW, k0, Nat.zero_le, Nat.reduceAdd, Nat.reduceLeDiff, reduceIte, rf_c1, int_c1, none_c1, cat_nil, cat_int, cat_long, cat_rf, toList_s, toList_n, true_and, and_true, Option.some.injEq, exists_eq_left', exists_eq_left, reduceCtorEq, if_true, if_false, eq_self, a1, a2, g]
        all_goals simp
      · simp only [e88_0, e88_1, e88_2, e88_5, e88_6, e88_7, e88_10, e88_13, e88_14, e88_15, e88_18, e88_21, e88_22, e88_23, e88_26, e88_27, t1, mw0 hW, mr17 hW, mk17 hW, mn17 hW, k0, Nat.zero_le, Nat.reduceAdd, Nat.reduceLeDiff, reduceIte, rf_c1, int_c1, none_c1, cat_nil, cat_int, cat_long, cat_rf, toList_s, toList_n, true_and, and_true, Option.some.injEq, exists_eq_left', exists_eq_left, reduceCtorEq, if_true, if_false, eq_self, a1, a2, g, g']
        all_goals simp
    · obtain ⟨b1, b2, b3⟩ := there_ok hb (by omega)
      have ra := rf_there hZ ha
      have rb := rf_there hZ hb
      have hAE : ∀ x, es Z (nI a) (nI b) ≠ 0 → x = -1 → AnsE Z (nI a) (nI b) x := fun x he hx => by
        unfold AnsE
        rw [e1, e2]
        dsimp only
        rw [if_neg he]
        exact hx
      obtain ⟨S1, g1, g2, g3⟩ := m_begin hM0 hZ
      -- the beginning
      have start : ∀ r, Ev (88, 32, [some (va_rf (some m)), some (.int (nI a)), some (.int (nI b))], [], S1) r → Ev (88, 0, [some (va_rf (some m)), some (.int (nI a)), some (.int (nI b))], [], S) r := fun r hr => by
        simp only [e88_0, e88_1, e88_2, e88_5, e88_6, e88_7, e88_10, e88_13, e88_14, e88_15, e88_18, e88_21, e88_22, e88_23, e88_26, e88_27, e88_28, e88_29, t1, Ev_is g1, mw0 hW, mr17 hW, mk17 hW, mn17 hW, k0, Nat.zero_le, Nat.reduceAdd, Nat.reduceLeDiff, reduceIte, rf_c1, int_c1, none_c1, cat_nil, cat_int, cat_long, cat_rf, toList_s, toList_n, true_and, and_true, Option.some.injEq, exists_eq_left', exists_eq_left, reduceCtorEq, if_true, if_false, eq_self, a1, a2, b1, b2]
        simpa using hr
      have d0I : dInv (chl Z) (zh Z) (zn Z) d0 := dInv_0 (chl Z) (zh Z) (zn Z)
      have wa := m_walk (Z := wS Z 0) hZ g2 d0I (s := a) ha rfl
      have wa : wAns m A (wS Z 0) S1 (wkE Z a) (77, 0, [some (va_rf (some m)), some (.int (nI a)), none, none, none], [], S1) := wa
      have five : ∀ S2, MR S2 m A (wS Z 0) → sz0 S1 S2 → es Z (nI a) (nI b) = 5 → (∀ r, Ev (88, 48, [some (va_rf (some m)), some (.int (nI a)), some (.int (nI b))], [], S2) r → Ev (88, 32, [some (va_rf (some m)), some (.int (nI a)), some (.int (nI b))], [], S1) r) → ∃ S' x, Ev (88, 0, [some (va_rf (some m)), some (.int (nI a)), some (.int (nI b))], [], S) (some (.int x), S') ∧ AnsE Z (nI a) (nI b) x ∧ MR S' m A (wS Z (es Z (nI a) (nI b))) ∧ sz0 S S' := fun S2 hM2 hz2 he hgo => by
        refine ⟨pI S2 407 m 5, -1, start _ (hgo _ ?_), hAE _ (by rw [he]; decide) rfl, by rw [he]; exact MR_wS hM2 5, ⟨?_, ?_⟩⟩
        · simp only [e88_48, e88_49, e88_50, e88_53, e88_54, mw0 hM2.1, Nat.zero_le, Nat.reduceAdd, Nat.reduceLeDiff, reduceIte, rf_c1, int_c1, none_c1, cat_nil, cat_int, cat_long, cat_rf, toList_s, toList_n, true_and, and_true, Option.some.injEq, exists_eq_left', exists_eq_left, reduceCtorEq, if_true, if_false, eq_self]
        · rw [pI_ns_z, hz2.1, g3.1, pI_ns_z]
        · rw [pI_ns_s, hz2.2, g3.2, pI_ns_s]
      have fr5 : ∀ x, (x = 0 ∨ x = 5 ∨ x = 6) → fr2 5 x = 5 ∧ fr2 x 5 = 5 := fun x hx => by
        rcases hx with rfl | rfl | rfl <;> decide
      have rcases3 : ∀ c, c < zn Z → rf Z (nI c) = 0 ∨ rf Z (nI c) = 5 ∨ rf Z (nI c) = 6 := fun c hc => by
        rw [rf_there hZ hc]
        repeat' split
        · exact Or.inr (Or.inl rfl)
        · exact Or.inr (Or.inr rfl)
        · exact Or.inl rfl
      unfold wAns at wa
      by_cases ya : (wkE Z a).2.2.2.2.1 = true
      · rw [if_pos ya] at wa
        obtain ⟨S2, p1, p2, p3⟩ := wa
        rw [if_pos ya] at ra
        refine five S2 p2 p1 (by unfold es; rw [ra]; exact (fr5 _ (rcases3 b hb)).1) (fun r hr => ?_)
        simp only [e88_32, e88_33, e88_34, e88_37, e88_40, e88_41, e88_42, e88_45, Ev_is p3, mw0 g2.1.1, Nat.zero_le, Nat.reduceAdd, Nat.reduceLeDiff, reduceIte, rf_c1, int_c1, none_c1, cat_nil, cat_int, cat_long, cat_rf, toList_s, toList_n, true_and, and_true, Option.some.injEq, exists_eq_left', exists_eq_left, reduceCtorEq, if_true, if_false, eq_self]
        exact hr
      · rw [if_neg ya] at wa
        obtain ⟨S2, p1, p2, p3⟩ := wa
        rw [if_neg ya] at ra
        have ya' : (wkE Z a).2.2.2.2.1 = false := by
          cases hh : (wkE Z a).2.2.2.2.1 with
          | true => exact absurd hh ya
          | false => rfl
        obtain ⟨k1, k2, k3⟩ := wkE_ok hZ ha
        have hXa : ∃ mk pre post met, wkE Z a = ([], mk, pre, post, false, met) := ⟨(wkE Z a).2.1, (wkE Z a).2.2.1, (wkE Z a).2.2.2.1, (wkE Z a).2.2.2.2.2, by
          rw [← k2, ← ya']⟩
        obtain ⟨mk, pre, post, met, eX⟩ := hXa
        rw [eX] at p2 k1 k3
        have p2 : MX S2 m A (wS Z 0) ([], mk, pre, post, false, false) := p2
        have k1 : dInv (chl Z) (zh Z) (zn Z) ([], mk, pre, post, false, false) := k1
        have k3 : a ∈ post := k3
        -- both walks are over
        have rest : ∀ (X : Dx) (S3 : ns_St), MX S3 m A (wS Z 0) X → sz0 S2 S3 → dInv (chl Z) (zh Z) (zn Z) X → X.2.2.2.2.1 = false → a ∈ X.2.2.2.1 → b ∈ X.2.2.2.1 → (wkE Z b).2.2.2.2.1 = false → Ev (77, 0, [some (va_rf (some m)), some (.int (nI b)), none, none, none], [], S2) (some (.int 1), S3) → ∃ S' x, Ev (88, 0, [some (va_rf (some m)), some (.int (nI a)), some (.int (nI b))], [], S) (some (.int x), S') ∧ AnsE Z (nI a) (nI b) x ∧ MR S' m A (wS Z (es Z (nI a) (nI b))) ∧ sz0 S S' := by
          intro X S3 hX hz3 hI hrX haX hbX hrb hwb
          obtain ⟨S4, j1, j2, j3, j4⟩ := m_depths (Z := wS Z 0) hZ hI hrX X.2.2.2.1.length [] X.2.2.2.1 S3 none none none none rfl rfl hX (fun u hu => by cases hu)
          have j4 : Ev (79, 2, [some (va_rf (some m)), some (.int 0), none, none, none, none], [], S3) (none, S4) := j4
          have j5 : Ev (79, 0, [some (va_rf (some m)), none, none, none, none, none], [], S3) (none, S4) := by
            simp only [e79_0, e79_1, Nat.zero_le, Nat.reduceAdd, Nat.reduceLeDiff, reduceIte, rf_c1, int_c1, none_c1, cat_nil, cat_int, cat_long, cat_rf, toList_s, toList_n, true_and, and_true, Option.some.injEq, exists_eq_left', exists_eq_left, reduceCtorEq, if_true, if_false, eq_self]
            exact j4
          have da : aI S4 (A 15) a = nI (depZ Z a) := by rw [j3 a haX]; exact congrArg nI (dep_two hZ ha ya' hI hrX haX)
          have db : aI S4 (A 15) b = nI (depZ Z b) := by rw [j3 b hbX]; exact congrArg nI (dep_two hZ hb hrb hI hrX hbX)
          have la := depZ_le hZ ha
          have lb := depZ_le hZ hb
          have hM4 := j2.1
          have hW4 := hM4.1
          rw [if_neg (by rw [hrb]; decide)] at rb
          have a4 := in_ok (show a < 2000 by omega) (by omega)
          have b4 := in_ok (show b < 2000 by omega) (by omega)
          have qa : ((400 : Int32) < nI (depZ Z a)) ↔ 400 < depZ Z a := nI_ltI (a := 400) (by omega) (by omega)
          have qb : (nI (depZ Z b) ≤ (400 : Int32)) ↔ depZ Z b ≤ 400 := nI_leI (b := 400) (by omega) (by omega)
          have toS : sz0 S S4 := ⟨by rw [j1.1, hz3.1, p1.1, g3.1, pI_ns_z], by rw [j1.2, hz3.2, p1.2, g3.2, pI_ns_s]⟩
          have go : ∀ r, Ev (88, 59, [some (va_rf (some m)), some (.int (nI a)), some (.int (nI b))], [], S4) r → Ev (88, 0, [some (va_rf (some m)), some (.int (nI a)), some (.int (nI b))], [], S) r := fun r hr => by
            refine start r ?_
            simp only [e88_32, e88_33, e88_34, e88_37, e88_40, e88_41, e88_42, e88_45, e88_48, e88_49, e88_50, e88_53, e88_54, e88_55, e88_56, Ev_is p3, Ev_is hwb, Ev_is j5, mw0 g2.1.1, mw0 p2.1.1, mw0 hX.1.1, Nat.zero_le, Nat.reduceAdd, Nat.reduceLeDiff, reduceIte, rf_c1, int_c1, none_c1, cat_nil, cat_int, cat_long, cat_rf, toList_s, toList_n, true_and, and_true, Option.some.injEq, exists_eq_left', exists_eq_left, reduceCtorEq, if_true, if_false, eq_self]
            simpa using hr
          have six : es Z (nI a) (nI b) = 6 → Ev (88, 59, [some (va_rf (some m)), some (.int (nI a)), some (.int (nI b))], [], S4) (some (.int (-1)), pI S4 407 m 6) → ∃ S' x, Ev (88, 0, [some (va_rf (some m)), some (.int (nI a)), some (.int (nI b))], [], S) (some (.int x), S') ∧ AnsE Z (nI a) (nI b) x ∧ MR S' m A (wS Z (es Z (nI a) (nI b))) ∧ sz0 S S' := fun he hev => ⟨pI S4 407 m 6, -1, go _ hev, hAE _ (by rw [he]; decide) rfl, by rw [he]; exact MR_wS hM4 6, toS⟩
          by_cases wa : 400 < depZ Z a
          · rw [if_pos wa] at ra
            refine six ?_ ?_
            · unfold es
              rw [ra]
              rcases rcases3 b hb with q | q | q
              · rw [q]; decide
              · exfalso
                rw [q] at rb
                split at rb
                · exact absurd rb (by decide)
                · exact absurd rb (by decide)
              · rw [q]; decide
            · have qa1 := qa.mpr wa
              simp only [e88_59, e88_60, e88_63, e88_64, e88_65, e88_68, e88_71, e88_72, e88_75, e88_76, e88_77, e88_80, e88_83, e88_84, e88_86, e88_89, e88_90, mw0 hW4, mr15 hW4, mk15 hW4, mn15 hW4, Nat.zero_le, Nat.reduceAdd, Nat.reduceLeDiff, reduceIte, rf_c1, int_c1, none_c1, cat_nil, cat_int, cat_long, cat_rf, toList_s, toList_n, true_and, and_true, Option.some.injEq, exists_eq_left', exists_eq_left, reduceCtorEq, if_true, if_false, eq_self, a3, a4, da, qa1]
          · rw [if_neg wa] at ra
            have qa1 : ¬ (400 : Int32) < nI (depZ Z a) := fun q => wa (qa.mp q)
            by_cases wb : 400 < depZ Z b
            · rw [if_pos wb] at rb
              refine six (by unfold es; rw [ra, rb]; decide) ?_
              have qb1 : ¬ nI (depZ Z b) ≤ (400 : Int32) := fun q => by have := qb.mp q; omega
              simp only [e88_59, e88_60, e88_63, e88_64, e88_65, e88_68, e88_71, e88_72, e88_75, e88_76, e88_77, e88_80, e88_83, e88_84, e88_86, e88_89, e88_90, mw0 hW4, mr15 hW4, mk15 hW4, mn15 hW4, Nat.zero_le, Nat.reduceAdd, Nat.reduceLeDiff, reduceIte, rf_c1, int_c1, none_c1, cat_nil, cat_int, cat_long, cat_rf, toList_s, toList_n, true_and, and_true, Option.some.injEq, exists_eq_left', exists_eq_left, reduceCtorEq, if_true, if_false, eq_self, a3, a4, b3, b4, da, db, qa1, qb1]
            · rw [if_neg wb] at rb
              have he : es Z (nI a) (nI b) = 0 := by unfold es; rw [ra, rb]; decide
              have qb1 : nI (depZ Z b) ≤ (400 : Int32) := qb.mpr (by omega)
              obtain ⟨S5, lik, v1, v2, v3, v4, v5⟩ := m_wl (Z := wS Z 0) hZ hI hrX X.2.2.2.1.length [] X.2.2.2.1 S4 (fun _ => 0) none none none none rfl rfl j2 (fun u hu => (by cases hu)) ⟨fun u hu => (by cases hu), fun u v hu => (by cases hu)⟩
              have v5 : Ev (87, 2, [some (va_rf (some m)), some (.int 0), none, none, none, none], [], S4) (none, S5) := v5
              have v6 : Ev (87, 0, [some (va_rf (some m)), none, none, none, none, none], [], S4) (none, S5) := by
                simp only [e87_0, e87_1, Nat.zero_le, Nat.reduceAdd, Nat.reduceLeDiff, reduceIte, rf_c1, int_c1, none_c1, cat_nil, cat_int, cat_long, cat_rf, toList_s, toList_n, true_and, and_true, Option.some.injEq, exists_eq_left', exists_eq_left, reduceCtorEq, if_true, if_false, eq_self]
                exact v5
              have hW5 := v1.1.1
              have ea := (v2 a haX).1
              have eb := (v2 b hbX).1
              have xl : ∀ u, u ∈ X.2.2.2.1 → u < zn Z := fun u hu => hI.2.2.2.2.2.2.1 u (by rw [(hI.2.2.2.2.2.1.2 u).mp hu]; decide)
              have la2 := xl _ (v3.1 a haX).1
              have lb2 := xl _ (v3.1 b hbX).1
              have qq : (nI (lik a) = nI (lik b)) ↔ lik a = lik b := nI_eq (by omega) (by omega)
              have hEq : (lik a = lik b) ↔ EqZ Z a b := v3.2 a b haX hbX
              have toS5 : sz0 S S5 := ⟨v4.1.trans toS.1, v4.2.trans toS.2⟩
              by_cases w : lik a = lik b
              · have qq1 : (nI (lik a) = nI (lik b)) = True := eq_true (qq.mpr w)
                refine ⟨S5, 1, go _ ?_, ?_, by rw [he]; exact v1.1, toS5⟩
                · simp only [e88_59, e88_60, e88_63, e88_64, e88_65, e88_68, e88_71, e88_72, e88_75, e88_76, e88_77, e88_80, e88_83, e88_84, e88_86, e88_89, e88_90, e88_91, e88_92, e88_95, e88_96, e88_99, e88_100, e88_101, e88_102, e88_105, e88_106, e88_107, e88_110, e88_111, e88_114, e88_115, Ev_is v6, mw0 hW4, mr15 hW4, mk15 hW4, mn15 hW4, mr17 hW4, mk17 hW4, mn17 hW4, mw0 hW5, mr17 hW5, mk17 hW5, mn17 hW5, Nat.zero_le, Nat.reduceAdd, Nat.reduceLeDiff, reduceIte, rf_c1, int_c1, none_c1, cat_nil, cat_int, cat_long, cat_rf, toList_s, toList_n, true_and, and_true, Option.some.injEq, exists_eq_left', exists_eq_left, reduceCtorEq, if_true, if_false, eq_self, a3, a4, b3, b4, da, db, ea, eb, qa1, qb1, qq1]
                  all_goals simp
                · unfold AnsE
                  rw [e1, e2]
                  dsimp only
                  rw [if_pos he]
                  exact ⟨Or.inl rfl, fun _ => hEq.mp w, fun _ => rfl⟩
              · have qq1 : (nI (lik a) = nI (lik b)) = False := eq_false (fun q => w (qq.mp q))
                refine ⟨S5, 0, go _ ?_, ?_, by rw [he]; exact v1.1, toS5⟩
                · simp only [e88_59, e88_60, e88_63, e88_64, e88_65, e88_68, e88_71, e88_72, e88_75, e88_76, e88_77, e88_80, e88_83, e88_84, e88_86, e88_89, e88_90, e88_91, e88_92, e88_95, e88_96, e88_99, e88_100, e88_101, e88_102, e88_105, e88_106, e88_107, e88_110, e88_111, e88_114, e88_115, Ev_is v6, mw0 hW4, mr15 hW4, mk15 hW4, mn15 hW4, mr17 hW4, mk17 hW4, mn17 hW4, mw0 hW5, mr17 hW5, mk17 hW5, mn17 hW5, Nat.zero_le, Nat.reduceAdd, Nat.reduceLeDiff, reduceIte, rf_c1, int_c1, none_c1, cat_nil, cat_int, cat_long, cat_rf, toList_s, toList_n, true_and, and_true, Option.some.injEq, exists_eq_left', exists_eq_left, reduceCtorEq, if_true, if_false, eq_self, a3, a4, b3, b4, da, db, ea, eb, qa1, qb1, qq1]
                  all_goals simp
                · unfold AnsE
                  rw [e1, e2]
                  dsimp only
                  rw [if_pos he]
                  exact ⟨Or.inr rfl, fun q => absurd q (by decide), fun q => absurd (hEq.mpr q) w⟩
        by_cases mb : mk b = 2
        · have hw := m_walk2 (Z := wS Z 0) hZ p2 hb mb
          have hbp : b ∈ post := (k1.2.2.2.2.2.1.2 b).mpr mb
          obtain ⟨t1', t2'⟩ := dend_topo k1 rfl
          have hrb : (wkE Z b).2.2.2.2.1 = false := noring b (zch hZ) (dInv_beg (chl Z) (zh Z) (zn Z) hb rfl (dInv_0 (chl Z) (zh Z) (zn Z))) (Topo_acy t1' t2' hbp)
          exact rest _ S2 p2 ⟨rfl, rfl⟩ k1 rfl k3 hbp hrb hw
        · have mb0 : mk b = 0 := by
            have h3 := k1.2.2.1 b
            have h1 : ¬ mk b = 1 := fun z => by
              have := (k1.2.1 b).mp z
              cases this
            dsimp only at h3
            omega
          have wb := m_walk (Z := wS Z 0) hZ p2 k1 (s := b) hb mb0
          have hB := dInv_beg (chl Z) (zh Z) (zn Z) hb mb0 k1
          obtain ⟨x1, x2⟩ := dend_all (chl Z) (zh Z) b (zn Z) (X := dbeg mk pre post b) (zch hZ) _ _ rfl hB
          have htwo := wk_two hZ hb k1 mb0
          have wb : wAns m A (wS Z 0) S2 (dend (chl Z) (zh Z) b (zn Z) (dbeg mk pre post b)) (77, 0, [some (va_rf (some m)), some (.int (nI b)), none, none, none], [], S2) := wb
          unfold wAns at wb
          by_cases yb : (wkE Z b).2.2.2.2.1 = true
          · rw [htwo, if_pos yb] at wb
            obtain ⟨S3, w1, w2, w3⟩ := wb
            rw [if_pos yb] at rb
            refine five S3 w2 ⟨w1.1.trans p1.1, w1.2.trans p1.2⟩ (by unfold es; rw [rb]; exact (fr5 _ (rcases3 a ha)).2) (fun r hr => ?_)
            simp only [e88_32, e88_33, e88_34, e88_37, e88_40, e88_41, e88_42, e88_45, Ev_is p3, Ev_is w3, mw0 g2.1.1, mw0 p2.1.1, Nat.zero_le, Nat.reduceAdd, Nat.reduceLeDiff, reduceIte, rf_c1, int_c1, none_c1, cat_nil, cat_int, cat_long, cat_rf, toList_s, toList_n, true_and, and_true, Option.some.injEq, exists_eq_left', exists_eq_left, reduceCtorEq, if_true, if_false, eq_self]
            simpa using hr
          · rw [htwo, if_neg yb] at wb
            obtain ⟨S3, w1, w2, w3⟩ := wb
            have yb' : (wkE Z b).2.2.2.2.1 = false := by
              cases hh : (wkE Z b).2.2.2.2.1 with
              | true => exact absurd hh yb
              | false => rfl
            have two : ∀ u, u ∈ (dend (chl Z) (zh Z) b (zn Z) (dbeg mk pre post b)).2.2.1 → u ∈ (dend (chl Z) (zh Z) b (zn Z) (dbeg mk pre post b)).2.2.2.1 := fun u hu => by
              have h1 := (x1.2.2.2.2.1.2 u).mp hu
              have h2 : ¬ (dend (chl Z) (zh Z) b (zn Z) (dbeg mk pre post b)).2.1 u = 1 := fun z => by
                have := (x1.2.1 u).mp z
                rw [x2] at this
                cases this
              have h3 := x1.2.2.1 u
              exact (x1.2.2.2.2.2.1.2 u).mpr (by omega)
            have hapre : a ∈ pre := (k1.2.2.2.2.1.2 a).mpr (by
              have := (k1.2.2.2.2.2.1.2 a).mp k3
              dsimp only at this
              show mk a ≠ 0
              omega)
            refine rest _ S3 w2 w1 x1 (by rw [htwo]; exact yb') (two a (dpre_run (chl Z) (zh Z) b _ _ (by show a ∈ pre ++ [b]; simp [hapre]))) (two b (dpre_run (chl Z) (zh Z) b _ _ (by show b ∈ pre ++ [b]; simp))) yb' w3
end MEQ2
