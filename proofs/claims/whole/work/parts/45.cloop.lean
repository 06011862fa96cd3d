/-! ===== the class's walk goes the steps ===== -/
section CLOOP
variable {sh T wk cur : Nat} {ad na ha : Nat → Nat} {Z : Zs} {G : Nat → Prop} {s0 : Nat}
theorem lN_z (S : ns_St) (a : Nat) : ns_z (lN' S a) = ns_z S ∧ ns_s (lN' S a) = ns_s S := by
  unfold lN'
  cases fR S 109 a with
  | none => exact ⟨rfl, rfl⟩
  | some b => exact ⟨by simp only [aN_z, pI_ns_z], by simp only [aN_s, pI_ns_s]⟩
theorem CR_h {S : ns_St} (h : CR S sh T wk ad na ha cur Z) {u : Nat} (hu : u < zn Z) : fR S 104 (ad u) = some (ha u) ∧ ns_k S (ha u) = 8 ∧ ns_n S (ha u) = chl Z u ∧ ∀ j, j < chl Z u → aR S (ha u) j = (zh Z u j).map ad := by
  obtain ⟨-, t1, t2, t3, t4, t5, t6, t7, t8, t9, t10, t11⟩ := h.2.1 u hu
  exact ⟨t6, t9.2.2.1, t9.2.2.2, t11⟩
theorem c_loop (hZ : ZI Z) (hs0 : s0 < zn Z) (a1 : Nat) : ∀ (k : Nat) (X : Dx) (N : Dn) (S : ns_St) (i : Nat) (l4 : Option Value), dmu (chl Z) (zn Z) X = k → dInv (chl Z) (zh Z) (zn Z) X → CW S sh T wk ad na ha cur Z G s0 X N → nInv (chl Z) (zh Z) (own Z) X N → i + k ≤ 1002000 → ∃ S' N', sz0 S S' ∧ CW S' sh T wk ad na ha cur Z G s0 (dend (chl Z) (zh Z) s0 (zn Z) X) N' ∧ nInv (chl Z) (zh Z) (own Z) (dend (chl Z) (zh Z) s0 (zn Z) X) N' ∧ Ev (12, 44, [some (va_rf (some wk)), some (va_rf (some a1)), some (va_rf (X.1.head?.map (fun x => ad x.1))), some (.int (nI i)), l4], [], S) (none, S') := by
  have hn := hZ.1
  have hch := zch hZ
  have hend : ∀ (X : Dx) (N : Dn) (S : ns_St) (i : Nat) (l4 : Option Value), X.1 = [] → CW S sh T wk ad na ha cur Z G s0 X N → nInv (chl Z) (zh Z) (own Z) X N → ∃ S' N', sz0 S S' ∧ CW S' sh T wk ad na ha cur Z G s0 (dend (chl Z) (zh Z) s0 (zn Z) X) N' ∧ nInv (chl Z) (zh Z) (own Z) (dend (chl Z) (zh Z) s0 (zn Z) X) N' ∧ Ev (12, 44, [some (va_rf (some wk)), some (va_rf (some a1)), some (va_rf (X.1.head?.map (fun x => ad x.1))), some (.int (nI i)), l4], [], S) (none, S') := by
    intro X N S i l4 e hC hN
    rw [dend_nil (chl Z) (zh Z) s0 (zn Z) e, e]
    refine ⟨S, N, ⟨rfl, rfl⟩, hC, hN, ?_⟩
    simp only [e12_44, e12_45, e12_47, e12_50, e12_51, e12_111, List.head?_nil, Option.map_none, Nat.zero_le, Nat.reduceAdd, Nat.reduceLeDiff, reduceIte, rf_c1, int_c1, none_c1, cat_nil, cat_int, cat_long, cat_rf, toList_s, toList_n, true_and, and_true, Option.some.injEq, exists_eq_left', exists_eq_left, reduceCtorEq, if_true, if_false, eq_self, ite_self]
  intro k
  induction k with
  | zero =>
    intro X N S i l4 hk0 hI hC hN hi
    exact hend X N S i l4 (dmu_0 _ _ hk0) hC hN
  | succ k ih =>
    intro X N S i l4 hk1 hI hC hN hi
    by_cases e : X.1 = []
    · exact hend X N S i l4 e hC hN
    · have hmu := dmu_step (chl Z) (zh Z) s0 (zn Z) hch hI e
      have hIs := dInv_step (chl Z) (zh Z) s0 (zn Z) hch hI
      rw [dend_step (chl Z) (zh Z) s0 (zn Z) hch hI e]
      obtain ⟨stk, mk, pre, post, ring, met⟩ := X
      match stk, e, hk1, hI, hC, hN, hmu, hIs with
      | (u, p) :: t, e, hk1, hI, hC, hN, hmu, hIs =>
        obtain ⟨h1, h2, h3, h4, ⟨h5, h5'⟩, ⟨h6, h6'⟩, h7, h8⟩ := id hI
        dsimp only at h1 h2 h3 h4 h5 h5' h6 h6' h7 h8
        have hu1 : mk u = 1 := (h2 u).mpr (by simp)
        have hun : u < zn Z := h7 u (by omega)
        have hpl := h4 (u, p) (by simp)
        dsimp only at hpl
        have ht : ∀ v, v ∈ t.map Prod.fst → v < zn Z ∧ v ≠ u := fun v hv => ⟨h7 v (by rw [(h2 v).mpr (by simp only [List.map_cons, List.mem_cons]; exact Or.inr hv)]; decide), fun z => (List.nodup_cons.mp h1).1 (z ▸ hv)⟩
        have hR := hC.1
        have hw := CR_wk hR
        have ku := CR_k hR hun
        obtain ⟨q1, q2, q3, q4⟩ := CR_h hR hun
        have f108 : fI S 108 (ad u) = nI p := hC.2.2.2.2.1.1
        have f109 : fR S 109 (ad u) = t.head?.map (fun x => ad x.1) := hC.2.2.2.2.1.2.1
        have hcl : chl Z u ≤ 500 := by
          unfold chl
          have := (hZ.2.1 u hun).2.1
          split <;> omega
        have z1 : ¬ (1002000 : Int32) ≤ nI i := nI_ge (b := 1002000) (by omega) (by omega)
        have p0 : ¬ nI p < 0 := nI_pos (by omega)
        by_cases ey : chl Z u ≤ p
        · have hp1 : ¬ nI p < nI (chl Z u) := nI_nlt ey (by omega)
          have hb2 : ∀ b, fR S 109 (ad u) = some b → ns_k S b = 2 := fun b hb => by
            rw [f109] at hb
            cases t with
            | nil => cases hb
            | cons y t =>
              have hb : some (ad y.1) = some b := hb
              cases hb
              exact CR_k hR (ht y.1 (by simp)).1
          have hst := dst_leave (chl Z) (zh Z) s0 (t := t) (mk := mk) (pre := pre) (post := post) (ring := ring) (met := met) ey
          rw [hst] at hmu hIs ⊢
          have hC1 := CW_close hun hu1 hC
          have hC2 : CW (lN' S (ad u)) sh T wk ad na ha cur Z G s0 (t, va_up mk u 2, pre, post ++ [u], ring, met) (nlv N u t) := by
            unfold lN'
            rw [f109]
            cases t with
            | nil => exact hC1
            | cons y t =>
              have hy := ht y.1 (by simp)
              refine CW_add (b := y.1) (c := u) hy.1 hun ?_ ?_ hC1
              · show va_up mk u 2 y.1 ≠ 0
                rw [va_up_ne _ _ hy.2, (h2 y.1).mpr (by simp)]
                decide
              · show va_up mk u 2 u ≠ 0
                rw [va_up_self]
                decide
          have hN2 := nv_leave hn hI ey hN
          obtain ⟨S', N', g1, g2, g3, g4⟩ := ih _ _ (lN' S (ad u)) (i + 1) (some (.int (nI p))) (by omega) hIs hC2 hN2 (by omega)
          refine ⟨S', N', ⟨g1.1.trans (lN_z S (ad u)).1, g1.2.trans (lN_z S (ad u)).2⟩, g2, g3, ?_⟩
          have c := fun (r : ns_Rs) => c15 (S := S) (wk := wk) (a := ad u) (r := r) ku hb2
          rw [f109] at c
          rw [e12_44]
          simp only [e12_0, e12_1, e12_2, e12_5, e12_6, e12_7, e12_10, e12_11, e12_12, e12_15, e12_16, e12_17, e12_20, e12_21, e12_22, e12_25, e12_26, e12_27, e12_30, e12_31, e12_32, e12_35, e12_36, e12_37, e12_38, e12_41, e12_42, e12_43, e12_45, e12_47, e12_50, e12_51, e12_54, e12_55, e12_58, e12_60, e12_62, e12_65, e12_67, e12_68, e12_71, e12_72, e12_75, e12_76, e12_77, e12_80, e12_81, e12_84, e12_85, e12_87, e12_88, e12_89, e12_92, e12_93, e12_94, e12_97, e12_99, e12_100, e12_101, e12_104, e12_105, e12_108, e12_111, c, pI_ns_z, pI_ns_s, pI_ns_k, pI_ns_n, pI_fI, pI_fJ, pI_fR, pI_aI, pI_aJ, pI_aR, pJ_ns_z, pJ_ns_s, pJ_ns_k, pJ_ns_n, pJ_fI, pJ_fJ, pJ_fR, pJ_aI, pJ_aJ, pJ_aR, pR_ns_z, pR_ns_s, pR_ns_k, pR_ns_n, pR_fI, pR_fJ, pR_fR, pR_aI, pR_aJ, pR_aR, qI_ns_z, qI_ns_s, qI_ns_k, qI_ns_n, qI_fI, qI_fJ, qI_fR, qI_aI, qI_aJ, qI_aR, qJ_ns_z, qJ_ns_s, qJ_ns_k, qJ_ns_n, qJ_fI, qJ_fJ, qJ_fR, qJ_aI, qJ_aJ, qJ_aR, qR_ns_z, qR_ns_s, qR_ns_k, qR_ns_n, qR_fI, qR_fJ, qR_fR, qR_aI, qR_aJ, qR_aR, nO_ns_z, nO_ns_s, nO_ns_k, nO_ns_n, nO_fI, nO_fJ, nO_fR, nO_aI, nO_aJ, nO_aR, nA_ns_z, nA_ns_s, nA_ns_k, nA_ns_n, nA_fI, nA_fJ, nA_fR, nA_aI, nA_aJ, nA_aR, nC_ns_z, nC_ns_s, nC_ns_k, nC_ns_n, nC_fI, nC_fJ, nC_fR, nC_aI, nC_aJ, nC_aR, Nat.zero_le, Nat.reduceAdd, Nat.reduceLeDiff, reduceIte, rf_c1, int_c1, none_c1, cat_nil, cat_int, cat_long, cat_rf, toList_s, toList_n, true_and, and_true, Option.some.injEq, exists_eq_left', exists_eq_left, reduceCtorEq, if_true, if_false, eq_self, List.head?_cons, Option.map_some, hw, ku, q1, q2, q3, f108, z1, p0, hp1, Nat.le_refl, nI_1]
          exact g4
        · have hlt : p < chl Z u := Nat.not_le.mp ey
          have hp1 : nI p < nI (chl Z u) := nI_lt hlt (by omega)
          have p2 : (nI p).toNatClampNeg = p := nI_clamp (by omega)
          have p3 := in_ok (show p < chl Z u from hlt) (by omega)
          have p4 := q4 p hlt
          have hC1 := CW_place hun ht hC
          have hR1 := hC1.1
          have hw1 := CR_wk hR1
          have ku1 := CR_k hR1 hun
          have hl1 : ∀ l, fR (pI S 108 (ad u) (nI (p + 1))) 202 wk = some l → ns_k (pI S 108 (ad u) (nI (p + 1))) l = 2 := fun l hl => by
            rw [hC1.2.1.2.1] at hl
            dsimp only at hl
            cases hg : pre.getLast? with
            | none => rw [hg] at hl; cases hl
            | some x =>
              rw [hg] at hl
              have hl : some (ad x) = some l := hl
              cases hl
              exact CR_k hR1 (h7 x ((h5' x).mp (List.mem_of_getLast? hg)))
          cases hz : zh Z u p with
          | none =>
            rw [hz] at p4
            have hst := dst_none (chl Z) (zh Z) s0 (t := t) (mk := mk) (pre := pre) (post := post) (ring := ring) (met := met) ey hz
            rw [hst] at hmu hIs ⊢
            obtain ⟨S', N', g1, g2, g3, g4⟩ := ih _ _ _ (i + 1) (some (.int (nI p))) (by omega) hIs hC1 (nv_none hz hN) (by omega)
            refine ⟨S', N', g1, g2, g3, ?_⟩
            have c := fun (r : ns_Rs) => c13n (S := pI S 108 (ad u) (nI (p + 1))) (wk := wk) (fr := some (ad u)) (r := r)
            rw [e12_44]
            simp only [e12_0, e12_1, e12_2, e12_5, e12_6, e12_7, e12_10, e12_11, e12_12, e12_15, e12_16, e12_17, e12_20, e12_21, e12_22, e12_25, e12_26, e12_27, e12_30, e12_31, e12_32, e12_35, e12_36, e12_37, e12_38, e12_41, e12_42, e12_43, e12_45, e12_47, e12_50, e12_51, e12_54, e12_55, e12_58, e12_60, e12_62, e12_65, e12_67, e12_68, e12_71, e12_72, e12_75, e12_76, e12_77, e12_80, e12_81, e12_84, e12_85, e12_87, e12_88, e12_89, e12_92, e12_93, e12_94, e12_97, e12_99, e12_100, e12_101, e12_104, e12_105, e12_108, e12_111, c, pI_ns_z, pI_ns_s, pI_ns_k, pI_ns_n, pI_fI, pI_fJ, pI_fR, pI_aI, pI_aJ, pI_aR, pJ_ns_z, pJ_ns_s, pJ_ns_k, pJ_ns_n, pJ_fI, pJ_fJ, pJ_fR, pJ_aI, pJ_aJ, pJ_aR, pR_ns_z, pR_ns_s, pR_ns_k, pR_ns_n, pR_fI, pR_fJ, pR_fR, pR_aI, pR_aJ, pR_aR, qI_ns_z, qI_ns_s, qI_ns_k, qI_ns_n, qI_fI, qI_fJ, qI_fR, qI_aI, qI_aJ, qI_aR, qJ_ns_z, qJ_ns_s, qJ_ns_k, qJ_ns_n, qJ_fI, qJ_fJ, qJ_fR, qJ_aI, qJ_aJ, qJ_aR, qR_ns_z, qR_ns_s, qR_ns_k, qR_ns_n, qR_fI, qR_fJ, qR_fR, qR_aI, qR_aJ, qR_aR, nO_ns_z, nO_ns_s, nO_ns_k, nO_ns_n, nO_fI, nO_fJ, nO_fR, nO_aI, nO_aJ, nO_aR, nA_ns_z, nA_ns_s, nA_ns_k, nA_ns_n, nA_fI, nA_fJ, nA_fR, nA_aI, nA_aJ, nA_aR, nC_ns_z, nC_ns_s, nC_ns_k, nC_ns_n, nC_fI, nC_fJ, nC_fR, nC_aI, nC_aJ, nC_aR, Nat.zero_le, Nat.reduceAdd, Nat.reduceLeDiff, reduceIte, rf_c1, int_c1, none_c1, cat_nil, cat_int, cat_long, cat_rf, toList_s, toList_n, true_and, and_true, Option.some.injEq, exists_eq_left', exists_eq_left, reduceCtorEq, if_true, if_false, eq_self, List.head?_cons, Option.map_some, Option.map_none, hw, ku, q1, q2, q3, f108, z1, p0, hp1, p2, p3, p4, Nat.le_refl, nI_1]
            exact g4
          | some c =>
            rw [hz] at p4
            have hcn := hch u p c hun hlt hz
            have kc1 := CR_k hR1 hcn
            have h3c := h3 c
            have hm0 := hC1.2.2.1 c hcn
            have e200 := CR_200 hR1
            rcases (show mk c = 0 ∨ mk c = 1 ∨ mk c = 2 by omega) with y | y | y
            · have hst := dst_new (chl Z) (zh Z) s0 (t := t) (mk := mk) (pre := pre) (post := post) (ring := ring) (met := met) ey hz y
              rw [hst] at hmu hIs ⊢
              have hm := NM_z y hm0
              rw [← e200] at hm
              have hC2 := CW_new (fun v hv => ⟨h7 v ((h5' v).mp hv), (h5' v).mp hv⟩) h5 (fun v hv => by
                have : mk v = 1 := (h2 v).mpr hv
                exact ⟨h7 v (by omega), by omega⟩) hcn y hC1
              obtain ⟨S', N', g1, g2, g3, g4⟩ := ih _ _ _ (i + 1) (some (.int (nI p))) (by omega) hIs hC2 (nv_new hI hz y hN) (by omega)
              refine ⟨S', N', ⟨g1.1.trans (rN_z _ _), g1.2.trans (rN_s _ _)⟩, g2, g3, ?_⟩
              have cc := fun (r : ns_Rs) => c13a (S := pI S 108 (ad u) (nI (p + 1))) (wk := wk) (c := ad c) (fr := some (ad u)) (r := r) hw1 kc1 hl1 hm
              rw [e12_44]
              simp only [e12_0, e12_1, e12_2, e12_5, e12_6, e12_7, e12_10, e12_11, e12_12, e12_15, e12_16, e12_17, e12_20, e12_21, e12_22, e12_25, e12_26, e12_27, e12_30, e12_31, e12_32, e12_35, e12_36, e12_37, e12_38, e12_41, e12_42, e12_43, e12_45, e12_47, e12_50, e12_51, e12_54, e12_55, e12_58, e12_60, e12_62, e12_65, e12_67, e12_68, e12_71, e12_72, e12_75, e12_76, e12_77, e12_80, e12_81, e12_84, e12_85, e12_87, e12_88, e12_89, e12_92, e12_93, e12_94, e12_97, e12_99, e12_100, e12_101, e12_104, e12_105, e12_108, e12_111, cc, pI_ns_z, pI_ns_s, pI_ns_k, pI_ns_n, pI_fI, pI_fJ, pI_fR, pI_aI, pI_aJ, pI_aR, pJ_ns_z, pJ_ns_s, pJ_ns_k, pJ_ns_n, pJ_fI, pJ_fJ, pJ_fR, pJ_aI, pJ_aJ, pJ_aR, pR_ns_z, pR_ns_s, pR_ns_k, pR_ns_n, pR_fI, pR_fJ, pR_fR, pR_aI, pR_aJ, pR_aR, qI_ns_z, qI_ns_s, qI_ns_k, qI_ns_n, qI_fI, qI_fJ, qI_fR, qI_aI, qI_aJ, qI_aR, qJ_ns_z, qJ_ns_s, qJ_ns_k, qJ_ns_n, qJ_fI, qJ_fJ, qJ_fR, qJ_aI, qJ_aJ, qJ_aR, qR_ns_z, qR_ns_s, qR_ns_k, qR_ns_n, qR_fI, qR_fJ, qR_fR, qR_aI, qR_aJ, qR_aR, nO_ns_z, nO_ns_s, nO_ns_k, nO_ns_n, nO_fI, nO_fJ, nO_fR, nO_aI, nO_aJ, nO_aR, nA_ns_z, nA_ns_s, nA_ns_k, nA_ns_n, nA_fI, nA_fJ, nA_fR, nA_aI, nA_aJ, nA_aR, nC_ns_z, nC_ns_s, nC_ns_k, nC_ns_n, nC_fI, nC_fJ, nC_fR, nC_aI, nC_aJ, nC_aR, Nat.zero_le, Nat.reduceAdd, Nat.reduceLeDiff, reduceIte, rf_c1, int_c1, none_c1, cat_nil, cat_int, cat_long, cat_rf, toList_s, toList_n, true_and, and_true, Option.some.injEq, exists_eq_left', exists_eq_left, reduceCtorEq, if_true, if_false, eq_self, List.head?_cons, Option.map_some, Option.map_none, hw, ku, q1, q2, q3, f108, z1, p0, hp1, p2, p3, p4, Nat.le_refl, nI_1]
              exact g4
            · have hst := dst_open (chl Z) (zh Z) s0 (t := t) (mk := mk) (pre := pre) (post := post) (ring := ring) (met := met) ey hz y
              rw [hst] at hmu hIs ⊢
              have hm := NM_n (by show mk c ≠ 0; omega) hm0
              rw [if_pos y, ← e200] at hm
              have hC2 := CW_open hcn hs0 hC1
              obtain ⟨S', N', g1, g2, g3, g4⟩ := ih _ N _ (i + 1) (some (.int (nI p))) (by omega) hIs hC2 nv_open (by omega)
              refine ⟨S', N', g1, g2, g3, ?_⟩
              have cc := fun (r : ns_Rs) => c13o (S := pI S 108 (ad u) (nI (p + 1))) (wk := wk) (c := ad c) (fr := some (ad u)) (r := r) hw1 kc1 hm.1 hm.2.1
              rw [e12_44]
              simp only [e12_0, e12_1, e12_2, e12_5, e12_6, e12_7, e12_10, e12_11, e12_12, e12_15, e12_16, e12_17, e12_20, e12_21, e12_22, e12_25, e12_26, e12_27, e12_30, e12_31, e12_32, e12_35, e12_36, e12_37, e12_38, e12_41, e12_42, e12_43, e12_45, e12_47, e12_50, e12_51, e12_54, e12_55, e12_58, e12_60, e12_62, e12_65, e12_67, e12_68, e12_71, e12_72, e12_75, e12_76, e12_77, e12_80, e12_81, e12_84, e12_85, e12_87, e12_88, e12_89, e12_92, e12_93, e12_94, e12_97, e12_99, e12_100, e12_101, e12_104, e12_105, e12_108, e12_111, cc, Nat.zero_le, Nat.reduceAdd, Nat.reduceLeDiff, reduceIte, rf_c1, int_c1, none_c1, cat_nil, cat_int, cat_long, cat_rf, toList_s, toList_n, true_and, and_true, Option.some.injEq, exists_eq_left', exists_eq_left, reduceCtorEq, if_true, if_false, eq_self, pI_ns_k, List.head?_cons, Option.map_some, Option.map_none, hw, ku, q1, q2, q3, f108, z1, p0, hp1, p2, p3, p4, Nat.le_refl, nI_1, pI_fR, pI_aR, pI_ns_n]
              exact g4
            · have hst := dst_left (chl Z) (zh Z) s0 (t := t) (mk := mk) (pre := pre) (post := post) (ring := ring) (met := met) ey hz y
              rw [hst] at hmu hIs ⊢
              have hm := NM_n (by show mk c ≠ 0; omega) hm0
              rw [if_neg (by show ¬ mk c = 1; omega), ← e200] at hm
              have hC2 := CW_add (b := u) (c := c) hun hcn (by show mk u ≠ 0; omega) (by show mk c ≠ 0; omega) hC1
              obtain ⟨S', N', g1, g2, g3, g4⟩ := ih _ _ _ (i + 1) (some (.int (nI p))) (by omega) hIs hC2 (nv_left hn hI hz y hN) (by omega)
              refine ⟨S', N', ⟨g1.1.trans (aN_z _ _), g1.2.trans (aN_s _ _)⟩, g2, g3, ?_⟩
              have cc := fun (r : ns_Rs) => c13l (S := pI S 108 (ad u) (nI (p + 1))) (wk := wk) (c := ad c) (f := ad u) (r := r) hw1 kc1 ku1 hm.1 hm.2.1
              rw [e12_44]
              simp only [e12_0, e12_1, e12_2, e12_5, e12_6, e12_7, e12_10, e12_11, e12_12, e12_15, e12_16, e12_17, e12_20, e12_21, e12_22, e12_25, e12_26, e12_27, e12_30, e12_31, e12_32, e12_35, e12_36, e12_37, e12_38, e12_41, e12_42, e12_43, e12_45, e12_47, e12_50, e12_51, e12_54, e12_55, e12_58, e12_60, e12_62, e12_65, e12_67, e12_68, e12_71, e12_72, e12_75, e12_76, e12_77, e12_80, e12_81, e12_84, e12_85, e12_87, e12_88, e12_89, e12_92, e12_93, e12_94, e12_97, e12_99, e12_100, e12_101, e12_104, e12_105, e12_108, e12_111, cc, pI_ns_z, pI_ns_s, pI_ns_k, pI_ns_n, pI_fI, pI_fJ, pI_fR, pI_aI, pI_aJ, pI_aR, pJ_ns_z, pJ_ns_s, pJ_ns_k, pJ_ns_n, pJ_fI, pJ_fJ, pJ_fR, pJ_aI, pJ_aJ, pJ_aR, pR_ns_z, pR_ns_s, pR_ns_k, pR_ns_n, pR_fI, pR_fJ, pR_fR, pR_aI, pR_aJ, pR_aR, qI_ns_z, qI_ns_s, qI_ns_k, qI_ns_n, qI_fI, qI_fJ, qI_fR, qI_aI, qI_aJ, qI_aR, qJ_ns_z, qJ_ns_s, qJ_ns_k, qJ_ns_n, qJ_fI, qJ_fJ, qJ_fR, qJ_aI, qJ_aJ, qJ_aR, qR_ns_z, qR_ns_s, qR_ns_k, qR_ns_n, qR_fI, qR_fJ, qR_fR, qR_aI, qR_aJ, qR_aR, nO_ns_z, nO_ns_s, nO_ns_k, nO_ns_n, nO_fI, nO_fJ, nO_fR, nO_aI, nO_aJ, nO_aR, nA_ns_z, nA_ns_s, nA_ns_k, nA_ns_n, nA_fI, nA_fJ, nA_fR, nA_aI, nA_aJ, nA_aR, nC_ns_z, nC_ns_s, nC_ns_k, nC_ns_n, nC_fI, nC_fJ, nC_fR, nC_aI, nC_aJ, nC_aR, Nat.zero_le, Nat.reduceAdd, Nat.reduceLeDiff, reduceIte, rf_c1, int_c1, none_c1, cat_nil, cat_int, cat_long, cat_rf, toList_s, toList_n, true_and, and_true, Option.some.injEq, exists_eq_left', exists_eq_left, reduceCtorEq, if_true, if_false, eq_self, List.head?_cons, Option.map_some, Option.map_none, hw, ku, q1, q2, q3, f108, z1, p0, hp1, p2, p3, p4, Nat.le_refl, nI_1]
              exact g4
end CLOOP
