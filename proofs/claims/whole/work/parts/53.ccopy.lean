/-! ===== copy: the class ===== -/
section CCOPY
variable {S : ns_St} {sh T wk cur : Nat} {ad na ha : Nat → Nat} {Z : Zs}
theorem c51 (h : CR S sh T wk ad na ha cur Z) (hZ : ZI Z) {pre : List Nat} {s : Nat} (hnd : pre.Nodup) (hlt : ∀ u, u ∈ pre → u < zn Z) (hcl : ∀ u p c, u ∈ pre → p < chl Z u → zh Z u p = some c → c ∈ pre) (hlen : zn Z + pre.length ≤ 2000) (h0 : pre[0]? = some s) (hnx : NX S ad pre) {tw : Nat → Nat} (htw : ∀ u, tw u = zn Z + pre.idxOf u) : ∃ S' ad' na' ha', Ev (51, 0, [some (va_rf (some sh)), some (va_rf (some (ad s))), none, none, none], [], S) (some (.int (nI (zn Z))), S') ∧ CR S' sh T wk ad' na' ha' cur (rhK tw (cpL Z pre) (zn Z) pre.length) ∧ ns_z S' ≤ ns_z S + 3 * pre.length ∧ ns_s S' ≤ ns_s S + 600 * pre.length := by
  have h1 : ns_k S sh = 4 := h.1.1
  have h2 : fI S 302 sh = nI (zn Z) := h.1.2.2.2.1
  have hT : TW S sh T wk cur ad Z (cpL Z []) pre [] ad na ha := ⟨h, fun _ _ => rfl, hnx, fun k u hk => by simp at hk⟩
  obtain ⟨S1, ad', na', ha', l3, l4, g1, g2, g3, g4⟩ := c_tw1 hZ hnd hlt hlen (ad s) (nI (zn Z)) pre.length [] pre S ad na ha rfl rfl hT
  obtain ⟨S', p1, p2, p3⟩ := c_tw2 hZ hnd hlt hcl hlen (ad s) (nI (zn Z)) htw pre.length [] pre S1 rfl rfl g1
  have hh : pre.head? = some s := by rw [List.head?_eq_getElem?]; exact h0
  rw [hh] at p3 g4
  have p3 : Ev (51, 59, [some (va_rf (some sh)), some (va_rf (some (ad s))), some (.int (nI (zn Z))), some (va_rf (some (ad s))), some (.int 0)], [], S1) (some (.int (nI (zn Z))), S') := p3
  refine ⟨S', ad', na', ha', ?_, p1, by rw [p2.1]; exact g2, by rw [p2.2]; exact g3⟩
  have g5 := g4 (some (.int (nI (zn Z))), S') (by
    simp only [e51_54, e51_55, e51_56, e51_57, Nat.zero_le, Nat.reduceAdd, Nat.reduceLeDiff, reduceIte, rf_c1, int_c1, none_c1, cat_nil, cat_int, cat_long, cat_rf, toList_s, toList_n, true_and, and_true, Option.some.injEq, exists_eq_left', exists_eq_left, reduceCtorEq, if_true, if_false, eq_self]
    exact p3)
  have g5 : Ev (51, 10, [some (va_rf (some sh)), some (va_rf (some (ad s))), some (.int (nI (zn Z))), some (va_rf (some (ad s))), some (.int 0)], [], S) (some (.int (nI (zn Z))), S') := g5
  simp only [e51_0, e51_1, e51_4, e51_5, e51_6, e51_7, e51_8, Nat.zero_le, Nat.reduceAdd, Nat.reduceLeDiff, reduceIte, rf_c1, int_c1, none_c1, cat_nil, cat_int, cat_long, cat_rf, toList_s, toList_n, true_and, and_true, Option.some.injEq, exists_eq_left', exists_eq_left, reduceCtorEq, if_true, if_false, eq_self, h1, h2]
  exact g5
theorem c50n {d : Int32} {r : ns_Rs} : Ev (50, 0, [some (va_rf (some sh)), some (va_rf none), some (.int d), none, none], [], S) r ↔ r = (some (.int 1), S) := by
  simp only [e50_0, e50_1, e50_4, e50_5, e50_6, e50_7, e50_8, e50_9, e50_12, e50_13, e50_14, e50_17, e50_19, e50_21, e50_24, e50_26, e50_27, e50_28, e50_31, e50_34, e50_35, e50_36, e50_37, e50_40, e50_43, e50_44, e50_47, e50_49, Nat.zero_le, Nat.reduceAdd, Nat.reduceLeDiff, reduceIte, rf_c1, int_c1, none_c1, cat_nil, cat_int, cat_long, cat_rf, toList_s, toList_n, true_and, and_true, Option.some.injEq, exists_eq_left', exists_eq_left, reduceCtorEq, if_true, if_false, eq_self]
theorem c50s (h : CR S sh T wk ad na ha cur Z) (hZ : ZI Z) {a : Nat} {r : ns_Rs} : Ev (50, 0, [some (va_rf (some sh)), some (va_rf (some a)), some (.int 0), none, none], [], S) r ↔ r = (some (.int (if zn Z + 1 ≤ 2000 then 0 else 7)), S) := by
  have h1 : ns_k S sh = 4 := h.1.1
  by_cases y : zn Z + 1 ≤ 2000
  · simp only [e50_0, e50_1, e50_4, e50_5, e50_6, e50_7, e50_8, e50_9, e50_12, e50_13, e50_14, e50_17, e50_19, e50_21, e50_24, e50_26, e50_27, e50_28, e50_31, e50_34, e50_35, e50_36, e50_37, e50_40, e50_43, e50_44, e50_47, e50_49, c37' h hZ, Nat.zero_le, Nat.reduceAdd, Nat.reduceLeDiff, reduceIte, rf_c1, int_c1, none_c1, cat_nil, cat_int, cat_long, cat_rf, toList_s, toList_n, true_and, and_true, Option.some.injEq, exists_eq_left', exists_eq_left, reduceCtorEq, if_true, if_false, eq_self, h1, y]
    all_goals simp
  · simp only [e50_0, e50_1, e50_4, e50_5, e50_6, e50_7, e50_8, e50_9, e50_12, e50_13, e50_14, e50_17, e50_19, e50_21, e50_24, e50_26, e50_27, e50_28, e50_31, e50_34, e50_35, e50_36, e50_37, e50_40, e50_43, e50_44, e50_47, e50_49, c37' h hZ, Nat.zero_le, Nat.reduceAdd, Nat.reduceLeDiff, reduceIte, rf_c1, int_c1, none_c1, cat_nil, cat_int, cat_long, cat_rf, toList_s, toList_n, true_and, and_true, Option.some.injEq, exists_eq_left', exists_eq_left, reduceCtorEq, if_true, if_false, eq_self, h1, y]
theorem c50d (h : CR S sh T wk ad na ha cur Z) (hZ : ZI Z) (hcur : cur < 100000) {s : Nat} (hs : s < zn Z) {d : Int32} (hd : ¬ d = 0) : ∃ S' N', Ev (50, 0, [some (va_rf (some sh)), some (va_rf (some (ad s))), some (.int d), none, none], [], S) (some (.int (if rf Z (nI s) = 0 then (if zn Z + (prZ Z s).length ≤ 2000 then 0 else 7) else rf Z (nI s))), S') ∧ CW S' sh T wk ad na ha (cur + 1) Z (fun _ => False) s (wkE Z s) N' ∧ sz0 S S' := by
  obtain ⟨S', N', g1, g2, g3, g4⟩ := c48 (G := fun _ => False) h hZ hcur hs (fun _ _ z => z.elim)
  have hR' := g2.1
  have h1 : ns_k S sh = 4 := h.1.1
  have k1 : ns_k S' sh = 4 := hR'.1.1
  have k2 : fR S' 301 sh = some wk := hR'.1.2.2.1
  have k3 := CR_wk hR'
  have e203 : fI S' 203 wk = nI (prZ Z s).length := g2.2.1.2.2.1
  obtain ⟨p1, p2, p3, p4, p5⟩ := prZ_ok hZ hs
  have hn := hZ.1
  have c := fun (r : ns_Rs) => c37 (S := S') (k := (prZ Z s).length) (r := r) hR' hZ (by omega)
  refine ⟨S', N', ?_, g2, g4⟩
  by_cases y : rf Z (nI s) = 0
  · rw [y] at g1
    by_cases w : zn Z + (prZ Z s).length ≤ 2000
    · simp only [e50_0, e50_1, e50_4, e50_5, e50_6, e50_7, e50_8, e50_9, e50_12, e50_13, e50_14, e50_17, e50_19, e50_21, e50_24, e50_26, e50_27, e50_28, e50_31, e50_34, e50_35, e50_36, e50_37, e50_40, e50_43, e50_44, e50_47, e50_49, Ev_is g1, c, Nat.zero_le, Nat.reduceAdd, Nat.reduceLeDiff, reduceIte, rf_c1, int_c1, none_c1, cat_nil, cat_int, cat_long, cat_rf, toList_s, toList_n, true_and, and_true, Option.some.injEq, exists_eq_left', exists_eq_left, reduceCtorEq, if_true, if_false, eq_self, h1, k1, k2, k3, e203, hd, y, w]
      all_goals simp
    · simp only [e50_0, e50_1, e50_4, e50_5, e50_6, e50_7, e50_8, e50_9, e50_12, e50_13, e50_14, e50_17, e50_19, e50_21, e50_24, e50_26, e50_27, e50_28, e50_31, e50_34, e50_35, e50_36, e50_37, e50_40, e50_43, e50_44, e50_47, e50_49, Ev_is g1, c, Nat.zero_le, Nat.reduceAdd, Nat.reduceLeDiff, reduceIte, rf_c1, int_c1, none_c1, cat_nil, cat_int, cat_long, cat_rf, toList_s, toList_n, true_and, and_true, Option.some.injEq, exists_eq_left', exists_eq_left, reduceCtorEq, if_true, if_false, eq_self, h1, k1, k2, k3, e203, hd, y, w]
  · simp only [e50_0, e50_1, e50_4, e50_5, e50_6, e50_7, e50_8, e50_9, e50_12, e50_13, e50_14, e50_17, e50_19, e50_21, e50_24, e50_26, e50_27, e50_28, e50_31, e50_34, e50_35, e50_36, e50_37, e50_40, e50_43, e50_44, e50_47, e50_49, Ev_is g1, c, Nat.zero_le, Nat.reduceAdd, Nat.reduceLeDiff, reduceIte, rf_c1, int_c1, none_c1, cat_nil, cat_int, cat_long, cat_rf, toList_s, toList_n, true_and, and_true, Option.some.injEq, exists_eq_left', exists_eq_left, reduceCtorEq, if_true, if_false, eq_self, h1, k1, k2, k3, e203, hd, y]
theorem c_copy (h : CR S sh T wk ad na ha cur Z) (hZ : ZI Z) (hcur : cur < 100000) (t d : Int32) : ∃ S' c', Ev (32, 0, [some (va_rf (some sh)), some (.int t), some (.int d), none], [], S) (some (.int (o_copy Z t d).1), S') ∧ c' ≤ cur + 1 ∧ CX S sh T wk ad na ha c' Z S' (o_copy Z t d).2 := by
  have hn := hZ.1
  have h1 : ns_k S sh = 4 := h.1.1
  rcases zt_cases (n := zn Z) (by omega) t with ⟨e, g⟩ | ⟨s, hs, rfl, e⟩
  · have e2 : o_copy Z t d = (-1, wS Z 1) := by unfold o_copy; rw [e]
    rw [e2]
    refine ⟨pI S 303 sh 1, cur, ?_, by omega, ⟨ad, na, ha, CR_wS h 1⟩, Nat.le_add_right _ _, Nat.le_add_right _ _⟩
    simp only [e32_0, e32_1, e32_2, e32_5, e32_6, e32_7, e32_8, e32_9, e32_10, e32_13, e32_16, e32_17, e32_20, e32_21, e32_24, e32_27, e32_28, e32_29, e32_30, e32_33, e32_34, e32_35, e32_36, e32_39, e32_42, e32_45, e32_48, e32_49, e32_50, e32_53, c36 h hZ, c50n, pI_ns_z, pI_ns_s, pI_ns_k, pI_ns_n, pI_fI, pI_fJ, pI_fR, pI_aI, pI_aJ, pI_aR, pJ_ns_z, pJ_ns_s, pJ_ns_k, pJ_ns_n, pJ_fI, pJ_fJ, pJ_fR, pJ_aI, pJ_aJ, pJ_aR, pR_ns_z, pR_ns_s, pR_ns_k, pR_ns_n, pR_fI, pR_fJ, pR_fR, pR_aI, pR_aJ, pR_aR, qI_ns_z, qI_ns_s, qI_ns_k, qI_ns_n, qI_fI, qI_fJ, qI_fR, qI_aI, qI_aJ, qI_aR, qJ_ns_z, qJ_ns_s, qJ_ns_k, qJ_ns_n, qJ_fI, qJ_fJ, qJ_fR, qJ_aI, qJ_aJ, qJ_aR, qR_ns_z, qR_ns_s, qR_ns_k, qR_ns_n, qR_fI, qR_fJ, qR_fR, qR_aI, qR_aJ, qR_aR, nO_ns_z, nO_ns_s, nO_ns_k, nO_ns_n, nO_fI, nO_fJ, nO_fR, nO_aI, nO_aJ, nO_aR, nA_ns_z, nA_ns_s, nA_ns_k, nA_ns_n, nA_fI, nA_fJ, nA_fR, nA_aI, nA_aJ, nA_aR, nC_ns_z, nC_ns_s, nC_ns_k, nC_ns_n, nC_fI, nC_fJ, nC_fR, nC_aI, nC_aJ, nC_aR, Nat.zero_le, Nat.reduceAdd, Nat.reduceLeDiff, reduceIte, rf_c1, int_c1, none_c1, cat_nil, cat_int, cat_long, cat_rf, toList_s, toList_n, true_and, and_true, Option.some.injEq, exists_eq_left', exists_eq_left, reduceCtorEq, if_true, if_false, eq_self, h1, e, Option.map_none]
  · have e2 : o_copy Z (nI s) d = if d = 0 then (if zn Z + 1 ≤ 2000 then (nI (zn Z), wC (wS Z 0) s) else (-1, wS Z 7)) else if rf Z (nI s) = 0 then (if zn Z + (prZ Z s).length ≤ 2000 then (nI (zn Z), cpD Z s) else (-1, wS Z 7)) else (-1, wS Z (rf Z (nI s))) := by unfold o_copy; rw [e]
    rw [e2]
    have h2 : fI S 302 sh = nI (zn Z) := h.1.2.2.2.1
    by_cases hd : d = 0
    · subst hd
      rw [if_pos rfl]
      have c := fun (r : ns_Rs) => c50s (S := S) (a := ad s) (r := r) h hZ
      by_cases y : zn Z + 1 ≤ 2000
      · rw [if_pos y]
        rw [if_pos y] at c
        have hR := CR_wS h 0
        have hs' : s < zn (wS Z 0) := hs
        have c' := fun (r : ns_Rs) => c6 (S := pI S 303 sh 0) (u := s) (id := nI (zn (wS Z 0))) (r := r) hR hs'
        obtain ⟨x1, x2, x3, x4, x5, x6⟩ := dup_ok hR (Z := wS Z 0) hZ hs' rfl
        revert c' x1 x2 x3 x4 x5 x6
        generalize dN (pI S 303 sh 0) (na s) (ha s) (nI (zn (wS Z 0))) (nI (zk (wS Z 0) s)) (zv (wS Z 0) s) (own (wS Z 0) s) = S5
        intro c' x1 x2 x3 x4 x5 x6
        obtain ⟨y1, y2⟩ := x6 S5 rfl rfl rfl rfl rfl rfl (fun _ _ _ => rfl)
        have c'' := fun (r : ns_Rs) => c38 (S := S5) (a := ns_z (pI S 303 sh 0)) (r := r) y1 hZ (show zn (wS Z 0) < 2000 from y) x4
        have k1 : ns_k (pI S 303 sh 0) sh = 4 := by rw [pI_ns_k]; exact h1
        have k2 : fI (pI S 303 sh 0) 302 sh = nI (zn (wS Z 0)) := by rw [pI_fI, if_neg (by omega)]; exact h2
        have k3 : ns_k (pI S 303 sh 0) (ad s) = 2 := by rw [pI_ns_k]; exact CR_k h hs
        have k4 : fI (pI S 303 sh 0) 303 sh = 0 := by rw [pI_fI, if_pos ⟨rfl, rfl⟩]
        have k5 : ns_k S5 sh = 4 := y1.1.1
        refine ⟨shv S5 sh T (zn (wS Z 0)) (ns_z (pI S 303 sh 0)), cur, ?_, by omega, ⟨_, _, _, y2⟩, ?_, ?_⟩
        · simp only [e32_0, e32_1, e32_2, e32_5, e32_6, e32_7, e32_8, e32_9, e32_10, e32_13, e32_16, e32_17, e32_20, e32_21, e32_24, e32_27, e32_28, e32_29, e32_30, e32_33, e32_34, e32_35, e32_36, e32_39, e32_42, e32_45, e32_48, e32_49, e32_50, e32_53, c36 h hZ, c, c', c'', Nat.zero_le, Nat.reduceAdd, Nat.reduceLeDiff, reduceIte, rf_c1, int_c1, none_c1, cat_nil, cat_int, cat_long, cat_rf, toList_s, toList_n, true_and, and_true, Option.some.injEq, exists_eq_left', exists_eq_left, reduceCtorEq, if_true, if_false, eq_self, h1, h2, k1, k2, k3, k4, k5, e, x5, Option.map_some]
          all_goals simp [wS_zn]
        · have : zn (wC (wS Z 0) s) = zn Z + 1 := rfl
          rw [this, pI_ns_z, qR_ns_z, x2, pI_ns_z]
          omega
        · have : zn (wC (wS Z 0) s) = zn Z + 1 := rfl
          rw [pI_ns_s] at x3
          rw [this, pI_ns_s, qR_ns_s]
          omega
      · rw [if_neg y]
        rw [if_neg y] at c
        refine ⟨pI S 303 sh 7, cur, ?_, by omega, ⟨ad, na, ha, CR_wS h 7⟩, Nat.le_add_right _ _, Nat.le_add_right _ _⟩
        simp only [e32_0, e32_1, e32_2, e32_5, e32_6, e32_7, e32_8, e32_9, e32_10, e32_13, e32_16, e32_17, e32_20, e32_21, e32_24, e32_27, e32_28, e32_29, e32_30, e32_33, e32_34, e32_35, e32_36, e32_39, e32_42, e32_45, e32_48, e32_49, e32_50, e32_53, c36 h hZ, c, pI_ns_z, pI_ns_s, pI_ns_k, pI_ns_n, pI_fI, pI_fJ, pI_fR, pI_aI, pI_aJ, pI_aR, pJ_ns_z, pJ_ns_s, pJ_ns_k, pJ_ns_n, pJ_fI, pJ_fJ, pJ_fR, pJ_aI, pJ_aJ, pJ_aR, pR_ns_z, pR_ns_s, pR_ns_k, pR_ns_n, pR_fI, pR_fJ, pR_fR, pR_aI, pR_aJ, pR_aR, qI_ns_z, qI_ns_s, qI_ns_k, qI_ns_n, qI_fI, qI_fJ, qI_fR, qI_aI, qI_aJ, qI_aR, qJ_ns_z, qJ_ns_s, qJ_ns_k, qJ_ns_n, qJ_fI, qJ_fJ, qJ_fR, qJ_aI, qJ_aJ, qJ_aR, qR_ns_z, qR_ns_s, qR_ns_k, qR_ns_n, qR_fI, qR_fJ, qR_fR, qR_aI, qR_aJ, qR_aR, nO_ns_z, nO_ns_s, nO_ns_k, nO_ns_n, nO_fI, nO_fJ, nO_fR, nO_aI, nO_aJ, nO_aR, nA_ns_z, nA_ns_s, nA_ns_k, nA_ns_n, nA_fI, nA_fJ, nA_fR, nA_aI, nA_aJ, nA_aR, nC_ns_z, nC_ns_s, nC_ns_k, nC_ns_n, nC_fI, nC_fJ, nC_fR, nC_aI, nC_aJ, nC_aR, Nat.zero_le, Nat.reduceAdd, Nat.reduceLeDiff, reduceIte, rf_c1, int_c1, none_c1, cat_nil, cat_int, cat_long, cat_rf, toList_s, toList_n, true_and, and_true, Option.some.injEq, exists_eq_left', exists_eq_left, reduceCtorEq, if_true, if_false, eq_self, h1, e, Option.map_some]
        all_goals simp
    · rw [if_neg hd]
      obtain ⟨S1, N1, g1, g2, g3⟩ := c50d h hZ hcur hs hd
      have hR1 := g2.1
      have k1 : ns_k S1 sh = 4 := hR1.1.1
      by_cases y : rf Z (nI s) = 0
      · rw [if_pos y]
        rw [if_pos y] at g1
        obtain ⟨p1, p2, p3, p4, p5⟩ := prZ_ok hZ hs
        by_cases w : zn Z + (prZ Z s).length ≤ 2000
        · rw [if_pos w]
          rw [if_pos w] at g1
          have hR := CR_wS hR1 0
          have hnx : NX (pI S1 303 sh 0) ad (prZ Z s) := fun i x hi => by
            rw [pI_fR]
            exact g2.2.2.2.2.2 i x hi
          obtain ⟨S', ad', na', ha', q1, q2, q3, q4⟩ := c51 (Z := wS Z 0) hR hZ p1 p2 p3 w p5 hnx (tw := twZ Z s) (fun _ => rfl)
          have zz1 : ns_z (pI S1 303 sh 0) = ns_z S1 := pI_ns_z ..
          have zz2 : ns_s (pI S1 303 sh 0) = ns_s S1 := pI_ns_s ..
          rw [zz1, g3.1] at q3
          rw [zz2, g3.2] at q4
          have zc := (ZI_cpD hZ hs w).2
          have j1 : ns_k (pI S1 303 sh 0) sh = 4 := by rw [pI_ns_k]; exact k1
          have j4 : fI (pI S1 303 sh 0) 303 sh = 0 := by rw [pI_fI, if_pos ⟨rfl, rfl⟩]
          have q1 : Ev (51, 0, [some (va_rf (some sh)), some (va_rf (some (ad s))), none, none, none], [], pI S1 303 sh 0) (some (.int (nI (zn Z))), S') := q1
          refine ⟨S', cur + 1, ?_, Nat.le_refl _, ⟨ad', na', ha', q2⟩, ?_, ?_⟩
          · simp only [e32_0, e32_1, e32_2, e32_5, e32_6, e32_7, e32_8, e32_9, e32_10, e32_13, e32_16, e32_17, e32_20, e32_21, e32_24, e32_27, e32_28, e32_29, e32_30, e32_33, e32_34, e32_35, e32_36, e32_39, e32_42, e32_45, e32_48, e32_49, e32_50, e32_53, c36 h hZ, Ev_is g1, Ev_is q1, Nat.zero_le, Nat.reduceAdd, Nat.reduceLeDiff, reduceIte, rf_c1, int_c1, none_c1, cat_nil, cat_int, cat_long, cat_rf, toList_s, toList_n, true_and, and_true, Option.some.injEq, exists_eq_left', exists_eq_left, reduceCtorEq, if_true, if_false, eq_self, h1, k1, j1, j4, e, hd, Option.map_some]
            all_goals simp
          · show _ ≤ _ + 3 * (zn (cpD Z s) - zn Z)
            rw [zc]
            omega
          · show _ ≤ _ + 600 * (zn (cpD Z s) - zn Z)
            rw [zc]
            omega
        · rw [if_neg w]
          rw [if_neg w] at g1
          refine ⟨pI S1 303 sh 7, cur + 1, ?_, Nat.le_refl _, ⟨ad, na, ha, CR_wS hR1 7⟩, ?_, ?_⟩
          · simp only [e32_0, e32_1, e32_2, e32_5, e32_6, e32_7, e32_8, e32_9, e32_10, e32_13, e32_16, e32_17, e32_20, e32_21, e32_24, e32_27, e32_28, e32_29, e32_30, e32_33, e32_34, e32_35, e32_36, e32_39, e32_42, e32_45, e32_48, e32_49, e32_50, e32_53, c36 h hZ, Ev_is g1, pI_ns_z, pI_ns_s, pI_ns_k, pI_ns_n, pI_fI, pI_fJ, pI_fR, pI_aI, pI_aJ, pI_aR, pJ_ns_z, pJ_ns_s, pJ_ns_k, pJ_ns_n, pJ_fI, pJ_fJ, pJ_fR, pJ_aI, pJ_aJ, pJ_aR, pR_ns_z, pR_ns_s, pR_ns_k, pR_ns_n, pR_fI, pR_fJ, pR_fR, pR_aI, pR_aJ, pR_aR, qI_ns_z, qI_ns_s, qI_ns_k, qI_ns_n, qI_fI, qI_fJ, qI_fR, qI_aI, qI_aJ, qI_aR, qJ_ns_z, qJ_ns_s, qJ_ns_k, qJ_ns_n, qJ_fI, qJ_fJ, qJ_fR, qJ_aI, qJ_aJ, qJ_aR, qR_ns_z, qR_ns_s, qR_ns_k, qR_ns_n, qR_fI, qR_fJ, qR_fR, qR_aI, qR_aJ, qR_aR, nO_ns_z, nO_ns_s, nO_ns_k, nO_ns_n, nO_fI, nO_fJ, nO_fR, nO_aI, nO_aJ, nO_aR, nA_ns_z, nA_ns_s, nA_ns_k, nA_ns_n, nA_fI, nA_fJ, nA_fR, nA_aI, nA_aJ, nA_aR, nC_ns_z, nC_ns_s, nC_ns_k, nC_ns_n, nC_fI, nC_fJ, nC_fR, nC_aI, nC_aJ, nC_aR, Nat.zero_le, Nat.reduceAdd, Nat.reduceLeDiff, reduceIte, rf_c1, int_c1, none_c1, cat_nil, cat_int, cat_long, cat_rf, toList_s, toList_n, true_and, and_true, Option.some.injEq, exists_eq_left', exists_eq_left, reduceCtorEq, if_true, if_false, eq_self, h1, k1, e, Option.map_some]
            all_goals simp
          · rw [pI_ns_z, g3.1]; exact Nat.le_add_right _ _
          · rw [pI_ns_s, g3.2]; exact Nat.le_add_right _ _
      · rw [if_neg y]
        rw [if_neg y] at g1
        refine ⟨pI S1 303 sh (rf Z (nI s)), cur + 1, ?_, Nat.le_refl _, ⟨ad, na, ha, CR_wS hR1 _⟩, ?_, ?_⟩
        · simp only [e32_0, e32_1, e32_2, e32_5, e32_6, e32_7, e32_8, e32_9, e32_10, e32_13, e32_16, e32_17, e32_20, e32_21, e32_24, e32_27, e32_28, e32_29, e32_30, e32_33, e32_34, e32_35, e32_36, e32_39, e32_42, e32_45, e32_48, e32_49, e32_50, e32_53, c36 h hZ, Ev_is g1, pI_ns_z, pI_ns_s, pI_ns_k, pI_ns_n, pI_fI, pI_fJ, pI_fR, pI_aI, pI_aJ, pI_aR, pJ_ns_z, pJ_ns_s, pJ_ns_k, pJ_ns_n, pJ_fI, pJ_fJ, pJ_fR, pJ_aI, pJ_aJ, pJ_aR, pR_ns_z, pR_ns_s, pR_ns_k, pR_ns_n, pR_fI, pR_fJ, pR_fR, pR_aI, pR_aJ, pR_aR, qI_ns_z, qI_ns_s, qI_ns_k, qI_ns_n, qI_fI, qI_fJ, qI_fR, qI_aI, qI_aJ, qI_aR, qJ_ns_z, qJ_ns_s, qJ_ns_k, qJ_ns_n, qJ_fI, qJ_fJ, qJ_fR, qJ_aI, qJ_aJ, qJ_aR, qR_ns_z, qR_ns_s, qR_ns_k, qR_ns_n, qR_fI, qR_fJ, qR_fR, qR_aI, qR_aJ, qR_aR, nO_ns_z, nO_ns_s, nO_ns_k, nO_ns_n, nO_fI, nO_fJ, nO_fR, nO_aI, nO_aJ, nO_aR, nA_ns_z, nA_ns_s, nA_ns_k, nA_ns_n, nA_fI, nA_fJ, nA_fR, nA_aI, nA_aJ, nA_aR, nC_ns_z, nC_ns_s, nC_ns_k, nC_ns_n, nC_fI, nC_fJ, nC_fR, nC_aI, nC_aJ, nC_aR, Nat.zero_le, Nat.reduceAdd, Nat.reduceLeDiff, reduceIte, rf_c1, int_c1, none_c1, cat_nil, cat_int, cat_long, cat_rf, toList_s, toList_n, true_and, and_true, Option.some.injEq, exists_eq_left', exists_eq_left, reduceCtorEq, if_true, if_false, eq_self, h1, k1, e, Option.map_some, y]
          all_goals simp [y]
        · rw [pI_ns_z, g3.1]; exact Nat.le_add_right _ _
        · rw [pI_ns_s, g3.2]; exact Nat.le_add_right _ _
end CCOPY
