/-! ===== equal: the reference ===== -/
section MEQ
variable {S : ns_St} {m : Nat} {A : Nat → Nat} {Z : Zs} {lik : Nat → Nat}
theorem m_like (h : MR S m A Z) (hZ : ZI Z) {a b : Nat} (ha : a < zn Z) (hb : b < zn Z) (hla : ∀ j c, j < chl Z a → zh Z a j = some c → aI S (A 17) c = nI (lik c) ∧ lik c < zn Z) (hlb : ∀ j c, j < chl Z b → zh Z b j = some c → aI S (A 17) c = nI (lik c) ∧ lik c < zn Z) : ∃ x, Ev (86, 0, [some (va_rf (some m)), some (.int (nI a)), some (.int (nI b)), none, none, none, none, none, none, none], [], S) (some (.int (bI x)), S) ∧ (x = true ↔ zk Z a = zk Z b ∧ zl Z a = zl Z b ∧ zv Z a = zv Z b ∧ aJ S (A 18) a = aJ S (A 18) b ∧ ∀ j, j < zl Z a → pqZ Z lik a b j) := by
  have hn := hZ.1
  have hW := h.1
  obtain ⟨k8, l5, -, -⟩ := hZ.2.1 a ha
  obtain ⟨k8', l5', -, -⟩ := hZ.2.1 b hb
  obtain ⟨v1, v2, v3, v4⟩ := h.2.2.1 a ha
  obtain ⟨w1, w2, w3, w4⟩ := h.2.2.1 b hb
  have a3 : (nI a).toNatClampNeg = a := nI_clamp (by omega)
  have a4 := in_ok (show a < 2000 by omega) (by omega)
  have b3 : (nI b).toNatClampNeg = b := nI_clamp (by omega)
  have b4 := in_ok (show b < 2000 by omega) (by omega)
  have qk : (nI (zk Z a) = nI (zk Z b)) ↔ zk Z a = zk Z b := nI_eq (by omega) (by omega)
  have ql : (nI (zl Z a) = nI (zl Z b)) ↔ zl Z a = zl Z b := nI_eq (by omega) (by omega)
  have b0 : bI false = 0 := rfl
  by_cases y1 : zk Z a = zk Z b
  · have r1 : (nI (zk Z a) = nI (zk Z b)) = True := eq_true (qk.mpr y1)
    by_cases y2 : zl Z a = zl Z b
    · have r2 : (nI (zl Z a) = nI (zl Z b)) = True := eq_true (ql.mpr y2)
      by_cases y3 : zv Z a = zv Z b
      · have r3 : (zv Z a = zv Z b) = True := eq_true y3
        by_cases y4 : aJ S (A 18) a = aJ S (A 18) b
        · have r4 : (lg_cmp (aJ S (A 18) a) (aJ S (A 18) b) = 0) = True := eq_true ((lg_cmp_eq _ _).mpr y4)
          obtain ⟨x, g1, g2⟩ := m_likein (lik := lik) h hZ ha hb y1 y2 hla hlb (zl Z a) 0 true none none none none (by omega) rfl ⟨fun _ j hj => absurd hj (Nat.not_lt_zero j), fun _ => rfl⟩
          have g1 : Ev (86, 79, [some (va_rf (some m)), some (.int (nI a)), some (.int (nI b)), some (.int (if hook (zk Z a) then 1 else 0)), some (.int 1), some (.int 0), none, none, none, none], [], S) (some (.int (bI x)), S) := g1
          refine ⟨x, ?_, g2.trans ⟨fun q => ⟨y1, y2, y3, y4, q⟩, fun q => q.2.2.2.2⟩⟩
          have t := fun (r : ns_Rs) => t60z (S := S) (r := r) k8
          simp only [e86_0, e86_1, e86_4, e86_5, e86_6, e86_7, e86_10, e86_11, e86_12, e86_15, e86_16, e86_19, e86_20, e86_21, e86_22, e86_25, e86_26, e86_27, e86_30, e86_31, e86_34, e86_35, e86_36, e86_37, e86_40, e86_41, e86_42, e86_45, e86_46, e86_49, e86_50, e86_51, e86_52, e86_55, e86_56, e86_57, e86_58, e86_61, e86_62, e86_63, e86_64, e86_67, e86_68, e86_69, e86_72, e86_73, e86_74, e86_76, e86_77, t, mw0 hW, mr1 hW, mk1 hW, mn1 hW, mr2 hW, mk2 hW, mn2 hW, mr3 hW, mk3 hW, mn3 hW, mr18 hW, mk18 hW, mn18 hW, Nat.zero_le, Nat.reduceAdd, Nat.reduceLeDiff, reduceIte, rf_c1, int_c1, none_c1, cat_nil, cat_int, cat_long, cat_rf, toList_s, toList_n, true_and, and_true, Option.some.injEq, exists_eq_left', exists_eq_left, reduceCtorEq, if_true, if_false, eq_self, a3, a4, b3, b4, v1, v2, v3, w1, w2, w3, r1, r2, r3, r4]
          simpa using g1
        · have r4 : (lg_cmp (aJ S (A 18) a) (aJ S (A 18) b) = 0) = False := eq_false (fun q => y4 ((lg_cmp_eq _ _).mp q))
          refine ⟨false, ?_, ⟨fun q => (by cases q), fun q => absurd q.2.2.2.1 y4⟩⟩
          rw [b0]
          simp only [e86_0, e86_1, e86_4, e86_5, e86_6, e86_7, e86_10, e86_11, e86_12, e86_15, e86_16, e86_19, e86_20, e86_21, e86_22, e86_25, e86_26, e86_27, e86_30, e86_31, e86_34, e86_35, e86_36, e86_37, e86_40, e86_41, e86_42, e86_45, e86_46, e86_49, e86_50, e86_51, e86_52, e86_55, e86_56, e86_57, e86_58, e86_61, e86_62, e86_63, e86_64, e86_67, e86_68, e86_69, e86_72, e86_73, e86_74, e86_76, e86_77, mw0 hW, mr1 hW, mk1 hW, mn1 hW, mr2 hW, mk2 hW, mn2 hW, mr3 hW, mk3 hW, mn3 hW, mr18 hW, mk18 hW, mn18 hW, Nat.zero_le, Nat.reduceAdd, Nat.reduceLeDiff, reduceIte, rf_c1, int_c1, none_c1, cat_nil, cat_int, cat_long, cat_rf, toList_s, toList_n, true_and, and_true, Option.some.injEq, exists_eq_left', exists_eq_left, reduceCtorEq, if_true, if_false, eq_self, a3, a4, b3, b4, v1, v2, v3, w1, w2, w3, r1, r2, r3, r4]
          all_goals simp
      · have r3 : (zv Z a = zv Z b) = False := eq_false y3
        refine ⟨false, ?_, ⟨fun q => (by cases q), fun q => absurd q.2.2.1 y3⟩⟩
        rw [b0]
        simp only [e86_0, e86_1, e86_4, e86_5, e86_6, e86_7, e86_10, e86_11, e86_12, e86_15, e86_16, e86_19, e86_20, e86_21, e86_22, e86_25, e86_26, e86_27, e86_30, e86_31, e86_34, e86_35, e86_36, e86_37, e86_40, e86_41, e86_42, e86_45, e86_46, e86_49, e86_50, e86_51, e86_52, e86_55, e86_56, e86_57, e86_58, e86_61, e86_62, e86_63, e86_64, e86_67, e86_68, e86_69, e86_72, e86_73, e86_74, e86_76, e86_77, mw0 hW, mr1 hW, mk1 hW, mn1 hW, mr2 hW, mk2 hW, mn2 hW, mr3 hW, mk3 hW, mn3 hW, mr18 hW, mk18 hW, mn18 hW, Nat.zero_le, Nat.reduceAdd, Nat.reduceLeDiff, reduceIte, rf_c1, int_c1, none_c1, cat_nil, cat_int, cat_long, cat_rf, toList_s, toList_n, true_and, and_true, Option.some.injEq, exists_eq_left', exists_eq_left, reduceCtorEq, if_true, if_false, eq_self, a3, a4, b3, b4, v1, v2, v3, w1, w2, w3, r1, r2, r3]
        all_goals simp
    · have r2 : (nI (zl Z a) = nI (zl Z b)) = False := eq_false (fun q => y2 (ql.mp q))
      refine ⟨false, ?_, ⟨fun q => (by cases q), fun q => absurd q.2.1 y2⟩⟩
      rw [b0]
      simp only [e86_0, e86_1, e86_4, e86_5, e86_6, e86_7, e86_10, e86_11, e86_12, e86_15, e86_16, e86_19, e86_20, e86_21, e86_22, e86_25, e86_26, e86_27, e86_30, e86_31, e86_34, e86_35, e86_36, e86_37, e86_40, e86_41, e86_42, e86_45, e86_46, e86_49, e86_50, e86_51, e86_52, e86_55, e86_56, e86_57, e86_58, e86_61, e86_62, e86_63, e86_64, e86_67, e86_68, e86_69, e86_72, e86_73, e86_74, e86_76, e86_77, mw0 hW, mr1 hW, mk1 hW, mn1 hW, mr2 hW, mk2 hW, mn2 hW, mr3 hW, mk3 hW, mn3 hW, mr18 hW, mk18 hW, mn18 hW, Nat.zero_le, Nat.reduceAdd, Nat.reduceLeDiff, reduceIte, rf_c1, int_c1, none_c1, cat_nil, cat_int, cat_long, cat_rf, toList_s, toList_n, true_and, and_true, Option.some.injEq, exists_eq_left', exists_eq_left, reduceCtorEq, if_true, if_false, eq_self, a3, a4, b3, b4, v1, v2, v3, w1, w2, w3, r1, r2]
      all_goals simp
  · have r1 : (nI (zk Z a) = nI (zk Z b)) = False := eq_false (fun q => y1 (qk.mp q))
    refine ⟨false, ?_, ⟨fun q => (by cases q), fun q => absurd q.1 y1⟩⟩
    rw [b0]
    simp only [e86_0, e86_1, e86_4, e86_5, e86_6, e86_7, e86_10, e86_11, e86_12, e86_15, e86_16, e86_19, e86_20, e86_21, e86_22, e86_25, e86_26, e86_27, e86_30, e86_31, e86_34, e86_35, e86_36, e86_37, e86_40, e86_41, e86_42, e86_45, e86_46, e86_49, e86_50, e86_51, e86_52, e86_55, e86_56, e86_57, e86_58, e86_61, e86_62, e86_63, e86_64, e86_67, e86_68, e86_69, e86_72, e86_73, e86_74, e86_76, e86_77, mw0 hW, mr1 hW, mk1 hW, mn1 hW, mr2 hW, mk2 hW, mn2 hW, mr3 hW, mk3 hW, mn3 hW, mr18 hW, mk18 hW, mn18 hW, Nat.zero_le, Nat.reduceAdd, Nat.reduceLeDiff, reduceIte, rf_c1, int_c1, none_c1, cat_nil, cat_int, cat_long, cat_rf, toList_s, toList_n, true_and, and_true, Option.some.injEq, exists_eq_left', exists_eq_left, reduceCtorEq, if_true, if_false, eq_self, a3, a4, b3, b4, v1, v2, v3, w1, w2, w3, r1]
    all_goals simp
theorem pq_lk (hZ : ZI Z) {a b : Nat} (ha : a < zn Z) : (zk Z a = zk Z b ∧ zl Z a = zl Z b ∧ zv Z a = zv Z b ∧ ∀ j, j < zl Z a → pqZ Z lik a b j) ↔ (lkZ Z a b ∧ ∀ p, p < chl Z a → oR (fun c d => lik c = lik d) (zh Z a p) (zh Z b p)) := by
  have e8 := (hZ.2.1 a ha).2.2.2
  have k8 := (hZ.2.1 a ha).1
  constructor
  · rintro ⟨h1, h2, h3, h4⟩
    refine ⟨⟨h1, h2, h3, fun j hj => ?_⟩, fun p hp => ?_⟩
    · unfold cnl at hj
      split at hj
      · rename_i hk
        have := h4 j hj
        unfold pqZ at this
        rw [if_neg (fun z : hook (zk Z a) => by omega)] at this
        exact this
      · omega
    · unfold chl at hp
      split at hp
      · rename_i hk
        have := h4 p hp
        unfold pqZ at this
        rw [if_pos hk] at this
        exact this
      · omega
  · rintro ⟨⟨h1, h2, h3, h4⟩, h5⟩
    refine ⟨h1, h2, h3, fun j hj => ?_⟩
    unfold pqZ
    by_cases y : hook (zk Z a)
    · rw [if_pos y]
      exact h5 j (by unfold chl; rw [if_pos y]; exact hj)
    · rw [if_neg y]
      refine h4 j ?_
      unfold cnl
      by_cases w : zk Z a < 3
      · rw [if_pos w]; exact hj
      · have z8 : zk Z a = 8 := by
          have : ¬ (3 ≤ zk Z a ∧ zk Z a ≤ 7) := y
          omega
        have := e8 z8
        omega
def LkR (S : ns_St) (A : Nat → Nat) (Z : Zs) (lik : Nat → Nat) (a : List Nat) : Prop := ∀ u, u ∈ a → aI S (A 17) u = nI (lik u) ∧ aJ S (A 18) u = mxV Z lik u (zl Z u)
def LkI (Z : Zs) (lik : Nat → Nat) (a : List Nat) : Prop := (∀ u, u ∈ a → lik u ∈ a ∧ lik (lik u) = lik u) ∧ ∀ u v, u ∈ a → v ∈ a → (lik u = lik v ↔ EqZ Z u v)
theorem m_wlin (hZ : ZI Z) {X : Dx} {a b : List Nat} {u : Nat} (hL : X.2.2.2.1 = a ++ u :: b) (hnd : (a ++ u :: b).Nodup) (hlt : ∀ v, v ∈ a ++ u :: b → v < zn Z) (hcu : ∀ j c, j < chl Z u → zh Z u j = some c → c ∈ a) (hca : ∀ v j c, v ∈ a → j < chl Z v → zh Z v j = some c → c ∈ a) (hK : LkI Z lik a) : ∀ (d j : Nat) (S : ns_St) (fd : Bool) (w : Nat) (l5 : Option Value), j + d = a.length → MX S m A Z X → LkR S A Z lik a → aJ S (A 18) u = mxV Z lik u (zl Z u) → aI S (A 17) u = nI w → (fd = false → w = u ∧ ∀ i v, i < j → a[i]? = some v → ¬ (lik v = v ∧ EqZ Z v u)) → (fd = true → w ∈ a ∧ lik w = w ∧ EqZ Z w u) → ∃ S' w' l3 l4 l5', MX S' m A Z X ∧ LkR S' A Z lik a ∧ aJ S' (A 18) u = mxV Z lik u (zl Z u) ∧ aI S' (A 17) u = nI w' ∧ sz0 S S' ∧ ((w' = u ∧ ∀ v, v ∈ a → ¬ (lik v = v ∧ EqZ Z v u)) ∨ (w' ∈ a ∧ lik w' = w' ∧ EqZ Z w' u)) ∧ ∀ r, Ev (87, 109, [some (va_rf (some m)), some (.int (nI a.length)), some (.int (nI u)), l3, l4, l5'], [], S') r → Ev (87, 40, [some (va_rf (some m)), some (.int (nI a.length)), some (.int (nI u)), some (.int (bI fd)), some (.int (nI j)), l5], [], S) r := by
  have hn := hZ.1
  have hun := hlt u (by simp)
  have hlen := nd_len _ _ hnd hlt
  rw [List.length_append] at hlen
  simp only [List.length_cons] at hlen
  have hua : u ∉ a := fun z => by
    rw [List.nodup_append] at hnd
    exact hnd.2.2 u z u (by simp) rfl
  intro d
  induction d with
  | zero =>
    intro j S fd w l5 hj hX hR h18 h17 hf ht
    have e : j = a.length := by omega
    subst e
    refine ⟨S, w, some (.int (bI fd)), some (.int (nI a.length)), l5, hX, hR, h18, h17, ⟨rfl, rfl⟩, ?_, fun r hr => ?_⟩
    · cases fd with
      | true => exact Or.inr (ht rfl)
      | false =>
        obtain ⟨q1, q2⟩ := hf rfl
        refine Or.inl ⟨q1, fun v hv => ?_⟩
        obtain ⟨i, hi⟩ := List.mem_iff_getElem?.mp hv
        exact q2 i v (List.getElem?_eq_some_iff.mp hi).1 hi
    · have z : nI a.length ≤ nI a.length := nI_le (Nat.le_refl _) (by omega)
      rw [e87_40]
      simp only [e87_42, e87_43, Nat.zero_le, Nat.reduceAdd, Nat.reduceLeDiff, reduceIte, rf_c1, int_c1, none_c1, cat_nil, cat_int, cat_long, cat_rf, toList_s, toList_n, true_and, and_true, Option.some.injEq, exists_eq_left', exists_eq_left, reduceCtorEq, if_true, if_false, eq_self, z]
      exact hr
  | succ d ih =>
    intro j S fd w l5 hj hX hR h18 h17 hf ht
    have hjl : j < a.length := by omega
    have z : ¬ nI a.length ≤ nI j := nI_ge hjl (by omega)
    cases fd with
    | true =>
      refine ⟨S, w, some (.int 1), some (.int (nI j)), l5, hX, hR, h18, h17, ⟨rfl, rfl⟩, Or.inr (ht rfl), fun r hr => ?_⟩
      have b1 : bI true = 1 := rfl
      rw [b1, e87_40]
      simp only [e87_42, e87_43, e87_46, e87_47, Nat.zero_le, Nat.reduceAdd, Nat.reduceLeDiff, reduceIte, rf_c1, int_c1, none_c1, cat_nil, cat_int, cat_long, cat_rf, toList_s, toList_n, true_and, and_true, Option.some.injEq, exists_eq_left', exists_eq_left, reduceCtorEq, if_true, if_false, eq_self, z]
      simpa using hr
    | false =>
      obtain ⟨q1, q2⟩ := hf rfl
      obtain ⟨ot, hot⟩ : ∃ v, a[j]? = some v := ⟨_, List.getElem?_eq_getElem hjl⟩
      have hoa : ot ∈ a := List.mem_of_getElem? hot
      have hon := hlt ot (by simp [hoa])
      have hM := hX.1
      have hW := hM.1
      have hou : ot ≠ u := fun z => hua (z ▸ hoa)
      have e10 : aI S (A 10) j = nI ot := by
        rw [hX.2.2.2.1.2 j (by rw [hL]; simp; omega), hL, List.getD_eq_getElem?_getD, List.getElem?_append_left hjl, hot]
        rfl
      obtain ⟨r1, r2⟩ := hR ot hoa
      have j3 : (nI j).toNatClampNeg = j := nI_clamp (by omega)
      have j4 := in_ok (show j < 2000 by omega) (by omega)
      have o3 : (nI ot).toNatClampNeg = ot := nI_clamp (by omega)
      have o4 := in_ok (show ot < 2000 by omega) (by omega)
      have u3 : (nI u).toNatClampNeg = u := nI_clamp (by omega)
      have u4 := in_ok (show u < 2000 by omega) (by omega)
      have b0 : bI false = 0 := rfl
      have b1 : bI true = 1 := rfl
      have lbd : ∀ c, c ∈ a → aI S (A 17) c = nI (lik c) ∧ lik c < zn Z := fun c hc => ⟨(hR c hc).1, hlt _ (by simp [(hK.1 c hc).1])⟩
      -- what a store into like[u] leaves
      have st : ∀ x : Nat, MX (qI S (A 17) u (nI x)) m A Z X ∧ LkR (qI S (A 17) u (nI x)) A Z lik a ∧ aJ (qI S (A 17) u (nI x)) (A 18) u = mxV Z lik u (zl Z u) ∧ aI (qI S (A 17) u (nI x)) (A 17) u = nI x := fun x => by
        refine ⟨MX_deep hX (Or.inr rfl) u (nI x), fun v hv => ⟨?_, (hR v hv).2⟩, h18, ?_⟩
        · rw [qI_aI, if_neg (fun z : A 17 = A 17 ∧ v = u => hua (z.2 ▸ hv))]
          exact (hR v hv).1
        · rw [qI_aI, if_pos ⟨rfl, rfl⟩]
      have ql : (nI (lik ot) = nI ot) ↔ lik ot = ot := nI_eq (by have := (lbd ot hoa).2; omega) (by omega)
      by_cases y : lik ot = ot
      · have ql1 : (nI (lik ot) = nI ot) = True := eq_true (ql.mpr y)
        obtain ⟨x, g1, g2⟩ := m_like (lik := lik) hM hZ hon hun (fun i c hi hc => lbd c (hca ot i c hoa hi hc)) (fun i c hi hc => lbd c (hcu i c hi hc))
        -- it is equality
        have hx : x = true ↔ EqZ Z ot u := by
          have hq : (∀ p, p < chl Z ot → (oR (fun c d => lik c = lik d) (zh Z ot p) (zh Z u p) ↔ oR (EqZ Z) (zh Z ot p) (zh Z u p))) ∨ chl Z ot ≠ chl Z u := by
            by_cases ec : chl Z ot = chl Z u
            · refine Or.inl (fun p hp => ?_)
              cases h1 : zh Z ot p with
              | none => cases h2 : zh Z u p <;> exact Iff.rfl
              | some c =>
                cases h2 : zh Z u p with
                | none => exact Iff.rfl
                | some e => exact hK.2 c e (hca ot p c hoa hp h1) (hcu p e (by omega) h2)
            · exact Or.inr ec
          rw [g2]
          have e1 : EqZ Z ot u ↔ (lkZ Z ot u ∧ ∀ p, p < chl Z ot → oR (EqZ Z) (zh Z ot p) (zh Z u p)) := Eqv_iff
          rw [e1]
          constructor
          · rintro ⟨p1, p2, p3, p4, p5⟩
            obtain ⟨t1, t2⟩ := (pq_lk hZ hon).mp ⟨p1, p2, p3, p5⟩
            rcases hq with hq | hq
            · exact ⟨t1, fun p hp => (hq p hp).mp (t2 p hp)⟩
            · exact absurd (lk_cnl p1 p2).2 hq
          · rintro ⟨t1, t2⟩
            rcases hq with hq | hq
            · obtain ⟨p1, p2, p3, p5⟩ := (pq_lk (lik := lik) hZ hon).mpr ⟨t1, fun p hp => (hq p hp).mpr (t2 p hp)⟩
              refine ⟨p1, p2, p3, ?_, p5⟩
              rw [r2, h18, ← p2]
              exact mxV_like p1 p2 p3 p5 _ (Nat.le_refl _)
            · exact absurd (lk_cnl t1.1 t1.2.1).2 hq
        cases x with
        | true =>
          rw [b1] at g1
          have hEq := hx.mp rfl
          obtain ⟨s1, s2, s3, s4⟩ := st ot
          obtain ⟨S', w', l3, l4, l5', p1, p2, p3, p4, p5, p6, p7⟩ := ih (j + 1) (qI S (A 17) u (nI ot)) true ot (some (.int (nI ot))) (by omega) s1 s2 s3 s4 (fun q => by cases q) (fun _ => ⟨hoa, y, hEq⟩)
          refine ⟨S', w', l3, l4, l5', p1, p2, p3, p4, p5, p6, fun r hr => ?_⟩
          have p8 := p7 r hr
          rw [b1] at p8
          rw [b0, e87_40]
          simp only [e87_42, e87_43, e87_46, e87_47, e87_50, e87_51, e87_54, e87_56, e87_57, e87_59, e87_60, e87_63, e87_65, e87_66, e87_68, e87_71, e87_72, e87_74, e87_75, e87_78, e87_81, e87_82, e87_85, e87_86, e87_87, e87_88, e87_91, e87_92, e87_93, e87_96, e87_98, e87_101, e87_102, e87_103, e87_106, Ev_is g1, mw0 hW, mr10 hW, mk10 hW, mn10 hW, mr17 hW, mk17 hW, mn17 hW, Nat.zero_le, Nat.reduceAdd, Nat.reduceLeDiff, reduceIte, rf_c1, int_c1, none_c1, cat_nil, cat_int, cat_long, cat_rf, toList_s, toList_n, true_and, and_true, Option.some.injEq, exists_eq_left', exists_eq_left, reduceCtorEq, if_true, if_false, eq_self, z, j3, j4, e10, o3, o4, u3, u4, r1, ql1, nI_1]
          simpa using p8
        | false =>
          rw [b0] at g1
          have hEq : ¬ EqZ Z ot u := fun q => by have := hx.mpr q; cases this
          obtain ⟨s1, s2, s3, s4⟩ := st u
          obtain ⟨S', w', l3, l4, l5', p1, p2, p3, p4, p5, p6, p7⟩ := ih (j + 1) (qI S (A 17) u (nI u)) false u (some (.int (nI ot))) (by omega) s1 s2 s3 s4 (fun _ => ⟨rfl, fun i v hi hv => by
            by_cases e : i = j
            · subst e
              rw [hot] at hv
              cases hv
              exact fun q => hEq q.2
            · exact q2 i v (by omega) hv⟩) (fun q => by cases q)
          refine ⟨S', w', l3, l4, l5', p1, p2, p3, p4, p5, p6, fun r hr => ?_⟩
          have p8 := p7 r hr
          rw [b0] at p8
          rw [b0, e87_40]
          simp only [e87_42, e87_43, e87_46, e87_47, e87_50, e87_51, e87_54, e87_56, e87_57, e87_59, e87_60, e87_63, e87_65, e87_66, e87_68, e87_71, e87_72, e87_74, e87_75, e87_78, e87_81, e87_82, e87_85, e87_86, e87_87, e87_88, e87_91, e87_92, e87_93, e87_96, e87_98, e87_101, e87_102, e87_103, e87_106, Ev_is g1, mw0 hW, mr10 hW, mk10 hW, mn10 hW, mr17 hW, mk17 hW, mn17 hW, Nat.zero_le, Nat.reduceAdd, Nat.reduceLeDiff, reduceIte, rf_c1, int_c1, none_c1, cat_nil, cat_int, cat_long, cat_rf, toList_s, toList_n, true_and, and_true, Option.some.injEq, exists_eq_left', exists_eq_left, reduceCtorEq, if_true, if_false, eq_self, z, j3, j4, e10, o3, o4, u3, u4, r1, ql1, nI_1]
          simpa using p8
      · have ql1 : (nI (lik ot) = nI ot) = False := eq_false (fun q => y (ql.mp q))
        obtain ⟨s1, s2, s3, s4⟩ := st u
        obtain ⟨S', w', l3, l4, l5', p1, p2, p3, p4, p5, p6, p7⟩ := ih (j + 1) (qI S (A 17) u (nI u)) false u (some (.int (nI ot))) (by omega) s1 s2 s3 s4 (fun _ => ⟨rfl, fun i v hi hv => by
          by_cases e : i = j
          · subst e
            rw [hot] at hv
            cases hv
            exact fun q => y q.1
          · exact q2 i v (by omega) hv⟩) (fun q => by cases q)
        refine ⟨S', w', l3, l4, l5', p1, p2, p3, p4, p5, p6, fun r hr => ?_⟩
        have p8 := p7 r hr
        rw [b0] at p8
        rw [b0, e87_40]
        simp only [e87_42, e87_43, e87_46, e87_47, e87_50, e87_51, e87_54, e87_56, e87_57, e87_59, e87_60, e87_63, e87_65, e87_66, e87_68, e87_71, e87_72, e87_74, e87_75, e87_78, e87_81, e87_82, e87_85, e87_86, e87_87, e87_88, e87_91, e87_92, e87_93, e87_96, e87_98, e87_101, e87_102, e87_103, e87_106, mw0 hW, mr10 hW, mk10 hW, mn10 hW, mr17 hW, mk17 hW, mn17 hW, Nat.zero_le, Nat.reduceAdd, Nat.reduceLeDiff, reduceIte, rf_c1, int_c1, none_c1, cat_nil, cat_int, cat_long, cat_rf, toList_s, toList_n, true_and, and_true, Option.some.injEq, exists_eq_left', exists_eq_left, reduceCtorEq, if_true, if_false, eq_self, z, j3, j4, e10, o3, o4, u3, u4, r1, ql1, nI_1]
        simpa using p8
theorem LkI_push {a : List Nat} {u w : Nat} (hua : u ∉ a) (hK : LkI Z lik a) (hw : (w = u ∧ ∀ v, v ∈ a → ¬ (lik v = v ∧ EqZ Z v u)) ∨ (w ∈ a ∧ lik w = w ∧ EqZ Z w u)) : LkI Z (va_up lik u w) (a ++ [u]) := by
  have hl := Lks_Z Z
  have old : ∀ v, v ∈ a → va_up lik u w v = lik v := fun v hv => va_up_ne _ _ (fun z => hua (z ▸ hv))
  have rep : ∀ v, v ∈ a → EqZ Z v (lik v) := fun v hv => by
    obtain ⟨q1, q2⟩ := hK.1 v hv
    exact (hK.2 v (lik v) hv q1).mp q2.symm
  have vu : ∀ v, v ∈ a → (lik v = w ↔ EqZ Z v u) := fun v hv => by
    obtain ⟨q1, q2⟩ := hK.1 v hv
    rcases hw with ⟨e, hno⟩ | ⟨h1, h2, h3⟩
    · subst e
      refine ⟨fun z => absurd (z ▸ q1) hua, fun z => absurd ⟨q2, Eqv_trans hl (Eqv_symm hl (rep v hv)) z⟩ (hno (lik v) q1)⟩
    · rw [← h2]
      rw [h2]
      constructor
      · intro z
        have : EqZ Z v w := (hK.2 v w hv h1).mp (by rw [z, h2])
        exact Eqv_trans hl this h3
      · intro z
        have : EqZ Z v w := Eqv_trans hl z (Eqv_symm hl h3)
        have := (hK.2 v w hv h1).mpr this
        rw [this, h2]
  refine ⟨fun v hv => ?_, fun v x hv hx => ?_⟩
  · rcases List.mem_append.mp hv with y | y
    · rw [old v y]
      obtain ⟨q1, q2⟩ := hK.1 v y
      exact ⟨by simp [q1], by rw [old _ q1]; exact q2⟩
    · simp at y
      subst y
      rw [va_up_self]
      rcases hw with ⟨e, hno⟩ | ⟨h1, h2, h3⟩
      · rw [e]; exact ⟨by simp, va_up_self _ _ _⟩
      · exact ⟨by simp [h1], by rw [old w h1]; exact h2⟩
  · rcases List.mem_append.mp hv with y | y
    · rcases List.mem_append.mp hx with y2 | y2
      · rw [old v y, old x y2]; exact hK.2 v x y y2
      · simp at y2
        subst y2
        rw [old v y, va_up_self]
        exact vu v y
    · simp at y
      subst y
      rcases List.mem_append.mp hx with y2 | y2
      · rw [va_up_self, old x y2]
        exact ⟨fun z => Eqv_symm hl ((vu x y2).mp z.symm), fun z => ((vu x y2).mpr (Eqv_symm hl z)).symm⟩
      · simp at y2
        subst y2
        exact ⟨fun _ => Eqv_refl hl _, fun _ => rfl⟩
theorem m_wl (hZ : ZI Z) {X : Dx} (hI : dInv (chl Z) (zh Z) (zn Z) X) (hr : X.2.2.2.2.1 = false) : ∀ (k : Nat) (a b : List Nat) (S : ns_St) (lik : Nat → Nat) (l2 l3 l4 l5 : Option Value), b.length = k → X.2.2.2.1 = a ++ b → MX S m A Z X → LkR S A Z lik a → LkI Z lik a → ∃ S' lik', MX S' m A Z X ∧ LkR S' A Z lik' X.2.2.2.1 ∧ LkI Z lik' X.2.2.2.1 ∧ sz0 S S' ∧ Ev (87, 2, [some (va_rf (some m)), some (.int (nI a.length)), l2, l3, l4, l5], [], S) (none, S') := by
  have hn := hZ.1
  obtain ⟨ls1, ls2, ls3⟩ := stk_len hZ hI
  obtain ⟨hnd, hT⟩ := dend_topo hI hr
  have hlt : ∀ v, v ∈ X.2.2.2.1 → v < zn Z := fun v hv => hI.2.2.2.2.2.2.1 v (by rw [(hI.2.2.2.2.2.1.2 v).mp hv]; decide)
  intro k
  induction k with
  | zero =>
    intro a b S lik l2 l3 l4 l5 hb hab hX hR hK
    have e : b = [] := List.length_eq_zero_iff.mp hb
    subst e
    rw [List.append_nil] at hab
    rw [hab]
    have hW := hX.1.1
    refine ⟨S, lik, hX, hR, hK, ⟨rfl, rfl⟩, ?_⟩
    have e412 : fI S 412 m = nI a.length := by rw [hX.2.2.2.1.1, hab]
    have z : nI a.length ≤ nI a.length := nI_le (Nat.le_refl _) (by rw [hab] at ls3; omega)
    rw [e87_2]
    simp only [e87_3, e87_4, e87_7, e87_115, mw0 hW, mr17 hW, mk17 hW, mn17 hW, Nat.zero_le, Nat.reduceAdd, Nat.reduceLeDiff, reduceIte, rf_c1, int_c1, none_c1, cat_nil, cat_int, cat_long, cat_rf, toList_s, toList_n, true_and, and_true, Option.some.injEq, exists_eq_left', exists_eq_left, reduceCtorEq, if_true, if_false, eq_self, e412, z]
  | succ k ih =>
    intro a b S lik l2 l3 l4 l5 hb hab hX hR hK
    match b, hb, hab with
    | u :: b, hb, hab =>
      have hM := hX.1
      have hW := hM.1
      have hup : u ∈ X.2.2.2.1 := by rw [hab]; simp
      have hun := hlt u hup
      have hnd' := hnd
      rw [hab] at hnd'
      have hua : u ∉ a := fun z => by
        rw [List.nodup_append] at hnd'
        exact hnd'.2.2 u z u (by simp) rfl
      have hcu : ∀ j c, j < chl Z u → zh Z u j = some c → c ∈ a := fun j c hj hc => hT a u b hab j c hj hc
      have hca : ∀ v j c, v ∈ a → j < chl Z v → zh Z v j = some c → c ∈ a := fun v j c hv hj hc => by
        obtain ⟨a1, a2, e⟩ := List.append_of_mem hv
        have := hT a1 v (a2 ++ u :: b) (by rw [hab, e]; simp) j c hj hc
        rw [e]
        simp [this]
      have hal : a.length < X.2.2.2.1.length := by rw [hab]; simp
      have e412 := hX.2.2.2.1.1
      have e10 : aI S (A 10) a.length = nI u := by
        rw [hX.2.2.2.1.2 a.length hal, hab]
        simp [List.getD_eq_getElem?_getD]
      have z : ¬ nI X.2.2.2.1.length ≤ nI a.length := nI_ge hal (by omega)
      have a3 : (nI a.length).toNatClampNeg = a.length := nI_clamp (by omega)
      have a4 := in_ok (show a.length < 2000 by omega) (by omega)
      have u3 : (nI u).toNatClampNeg = u := nI_clamp (by omega)
      have u4 := in_ok (show u < 2000 by omega) (by omega)
      have gm := m_mix (lik := lik) hM hZ hun (fun j c hj hc => (hR c (hcu j c hj hc)).1)
      have hX1 := MX_deep (MX_heavy hX (f := 18) (Or.inr rfl) u (mxV Z lik u (zl Z u))) (f := 17) (Or.inr rfl) u (nI u)
      obtain ⟨S1, w, q3, q4, q5, p1, p2, p3, p4, p5, p6, p7⟩ := m_wlin (lik := lik) (m := m) (A := A) hZ hab hnd' (fun v hv => hlt v (by rw [hab]; exact hv)) hcu hca hK a.length 0 (qI (qJ S (A 18) u (mxV Z lik u (zl Z u))) (A 17) u (nI u)) false u l5 (by omega) hX1 (fun v hv => by
        have hvu : v ≠ u := fun y => hua (y ▸ hv)
        refine ⟨?_, ?_⟩
        · rw [qI_aI, if_neg (fun y => hvu y.2), qJ_aI]
          exact (hR v hv).1
        · rw [qI_aJ, qJ_aJ, if_neg (fun y => hvu y.2)]
          exact (hR v hv).2) (by rw [qI_aJ, qJ_aJ, if_pos ⟨rfl, rfl⟩]) (by rw [qI_aI, if_pos ⟨rfl, rfl⟩]) (fun _ => ⟨rfl, fun i v hi => absurd hi (Nat.not_lt_zero i)⟩) (fun y => by cases y)
      have cg : ∀ v, (∀ j c, j < chl Z v → zh Z v j = some c → c ∈ a) → mxV Z (va_up lik u w) v (zl Z v) = mxV Z lik v (zl Z v) := fun v hv => by
        refine mxV_congr (lik := lik) (lik' := va_up lik u w) (fun j c hj hc => ?_) _ (Nat.le_refl _)
        exact va_up_ne _ _ (fun y => hua (y ▸ hv j c hj hc))
      have hR' : LkR S1 A Z (va_up lik u w) (a ++ [u]) := fun v hv => by
        rcases List.mem_append.mp hv with y | y
        · have hvu : v ≠ u := fun y2 => hua (y2 ▸ y)
          rw [va_up_ne _ _ hvu, cg v (fun j c hj hc => hca v j c y hj hc)]
          exact p2 v y
        · simp at y
          subst y
          rw [va_up_self, cg v hcu]
          exact ⟨p4, p3⟩
      obtain ⟨S', lik', t1, t2, t3, t4, t5⟩ := ih (a ++ [u]) b S1 (va_up lik u w) (some (.int (nI u))) q3 q4 q5 (by simpa using hb) (by rw [hab]; simp) p1 hR' (LkI_push hua hK p6)
      refine ⟨S', lik', t1, t2, t3, ⟨t4.1.trans p5.1, t4.2.trans p5.2⟩, ?_⟩
      rw [List.length_append] at t5
      simp only [List.length_cons, List.length_nil] at t5
      have p8 := p7 (none, S') (by
        simp only [e87_109, e87_112, Nat.zero_le, Nat.reduceAdd, Nat.reduceLeDiff, reduceIte, rf_c1, int_c1, none_c1, cat_nil, cat_int, cat_long, cat_rf, toList_s, toList_n, true_and, and_true, Option.some.injEq, exists_eq_left', exists_eq_left, reduceCtorEq, if_true, if_false, eq_self, nI_1]
        exact t5)
      have p8 : Ev (87, 40, [some (va_rf (some m)), some (.int (nI a.length)), some (.int (nI u)), some (.int 0), some (.int 0), l5], [], qI (qJ S (A 18) u (mxV Z lik u (zl Z u))) (A 17) u (nI u)) (none, S') := p8
      rw [e87_2]
      simp only [e87_3, e87_4, e87_7, e87_10, e87_11, e87_14, e87_15, e87_16, e87_17, e87_18, e87_21, e87_22, e87_23, e87_24, e87_27, e87_28, e87_29, e87_32, e87_33, e87_34, e87_35, e87_36, e87_37, e87_38, Ev_is gm, mw0 hW, mr10 hW, mk10 hW, mn10 hW, mr17 hW, mk17 hW, mn17 hW, mr18 hW, mk18 hW, mn18 hW, Nat.zero_le, Nat.reduceAdd, Nat.reduceLeDiff, reduceIte, rf_c1, int_c1, none_c1, cat_nil, cat_int, cat_long, cat_rf, toList_s, toList_n, true_and, and_true, Option.some.injEq, exists_eq_left', exists_eq_left, reduceCtorEq, if_true, if_false, eq_self, e412, z, a3, a4, u3, u4, e10, qJ_fR, qJ_ns_k, qJ_ns_n]
      exact p8
end MEQ
