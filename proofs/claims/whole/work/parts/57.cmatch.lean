/-! ===== equal: the class ===== -/
section CMATCH
variable {sh T wk cur : Nat} {ad na ha : Nat → Nat} {Z : Zs} {W : Nat → Prop} {mt : Nat}
theorem c2in (hZ : ZI Z) (hWc : ∀ u p c, W u → p < chl Z u → zh Z u p = some c → W c) {u v : Nat} (hu : W u) (hv : W v) (hc : chl Z u = chl Z v) : ∀ (d i : Nat) (S : ns_St) (ld : Nat → Option Nat) (J : List Nat) (l4 l5 : Option Value), i + d = chl Z u → ns_c1 l4 = true → UM S sh T wk ad na ha cur Z mt W ld J → Uf (zn Z) W ld J → ∃ S' ld' E x, Ev (2, 2, [some (va_rf (some mt)), some (va_rf (some (ad u))), some (va_rf (some (ad v))), some (.int (nI i)), l4, l5], [], S) (some (.int (bI x)), S') ∧ UM S' sh T wk ad na ha cur Z mt W ld' (J ++ E) ∧ Uf (zn Z) W ld' (J ++ E) ∧ sz0 S S' ∧ (∀ w z, ld w = some z → ld' w = some z) ∧ (∀ a b, St ld a b → St ld' a b) ∧ (x = true → ∀ p, i ≤ p → p < chl Z u → oR (St ld') (zh Z u p) (zh Z v p)) ∧ ((∀ p, i ≤ p → p < chl Z u → oR (EqZ Z) (zh Z u p) (zh Z v p)) → Snd Z ld → Snd Z ld' ∧ x = true) := by
  have hn := hZ.1
  intro d
  induction d with
  | zero =>
    intro i S ld J l4 l5 hi hl4 h hU
    have e : i = chl Z u := by omega
    subst e
    have hun := hU.2.2.2.1 u hu
    obtain ⟨u1, u2, u3, u4, u5, u6, ⟨u7, u8, u9, u10⟩, u11, u12⟩ := CR_all h.1 hun
    have h5 := (cl500 hZ hun).2
    refine ⟨S, ld, [], true, ?_, by rw [List.append_nil]; exact h, by rw [List.append_nil]; exact hU, ⟨rfl, rfl⟩, fun _ _ z => z, fun _ _ z => z, fun _ p h1 h2 => absurd h1 (by omega), fun _ z => ⟨z, rfl⟩⟩
    have z : nI (chl Z u) ≤ nI (chl Z u) := nI_le (Nat.le_refl _) (by omega)
    have b1 : bI true = 1 := rfl
    rw [b1, e2_2]
    simp only [e2_3, e2_4, e2_7, e2_8, e2_11, e2_12, e2_13, e2_16, e2_17, e2_20, e2_21, e2_24, e2_25, e2_26, e2_28, e2_29, e2_32, e2_33, e2_34, e2_36, e2_38, e2_41, e2_43, e2_46, e2_47, e2_49, e2_51, e2_54, e2_54i, e2_55, e2_58, e2_60, e2_62, e2_65, e2_66, e2_67, e2_70, e2_73, e2_74, Nat.zero_le, Nat.reduceAdd, Nat.reduceLeDiff, reduceIte, rf_c1, int_c1, none_c1, cat_nil, cat_int, cat_long, cat_rf, toList_s, toList_n, true_and, and_true, Option.some.injEq, exists_eq_left', exists_eq_left, reduceCtorEq, if_true, if_false, eq_self, u1, u5, u9, u10, z]
    all_goals simp
  | succ d ih =>
    intro i S ld J l4 l5 hi hl4 h hU
    have hlt : i < chl Z u := by omega
    have hlt2 : i < chl Z v := by omega
    have hun := hU.2.2.2.1 u hu
    have hvn := hU.2.2.2.1 v hv
    obtain ⟨u1, u2, u3, u4, u5, u6, ⟨u7, u8, u9, u10⟩, u11, u12⟩ := CR_all h.1 hun
    obtain ⟨v1, v2, v3, v4, v5, v6, ⟨v7, v8, v9, v10⟩, v11, v12⟩ := CR_all h.1 hvn
    have h5 := (cl500 hZ hun).2
    rw [← hc] at v10
    have z : ¬ nI (chl Z u) ≤ nI i := nI_ge hlt (by omega)
    have a3 : (nI i).toNatClampNeg = i := nI_clamp (by omega)
    have a4 := in_ok hlt (by omega)
    have m1 := u12 i hlt
    have m2 := v12 i hlt2
    have b0 : bI false = 0 := rfl
    -- a place where one is none and the other is not
    have bad : ¬ oR (fun _ _ => True) (zh Z u i) (zh Z v i) → Ev (2, 2, [some (va_rf (some mt)), some (va_rf (some (ad u))), some (va_rf (some (ad v))), some (.int (nI i)), l4, l5], [], S) (some (.int 0), S) → ∃ S' ld' E x, Ev (2, 2, [some (va_rf (some mt)), some (va_rf (some (ad u))), some (va_rf (some (ad v))), some (.int (nI i)), l4, l5], [], S) (some (.int (bI x)), S') ∧ UM S' sh T wk ad na ha cur Z mt W ld' (J ++ E) ∧ Uf (zn Z) W ld' (J ++ E) ∧ sz0 S S' ∧ (∀ w z, ld w = some z → ld' w = some z) ∧ (∀ a b, St ld a b → St ld' a b) ∧ (x = true → ∀ p, i ≤ p → p < chl Z u → oR (St ld') (zh Z u p) (zh Z v p)) ∧ ((∀ p, i ≤ p → p < chl Z u → oR (EqZ Z) (zh Z u p) (zh Z v p)) → Snd Z ld → Snd Z ld' ∧ x = true) := fun hb he => ⟨S, ld, [], false, he, by rw [List.append_nil]; exact h, by rw [List.append_nil]; exact hU, ⟨rfl, rfl⟩, fun _ _ z => z, fun _ _ z => z, fun q => (by cases q), fun q _ => absurd (oR_mono (fun _ _ _ => trivial) _ _ (q i (Nat.le_refl _) hlt)) hb⟩
    cases hz1 : zh Z u i with
    | none =>
      rw [hz1] at m1
      cases hz2 : zh Z v i with
      | none =>
        rw [hz2] at m2
        obtain ⟨S', ld', E, x, g1, g2, g3, g4, g5, g6, g7, g8⟩ := ih (i + 1) S ld J (some (va_rf none)) (some (va_rf none)) (by omega) rfl h hU
        refine ⟨S', ld', E, x, ?_, g2, g3, g4, g5, g6, fun hx p h1 h2 => ?_, fun hE hS => g8 (fun p h1 h2 => hE p (by omega) h2) hS⟩
        · rw [e2_2]
          simp only [e2_3, e2_4, e2_7, e2_8, e2_11, e2_12, e2_13, e2_16, e2_17, e2_20, e2_21, e2_24, e2_25, e2_26, e2_28, e2_29, e2_32, e2_33, e2_34, e2_36, e2_38, e2_41, e2_43, e2_46, e2_47, e2_49, e2_51, e2_54, e2_54i, e2_55, e2_58, e2_60, e2_62, e2_65, e2_66, e2_67, e2_70, e2_73, e2_74, Nat.zero_le, Nat.reduceAdd, Nat.reduceLeDiff, reduceIte, rf_c1, int_c1, none_c1, cat_nil, cat_int, cat_long, cat_rf, toList_s, toList_n, true_and, and_true, Option.some.injEq, exists_eq_left', exists_eq_left, reduceCtorEq, if_true, if_false, eq_self, u1, u5, u9, u10, v1, v5, v9, v10, z, a3, a4, m1, m2, Option.map_none, nI_1, hl4]
          simpa using g1
        · by_cases y : p = i
          · subst y; rw [hz1, hz2]; trivial
          · exact g7 hx p (by omega) h2
      | some c2 =>
        rw [hz2] at m2
        refine bad (by rw [hz1, hz2]; exact id) ?_
        rw [e2_2]
        simp only [e2_3, e2_4, e2_7, e2_8, e2_11, e2_12, e2_13, e2_16, e2_17, e2_20, e2_21, e2_24, e2_25, e2_26, e2_28, e2_29, e2_32, e2_33, e2_34, e2_36, e2_38, e2_41, e2_43, e2_46, e2_47, e2_49, e2_51, e2_54, e2_54i, e2_55, e2_58, e2_60, e2_62, e2_65, e2_66, e2_67, e2_70, e2_73, e2_74, Nat.zero_le, Nat.reduceAdd, Nat.reduceLeDiff, reduceIte, rf_c1, int_c1, none_c1, cat_nil, cat_int, cat_long, cat_rf, toList_s, toList_n, true_and, and_true, Option.some.injEq, exists_eq_left', exists_eq_left, reduceCtorEq, if_true, if_false, eq_self, u1, u5, u9, u10, v1, v5, v9, v10, z, a3, a4, m1, m2, Option.map_none, Option.map_some, nI_1, hl4]
        all_goals simp
    | some c1 =>
      rw [hz1] at m1
      cases hz2 : zh Z v i with
      | none =>
        rw [hz2] at m2
        refine bad (by rw [hz1, hz2]; exact id) ?_
        rw [e2_2]
        simp only [e2_3, e2_4, e2_7, e2_8, e2_11, e2_12, e2_13, e2_16, e2_17, e2_20, e2_21, e2_24, e2_25, e2_26, e2_28, e2_29, e2_32, e2_33, e2_34, e2_36, e2_38, e2_41, e2_43, e2_46, e2_47, e2_49, e2_51, e2_54, e2_54i, e2_55, e2_58, e2_60, e2_62, e2_65, e2_66, e2_67, e2_70, e2_73, e2_74, Nat.zero_le, Nat.reduceAdd, Nat.reduceLeDiff, reduceIte, rf_c1, int_c1, none_c1, cat_nil, cat_int, cat_long, cat_rf, toList_s, toList_n, true_and, and_true, Option.some.injEq, exists_eq_left', exists_eq_left, reduceCtorEq, if_true, if_false, eq_self, u1, u5, u9, u10, v1, v5, v9, v10, z, a3, a4, m1, m2, Option.map_none, Option.map_some, nI_1, hl4]
        all_goals simp
      | some c2 =>
        rw [hz2] at m2
        have w1 := hWc u i c1 hu hlt hz1
        have w2 := hWc v i c2 hv hlt2 hz2
        obtain ⟨S1, ld1, E1, o1, p1, p2, p3, p4, p5, p6, p7, p8, p9⟩ := c3j h hZ hU w1 w2
        obtain ⟨S', ld', E, x, g1, g2, g3, g4, g5, g6, g7, g8⟩ := ih (i + 1) S1 ld1 (J ++ E1) (some (va_rf (some (ad c1)))) (some (va_rf (some (ad c2)))) (by omega) rfl p2 p3
        refine ⟨S', ld', E1 ++ E, x, ?_, by rw [← List.append_assoc]; exact g2, by rw [← List.append_assoc]; exact g3, ⟨g4.1.trans p4.1, g4.2.trans p4.2⟩, fun w y hw => g5 w y (p6 w y hw), fun a b hab => g6 a b (p7 a b hab), fun hx p h1 h2 => ?_, fun hE hS => ?_⟩
        · rw [e2_2]
          simp only [e2_3, e2_4, e2_7, e2_8, e2_11, e2_12, e2_13, e2_16, e2_17, e2_20, e2_21, e2_24, e2_25, e2_26, e2_28, e2_29, e2_32, e2_33, e2_34, e2_36, e2_38, e2_41, e2_43, e2_46, e2_47, e2_49, e2_51, e2_54, e2_54i, e2_55, e2_58, e2_60, e2_62, e2_65, e2_66, e2_67, e2_70, e2_73, e2_74, Ev_is p1, Nat.zero_le, Nat.reduceAdd, Nat.reduceLeDiff, reduceIte, rf_c1, int_c1, none_c1, cat_nil, cat_int, cat_long, cat_rf, toList_s, toList_n, true_and, and_true, Option.some.injEq, exists_eq_left', exists_eq_left, reduceCtorEq, if_true, if_false, eq_self, u1, u5, u9, u10, v1, v5, v9, v10, z, a3, a4, m1, m2, h.2.1, Option.map_some, nI_1, hl4]
          simpa using g1
        · by_cases y : p = i
          · subst y; rw [hz1, hz2]; exact g6 _ _ p8
          · exact g7 hx p (by omega) h2
        · have q := hE i (Nat.le_refl _) hlt
          rw [hz1, hz2] at q
          exact g8 (fun p h1 h2 => hE p (by omega) h2) (p9 q hS)
theorem c1in (hZ : ZI Z) (hWc : ∀ u p c, W u → p < chl Z u → zh Z u p = some c → W c) {a b : Nat} : ∀ (d : Nat) (P Q : List Nat) (S : ns_St) (ld : Nat → Option Nat) (l5 : Option Value), zn Z ≤ P.length + d → UM S sh T wk ad na ha cur Z mt W ld (P ++ Q) → Uf (zn Z) W ld (P ++ Q) → St ld a b → (EqZ Z a b → Snd Z ld) → (∀ w z, w ∈ P → ld w = some z → Bs (chl Z) (zh Z) (lkZ Z) (St ld) w z) → ∃ S' x, Ev (1, 10, [some (va_rf (some mt)), some (va_rf (some (ad a))), some (va_rf (some (ad b))), some (va_rf (Q.head?.map ad)), some (.int (nI P.length)), l5], [], S) (some (.int (bI x)), S') ∧ CR S' sh T wk ad na ha cur Z ∧ sz0 S S' ∧ (x = true ↔ EqZ Z a b) := by
  have hn := hZ.1
  have hl := Lks_Z Z
  have fin : ∀ (P : List Nat) (S : ns_St) (ld : Nat → Option Nat) (l5 : Option Value), UM S sh T wk ad na ha cur Z mt W ld (P ++ []) → Uf (zn Z) W ld (P ++ []) → St ld a b → (∀ w z, w ∈ P → ld w = some z → Bs (chl Z) (zh Z) (lkZ Z) (St ld) w z) → ∃ S' x, Ev (1, 10, [some (va_rf (some mt)), some (va_rf (some (ad a))), some (va_rf (some (ad b))), some (va_rf (([] : List Nat).head?.map ad)), some (.int (nI P.length)), l5], [], S) (some (.int (bI x)), S') ∧ CR S' sh T wk ad na ha cur Z ∧ sz0 S S' ∧ (x = true ↔ EqZ Z a b) := by
    intro P S ld l5 h hU hab hP
    refine ⟨S, true, ?_, h.1, ⟨rfl, rfl⟩, ⟨fun _ => Uf_eqv hl hU (fun u v e => hP u v ?_ e) hab, fun _ => rfl⟩⟩
    · have b1 : bI true = 1 := rfl
      rw [b1, e1_10]
      simp only [e1_12, e1_15, e1_18, e1_19, e1_65, e1_66, Nat.zero_le, Nat.reduceAdd, Nat.reduceLeDiff, reduceIte, rf_c1, int_c1, none_c1, cat_nil, cat_int, cat_long, cat_rf, toList_s, toList_n, true_and, and_true, Option.some.injEq, exists_eq_left', exists_eq_left, reduceCtorEq, if_true, if_false, eq_self, List.head?_nil, Option.map_none, ite_self]
      all_goals simp
    · have := (hU.2.1 u).mp (by rw [e]; simp)
      rw [List.append_nil] at this
      exact this
  intro d
  induction d with
  | zero =>
    intro P Q S ld l5 hd h hU hab hS hP
    cases Q with
    | nil => exact fin P S ld l5 h hU hab hP
    | cons w Q =>
      exfalso
      have := hU.2.2.2.2 (by simp)
      rw [List.length_append] at this
      simp only [List.length_cons] at this
      omega
  | succ d ih =>
    intro P Q S ld l5 hd h hU hab hS hP
    cases Q with
    | nil => exact fin P S ld l5 h hU hab hP
    | cons w Q =>
      have hlen := hU.2.2.2.2 (by simp)
      rw [List.length_append] at hlen
      simp only [List.length_cons] at hlen
      have hwJ : w ∈ P ++ w :: Q := by simp
      obtain ⟨z, hz⟩ : ∃ z, ld w = some z := by
        cases e : ld w with
        | none => exact absurd e ((hU.2.1 w).mpr hwJ)
        | some z => exact ⟨z, rfl⟩
      obtain ⟨-, hWw, hWz⟩ := hU.1 w z hz
      have hwn := hU.2.2.2.1 w hWw
      have hzn := hU.2.2.2.1 z hWz
      have kw := CR_k h.1 hwn
      have l1 := (h.2.2.1 w hWw).1
      rw [hz] at l1
      have zz : ¬ (2000 : Int32) ≤ nI P.length := nI_ge (b := 2000) (by omega) (by omega)
      obtain ⟨x1, p1, p2⟩ := c9 h.1 hZ hwn hzn
      have hEq : EqZ Z a b → Bs (chl Z) (zh Z) (lkZ Z) (EqZ Z) w z := fun q => Eqv_iff.mp (hS q w z hz)
      cases x1 with
      | false =>
        have b0 : bI false = 0 := rfl
        rw [b0] at p1
        refine ⟨S, false, ?_, h.1, ⟨rfl, rfl⟩, ⟨fun q => (by cases q), fun q => ?_⟩⟩
        · rw [b0, e1_10]
          simp only [e1_12, e1_15, e1_18, e1_19, e1_22, e1_23, e1_26, e1_28, e1_30, e1_33, e1_34, e1_36, e1_39, e1_42, e1_43, e1_44, e1_46, e1_49, e1_52, e1_53, e1_54, e1_55, e1_58, e1_59, e1_62, e1_65, e1_66, Ev_is p1, Nat.zero_le, Nat.reduceAdd, Nat.reduceLeDiff, reduceIte, rf_c1, int_c1, none_c1, cat_nil, cat_int, cat_long, cat_rf, toList_s, toList_n, true_and, and_true, Option.some.injEq, exists_eq_left', exists_eq_left, reduceCtorEq, if_true, if_false, eq_self, List.head?_cons, Option.map_some, zz, kw, l1]
          all_goals simp
        · have := p2.mpr (hEq q).1
          cases this
      | true =>
        have b1 : bI true = 1 := rfl
        rw [b1] at p1
        have hlk := p2.mp rfl
        have hcl := (lk_cnl hlk.1 hlk.2.1).2
        obtain ⟨S1, ld', E, x2, g1, g2, g3, g4, g5, g6, g7, g8⟩ := c2in hZ hWc hWw hWz hcl (chl Z w) 0 S ld (P ++ w :: Q) none none (by omega) rfl h hU
        have g1 : Ev (2, 2, [some (va_rf (some mt)), some (va_rf (some (ad w))), some (va_rf (some (ad z))), some (.int 0), none, none], [], S) (some (.int (bI x2)), S1) := g1
        have g1' : Ev (2, 0, [some (va_rf (some mt)), some (va_rf (some (ad w))), some (va_rf (some (ad z))), none, none, none], [], S) (some (.int (bI x2)), S1) := by
          simp only [e2_0, e2_1, Nat.zero_le, Nat.reduceAdd, Nat.reduceLeDiff, reduceIte, rf_c1, int_c1, none_c1, cat_nil, cat_int, cat_long, cat_rf, toList_s, toList_n, true_and, and_true, Option.some.injEq, exists_eq_left', exists_eq_left, reduceCtorEq, if_true, if_false, eq_self]
          exact g1
        cases x2 with
        | false =>
          have b0 : bI false = 0 := rfl
          rw [b0] at g1'
          refine ⟨S1, false, ?_, g2.1, g4, ⟨fun q => (by cases q), fun q => ?_⟩⟩
          · rw [b0, e1_10]
            simp only [e1_12, e1_15, e1_18, e1_19, e1_22, e1_23, e1_26, e1_28, e1_30, e1_33, e1_34, e1_36, e1_39, e1_42, e1_43, e1_44, e1_46, e1_49, e1_52, e1_53, e1_54, e1_55, e1_58, e1_59, e1_62, e1_65, e1_66, Ev_is p1, Ev_is g1', Nat.zero_le, Nat.reduceAdd, Nat.reduceLeDiff, reduceIte, rf_c1, int_c1, none_c1, cat_nil, cat_int, cat_long, cat_rf, toList_s, toList_n, true_and, and_true, Option.some.injEq, exists_eq_left', exists_eq_left, reduceCtorEq, if_true, if_false, eq_self, List.head?_cons, Option.map_some, zz, kw, l1, h.2.1]
            all_goals simp
          · have := (g8 (fun p _ h2 => (hEq q).2 p h2) (hS q)).2
            cases this
        | true =>
          rw [b1] at g1'
          have eJ : (P ++ w :: Q) ++ E = (P ++ [w]) ++ (Q ++ E) := by simp
          rw [eJ] at g2 g3
          obtain ⟨S', x, q1, q2, q3, q4⟩ := ih (P ++ [w]) (Q ++ E) S1 ld' (some (va_rf (some (ad z)))) (by rw [List.length_append]; simp only [List.length_cons, List.length_nil]; omega) g2 g3 (g6 a b hab) (fun q => (g8 (fun p _ h2 => (hEq q).2 p h2) (hS q)).1) (fun w' z' hw' hz' => by
            rcases List.mem_append.mp hw' with y | y
            · obtain ⟨z2, hz2⟩ : ∃ z2, ld w' = some z2 := by
                cases e : ld w' with
                | none => exact absurd e ((hU.2.1 w').mpr (by simp [y]))
                | some z2 => exact ⟨z2, rfl⟩
              have := g5 w' z2 hz2
              rw [hz'] at this
              cases this
              exact Bs_mono g6 (hP w' z' y hz2)
            · simp at y
              subst y
              have := g5 w' z hz
              rw [hz'] at this
              cases this
              exact ⟨hlk, fun p hp => g7 rfl p (Nat.zero_le _) hp⟩)
          refine ⟨S', x, ?_, q2, ⟨q3.1.trans g4.1, q3.2.trans g4.2⟩, q4⟩
          have kw1 := CR_k g2.1 hwn
          have hnP : w ∉ P := fun y => by
            have := hU.2.2.1
            rw [List.nodup_append] at this
            exact this.2.2 w y w (by simp) rfl
          have nx : fR S1 116 (ad w) = (Q ++ E).head?.map ad := by
            rw [(g2.2.2.1 w hWw).2]
            have e1 : ((P ++ [w]) ++ (Q ++ E)).idxOf w = P.length := by
              rw [List.append_assoc, List.idxOf_append, if_neg hnP]
              simp
            rw [e1, List.getElem?_append_right (by simp)]
            have e2 : P.length + 1 - (P ++ [w]).length = 0 := by simp
            rw [e2, List.head?_eq_getElem?]
          rw [List.length_append] at q1
          simp only [List.length_cons, List.length_nil] at q1
          rw [e1_10]
          simp only [e1_12, e1_15, e1_18, e1_19, e1_22, e1_23, e1_26, e1_28, e1_30, e1_33, e1_34, e1_36, e1_39, e1_42, e1_43, e1_44, e1_46, e1_49, e1_52, e1_53, e1_54, e1_55, e1_58, e1_59, e1_62, e1_65, e1_66, Ev_is p1, Ev_is g1', Nat.zero_le, Nat.reduceAdd, Nat.reduceLeDiff, reduceIte, rf_c1, int_c1, none_c1, cat_nil, cat_int, cat_long, cat_rf, toList_s, toList_n, true_and, and_true, Option.some.injEq, exists_eq_left', exists_eq_left, reduceCtorEq, if_true, if_false, eq_self, List.head?_cons, Option.map_some, zz, kw, kw1, l1, h.2.1, nx, nI_1]
          simpa using q1
/-- the first reason -/
def fr2 (l r : Int32) : Int32 := if l = 0 then r else if r = 0 then l else if r < l then r else l
def es (Z : Zs) (s t : Int32) : Int32 := fr2 (rf Z s) (rf Z t)
def AnsE (Z : Zs) (s t x : Int32) : Prop := match zt (zn Z) s, zt (zn Z) t with
  | some a, some b => if es Z s t = 0 then (x = 1 ∨ x = 0) ∧ (x = 1 ↔ EqZ Z a b) else x = -1
  | _, _ => x = -1
theorem AnsE_one {s t x y : Int32} (hx : AnsE Z s t x) (hy : AnsE Z s t y) : x = y := by
  unfold AnsE at hx hy
  revert hx hy
  cases zt (zn Z) s with
  | none => intro hx hy; exact hx.trans hy.symm
  | some a =>
    cases zt (zn Z) t with
    | none => intro hx hy; exact hx.trans hy.symm
    | some b =>
      dsimp only
      by_cases e : es Z s t = 0
      · rw [if_pos e, if_pos e]
        rintro ⟨hx1, hx2⟩ ⟨hy1, hy2⟩
        rcases hx1 with rfl | rfl
        · exact (hy2.mpr (hx2.mp rfl)).symm
        · rcases hy1 with rfl | rfl
          · exact absurd (hx2.mpr (hy2.mp rfl)) (by decide)
          · rfl
      · rw [if_neg e, if_neg e]
        intro hx hy
        exact hx.trans hy.symm
theorem c49 {S : ns_St} {l r : Int32} {q : ns_Rs} : Ev (49, 0, [some (.int l), some (.int r)], [], S) q ↔ q = (some (.int (fr2 l r)), S) := by
  unfold fr2
  by_cases y : l = 0
  · simp only [e49_0, e49_1, e49_4, e49_5, e49_6, e49_7, e49_10, e49_11, e49_14, e49_15, e49_16, e49_19, Nat.zero_le, Nat.reduceAdd, Nat.reduceLeDiff, reduceIte, rf_c1, int_c1, none_c1, cat_nil, cat_int, cat_long, cat_rf, toList_s, toList_n, true_and, and_true, Option.some.injEq, exists_eq_left', exists_eq_left, reduceCtorEq, if_true, if_false, eq_self, y]
  · by_cases w : r = 0
    · simp only [e49_0, e49_1, e49_4, e49_5, e49_6, e49_7, e49_10, e49_11, e49_14, e49_15, e49_16, e49_19, Nat.zero_le, Nat.reduceAdd, Nat.reduceLeDiff, reduceIte, rf_c1, int_c1, none_c1, cat_nil, cat_int, cat_long, cat_rf, toList_s, toList_n, true_and, and_true, Option.some.injEq, exists_eq_left', exists_eq_left, reduceCtorEq, if_true, if_false, eq_self, y, w]
    · simp only [e49_0, e49_1, e49_4, e49_5, e49_6, e49_7, e49_10, e49_11, e49_14, e49_15, e49_16, e49_19, Nat.zero_le, Nat.reduceAdd, Nat.reduceLeDiff, reduceIte, rf_c1, int_c1, none_c1, cat_nil, cat_int, cat_long, cat_rf, toList_s, toList_n, true_and, and_true, Option.some.injEq, exists_eq_left', exists_eq_left, reduceCtorEq, if_true, if_false, eq_self, y, w]
theorem c_equal {S : ns_St} (h : CR S sh T wk ad na ha cur Z) (hZ : ZI Z) (hcur : cur + 2 < 100000) (s t : Int32) : ∃ S' c' x, Ev (29, 0, [some (va_rf (some sh)), some (.int s), some (.int t), none, none, none], [], S) (some (.int x), S') ∧ AnsE Z s t x ∧ c' ≤ cur + 2 ∧ CR S' sh T wk ad na ha c' (wS Z (es Z s t)) ∧ ns_z S' ≤ ns_z S + 1 ∧ ns_s S' ≤ ns_s S + 1 := by
  have hn := hZ.1
  have h1 : ns_k S sh = 4 := h.1.1
  -- the first walk
  have first : ∃ S1 c1, Ev (48, 0, [some (va_rf (some sh)), some (va_rf ((zt (zn Z) s).map ad))], [], S) (some (.int (rf Z s)), S1) ∧ c1 ≤ cur + 1 ∧ CR S1 sh T wk ad na ha c1 Z ∧ sz0 S S1 ∧ ∀ a, zt (zn Z) s = some a → ∀ u, u < zn Z → Rch (chl Z) (zh Z) a u → cln S1 (ad u) := by
    rcases zt_cases (n := zn Z) (by omega) s with ⟨e, g⟩ | ⟨a, ha, rfl, e⟩
    · have r1 : rf Z s = 1 := by unfold rf; rw [e]
      rw [e, r1]
      exact ⟨S, cur, c48n.mpr rfl, by omega, h, ⟨rfl, rfl⟩, fun a hq => by cases hq⟩
    · obtain ⟨S1, N1, g1, g2, g3, g4⟩ := c48 (G := fun _ => False) h hZ (by omega) ha (fun _ _ z => z.elim)
      rw [e]
      refine ⟨S1, cur + 1, g1, Nat.le_refl _, g2.1, g4, fun a' hq u hu hr => ?_⟩
      cases hq
      exact g2.2.2.2.1 u hu (Or.inr (((dend_rch (zch hZ) ha).1 u).mpr hr))
  obtain ⟨S1, c1, f1, f2, f3, f4, f5⟩ := first
  have second : ∃ S2 c2, Ev (48, 0, [some (va_rf (some sh)), some (va_rf ((zt (zn Z) t).map ad))], [], S1) (some (.int (rf Z t)), S2) ∧ c2 ≤ cur + 2 ∧ CR S2 sh T wk ad na ha c2 Z ∧ sz0 S1 S2 ∧ ∀ a b, zt (zn Z) s = some a → zt (zn Z) t = some b → ∀ u, u < zn Z → Rch (chl Z) (zh Z) a u ∨ Rch (chl Z) (zh Z) b u → cln S2 (ad u) := by
    rcases zt_cases (n := zn Z) (by omega) t with ⟨e, g⟩ | ⟨b, hb, rfl, e⟩
    · have r1 : rf Z t = 1 := by unfold rf; rw [e]
      rw [e, r1]
      exact ⟨S1, c1, c48n.mpr rfl, by omega, f3, ⟨rfl, rfl⟩, fun a b _ hq => by cases hq⟩
    · obtain ⟨S2, N2, g1, g2, g3, g4⟩ := c48 (G := fun u => ∃ a, zt (zn Z) s = some a ∧ Rch (chl Z) (zh Z) a u) f3 hZ (by omega) hb (fun u hu ⟨a, ha, hr⟩ => f5 a ha u hu hr)
      rw [e]
      refine ⟨S2, c1 + 1, g1, by omega, g2.1, g4, fun a b' ha hq u hu hr => ?_⟩
      cases hq
      rcases hr with hr | hr
      · exact g2.2.2.2.1 u hu (Or.inl ⟨a, ha, hr⟩)
      · exact g2.2.2.2.1 u hu (Or.inr (((dend_rch (zch hZ) hb).1 u).mpr hr))
  obtain ⟨S2, c2, s1, s2, s3, s4, s5⟩ := second
  have k1 : ns_k S1 sh = 4 := f3.1.1
  have k2 : ns_k S2 sh = 4 := s3.1.1
  have hR3 := CR_wS s3 (es Z s t)
  have c := fun (q : ns_Rs) => c49 (S := S2) (l := rf Z s) (r := rf Z t) (q := q)
  have ees : fr2 (rf Z s) (rf Z t) = es Z s t := rfl
  rw [ees] at c
  have j1 : ∀ x, ns_k (pI S2 303 sh x) sh = 4 := fun x => by rw [pI_ns_k]; exact k2
  have j4 : ∀ x, fI (pI S2 303 sh x) 303 sh = x := fun x => by rw [pI_fI, if_pos ⟨rfl, rfl⟩]
  have zz : ns_z (pI S2 303 sh (es Z s t)) = ns_z S := by rw [pI_ns_z, s4.1, f4.1]
  have ss : ns_s (pI S2 303 sh (es Z s t)) = ns_s S := by rw [pI_ns_s, s4.2, f4.2]
  -- refused
  have ref : (AnsE Z s t (-1)) → (zt (zn Z) s = none ∨ zt (zn Z) t = none ∨ es Z s t ≠ 0) → ∃ S' c' x, Ev (29, 0, [some (va_rf (some sh)), some (.int s), some (.int t), none, none, none], [], S) (some (.int x), S') ∧ AnsE Z s t x ∧ c' ≤ cur + 2 ∧ CR S' sh T wk ad na ha c' (wS Z (es Z s t)) ∧ ns_z S' ≤ ns_z S + 1 ∧ ns_s S' ≤ ns_s S + 1 := by
    intro hA hr
    refine ⟨pI S2 303 sh (es Z s t), c2, -1, ?_, hA, s2, hR3, by omega, by omega⟩
    cases e1 : zt (zn Z) s with
    | none =>
      rw [e1, Option.map_none] at f1
      simp only [e29_0, e29_1, e29_2, e29_5, e29_6, e29_7, e29_8, e29_11, e29_13, e29_14, e29_15, e29_18, e29_20, e29_21, e29_23, e29_24, e29_26, e29_29, e29_32, e29_35, e29_36, e29_39, e29_41, e29_44, e29_45, e29_48, e29_51, e29_52, c36 h hZ, Ev_is f1, Ev_is s1, c, Nat.zero_le, Nat.reduceAdd, Nat.reduceLeDiff, reduceIte, rf_c1, int_c1, none_c1, cat_nil, cat_int, cat_long, cat_rf, toList_s, toList_n, true_and, and_true, Option.some.injEq, exists_eq_left', exists_eq_left, reduceCtorEq, if_true, if_false, eq_self, h1, k1, k2, e1, Option.map_none]
      all_goals simp
    | some a =>
      rw [e1, Option.map_some] at f1
      cases e2 : zt (zn Z) t with
      | none =>
        rw [e2, Option.map_none] at s1
        simp only [e29_0, e29_1, e29_2, e29_5, e29_6, e29_7, e29_8, e29_11, e29_13, e29_14, e29_15, e29_18, e29_20, e29_21, e29_23, e29_24, e29_26, e29_29, e29_32, e29_35, e29_36, e29_39, e29_41, e29_44, e29_45, e29_48, e29_51, e29_52, c36 h hZ, Ev_is f1, Ev_is s1, c, Nat.zero_le, Nat.reduceAdd, Nat.reduceLeDiff, reduceIte, rf_c1, int_c1, none_c1, cat_nil, cat_int, cat_long, cat_rf, toList_s, toList_n, true_and, and_true, Option.some.injEq, exists_eq_left', exists_eq_left, reduceCtorEq, if_true, if_false, eq_self, h1, k1, k2, e1, e2, Option.map_none, Option.map_some]
        all_goals simp
      | some b =>
        rw [e2, Option.map_some] at s1
        have hne : ¬ es Z s t = 0 := by
          rcases hr with z | z | z
          · rw [e1] at z; cases z
          · rw [e2] at z; cases z
          · exact z
        simp only [e29_0, e29_1, e29_2, e29_5, e29_6, e29_7, e29_8, e29_11, e29_13, e29_14, e29_15, e29_18, e29_20, e29_21, e29_23, e29_24, e29_26, e29_29, e29_32, e29_35, e29_36, e29_39, e29_41, e29_44, e29_45, e29_48, e29_51, e29_52, c36 h hZ, Ev_is f1, Ev_is s1, c, Nat.zero_le, Nat.reduceAdd, Nat.reduceLeDiff, reduceIte, rf_c1, int_c1, none_c1, cat_nil, cat_int, cat_long, cat_rf, toList_s, toList_n, true_and, and_true, Option.some.injEq, exists_eq_left', exists_eq_left, reduceCtorEq, if_true, if_false, eq_self, h1, k1, k2, j1, j4, e1, e2, Option.map_some, hne]
        all_goals simp
  cases e1 : zt (zn Z) s with
  | none => exact ref (by unfold AnsE; rw [e1]) (Or.inl e1)
  | some a =>
    cases e2 : zt (zn Z) t with
    | none => exact ref (by unfold AnsE; rw [e1, e2]) (Or.inr (Or.inl e2))
    | some b =>
      by_cases he : es Z s t = 0
      · have haz := zt_lt e1
        have hb := zt_lt e2
        rw [he] at hR3 zz ss c
        rw [e1, Option.map_some] at f1
        rw [e2, Option.map_some] at s1
        -- a new matching
        generalize hS3 : pI S2 303 sh 0 = S3
        rw [hS3] at hR3 zz ss
        have j1' : ns_k S3 sh = 4 := by rw [← hS3]; exact j1 0
        have j4' : fI S3 303 sh = 0 := by rw [← hS3]; rw [pI_fI, if_pos ⟨rfl, rfl⟩]
        have ex : EX S3 (nO S3 0 1) := EX.rf.nO 0 1
        have hR4 := CR_EX hR3 ex
        have hcl : ∀ u, u < zn Z → Rch (chl Z) (zh Z) a u ∨ Rch (chl Z) (zh Z) b u → fR S3 114 (ad u) = none ∧ fR S3 116 (ad u) = none := fun u hu hr => by
          obtain ⟨q1, q2, q3⟩ := s5 a b e1 e2 u hu hr
          rw [← hS3, pI_fR]
          exact ⟨q1, q3⟩
        have hUM : UM (nO S3 0 1) sh T wk ad na ha c2 (wS Z 0) (ns_z S3) (fun u => u < zn Z ∧ (Rch (chl Z) (zh Z) a u ∨ Rch (chl Z) (zh Z) b u)) (fun _ => none) [] := by
          refine ⟨hR4, by rw [nO_ns_k, if_pos rfl], fun u hu => ?_, ?_⟩
          · obtain ⟨q1, q2⟩ := hcl u hu.1 hu.2
            have hlt := (CR_new2 hR3 (show u < zn (wS Z 0) from hu.1)).2.2
            have hx := (ex.2 _ hlt).2.2.2.2.1
            rw [hx 114, hx 116, q1, q2]
            exact ⟨rfl, by simp⟩
          · rw [nO_fR, if_pos rfl]
            rfl
        have hU0 : Uf (zn (wS Z 0)) (fun u => u < zn Z ∧ (Rch (chl Z) (zh Z) a u ∨ Rch (chl Z) (zh Z) b u)) (fun _ => none) [] := Uf_0 (fun u hu => hu.1)
        have hWc : ∀ u p c, (u < zn Z ∧ (Rch (chl Z) (zh Z) a u ∨ Rch (chl Z) (zh Z) b u)) → p < chl (wS Z 0) u → zh (wS Z 0) u p = some c → (c < zn Z ∧ (Rch (chl Z) (zh Z) a c ∨ Rch (chl Z) (zh Z) b c)) := fun u p c hu hp hc => ⟨zch hZ u p c hu.1 hp hc, hu.2.imp (fun z => Rch_step z hp hc) (fun z => Rch_step z hp hc)⟩
        obtain ⟨S5, ld, E, o1, p1, p2, p3, p4, p5, p6, p7, p8, p9⟩ := c3j (Z := wS Z 0) hUM hZ hU0 (u := a) (v := b) ⟨haz, Or.inl Rch_refl⟩ ⟨hb, Or.inr Rch_refl⟩
        obtain ⟨S', x, q1, q2, q3, q4⟩ := c1in (Z := wS Z 0) hZ hWc (a := a) (b := b) (zn Z) [] E S5 ld none (by simp; exact Nat.le_refl _) p2 p3 p8 (fun hE => p9 hE (fun w z hw => by cases hw)) (fun w z hw => by cases hw)
        have q1 : Ev (1, 10, [some (va_rf (some (ns_z S3))), some (va_rf (some (ad a))), some (va_rf (some (ad b))), some (va_rf (E.head?.map ad)), some (.int 0), none], [], S5) (some (.int (bI x)), S') := q1
        rw [p5] at p1
        have kmt : ns_k (nO S3 0 1) (ns_z S3) = 1 := by rw [nO_ns_k, if_pos rfl]
        have q5 : Ev (1, 0, [some (va_rf (some (ns_z S3))), some (va_rf (some (ad a))), some (va_rf (some (ad b))), none, none, none], [], nO S3 0 1) (some (.int (bI x)), S') := by
          simp only [e1_0, e1_1, e1_2, e1_3, e1_6, e1_7, e1_8, Ev_is p1, Nat.zero_le, Nat.reduceAdd, Nat.reduceLeDiff, reduceIte, rf_c1, int_c1, none_c1, cat_nil, cat_int, cat_long, cat_rf, toList_s, toList_n, true_and, and_true, Option.some.injEq, exists_eq_left', exists_eq_left, reduceCtorEq, if_true, if_false, eq_self, kmt]
          simpa using q1
        have zO : ns_z (nO S3 0 1) = ns_z S3 + 1 := nO_ns_z ..
        have sO : ns_s (nO S3 0 1) = ns_s S3 + 1 := nO_ns_s ..
        have hz' : ns_z S' ≤ ns_z S + 1 := by rw [q3.1, p4.1, zO]; omega
        have hs' : ns_s S' ≤ ns_s S + 1 := by rw [q3.2, p4.2, sO]; omega
        have hEq : (x = true) ↔ EqZ Z a b := q4
        have go : Ev (29, 0, [some (va_rf (some sh)), some (.int s), some (.int t), none, none, none], [], S) (some (.int (bI x)), S') := by
          cases x with
          | true =>
            have b1 : bI true = 1 := rfl
            rw [b1] at q5 ⊢
            simp only [e29_0, e29_1, e29_2, e29_5, e29_6, e29_7, e29_8, e29_11, e29_13, e29_14, e29_15, e29_18, e29_20, e29_21, e29_23, e29_24, e29_26, e29_29, e29_32, e29_35, e29_36, e29_39, e29_41, e29_44, e29_45, e29_48, e29_51, e29_52, e29_53, e29_56, e29_57, e29_60, e29_61, e29_63, e29_66, e29_69, e29_70, e29_73, e29_74, c36 h hZ, Ev_is f1, Ev_is s1, c, c0, Ev_is q5, Nat.zero_le, Nat.reduceAdd, Nat.reduceLeDiff, reduceIte, rf_c1, int_c1, none_c1, cat_nil, cat_int, cat_long, cat_rf, toList_s, toList_n, true_and, and_true, Option.some.injEq, exists_eq_left', exists_eq_left, reduceCtorEq, if_true, if_false, eq_self, h1, k1, k2, hS3, j1', j4', e1, e2, Option.map_some, kmt]
            all_goals simp
          | false =>
            have b1 : bI false = 0 := rfl
            rw [b1] at q5 ⊢
            simp only [e29_0, e29_1, e29_2, e29_5, e29_6, e29_7, e29_8, e29_11, e29_13, e29_14, e29_15, e29_18, e29_20, e29_21, e29_23, e29_24, e29_26, e29_29, e29_32, e29_35, e29_36, e29_39, e29_41, e29_44, e29_45, e29_48, e29_51, e29_52, e29_53, e29_56, e29_57, e29_60, e29_61, e29_63, e29_66, e29_69, e29_70, e29_73, e29_74, c36 h hZ, Ev_is f1, Ev_is s1, c, c0, Ev_is q5, Nat.zero_le, Nat.reduceAdd, Nat.reduceLeDiff, reduceIte, rf_c1, int_c1, none_c1, cat_nil, cat_int, cat_long, cat_rf, toList_s, toList_n, true_and, and_true, Option.some.injEq, exists_eq_left', exists_eq_left, reduceCtorEq, if_true, if_false, eq_self, h1, k1, k2, hS3, j1', j4', e1, e2, Option.map_some, kmt]
            all_goals simp
        refine ⟨S', c2, bI x, go, ?_, s2, by rw [he]; exact q2, hz', hs'⟩
        unfold AnsE
        rw [e1, e2]
        dsimp only
        rw [if_pos he]
        cases x with
        | true => exact ⟨Or.inl rfl, ⟨fun _ => hEq.mp rfl, fun _ => rfl⟩⟩
        | false => exact ⟨Or.inr rfl, ⟨fun w => absurd w (by decide), fun w => by have := hEq.mpr w; cases this⟩⟩
      · exact ref (by unfold AnsE; rw [e1, e2]; dsimp only; rw [if_neg he]) (Or.inr (Or.inr he))
end CMATCH
