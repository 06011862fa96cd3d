/-! ===== the reference's weight ===== -/
section WGT
variable {Z : Zs} {m : Nat} {A : Nat → Nat}
theorem qJ_qJ (S : ns_St) (a i : Nat) (x y : Int64) : qJ (qJ S a i x) a i y = qJ S a i y := by
  show (S.1, S.2.1, S.2.2.1, fI S, fJ S, fR S, aI S, up2 (up2 (aJ S) a i x) a i y, aR S) = _
  rw [up2_up2]
  rfl
theorem m_own {S : ns_St} (h : MR S m A Z) (hZ : ZI Z) {u : Nat} (hu : u < zn Z) : Ev (81, 0, [some (va_rf (some m)), some (.int (nI u)), none, none, none], [], S) (some (.long (own Z u)), S) := by
  have hn := hZ.1
  have hW := h.1
  have u3 : (nI u).toNatClampNeg = u := nI_clamp (by omega)
  have u4 := in_ok (show u < 2000 by omega) (by omega)
  obtain ⟨b1, b2, b3, b4⟩ := h.2.2.1 u hu
  obtain ⟨c1, c2, -, -⟩ := hZ.2.1 u hu
  have lp : zk Z u < 3 → ∀ (k i : Nat), i + k = zl Z u → Ev (81, 26, [some (va_rf (some m)), some (.int (nI u)), some (.long (sumL (zm Z u) i)), none, some (.int (nI i))], [], S) (some (.long (sumL (zm Z u) (zl Z u))), S) := by
    intro q k
    have q' : ¬ 3 ≤ zk Z u := by omega
    induction k with
    | zero =>
      intro i hi
      have e : i = zl Z u := by omega
      subst e
      have z : nI (zl Z u) ≤ nI (zl Z u) := nI_le (Nat.le_refl _) (by omega)
      simp only [e81_26, e81_27, e81_30, e81_31, e81_32, e81_35, e81_38, e81_40, e81_41, e81_44, e81_45, e81_46, e81_72, e81_73, t59, mw0 hW, mr1 hW, mk1 hW, mn1 hW, mr2 hW, mk2 hW, mn2 hW, mr4 hW, mk4 hW, mn4 hW, mr5 hW, mk5 hW, mn5 hW, Nat.zero_le, Nat.reduceAdd, Nat.reduceLeDiff, reduceIte, rf_c1, int_c1, none_c1, cat_nil, cat_int, cat_long, cat_rf, toList_s, toList_n, true_and, and_true, Option.some.injEq, exists_eq_left', exists_eq_left, reduceCtorEq, if_true, if_false, eq_self, u3, u4, b1, b2, kf_3le c1, q', z]
      simp
    | succ k ih =>
      intro i hi
      have hlt : i < zl Z u := by omega
      have z : ¬ nI (zl Z u) ≤ nI i := nI_ge hlt (by omega)
      have hb := bg_in hZ hu hlt
      have x4 : ns_inb (nI (bg (zl Z) u + i)) 1000000 = true := in_ok hb (by omega)
      have x5 : (nI (bg (zl Z) u + i)).toNatClampNeg = bg (zl Z) u + i := nI_clamp (by omega)
      have x6 : aJ S (A 5) (bg (zl Z) u + i) = zm Z u i := by rw [h.2.2.2.2.1 u i hu hlt]; unfold pl; rw [if_neg (fun z => absurd z.1 (by omega))]
      have g := ih (i + 1) (by omega)
      have g : Ev (81, 26, [some (va_rf (some m)), some (.int (nI u)), some (.long (sumL (zm Z u) i + zm Z u i)), none, some (.int (nI (i + 1)))], [], S) (some (.long (sumL (zm Z u) (zl Z u))), S) := g
      have y0 : ¬ (1 : Int32) = 0 := by decide
      rw [e81_26]
      simp only [e81_27, e81_30, e81_31, e81_32, e81_35, e81_38, e81_40, e81_41, e81_44, e81_45, e81_46, e81_49, e81_50, e81_51, e81_54, e81_55, e81_58, e81_59, e81_60, e81_62, e81_63, e81_64, e81_65, e81_66, e81_69, t59, mw0 hW, mr1 hW, mk1 hW, mn1 hW, mr2 hW, mk2 hW, mn2 hW, mr4 hW, mk4 hW, mn4 hW, mr5 hW, mk5 hW, mn5 hW, Nat.zero_le, Nat.reduceAdd, Nat.reduceLeDiff, reduceIte, rf_c1, int_c1, none_c1, cat_nil, cat_int, cat_long, cat_rf, toList_s, toList_n, true_and, and_true, Option.some.injEq, exists_eq_left', exists_eq_left, reduceCtorEq, if_true, if_false, eq_self, u3, u4, b1, b2, b4, kf_3le c1, q', z, nI_add, x4, x5, x6, nI_1, y0]
      exact g
  have y0 : ¬ (1 : Int32) = 0 := by decide
  by_cases q7 : 7 ≤ zk Z u
  · have q8 : ¬ zk Z u < 7 := by omega
    have q3 : 3 ≤ zk Z u := by omega
    have q9 : ¬ zk Z u < 3 := by omega
    have e : own Z u = (zv Z u).toInt64 := by unfold own; rw [if_neg q9, if_pos q7]
    rw [e]
    simp only [e81_0, e81_1, e81_4, e81_5, e81_6, e81_8, e81_11, e81_12, e81_15, e81_16, e81_17, e81_18, e81_21, e81_22, e81_23, e81_24, t59, mw0 hW, mr1 hW, mk1 hW, mn1 hW, mr2 hW, mk2 hW, mn2 hW, mr3 hW, mk3 hW, mn3 hW, mr4 hW, mk4 hW, mn4 hW, mr5 hW, mk5 hW, mn5 hW, Nat.zero_le, Nat.reduceAdd, Nat.reduceLeDiff, reduceIte, rf_c1, int_c1, none_c1, cat_nil, cat_int, cat_long, cat_rf, toList_s, toList_n, true_and, and_true, Option.some.injEq, exists_eq_left', exists_eq_left, reduceCtorEq, if_true, if_false, eq_self, u3, u4, b1, b2, b3, kf_3le c1, kf_lt3 c1, kf_7lt c1, kf_6lt c1, kf_7le c1, kf_lt7 c1, kf_2lt c1, kf_lt0 c1, kf_e0 c1, kf_e1 c1, kf_e2 c1, kf_e3 c1, kf_e4 c1, kf_e5 c1, kf_e6 c1, kf_e7 c1, kf_e8 c1, q7, q8, q3]
    try rw [e81_26]
    try simp only [e81_27, e81_30, e81_31, e81_32, e81_35, e81_38, e81_40, e81_41, e81_44, e81_45, e81_46, e81_72, e81_73, t59, mw0 hW, mr1 hW, mk1 hW, mn1 hW, mr2 hW, mk2 hW, mn2 hW, mr3 hW, mk3 hW, mn3 hW, mr4 hW, mk4 hW, mn4 hW, mr5 hW, mk5 hW, mn5 hW, Nat.zero_le, Nat.reduceAdd, Nat.reduceLeDiff, reduceIte, rf_c1, int_c1, none_c1, cat_nil, cat_int, cat_long, cat_rf, toList_s, toList_n, true_and, and_true, Option.some.injEq, exists_eq_left', exists_eq_left, reduceCtorEq, if_true, if_false, eq_self, u3, u4, b1, b2, b3, kf_3le c1, kf_lt3 c1, kf_7lt c1, kf_6lt c1, kf_7le c1, kf_lt7 c1, kf_2lt c1, kf_lt0 c1, kf_e0 c1, kf_e1 c1, kf_e2 c1, kf_e3 c1, kf_e4 c1, kf_e5 c1, kf_e6 c1, kf_e7 c1, kf_e8 c1, q7, q8, q3]
    try simp
  · have q8 : zk Z u < 7 := by omega
    by_cases q3 : 3 ≤ zk Z u
    · have e : own Z u = 0 := by unfold own; rw [if_neg (by omega), if_neg q7]
      rw [e]
      simp only [e81_0, e81_1, e81_4, e81_5, e81_6, e81_8, e81_11, e81_12, e81_15, e81_16, e81_17, e81_18, e81_21, e81_22, e81_23, e81_24, t59, mw0 hW, mr1 hW, mk1 hW, mn1 hW, mr2 hW, mk2 hW, mn2 hW, mr3 hW, mk3 hW, mn3 hW, mr4 hW, mk4 hW, mn4 hW, mr5 hW, mk5 hW, mn5 hW, Nat.zero_le, Nat.reduceAdd, Nat.reduceLeDiff, reduceIte, rf_c1, int_c1, none_c1, cat_nil, cat_int, cat_long, cat_rf, toList_s, toList_n, true_and, and_true, Option.some.injEq, exists_eq_left', exists_eq_left, reduceCtorEq, if_true, if_false, eq_self, u3, u4, b1, b2, b3, kf_3le c1, kf_lt3 c1, kf_7lt c1, kf_6lt c1, kf_7le c1, kf_lt7 c1, kf_2lt c1, kf_lt0 c1, kf_e0 c1, kf_e1 c1, kf_e2 c1, kf_e3 c1, kf_e4 c1, kf_e5 c1, kf_e6 c1, kf_e7 c1, kf_e8 c1, q7, q8, q3]
      try rw [e81_26]
      try simp only [e81_27, e81_30, e81_31, e81_32, e81_35, e81_38, e81_40, e81_41, e81_44, e81_45, e81_46, e81_72, e81_73, t59, mw0 hW, mr1 hW, mk1 hW, mn1 hW, mr2 hW, mk2 hW, mn2 hW, mr3 hW, mk3 hW, mn3 hW, mr4 hW, mk4 hW, mn4 hW, mr5 hW, mk5 hW, mn5 hW, Nat.zero_le, Nat.reduceAdd, Nat.reduceLeDiff, reduceIte, rf_c1, int_c1, none_c1, cat_nil, cat_int, cat_long, cat_rf, toList_s, toList_n, true_and, and_true, Option.some.injEq, exists_eq_left', exists_eq_left, reduceCtorEq, if_true, if_false, eq_self, u3, u4, b1, b2, b3, kf_3le c1, kf_lt3 c1, kf_7lt c1, kf_6lt c1, kf_7le c1, kf_lt7 c1, kf_2lt c1, kf_lt0 c1, kf_e0 c1, kf_e1 c1, kf_e2 c1, kf_e3 c1, kf_e4 c1, kf_e5 c1, kf_e6 c1, kf_e7 c1, kf_e8 c1, q7, q8, q3]
      try simp
    · have e : own Z u = sumL (zm Z u) (zl Z u) := by unfold own; rw [if_pos (by omega)]
      rw [e]
      have g := lp (by omega) (zl Z u) 0 (by omega)
      have g : Ev (81, 26, [some (va_rf (some m)), some (.int (nI u)), some (.long 0), none, some (.int 0)], [], S) (some (.long (sumL (zm Z u) (zl Z u))), S) := g
      simp only [e81_0, e81_1, e81_4, e81_5, e81_6, e81_8, e81_11, e81_12, e81_15, e81_16, e81_17, e81_18, e81_21, e81_22, e81_23, e81_24, mw0 hW, mr1 hW, mk1 hW, mn1 hW, mr2 hW, mk2 hW, mn2 hW, mr3 hW, mk3 hW, mn3 hW, mr4 hW, mk4 hW, mn4 hW, mr5 hW, mk5 hW, mn5 hW, Nat.zero_le, Nat.reduceAdd, Nat.reduceLeDiff, reduceIte, rf_c1, int_c1, none_c1, cat_nil, cat_int, cat_long, cat_rf, toList_s, toList_n, true_and, and_true, Option.some.injEq, exists_eq_left', exists_eq_left, reduceCtorEq, if_true, if_false, eq_self, u3, u4, b1, kf_3le c1, kf_lt3 c1, kf_7lt c1, kf_6lt c1, kf_7le c1, kf_lt7 c1, kf_2lt c1, kf_lt0 c1, kf_e0 c1, kf_e1 c1, kf_e2 c1, kf_e3 c1, kf_e4 c1, kf_e5 c1, kf_e6 c1, kf_e7 c1, kf_e8 c1, q7, q8]
      exact g
theorem MX_heavy {S : ns_St} {X : Dx} (h : MX S m A Z X) {f : Nat} (hf : f = 16 ∨ f = 18) (u : Nat) (x : Int64) : MX (qJ S (A f) u x) m A Z X := by
  obtain ⟨hR, h1, h2, h3, h4⟩ := h
  have hW := hR.1
  exact ⟨MR_same hR rfl rfl rfl (fun g _ => rfl) (fun g _ => rfl) (by
    funext i
    rw [qJ_aJ, if_neg (fun z => absurd ((mwi hW (show 5 < 20 by decide) (by omega)).mp z.1) (by omega))]), h1, h2, h3, h4⟩
theorem m_wgtin (hZ : ZI Z) {u : Nat} (hu : u < zn Z) {S : ns_St} {X : Dx} (h : MX S m A Z X) {w : Nat → Int64} (hc : ∀ p c, p < chl Z u → zh Z u p = some c → c ≠ u ∧ aJ S (A 16) c = w c) {l1 l2 : Option Value} (y0 : Int64) : ∀ (k i : Nat), i + k = chl Z u → ∀ r, Ev (82, 103, [some (va_rf (some m)), l1, l2, some (.int (nI u)), some (.int (nI (chl Z u)))], [], qJ S (A 16) u (y0 + smp (zh Z) w u (chl Z u))) r → Ev (82, 51, [some (va_rf (some m)), l1, l2, some (.int (nI u)), some (.int (nI i))], [], qJ S (A 16) u (y0 + smp (zh Z) w u i)) r := by
  have hn := hZ.1
  have hcl : chl Z u ≤ 500 := by
    unfold chl
    have := (hZ.2.1 u hu).2.1
    split <;> omega
  have u3 : (nI u).toNatClampNeg = u := nI_clamp (by omega)
  have u4 := in_ok (show u < 2000 by omega) (by omega)
  intro k
  induction k with
  | zero =>
    intro i hi r hr
    have e : i = chl Z u := by omega
    subst e
    have hM := MX_heavy h (f := 16) (Or.inl rfl) u (y0 + smp (zh Z) w u (chl Z u))
    have z : nI (chl Z u) ≤ nI (chl Z u) := nI_le (Nat.le_refl _) (by omega)
    rw [e82_51]
    simp only [e82_53, e82_54, e82_55, e82_58, t62z hM.1 hZ hu, mw0 hM.1.1, mr16 hM.1.1, mk16 hM.1.1, mn16 hM.1.1, Nat.zero_le, Nat.reduceAdd, Nat.reduceLeDiff, reduceIte, rf_c1, int_c1, none_c1, cat_nil, cat_int, cat_long, cat_rf, toList_s, toList_n, true_and, and_true, Option.some.injEq, exists_eq_left', exists_eq_left, reduceCtorEq, if_true, if_false, eq_self, z]
    exact hr
  | succ k ih =>
    intro i hi r hr
    have hlt : i < chl Z u := by omega
    have z : ¬ nI (chl Z u) ≤ nI i := nI_ge hlt (by omega)
    have hM := MX_heavy h (f := 16) (Or.inl rfl) u (y0 + smp (zh Z) w u i)
    have hR := hM.1
    have hW : MW S m A := h.1.1
    have g := ih (i + 1) (by omega) r hr
    have v1 : aJ (qJ S (A 16) u (y0 + smp (zh Z) w u i)) (A 16) u = y0 + smp (zh Z) w u i := by rw [qJ_aJ, if_pos ⟨rfl, rfl⟩]
    cases hz : zh Z u i with
    | none =>
      have e1 : y0 + smp (zh Z) w u (i + 1) = y0 + smp (zh Z) w u i + 0 := by
        show y0 + (smp (zh Z) w u i + _) = _
        rw [hz, Int64.add_assoc]
      rw [e1] at g
      have k1 : chI none = -1 := rfl
      rw [e82_51]
      simp only [e82_53, e82_54, e82_55, e82_58, e82_61, e82_62, e82_65, e82_66, e82_67, e82_68, e82_69, e82_70, e82_72, e82_75, e82_76, e82_79, e82_80, e82_83, e82_84, e82_87, e82_88, e82_89, e82_91, e82_94, e82_95, e82_96, e82_97, e82_100, t62z hR hZ hu, t61z hR hZ hu hlt, hz, k1, mw0 hW, mr16 hW, mk16 hW, mn16 hW, qJ_fR, qJ_ns_k, qJ_ns_n, Nat.zero_le, Nat.reduceAdd, Nat.reduceLeDiff, reduceIte, rf_c1, int_c1, none_c1, cat_nil, cat_int, cat_long, cat_rf, toList_s, toList_n, true_and, and_true, Option.some.injEq, exists_eq_left', exists_eq_left, reduceCtorEq, if_true, if_false, eq_self, z, nI_1, u3, u4, v1, qJ_qJ]
      exact g
    | some c =>
      have hcn := zch hZ u i c hu hlt hz
      obtain ⟨hcu, hcw⟩ := hc i c hlt hz
      have e1 : y0 + smp (zh Z) w u (i + 1) = y0 + smp (zh Z) w u i + w c := by
        show y0 + (smp (zh Z) w u i + _) = _
        rw [hz, Int64.add_assoc]
      rw [e1] at g
      have k1 : chI (some c) = nI c := rfl
      have c2 : ¬ nI c = -1 := fun z => (nI_pos (n := c) (by omega)) (by rw [z]; decide)
      have c3 : (nI c).toNatClampNeg = c := nI_clamp (by omega)
      have c4 := in_ok (show c < 2000 by omega) (by omega)
      have v2 : aJ (qJ S (A 16) u (y0 + smp (zh Z) w u i)) (A 16) c = w c := by rw [qJ_aJ, if_neg (fun z => hcu z.2)]; exact hcw
      rw [e82_51]
      simp only [e82_53, e82_54, e82_55, e82_58, e82_61, e82_62, e82_65, e82_66, e82_67, e82_68, e82_69, e82_70, e82_72, e82_75, e82_76, e82_79, e82_80, e82_83, e82_84, e82_87, e82_88, e82_89, e82_91, e82_94, e82_95, e82_96, e82_97, e82_100, t62z hR hZ hu, t61z hR hZ hu hlt, hz, k1, mw0 hW, mr16 hW, mk16 hW, mn16 hW, qJ_fR, qJ_ns_k, qJ_ns_n, Nat.zero_le, Nat.reduceAdd, Nat.reduceLeDiff, reduceIte, rf_c1, int_c1, none_c1, cat_nil, cat_int, cat_long, cat_rf, toList_s, toList_n, true_and, and_true, Option.some.injEq, exists_eq_left', exists_eq_left, reduceCtorEq, if_true, if_false, eq_self, z, nI_1, u3, u4, v1, v2, c2, c3, c4, qJ_qJ]
      exact g
theorem m_wgts (hZ : ZI Z) {X : Dx} (hI : dInv (chl Z) (zh Z) (zn Z) X) (hr : X.2.2.2.2.1 = false) {l1 : Int32} : ∀ (k : Nat) (a b : List Nat) (S : ns_St) (l3 l4 : Option Value), b.length = k → X.2.2.2.1 = a ++ b → MX S m A Z X → (∀ u, u ∈ a → aJ S (A 16) u = wtF (chl Z) (zh Z) (own Z) a u) → ∃ S' l3' l4', sz0 S S' ∧ MX S' m A Z X ∧ fI S' 407 m = fI S 407 m ∧ (∀ u, u ∈ X.2.2.2.1 → aJ S' (A 16) u = wtF (chl Z) (zh Z) (own Z) X.2.2.2.1 u) ∧ ∀ r, Ev (82, 109, [some (va_rf (some m)), some (.int l1), some (.int (nI X.2.2.2.1.length)), l3', l4'], [], S') r → Ev (82, 22, [some (va_rf (some m)), some (.int l1), some (.int (nI a.length)), l3, l4], [], S) r := by
  have hn := hZ.1
  obtain ⟨ls1, ls2, ls3⟩ := stk_len hZ hI
  intro k
  induction k with
  | zero =>
    intro a b S l3 l4 hb hab hX ha
    have e : b = [] := List.length_eq_zero_iff.mp hb
    subst e
    rw [List.append_nil] at hab
    refine ⟨S, l3, l4, ⟨rfl, rfl⟩, hX, rfl, by rw [hab]; exact ha, fun r hr' => ?_⟩
    obtain ⟨hR, -, -, ⟨h3, -⟩, -⟩ := id hX
    have hW := hR.1
    rw [hab] at h3 hr'
    have z : nI a.length ≤ nI a.length := nI_le (Nat.le_refl _) (by rw [hab] at ls3; omega)
    simp only [e82_22, e82_23, e82_24, e82_27, mw0 hW, mr16 hW, mk16 hW, mn16 hW, Nat.zero_le, Nat.reduceAdd, Nat.reduceLeDiff, reduceIte, rf_c1, int_c1, none_c1, cat_nil, cat_int, cat_long, cat_rf, toList_s, toList_n, true_and, and_true, Option.some.injEq, exists_eq_left', exists_eq_left, reduceCtorEq, if_true, if_false, eq_self, h3, z]
    exact hr'
  | succ k ih =>
    intro a b S l3 l4 hb hab hX ha
    match b, hb, hab with
    | u :: b, hb, hab =>
      obtain ⟨hR, -, -, ⟨h3, h3'⟩, -⟩ := id hX
      have hW := hR.1
      have hup : u ∈ X.2.2.2.1 := by rw [hab]; simp
      have hum : X.2.1 u = 2 := (hI.2.2.2.2.2.1.2 u).mp hup
      have hun : u < zn Z := hI.2.2.2.2.2.2.1 u (by rw [hum]; decide)
      have hlen : a.length < X.2.2.2.1.length := by rw [hab]; simp
      have hget : aI S (A 10) a.length = nI u := by
        rw [h3' a.length hlen, hab]
        simp [List.getD_eq_getElem?_getD]
      have hua : u ∉ a := by
        have := hI.2.2.2.2.2.1.1
        rw [hab, List.nodup_append] at this
        exact fun z => this.2.2 u z u (by simp) rfl
      have hch : ∀ p c, p < chl Z u → zh Z u p = some c → c ∈ a := fun p c hp hc => (hI.2.2.2.2.2.2.2 hr).2 a u b hab p c hp hc
      have gi := m_wgtin (l1 := some (.int l1)) (l2 := some (.int (nI a.length))) (w := wtF (chl Z) (zh Z) (own Z) a) hZ hun hX (fun p c hp hc => ⟨fun z => hua (z ▸ hch p c hp hc), ha c (hch p c hp hc)⟩) (own Z u) (chl Z u) 0 (by omega)
      have hX' := MX_heavy hX (f := 16) (Or.inl rfl) u (own Z u + smp (zh Z) (wtF (chl Z) (zh Z) (own Z) a) u (chl Z u))
      obtain ⟨S', l3', l4', q1, q2, q2', q3, q4⟩ := ih (a ++ [u]) b _ (some (.int (nI u))) (some (.int (nI (chl Z u)))) (by simpa using hb) (by rw [hab]; simp) hX' (fun v hv => by
        rw [qJ_aJ, wtF_snoc]
        by_cases y : v = u
        · subst y
          rw [if_pos ⟨rfl, rfl⟩, va_up_self]
        · rw [if_neg (fun z => y z.2), va_up_ne _ _ y]
          exact ha v (by
            rcases List.mem_append.mp hv with z | z
            · exact z
            · simp at z; exact absurd z y))
      refine ⟨S', l3', l4', q1, q2, q2', q3, fun r hr' => ?_⟩
      have z : ¬ nI X.2.2.2.1.length ≤ nI a.length := nI_ge hlen (by omega)
      have a3 : (nI a.length).toNatClampNeg = a.length := nI_clamp (by omega)
      have a4 := in_ok (show a.length < 2000 by omega) (by omega)
      have u3 : (nI u).toNatClampNeg = u := nI_clamp (by omega)
      have u4 := in_ok (show u < 2000 by omega) (by omega)
      have q5 := q4 r hr'
      simp only [List.length_append, List.length_cons, List.length_nil] at q5
      have g0 := gi r (by
        simp only [e82_103, e82_106, Nat.zero_le, Nat.reduceAdd, Nat.reduceLeDiff, reduceIte, rf_c1, int_c1, none_c1, cat_nil, cat_int, cat_long, cat_rf, toList_s, toList_n, true_and, and_true, Option.some.injEq, exists_eq_left', exists_eq_left, reduceCtorEq, if_true, if_false, eq_self, nI_1]
        simpa using q5)
      have m0 : own Z u + smp (zh Z) (wtF (chl Z) (zh Z) (own Z) a) u 0 = own Z u := by
        show own Z u + 0 = own Z u
        rw [Int64.add_zero]
      rw [m0] at g0
      have g0 : Ev (82, 51, [some (va_rf (some m)), some (.int l1), some (.int (nI a.length)), some (.int (nI u)), some (.int 0)], [], qJ S (A 16) u (own Z u)) r := g0
      rw [e82_22]
      simp only [e82_23, e82_24, e82_27, e82_30, e82_31, e82_34, e82_35, e82_36, e82_37, e82_38, e82_41, e82_42, e82_43, e82_44, e82_47, e82_48, e82_49, Ev_is (m_own hR hZ hun), mw0 hW, mr10 hW, mk10 hW, mn10 hW, mr16 hW, mk16 hW, mn16 hW, Nat.zero_le, Nat.reduceAdd, Nat.reduceLeDiff, reduceIte, rf_c1, int_c1, none_c1, cat_nil, cat_int, cat_long, cat_rf, toList_s, toList_n, true_and, and_true, Option.some.injEq, exists_eq_left', exists_eq_left, reduceCtorEq, if_true, if_false, eq_self, h3, z, a3, a4, u3, u4, hget]
      exact g0
def wtZ (Z : Zs) (s : Nat) : Int64 := wtF (chl Z) (zh Z) (own Z) (wkE Z s).2.2.2.1 s
def o_weight (Z : Zs) (t : Int32) : Int64 × Zs := (match zt (zn Z) t with
  | none => -1
  | some s => if rf Z t = 0 then wtZ Z s else -1, wS Z (rf Z t))
theorem MX_wS {S : ns_St} {X : Dx} (h : MX S m A Z X) (x : Int32) : MX (pI S 407 m x) m A (wS Z x) X := by
  obtain ⟨hR, h1, ⟨h2, h2'⟩, ⟨h3, h3'⟩, h4⟩ := h
  exact ⟨MR_wS hR x, h1, ⟨by rw [pI_fI, if_neg (by omega)]; exact h2, h2'⟩, ⟨by rw [pI_fI, if_neg (by omega)]; exact h3, h3'⟩, h4⟩
theorem m_weight {S : ns_St} (h : MR S m A Z) (hZ : ZI Z) (t : Int32) : ∃ S', Ev (82, 0, [some (va_rf (some m)), some (.int t), none, none, none], [], S) (some (.long (o_weight Z t).1), S') ∧ MR S' m A (o_weight Z t).2 ∧ sz0 S S' := by
  have hn := hZ.1
  have hW := h.1
  obtain ⟨S1, g1, g2, g3, g4⟩ := m_go h hZ t
  have hW1 := g2.1
  rcases zt_cases (n := zn Z) (by omega) t with ⟨e, g⟩ | ⟨s, hs, rfl, e⟩
  · refine ⟨pI S1 407 m (rf Z t), ?_, MR_wS g2 _, g3⟩
    have r1 : rf Z t = 1 := by unfold rf; rw [e]
    rw [r1] at g1 ⊢
    simp only [e82_0, e82_1, e82_2, e82_3, e82_6, e82_9, e82_10, e82_13, e82_16, e82_19, e82_20, e82_21, e82_22, e82_23, e82_24, e82_27, e82_30, e82_31, e82_34, e82_35, e82_36, e82_37, e82_38, e82_41, e82_42, e82_43, e82_44, e82_47, e82_48, e82_49, e82_51, e82_53, e82_54, e82_55, e82_58, e82_61, e82_62, e82_65, e82_66, e82_67, e82_68, e82_69, e82_70, e82_72, e82_75, e82_76, e82_79, e82_80, e82_83, e82_84, e82_87, e82_88, e82_89, e82_91, e82_94, e82_95, e82_96, e82_97, e82_100, e82_103, e82_106, e82_109, e82_110, e82_113, e82_114, e82_115, Ev_is g1, mw0 hW, mw0 hW1, mr16 hW1, mk16 hW1, mn16 hW1, pI_ns_z, pI_ns_s, pI_ns_k, pI_ns_n, pI_fI, pI_fJ, pI_fR, pI_aI, pI_aJ, pI_aR, pJ_ns_z, pJ_ns_s, pJ_ns_k, pJ_ns_n, pJ_fI, pJ_fJ, pJ_fR, pJ_aI, pJ_aJ, pJ_aR, pR_ns_z, pR_ns_s, pR_ns_k, pR_ns_n, pR_fI, pR_fJ, pR_fR, pR_aI, pR_aJ, pR_aR, qI_ns_z, qI_ns_s, qI_ns_k, qI_ns_n, qI_fI, qI_fJ, qI_fR, qI_aI, qI_aJ, qI_aR, qJ_ns_z, qJ_ns_s, qJ_ns_k, qJ_ns_n, qJ_fI, qJ_fJ, qJ_fR, qJ_aI, qJ_aJ, qJ_aR, qR_ns_z, qR_ns_s, qR_ns_k, qR_ns_n, qR_fI, qR_fJ, qR_fR, qR_aI, qR_aJ, qR_aR, nO_ns_z, nO_ns_s, nO_ns_k, nO_ns_n, nO_fI, nO_fJ, nO_fR, nO_aI, nO_aJ, nO_aR, nA_ns_z, nA_ns_s, nA_ns_k, nA_ns_n, nA_fI, nA_fJ, nA_fR, nA_aI, nA_aJ, nA_aR, nC_ns_z, nC_ns_s, nC_ns_k, nC_ns_n, nC_fI, nC_fJ, nC_fR, nC_aI, nC_aJ, nC_aR, Nat.zero_le, Nat.reduceAdd, Nat.reduceLeDiff, reduceIte, rf_c1, int_c1, none_c1, cat_nil, cat_int, cat_long, cat_rf, toList_s, toList_n, true_and, and_true, Option.some.injEq, exists_eq_left', exists_eq_left, reduceCtorEq, if_true, if_false, eq_self, o_weight, e]
    simp
  · obtain ⟨a1, a2, a3⟩ := there_ok hs (by omega)
    have a4 := in_ok (show s < 2000 by omega) (by omega)
    by_cases y : rf Z (nI s) = 0
    · have hr : (wkE Z s).2.2.2.2.1 = false := by
        cases hh : (wkE Z s).2.2.2.2.1 with
        | true =>
          unfold rf at y
          rw [e] at y
          simp only [hh, if_true] at y
          exact absurd y (by decide)
        | false => rfl
      obtain ⟨q1, q2⟩ := g4 s e hr
      obtain ⟨k1, k2, k3⟩ := wkE_ok hZ hs
      have hX := MX_wS q1 0
      obtain ⟨S', l3', l4', w1, w2, w2', w3, w4⟩ := m_wgts (Z := wS Z 0) (l1 := nI s) hZ k1 hr _ [] (wkE Z s).2.2.2.1 (pI S1 407 m 0) none none rfl rfl hX (fun u hu => by cases hu)
      have w5 : aJ S' (A 16) s = wtZ Z s := w3 s k3
      refine ⟨S', ?_, ?_, ⟨w1.1.trans g3.1, w1.2.trans g3.2⟩⟩
      · have hW' := w2.1.1
        have w6 := w4 (some (.long (wtZ Z s)), S') (by
          simp only [e82_109, e82_110, e82_113, e82_114, e82_115, mw0 hW', mr16 hW', mk16 hW', mn16 hW', Nat.zero_le, Nat.reduceAdd, Nat.reduceLeDiff, reduceIte, rf_c1, int_c1, none_c1, cat_nil, cat_int, cat_long, cat_rf, toList_s, toList_n, true_and, and_true, Option.some.injEq, exists_eq_left', exists_eq_left, reduceCtorEq, if_true, if_false, eq_self, a3, a4, w5])
        have w6 : Ev (82, 22, [some (va_rf (some m)), some (.int (nI s)), some (.int 0), none, none], [], pI S1 407 m 0) (some (.long (wtZ Z s)), S') := w6
        rw [y] at g1
        simp only [e82_0, e82_1, e82_2, e82_3, e82_6, e82_9, e82_10, e82_13, e82_16, e82_19, e82_20, e82_21, Ev_is g1, mw0 hW, mw0 hW1, mr16 hW1, mk16 hW1, mn16 hW1, pI_ns_z, pI_ns_s, pI_ns_k, pI_ns_n, pI_fI, pI_fJ, pI_fR, pI_aI, pI_aJ, pI_aR, pJ_ns_z, pJ_ns_s, pJ_ns_k, pJ_ns_n, pJ_fI, pJ_fJ, pJ_fR, pJ_aI, pJ_aJ, pJ_aR, pR_ns_z, pR_ns_s, pR_ns_k, pR_ns_n, pR_fI, pR_fJ, pR_fR, pR_aI, pR_aJ, pR_aR, qI_ns_z, qI_ns_s, qI_ns_k, qI_ns_n, qI_fI, qI_fJ, qI_fR, qI_aI, qI_aJ, qI_aR, qJ_ns_z, qJ_ns_s, qJ_ns_k, qJ_ns_n, qJ_fI, qJ_fJ, qJ_fR, qJ_aI, qJ_aJ, qJ_aR, qR_ns_z, qR_ns_s, qR_ns_k, qR_ns_n, qR_fI, qR_fJ, qR_fR, qR_aI, qR_aJ, qR_aR, nO_ns_z, nO_ns_s, nO_ns_k, nO_ns_n, nO_fI, nO_fJ, nO_fR, nO_aI, nO_aJ, nO_aR, nA_ns_z, nA_ns_s, nA_ns_k, nA_ns_n, nA_fI, nA_fJ, nA_fR, nA_aI, nA_aJ, nA_aR, nC_ns_z, nC_ns_s, nC_ns_k, nC_ns_n, nC_fI, nC_fJ, nC_fR, nC_aI, nC_aJ, nC_aR, Nat.zero_le, Nat.reduceAdd, Nat.reduceLeDiff, reduceIte, rf_c1, int_c1, none_c1, cat_nil, cat_int, cat_long, cat_rf, toList_s, toList_n, true_and, and_true, Option.some.injEq, exists_eq_left', exists_eq_left, reduceCtorEq, if_true, if_false, eq_self, o_weight, e, y]
        exact w6
      · have e2 : (o_weight Z (nI s)).2 = wS Z 0 := by unfold o_weight; rw [y]
        rw [e2]
        exact w2.1
    · refine ⟨pI S1 407 m (rf Z (nI s)), ?_, MR_wS g2 _, g3⟩
      simp only [e82_0, e82_1, e82_2, e82_3, e82_6, e82_9, e82_10, e82_13, e82_16, e82_19, e82_20, e82_21, Ev_is g1, mw0 hW, mw0 hW1, mr16 hW1, mk16 hW1, mn16 hW1, pI_ns_z, pI_ns_s, pI_ns_k, pI_ns_n, pI_fI, pI_fJ, pI_fR, pI_aI, pI_aJ, pI_aR, pJ_ns_z, pJ_ns_s, pJ_ns_k, pJ_ns_n, pJ_fI, pJ_fJ, pJ_fR, pJ_aI, pJ_aJ, pJ_aR, pR_ns_z, pR_ns_s, pR_ns_k, pR_ns_n, pR_fI, pR_fJ, pR_fR, pR_aI, pR_aJ, pR_aR, qI_ns_z, qI_ns_s, qI_ns_k, qI_ns_n, qI_fI, qI_fJ, qI_fR, qI_aI, qI_aJ, qI_aR, qJ_ns_z, qJ_ns_s, qJ_ns_k, qJ_ns_n, qJ_fI, qJ_fJ, qJ_fR, qJ_aI, qJ_aJ, qJ_aR, qR_ns_z, qR_ns_s, qR_ns_k, qR_ns_n, qR_fI, qR_fJ, qR_fR, qR_aI, qR_aJ, qR_aR, nO_ns_z, nO_ns_s, nO_ns_k, nO_ns_n, nO_fI, nO_fJ, nO_fR, nO_aI, nO_aJ, nO_aR, nA_ns_z, nA_ns_s, nA_ns_k, nA_ns_n, nA_fI, nA_fJ, nA_fR, nA_aI, nA_aJ, nA_aR, nC_ns_z, nC_ns_s, nC_ns_k, nC_ns_n, nC_fI, nC_fJ, nC_fR, nC_aI, nC_aJ, nC_aR, Nat.zero_le, Nat.reduceAdd, Nat.reduceLeDiff, reduceIte, rf_c1, int_c1, none_c1, cat_nil, cat_int, cat_long, cat_rf, toList_s, toList_n, true_and, and_true, Option.some.injEq, exists_eq_left', exists_eq_left, reduceCtorEq, if_true, if_false, eq_self, o_weight, e, y]
end WGT
