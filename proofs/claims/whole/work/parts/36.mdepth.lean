/-! ===== depths and weights, as the order of leaving gives them; the reference's depths ===== -/
section DEP
variable (hk : Nat → Nat) (ch : Nat → Nat → Option Nat)
def mxp (d : Nat → Nat) (u : Nat) : Nat → Nat
  | 0 => 0
  | p + 1 => max (mxp d u p) (match ch u p with
    | none => 0
    | some c => d c)
def smp (w : Nat → Int64) (u : Nat) : Nat → Int64
  | 0 => 0
  | p + 1 => smp w u p + (match ch u p with
    | none => 0
    | some c => w c)
def dpF (l : List Nat) : Nat → Nat := l.foldl (fun d u => va_up d u (mxp ch d u (hk u) + 1)) (fun _ => 0)
def wtF (ow : Nat → Int64) (l : List Nat) : Nat → Int64 := l.foldl (fun w u => va_up w u (ow u + smp ch w u (hk u))) (fun _ => 0)
theorem dpF_snoc (l : List Nat) (u : Nat) : dpF hk ch (l ++ [u]) = va_up (dpF hk ch l) u (mxp ch (dpF hk ch l) u (hk u) + 1) := by
  unfold dpF
  rw [List.foldl_append]
  rfl
theorem wtF_snoc (ow : Nat → Int64) (l : List Nat) (u : Nat) : wtF hk ch ow (l ++ [u]) = va_up (wtF hk ch ow l) u (ow u + smp ch (wtF hk ch ow l) u (hk u)) := by
  unfold wtF
  rw [List.foldl_append]
  rfl
theorem mxp_le {d : Nat → Nat} {b : Nat} (h : ∀ c, d c ≤ b) (u : Nat) : ∀ p, mxp ch d u p ≤ b
  | 0 => Nat.zero_le _
  | p + 1 => by
    have := mxp_le h u p
    unfold mxp
    cases ch u p with
    | none => exact Nat.max_le.mpr ⟨this, Nat.zero_le _⟩
    | some c => exact Nat.max_le.mpr ⟨this, h c⟩
theorem dpF_le : ∀ (k : Nat) (l : List Nat), l.length = k → ∀ v, dpF hk ch l v ≤ k := by
  intro k
  induction k with
  | zero =>
    intro l hl v
    cases l with
    | nil => exact Nat.le_refl _
    | cons a t => simp at hl
  | succ k ih =>
    intro l hl v
    rcases List.eq_nil_or_concat l with e | ⟨t, u, e⟩
    · subst e; simp at hl
    · rw [List.concat_eq_append] at e
      subst e
      have ht : t.length = k := by simp at hl; exact hl
      rw [dpF_snoc]
      have h1 := ih t ht
      by_cases y : v = u
      · subst y
        rw [va_up_self]
        have := mxp_le ch h1 v (hk v)
        omega
      · rw [va_up_ne _ _ y]
        have := h1 v
        omega
end DEP
section MDEP
variable {m : Nat} {A : Nat → Nat} {Z : Zs}
theorem m_depin (hZ : ZI Z) {u : Nat} (hu : u < zn Z) {S : ns_St} (h : MR S m A Z) {d : Nat → Nat} (hd : ∀ c, d c ≤ 2000) (hc : ∀ p c, p < chl Z u → zh Z u p = some c → aI S (A 15) c = nI (d c)) {l1 : Option Value} : ∀ (k i : Nat) (l5 : Option Value), i + k = chl Z u → ∃ l5', ∀ r, Ev (79, 76, [some (va_rf (some m)), l1, some (.int (nI u)), some (.int (nI (mxp (zh Z) d u (chl Z u)))), some (.int (nI (chl Z u))), l5'], [], S) r → Ev (79, 22, [some (va_rf (some m)), l1, some (.int (nI u)), some (.int (nI (mxp (zh Z) d u i))), some (.int (nI i)), l5], [], S) r := by
  have hn := hZ.1
  have hW := h.1
  have hcl : chl Z u ≤ 500 := by
    unfold chl
    have := (hZ.2.1 u hu).2.1
    split <;> omega
  intro k
  induction k with
  | zero =>
    intro i l5 hi
    have e : i = chl Z u := by omega
    subst e
    refine ⟨l5, fun r hr => ?_⟩
    have z : nI (chl Z u) ≤ nI (chl Z u) := nI_le (Nat.le_refl _) (by omega)
    rw [e79_22]
    simp only [e79_24, e79_25, e79_26, e79_29, t62z h hZ hu, mw0 hW, mr15 hW, mk15 hW, mn15 hW, Nat.zero_le, Nat.reduceAdd, Nat.reduceLeDiff, reduceIte, rf_c1, int_c1, none_c1, cat_nil, cat_int, cat_long, cat_rf, toList_s, toList_n, true_and, and_true, Option.some.injEq, exists_eq_left', exists_eq_left, reduceCtorEq, if_true, if_false, eq_self, z]
    exact hr
  | succ k ih =>
    intro i l5 hi
    have hlt : i < chl Z u := by omega
    have z : ¬ nI (chl Z u) ≤ nI i := nI_ge hlt (by omega)
    cases hz : zh Z u i with
    | none =>
      obtain ⟨l5', g⟩ := ih (i + 1) (some (.int (-1))) (by omega)
      refine ⟨l5', fun r hr => ?_⟩
      have g1 := g r hr
      have e1 : mxp (zh Z) d u (i + 1) = mxp (zh Z) d u i := by
        show max _ _ = _
        rw [hz]
        exact Nat.max_eq_left (Nat.zero_le _)
      rw [e1] at g1
      have k1 : chI none = -1 := rfl
      rw [e79_22]
      simp only [e79_24, e79_25, e79_26, e79_29, e79_32, e79_33, e79_34, e79_36, e79_39, e79_41, e79_43, e79_44, e79_47, e79_48, e79_51, e79_53, e79_54, e79_55, e79_58, e79_59, e79_62, e79_64, e79_65, e79_68, e79_69, e79_70, e79_73, t62z h hZ hu, t61z h hZ hu hlt, hz, k1, mw0 hW, mr15 hW, mk15 hW, mn15 hW, Nat.zero_le, Nat.reduceAdd, Nat.reduceLeDiff, reduceIte, rf_c1, int_c1, none_c1, cat_nil, cat_int, cat_long, cat_rf, toList_s, toList_n, true_and, and_true, Option.some.injEq, exists_eq_left', exists_eq_left, reduceCtorEq, if_true, if_false, eq_self, z, nI_1]
      exact g1
    | some c =>
      have hcn := zch hZ u i c hu hlt hz
      obtain ⟨l5', g⟩ := ih (i + 1) (some (.int (nI c))) (by omega)
      refine ⟨l5', fun r hr => ?_⟩
      have g1 := g r hr
      have k1 : chI (some c) = nI c := rfl
      have c2 : ¬ nI c = -1 := fun z => (nI_pos (n := c) (by omega)) (by rw [z]; decide)
      have c3 : (nI c).toNatClampNeg = c := nI_clamp (by omega)
      have c4 := in_ok (show c < 2000 by omega) (by omega)
      have c5 := hc i c hlt hz
      have hm := mxp_le (zh Z) hd u i
      have hdc := hd c
      have c6 : (nI (d c) ≤ nI (mxp (zh Z) d u i)) ↔ d c ≤ mxp (zh Z) d u i := nI_leI (by omega) (by omega)
      have e1 : mxp (zh Z) d u (i + 1) = max (mxp (zh Z) d u i) (d c) := by
        show max _ _ = _
        rw [hz]
      rw [e1] at g1
      rw [e79_22]
      by_cases w : d c ≤ mxp (zh Z) d u i
      · rw [Nat.max_eq_left w] at g1
        simp only [e79_24, e79_25, e79_26, e79_29, e79_32, e79_33, e79_34, e79_36, e79_39, e79_41, e79_43, e79_44, e79_47, e79_48, e79_51, e79_53, e79_54, e79_55, e79_58, e79_59, e79_62, e79_64, e79_65, e79_68, e79_69, e79_70, e79_73, t62z h hZ hu, t61z h hZ hu hlt, hz, k1, mw0 hW, mr15 hW, mk15 hW, mn15 hW, Nat.zero_le, Nat.reduceAdd, Nat.reduceLeDiff, reduceIte, rf_c1, int_c1, none_c1, cat_nil, cat_int, cat_long, cat_rf, toList_s, toList_n, true_and, and_true, Option.some.injEq, exists_eq_left', exists_eq_left, reduceCtorEq, if_true, if_false, eq_self, z, nI_1, c2, c3, c4, c5, c6, w]
        exact g1
      · rw [Nat.max_eq_right (by omega)] at g1
        simp only [e79_24, e79_25, e79_26, e79_29, e79_32, e79_33, e79_34, e79_36, e79_39, e79_41, e79_43, e79_44, e79_47, e79_48, e79_51, e79_53, e79_54, e79_55, e79_58, e79_59, e79_62, e79_64, e79_65, e79_68, e79_69, e79_70, e79_73, t62z h hZ hu, t61z h hZ hu hlt, hz, k1, mw0 hW, mr15 hW, mk15 hW, mn15 hW, Nat.zero_le, Nat.reduceAdd, Nat.reduceLeDiff, reduceIte, rf_c1, int_c1, none_c1, cat_nil, cat_int, cat_long, cat_rf, toList_s, toList_n, true_and, and_true, Option.some.injEq, exists_eq_left', exists_eq_left, reduceCtorEq, if_true, if_false, eq_self, z, nI_1, c2, c3, c4, c5, c6, w]
        exact g1
theorem MX_deep {S : ns_St} {X : Dx} (h : MX S m A Z X) {f : Nat} (hf : f = 15 ∨ f = 17) (u : Nat) (x : Int32) : MX (qI S (A f) u x) m A Z X := by
  obtain ⟨hR, h1, ⟨h2, h2'⟩, ⟨h3, h3'⟩, h4⟩ := h
  have hW := hR.1
  have row : ∀ g i, g < 20 → g ≠ f → aI (qI S (A f) u x) (A g) i = aI S (A g) i := fun g i hg hne => by
    rw [qI_aI, if_neg (fun z => hne ((mwi hW hg (by omega)).mp z.1))]
  refine ⟨MR_same hR rfl rfl rfl (fun g _ => rfl) (fun g hg => ?_) rfl, fun v hv => by rw [row 8 v (by decide) (by omega)]; exact h1 v hv, ⟨h2, fun i hi => by rw [row 9 i (by decide) (by omega)]; exact h2' i hi⟩, ⟨h3, fun i hi => by rw [row 10 i (by decide) (by omega)]; exact h3' i hi⟩, WY_congr _ (fun i hi => ⟨row 13 i (by decide) (by omega), row 14 i (by decide) (by omega)⟩) h4⟩
  funext i
  have hg' : g = 1 ∨ g = 2 ∨ g = 3 ∨ g = 4 := by simpa using hg
  exact row g i (by omega) (by omega)
theorem m_depths (hZ : ZI Z) {X : Dx} (hI : dInv (chl Z) (zh Z) (zn Z) X) (hr : X.2.2.2.2.1 = false) : ∀ (k : Nat) (a b : List Nat) (S : ns_St) (l2 l3 l4 l5 : Option Value), b.length = k → X.2.2.2.1 = a ++ b → MX S m A Z X → (∀ u, u ∈ a → aI S (A 15) u = nI (dpF (chl Z) (zh Z) a u)) → ∃ S', sz0 S S' ∧ MX S' m A Z X ∧ (∀ u, u ∈ X.2.2.2.1 → aI S' (A 15) u = nI (dpF (chl Z) (zh Z) X.2.2.2.1 u)) ∧ Ev (79, 2, [some (va_rf (some m)), some (.int (nI a.length)), l2, l3, l4, l5], [], S) (none, S') := by
  have hn := hZ.1
  obtain ⟨ls1, ls2, ls3⟩ := stk_len hZ hI
  intro k
  induction k with
  | zero =>
    intro a b S l2 l3 l4 l5 hb hab hX ha
    have e : b = [] := List.length_eq_zero_iff.mp hb
    subst e
    rw [List.append_nil] at hab
    refine ⟨S, ⟨rfl, rfl⟩, hX, by rw [hab]; exact ha, ?_⟩
    obtain ⟨hR, -, -, ⟨h3, -⟩, -⟩ := id hX
    have hW := hR.1
    rw [hab] at h3
    have z : nI a.length ≤ nI a.length := nI_le (Nat.le_refl _) (by rw [hab] at ls3; omega)
    simp only [e79_2, e79_3, e79_4, e79_7, e79_91, mw0 hW, mr15 hW, mk15 hW, mn15 hW, Nat.zero_le, Nat.reduceAdd, Nat.reduceLeDiff, reduceIte, rf_c1, int_c1, none_c1, cat_nil, cat_int, cat_long, cat_rf, toList_s, toList_n, true_and, and_true, Option.some.injEq, exists_eq_left', exists_eq_left, reduceCtorEq, if_true, if_false, eq_self, h3, z]
  | succ k ih =>
    intro a b S l2 l3 l4 l5 hb hab hX ha
    match b, hb, hab with
    | u :: b, hb, hab =>
      obtain ⟨hR, -, -, ⟨h3, h3'⟩, -⟩ := id hX
      have hW := hR.1
      have hup : u ∈ X.2.2.2.1 := by rw [hab]; simp
      have hum : X.2.1 u = 2 := (hI.2.2.2.2.2.1.2 u).mp hup
      have hun : u < zn Z := hI.2.2.2.2.2.2.1 u (by rw [hum]; decide)
      have hlen : a.length < X.2.2.2.1.length := by rw [hab]; simp
      have hget : aI S (A 10) a.length = nI u := by
        rw [h3' a.length hlen, hab]
        simp [List.getD_eq_getElem?_getD]
      have hua : u ∉ a := by
        have := hI.2.2.2.2.2.1.1
        rw [hab, List.nodup_append] at this
        exact fun z => this.2.2 u z u (by simp) rfl
      have hch : ∀ p c, p < chl Z u → zh Z u p = some c → c ∈ a := fun p c hp hc => (hI.2.2.2.2.2.2.2 hr).2 a u b hab p c hp hc
      have hdl : ∀ c, dpF (chl Z) (zh Z) a c ≤ 2000 := fun c => by
        have := dpF_le (chl Z) (zh Z) a.length a rfl c
        omega
      obtain ⟨l5', g⟩ := m_depin (l1 := some (.int (nI a.length))) hZ hun hR hdl (fun p c hp hc => ha c (hch p c hp hc)) (chl Z u) 0 l5 (by omega)
      have hX' := MX_deep hX (f := 15) (Or.inl rfl) u (nI (mxp (zh Z) (dpF (chl Z) (zh Z) a) u (chl Z u) + 1))
      obtain ⟨S', q1, q2, q3, q4⟩ := ih (a ++ [u]) b _ (some (.int (nI u))) (some (.int (nI (mxp (zh Z) (dpF (chl Z) (zh Z) a) u (chl Z u))))) (some (.int (nI (chl Z u)))) l5' (by simpa using hb) (by rw [hab]; simp) hX' (fun v hv => by
        rw [qI_aI, dpF_snoc]
        by_cases y : v = u
        · subst y
          rw [if_pos ⟨rfl, rfl⟩, va_up_self]
        · rw [if_neg (fun z => y z.2), va_up_ne _ _ y]
          exact ha v (by
            rcases List.mem_append.mp hv with z | z
            · exact z
            · simp at z; exact absurd z y))
      refine ⟨S', q1, q2, q3, ?_⟩
      have z : ¬ nI X.2.2.2.1.length ≤ nI a.length := nI_ge hlen (by omega)
      have a3 : (nI a.length).toNatClampNeg = a.length := nI_clamp (by omega)
      have a4 := in_ok (show a.length < 2000 by omega) (by omega)
      have u3 : (nI u).toNatClampNeg = u := nI_clamp (by omega)
      have u4 := in_ok (show u < 2000 by omega) (by omega)
      have g0 := g (none, S') (by
        simp only [e79_76, e79_77, e79_80, e79_81, e79_82, e79_83, e79_84, e79_85, e79_88, mw0 hW, mr15 hW, mk15 hW, mn15 hW, Nat.zero_le, Nat.reduceAdd, Nat.reduceLeDiff, reduceIte, rf_c1, int_c1, none_c1, cat_nil, cat_int, cat_long, cat_rf, toList_s, toList_n, true_and, and_true, Option.some.injEq, exists_eq_left', exists_eq_left, reduceCtorEq, if_true, if_false, eq_self, u3, u4, nI_1]
        simpa using q4)
      have m0 : mxp (zh Z) (dpF (chl Z) (zh Z) a) u 0 = 0 := rfl
      rw [m0] at g0
      have g0 : Ev (79, 22, [some (va_rf (some m)), some (.int (nI a.length)), some (.int (nI u)), some (.int 0), some (.int 0), l5], [], S) (none, S') := g0
      rw [e79_2]
      simp only [e79_3, e79_4, e79_7, e79_10, e79_11, e79_14, e79_15, e79_16, e79_17, e79_18, e79_19, e79_20, mw0 hW, mr10 hW, mk10 hW, mn10 hW, mr15 hW, mk15 hW, mn15 hW, Nat.zero_le, Nat.reduceAdd, Nat.reduceLeDiff, reduceIte, rf_c1, int_c1, none_c1, cat_nil, cat_int, cat_long, cat_rf, toList_s, toList_n, true_and, and_true, Option.some.injEq, exists_eq_left', exists_eq_left, reduceCtorEq, if_true, if_false, eq_self, h3, z, a3, a4, hget]
      exact g0
end MDEP
