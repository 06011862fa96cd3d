/-! ===== equal: the reference's mix and isLike ===== -/
theorem chL_eq {x y : Option Nat} (hx : ∀ c, x = some c → c < 2000) (hy : ∀ c, y = some c → c < 2000) : chL x = chL y ↔ x = y := by
  refine ⟨fun e => ?_, fun e => by rw [e]⟩
  have e2 : chI x = chI y := by rw [← chL_i, ← chL_i, e]
  cases x with
  | none =>
    cases y with
    | none => rfl
    | some c =>
      have := (chI_none (o := some c) (fun d hd => by have := hy d hd; omega)).mp e2.symm
      exact this.symm
  | some b =>
    cases y with
    | none => exact (chI_none (o := some b) (fun d hd => by have := hx d hd; omega)).mp e2
    | some c =>
      have h1 := hx b rfl
      have h2 := hy c rfl
      have := (nI_eq (by omega) (by omega)).mp e2
      rw [this]
theorem chL_neg {x : Option Nat} (hx : ∀ c, x = some c → c < 2000) : chL x < 0 ↔ x = none := by
  cases x with
  | none => exact ⟨fun _ => rfl, fun _ => by decide⟩
  | some c =>
    have h1 := hx c rfl
    refine ⟨fun e => ?_, fun e => by cases e⟩
    have e : lN c < 0 := e
    rw [Int64.lt_iff_toInt_lt, lN_toInt (by omega)] at e
    have : (0 : Int64).toInt = 0 := rfl
    omega
def mxb (Z : Zs) (u : Nat) : Int64 := ((nI (zk Z u)).toInt64 * 31 + (nI (zl Z u)).toInt64) * 31 + (zv Z u).toInt64
def pvZ (Z : Zs) (lik : Nat → Nat) (u i : Nat) : Int64 := if hook (zk Z u) then (match zh Z u i with
  | none => -1
  | some c => (nI (lik c)).toInt64) else zm Z u i
def mxV (Z : Zs) (lik : Nat → Nat) (u : Nat) : Nat → Int64
  | 0 => mxb Z u
  | i + 1 => mxV Z lik u i * 1000003 + pvZ Z lik u i
/-- two places are alike -/
def pqZ (Z : Zs) (lik : Nat → Nat) (a b i : Nat) : Prop := if hook (zk Z a) then oR (fun c d => lik c = lik d) (zh Z a i) (zh Z b i) else zm Z a i = zm Z b i
section MLIKE
variable {S : ns_St} {m : Nat} {A : Nat → Nat} {Z : Zs} {lik : Nat → Nat}
theorem mxV_congr {lik' : Nat → Nat} {u : Nat} (h : ∀ j c, j < chl Z u → zh Z u j = some c → lik' c = lik c) : ∀ i, i ≤ zl Z u → mxV Z lik' u i = mxV Z lik u i
  | 0, _ => rfl
  | i + 1, hi => by
    have e := mxV_congr h i (by omega)
    show mxV Z lik' u i * 1000003 + pvZ Z lik' u i = mxV Z lik u i * 1000003 + pvZ Z lik u i
    rw [e]
    congr 1
    unfold pvZ
    by_cases y : hook (zk Z u)
    · rw [if_pos y, if_pos y]
      cases hz : zh Z u i with
      | none => rfl
      | some c =>
        have : lik' c = lik c := h i c (by unfold chl; rw [if_pos y]; omega) hz
        dsimp only
        rw [this]
    · rw [if_neg y, if_neg y]
theorem mxV_like {a b : Nat} (h1 : zk Z a = zk Z b) (h2 : zl Z a = zl Z b) (h3 : zv Z a = zv Z b) (h : ∀ j, j < zl Z a → pqZ Z lik a b j) : ∀ i, i ≤ zl Z a → mxV Z lik a i = mxV Z lik b i
  | 0, _ => by
    show mxb Z a = mxb Z b
    unfold mxb
    rw [h1, h2, h3]
  | i + 1, hi => by
    have e := mxV_like h1 h2 h3 h i (by omega)
    show mxV Z lik a i * 1000003 + pvZ Z lik a i = mxV Z lik b i * 1000003 + pvZ Z lik b i
    rw [e]
    congr 1
    have q := h i (by omega)
    unfold pqZ at q
    unfold pvZ
    rw [← h1]
    by_cases y : hook (zk Z a)
    · rw [if_pos y] at q
      rw [if_pos y, if_pos y]
      revert q
      cases zh Z a i with
      | none =>
        cases zh Z b i with
        | none => intro _; rfl
        | some d => intro q; exact q.elim
      | some c =>
        cases zh Z b i with
        | none => intro q; exact q.elim
        | some d =>
          intro q
          have q : lik c = lik d := q
          dsimp only
          rw [q]
    · rw [if_neg y] at q
      rw [if_neg y, if_neg y, q]
theorem m_mixin (h : MR S m A Z) (hZ : ZI Z) {u : Nat} (hu : u < zn Z) (hl : ∀ j c, j < chl Z u → zh Z u j = some c → aI S (A 17) c = nI (lik c)) : ∀ (d i : Nat) (l6 l7 : Option Value), i + d = zl Z u → Ev (85, 48, [some (va_rf (some m)), some (.int (nI u)), some (.long (mxV Z lik u i)), none, some (.int (if hook (zk Z u) then 1 else 0)), some (.int (nI i)), l6, l7], [], S) (some (.long (mxV Z lik u (zl Z u))), S) := by
  have hn := hZ.1
  have hW := h.1
  obtain ⟨k8, l5, -, -⟩ := hZ.2.1 u hu
  obtain ⟨v1, v2, v3, v4⟩ := h.2.2.1 u hu
  have u3 : (nI u).toNatClampNeg = u := nI_clamp (by omega)
  have u4 := in_ok (show u < 2000 by omega) (by omega)
  intro d
  induction d with
  | zero =>
    intro i l6 l7 hi
    have e : i = zl Z u := by omega
    subst e
    have z : nI (zl Z u) ≤ nI (zl Z u) := nI_le (Nat.le_refl _) (by omega)
    rw [e85_48]
    simp only [e85_50, e85_51, e85_54, e85_55, e85_56, e85_120, e85_121, mw0 hW, mr2 hW, mk2 hW, mn2 hW, Nat.zero_le, Nat.reduceAdd, Nat.reduceLeDiff, reduceIte, rf_c1, int_c1, none_c1, cat_nil, cat_int, cat_long, cat_rf, toList_s, toList_n, true_and, and_true, Option.some.injEq, exists_eq_left', exists_eq_left, reduceCtorEq, if_true, if_false, eq_self, u3, u4, v2, z]
  | succ d ih =>
    intro i l6 l7 hi
    have hlt : i < zl Z u := by omega
    have z : ¬ nI (zl Z u) ≤ nI i := nI_ge hlt (by omega)
    have b1 := bg_in hZ hu hlt
    have b3 : (nI (bg (zl Z) u + i)).toNatClampNeg = bg (zl Z) u + i := nI_clamp (by omega)
    have b4 := in_ok b1 (by omega)
    have pv := h.2.2.2.2.1 u i hu hlt
    have g := ih (i + 1) (some (.long (pl Z u i))) none (by omega)
    have em : mxV Z lik u (i + 1) = mxV Z lik u i * 1000003 + pvZ Z lik u i := rfl
    rw [em] at g
    unfold pvZ at g
    rw [e85_48]
    by_cases y : hook (zk Z u)
    · rw [if_pos y] at g ⊢
      rw [if_pos y] at g
      have ep : pl Z u i = chL (zh Z u i) := by unfold pl; rw [if_pos y]
      rw [ep] at g pv
      have hlt2 : i < chl Z u := by unfold chl; rw [if_pos y]; exact hlt
      cases hz : zh Z u i with
      | none =>
        rw [hz] at g pv
        have cn : ¬ (0 : Int32) ≤ lg_cmp (chL none) 0 := by decide
        have cv : chL none = -1 := rfl
        simp only [e85_50, e85_51, e85_54, e85_55, e85_56, e85_59, e85_60, e85_63, e85_64, e85_67, e85_68, e85_69, e85_71, e85_72, e85_73, e85_75, e85_76, e85_79, e85_80, e85_82, e85_85, e85_87, e85_90, e85_92, e85_93, e85_94, e85_97, e85_100, e85_103, e85_104, e85_107, e85_109, e85_110, e85_111, e85_112, e85_113, e85_114, e85_117, mw0 hW, mr2 hW, mk2 hW, mn2 hW, mr4 hW, mk4 hW, mn4 hW, mr5 hW, mk5 hW, mn5 hW, mr17 hW, mk17 hW, mn17 hW, Nat.zero_le, Nat.reduceAdd, Nat.reduceLeDiff, reduceIte, rf_c1, int_c1, none_c1, cat_nil, cat_int, cat_long, cat_rf, toList_s, toList_n, true_and, and_true, Option.some.injEq, exists_eq_left', exists_eq_left, reduceCtorEq, if_true, if_false, eq_self, u3, u4, v2, v4, nI_add, b3, b4, pv, z, cn, nI_1]
        simpa using g
      | some c =>
        rw [hz] at g pv
        have hcn := zch hZ u i c hu hlt2 hz
        have e17 := hl i c hlt2 hz
        have cn : (0 : Int32) ≤ lg_cmp (chL (some c)) 0 := (lg_cmp_ge _ _).mpr (Int64.not_lt.mp (fun w => by
          have := (chL_neg (x := some c) (fun d hd => by cases hd; omega)).mp w
          cases this))
        have c1 : (chL (some c)).toInt32 = nI c := chL_i (o := some c)
        have c3 : (nI c).toNatClampNeg = c := nI_clamp (by omega)
        have c4 := in_ok (show c < 2000 by omega) (by omega)
        simp only [e85_50, e85_51, e85_54, e85_55, e85_56, e85_59, e85_60, e85_63, e85_64, e85_67, e85_68, e85_69, e85_71, e85_72, e85_73, e85_75, e85_76, e85_79, e85_80, e85_82, e85_85, e85_87, e85_90, e85_92, e85_93, e85_94, e85_97, e85_100, e85_103, e85_104, e85_107, e85_109, e85_110, e85_111, e85_112, e85_113, e85_114, e85_117, mw0 hW, mr2 hW, mk2 hW, mn2 hW, mr4 hW, mk4 hW, mn4 hW, mr5 hW, mk5 hW, mn5 hW, mr17 hW, mk17 hW, mn17 hW, Nat.zero_le, Nat.reduceAdd, Nat.reduceLeDiff, reduceIte, rf_c1, int_c1, none_c1, cat_nil, cat_int, cat_long, cat_rf, toList_s, toList_n, true_and, and_true, Option.some.injEq, exists_eq_left', exists_eq_left, reduceCtorEq, if_true, if_false, eq_self, u3, u4, v2, v4, nI_add, b3, b4, pv, z, cn, c1, c3, c4, e17, nI_1]
        simpa using g
    · rw [if_neg y] at g ⊢
      rw [if_neg y] at g
      have ep : pl Z u i = zm Z u i := by unfold pl; rw [if_neg y]
      rw [ep] at g pv
      simp only [e85_50, e85_51, e85_54, e85_55, e85_56, e85_59, e85_60, e85_63, e85_64, e85_67, e85_68, e85_69, e85_71, e85_72, e85_73, e85_75, e85_76, e85_79, e85_80, e85_82, e85_85, e85_87, e85_90, e85_92, e85_93, e85_94, e85_97, e85_100, e85_103, e85_104, e85_107, e85_109, e85_110, e85_111, e85_112, e85_113, e85_114, e85_117, mw0 hW, mr2 hW, mk2 hW, mn2 hW, mr4 hW, mk4 hW, mn4 hW, mr5 hW, mk5 hW, mn5 hW, mr17 hW, mk17 hW, mn17 hW, Nat.zero_le, Nat.reduceAdd, Nat.reduceLeDiff, reduceIte, rf_c1, int_c1, none_c1, cat_nil, cat_int, cat_long, cat_rf, toList_s, toList_n, true_and, and_true, Option.some.injEq, exists_eq_left', exists_eq_left, reduceCtorEq, if_true, if_false, eq_self, u3, u4, v2, v4, nI_add, b3, b4, pv, z, nI_1]
      simpa using g
theorem t60z {k : Nat} (h : k ≤ 8) {r : ns_Rs} : Ev (60, 0, [some (.int (nI k))], [], S) r ↔ r = (some (.int (if hook k then 1 else 0)), S) := by
  rw [t60]
  by_cases y : hook k
  · have h1 : ¬ nI k < 3 := fun q => by have := (kf_lt3 h).mp q; omega
    have h2 : ¬ (7 : Int32) < nI k := fun q => by have := (kf_7lt h).mp q; omega
    rw [if_neg h1, if_neg h2, if_pos y]
  · rw [if_neg y]
    by_cases h1 : k < 3
    · rw [if_pos ((kf_lt3 h).mpr h1)]
    · have h2 : 7 < k := by
        have : ¬ (3 ≤ k ∧ k ≤ 7) := y
        omega
      rw [if_neg (fun q => h1 ((kf_lt3 h).mp q)), if_pos ((kf_7lt h).mpr h2)]
theorem m_mix (h : MR S m A Z) (hZ : ZI Z) {u : Nat} (hu : u < zn Z) (hl : ∀ j c, j < chl Z u → zh Z u j = some c → aI S (A 17) c = nI (lik c)) : Ev (85, 0, [some (va_rf (some m)), some (.int (nI u)), none, none, none, none, none, none], [], S) (some (.long (mxV Z lik u (zl Z u))), S) := by
  have hn := hZ.1
  have hW := h.1
  obtain ⟨k8, l5, -, -⟩ := hZ.2.1 u hu
  obtain ⟨v1, v2, v3, v4⟩ := h.2.2.1 u hu
  have u3 : (nI u).toNatClampNeg = u := nI_clamp (by omega)
  have u4 := in_ok (show u < 2000 by omega) (by omega)
  have g := m_mixin (lik := lik) h hZ hu hl (zl Z u) 0 none none (by omega)
  have g : Ev (85, 48, [some (va_rf (some m)), some (.int (nI u)), some (.long (((nI (zk Z u)).toInt64 * 31 + (nI (zl Z u)).toInt64) * 31 + (zv Z u).toInt64)), none, some (.int (if hook (zk Z u) then 1 else 0)), some (.int 0), none, none], [], S) (some (.long (mxV Z lik u (zl Z u))), S) := g
  have t60' := fun (r : ns_Rs) => t60z (S := S) (r := r) k8
  simp only [e85_0, e85_1, e85_4, e85_5, e85_6, e85_7, e85_10, e85_11, e85_12, e85_15, e85_16, e85_17, e85_18, e85_19, e85_20, e85_21, e85_24, e85_25, e85_26, e85_29, e85_30, e85_31, e85_32, e85_33, e85_34, e85_35, e85_38, e85_39, e85_40, e85_43, e85_45, e85_46, t60', mw0 hW, mr1 hW, mk1 hW, mn1 hW, mr2 hW, mk2 hW, mn2 hW, mr3 hW, mk3 hW, mn3 hW, Nat.zero_le, Nat.reduceAdd, Nat.reduceLeDiff, reduceIte, rf_c1, int_c1, none_c1, cat_nil, cat_int, cat_long, cat_rf, toList_s, toList_n, true_and, and_true, Option.some.injEq, exists_eq_left', exists_eq_left, reduceCtorEq, if_true, if_false, eq_self, u3, u4, v1, v2, v3]
  exact g
theorem m_likein (h : MR S m A Z) (hZ : ZI Z) {a b : Nat} (ha : a < zn Z) (hb : b < zn Z) (h1 : zk Z a = zk Z b) (h2 : zl Z a = zl Z b) (hla : ∀ j c, j < chl Z a → zh Z a j = some c → aI S (A 17) c = nI (lik c) ∧ lik c < zn Z) (hlb : ∀ j c, j < chl Z b → zh Z b j = some c → aI S (A 17) c = nI (lik c) ∧ lik c < zn Z) : ∀ (d i : Nat) (x0 : Bool) (l6 l7 l8 l9 : Option Value), i + d = zl Z a → ns_c1 l7 = true → (x0 = true ↔ ∀ j, j < i → pqZ Z lik a b j) → ∃ x, Ev (86, 79, [some (va_rf (some m)), some (.int (nI a)), some (.int (nI b)), some (.int (if hook (zk Z a) then 1 else 0)), some (.int (bI x0)), some (.int (nI i)), l6, l7, l8, l9], [], S) (some (.int (bI x)), S) ∧ (x = true ↔ ∀ j, j < zl Z a → pqZ Z lik a b j) := by
  have hn := hZ.1
  have hW := h.1
  obtain ⟨k8, l5, -, -⟩ := hZ.2.1 a ha
  obtain ⟨v1, v2, v3, v4⟩ := h.2.2.1 a ha
  obtain ⟨w1, w2, w3, w4⟩ := h.2.2.1 b hb
  have a3 : (nI a).toNatClampNeg = a := nI_clamp (by omega)
  have a4 := in_ok (show a < 2000 by omega) (by omega)
  have b3 : (nI b).toNatClampNeg = b := nI_clamp (by omega)
  have b4 := in_ok (show b < 2000 by omega) (by omega)
  intro d
  induction d with
  | zero =>
    intro i x0 l6 l7 l8 l9 hi hl7 hx
    have e : i = zl Z a := by omega
    subst e
    refine ⟨x0, ?_, hx⟩
    have z : nI (zl Z a) ≤ nI (zl Z a) := nI_le (Nat.le_refl _) (by omega)
    rw [e86_79]
    simp only [e86_81, e86_82, e86_85, e86_86, e86_87, e86_185, e86_187, mw0 hW, mr2 hW, mk2 hW, mn2 hW, Nat.zero_le, Nat.reduceAdd, Nat.reduceLeDiff, reduceIte, rf_c1, int_c1, none_c1, cat_nil, cat_int, cat_long, cat_rf, toList_s, toList_n, true_and, and_true, Option.some.injEq, exists_eq_left', exists_eq_left, reduceCtorEq, if_true, if_false, eq_self, a3, a4, v2, z]
    have : (bI x0 = 0 ∨ bI x0 = 1) := by cases x0 <;> simp [bI]
    all_goals simp [this]
  | succ d ih =>
    intro i x0 l6 l7 l8 l9 hi hl7 hx
    have hlt : i < zl Z a := by omega
    have hlt' : i < zl Z b := by omega
    have z : ¬ nI (zl Z a) ≤ nI i := nI_ge hlt (by omega)
    cases x0 with
    | false =>
      refine ⟨false, ?_, ⟨fun q => (by cases q), fun q => ?_⟩⟩
      · have b0 : bI false = 0 := rfl
        rw [b0, e86_79]
        simp only [e86_81, e86_82, e86_85, e86_86, e86_87, e86_90, e86_92, e86_185, e86_187, mw0 hW, mr2 hW, mk2 hW, mn2 hW, Nat.zero_le, Nat.reduceAdd, Nat.reduceLeDiff, reduceIte, rf_c1, int_c1, none_c1, cat_nil, cat_int, cat_long, cat_rf, toList_s, toList_n, true_and, and_true, Option.some.injEq, exists_eq_left', exists_eq_left, reduceCtorEq, if_true, if_false, eq_self, a3, a4, v2, z]
        all_goals simp
      · have := hx.mpr (fun j hj => q j (by omega))
        cases this
    | true =>
      have hx' := hx.mp rfl
      have c1 := bg_in hZ ha hlt
      have c3 : (nI (bg (zl Z) a + i)).toNatClampNeg = bg (zl Z) a + i := nI_clamp (by omega)
      have c4 := in_ok c1 (by omega)
      have d1 := bg_in hZ hb hlt'
      have d3 : (nI (bg (zl Z) b + i)).toNatClampNeg = bg (zl Z) b + i := nI_clamp (by omega)
      have d4 := in_ok d1 (by omega)
      have pa := h.2.2.2.2.1 a i ha hlt
      have pb := h.2.2.2.2.1 b i hb hlt'
      have b1 : bI true = 1 := rfl
      have nxt : ∀ y : Bool, (y = true ↔ pqZ Z lik a b i) → ∃ x, Ev (86, 79, [some (va_rf (some m)), some (.int (nI a)), some (.int (nI b)), some (.int (if hook (zk Z a) then 1 else 0)), some (.int (bI y)), some (.int (nI (i + 1))), some (.long (pl Z a i)), none, some (.long (pl Z b i)), none], [], S) (some (.int (bI x)), S) ∧ (x = true ↔ ∀ j, j < zl Z a → pqZ Z lik a b j) := fun y hy => ih (i + 1) y _ _ _ _ (by omega) rfl (hy.trans ⟨fun q j hj => by
        by_cases w : j = i
        · subst w; exact q
        · exact hx' j (by omega), fun q => q i (by omega)⟩)
      by_cases y : hook (zk Z a)
      · have y' : hook (zk Z b) := by rw [← h1]; exact y
        have ea : pl Z a i = chL (zh Z a i) := by unfold pl; rw [if_pos y]
        have eb : pl Z b i = chL (zh Z b i) := by unfold pl; rw [if_pos y']
        have hca : i < chl Z a := by unfold chl; rw [if_pos y]; exact hlt
        have hcb : i < chl Z b := by unfold chl; rw [if_pos y']; exact hlt'
        have ep : pqZ Z lik a b i ↔ oR (fun c d => lik c = lik d) (zh Z a i) (zh Z b i) := by unfold pqZ; rw [if_pos y]
        have ba : ∀ c, zh Z a i = some c → c < 2000 := fun c hc => by have := zch hZ a i c ha hca hc; omega
        have bb : ∀ c, zh Z b i = some c → c < 2000 := fun c hc => by have := zch hZ b i c hb hcb hc; omega
        rw [ea, eb] at nxt
        rw [ea] at pa
        rw [eb] at pb
        rw [if_pos y] at nxt ⊢
        have lc : lg_cmp (chL (zh Z a i)) (chL (zh Z b i)) = 0 ↔ zh Z a i = zh Z b i := (lg_cmp_eq _ _).trans (chL_eq ba bb)
        have na : lg_cmp (chL (zh Z a i)) 0 < 0 ↔ zh Z a i = none := (lg_cmp_lt _ _).trans (chL_neg ba)
        have nb : lg_cmp (chL (zh Z b i)) 0 < 0 ↔ zh Z b i = none := (lg_cmp_lt _ _).trans (chL_neg bb)
        by_cases q1 : zh Z a i = zh Z b i
        · have lc1 : (lg_cmp (chL (zh Z a i)) (chL (zh Z b i)) = 0) = True := eq_true (lc.mpr q1)
          obtain ⟨x, g1, g2⟩ := nxt true (by rw [ep, q1]; exact ⟨fun _ => oR_refl (R := fun c d => lik c = lik d) (fun _ => rfl) _, fun _ => rfl⟩)
          refine ⟨x, ?_, g2⟩
          rw [b1] at g1 ⊢
          rw [e86_79]
          simp only [e86_81, e86_82, e86_85, e86_86, e86_87, e86_90, e86_92, e86_95, e86_96, e86_99, e86_100, e86_103, e86_104, e86_105, e86_107, e86_108, e86_109, e86_111, e86_112, e86_115, e86_116, e86_119, e86_120, e86_121, e86_123, e86_124, e86_125, e86_127, e86_129, e86_131, e86_132, e86_135, e86_136, e86_139, e86_141, e86_142, e86_143, e86_146, e86_148, e86_149, e86_150, e86_153, e86_154, e86_157, e86_159, e86_160, e86_161, e86_162, e86_165, e86_167, e86_168, e86_169, e86_172, e86_173, e86_176, e86_177, e86_179, e86_182, mw0 hW, mr2 hW, mk2 hW, mn2 hW, mr4 hW, mk4 hW, mn4 hW, mr5 hW, mk5 hW, mn5 hW, mr17 hW, mk17 hW, mn17 hW, Nat.zero_le, Nat.reduceAdd, Nat.reduceLeDiff, reduceIte, rf_c1, int_c1, none_c1, cat_nil, cat_int, cat_long, cat_rf, toList_s, toList_n, true_and, and_true, Option.some.injEq, exists_eq_left', exists_eq_left, reduceCtorEq, if_true, if_false, eq_self, a3, a4, b3, b4, v2, v4, w4, nI_add, c3, c4, d3, d4, pa, pb, z, hl7, lc1, nI_1]
          simpa using g1
        · have lc1 : (lg_cmp (chL (zh Z a i)) (chL (zh Z b i)) = 0) = False := eq_false (fun w => q1 (lc.mp w))
          cases hza : zh Z a i with
          | none =>
            have na1 : (lg_cmp (chL (zh Z a i)) 0 < 0) = True := eq_true (na.mpr hza)
            obtain ⟨x, g1, g2⟩ := nxt false (by
              rw [ep, hza]
              cases hzb : zh Z b i with
              | none => exact absurd (hza.trans hzb.symm) q1
              | some d => exact ⟨fun w => (by cases w), fun w => w.elim⟩)
            refine ⟨x, ?_, g2⟩
            have b0 : bI false = 0 := rfl
            rw [b0] at g1
            rw [b1, e86_79]
            simp only [e86_81, e86_82, e86_85, e86_86, e86_87, e86_90, e86_92, e86_95, e86_96, e86_99, e86_100, e86_103, e86_104, e86_105, e86_107, e86_108, e86_109, e86_111, e86_112, e86_115, e86_116, e86_119, e86_120, e86_121, e86_123, e86_124, e86_125, e86_127, e86_129, e86_131, e86_132, e86_135, e86_136, e86_139, e86_141, e86_142, e86_143, e86_146, e86_148, e86_149, e86_150, e86_153, e86_154, e86_157, e86_159, e86_160, e86_161, e86_162, e86_165, e86_167, e86_168, e86_169, e86_172, e86_173, e86_176, e86_177, e86_179, e86_182, mw0 hW, mr2 hW, mk2 hW, mn2 hW, mr4 hW, mk4 hW, mn4 hW, mr5 hW, mk5 hW, mn5 hW, mr17 hW, mk17 hW, mn17 hW, Nat.zero_le, Nat.reduceAdd, Nat.reduceLeDiff, reduceIte, rf_c1, int_c1, none_c1, cat_nil, cat_int, cat_long, cat_rf, toList_s, toList_n, true_and, and_true, Option.some.injEq, exists_eq_left', exists_eq_left, reduceCtorEq, if_true, if_false, eq_self, a3, a4, b3, b4, v2, v4, w4, nI_add, c3, c4, d3, d4, pa, pb, z, hl7, lc1, na1, nI_1]
            simpa using g1
          | some c =>
            have na1 : (lg_cmp (chL (zh Z a i)) 0 < 0) = False := eq_false (fun w => by have := na.mp w; rw [hza] at this; cases this)
            cases hzb : zh Z b i with
            | none =>
              have nb1 : (lg_cmp (chL (zh Z b i)) 0 < 0) = True := eq_true (nb.mpr hzb)
              obtain ⟨x, g1, g2⟩ := nxt false (by rw [ep, hza, hzb]; exact ⟨fun w => (by cases w), fun w => w.elim⟩)
              refine ⟨x, ?_, g2⟩
              have b0 : bI false = 0 := rfl
              rw [b0] at g1
              rw [b1, e86_79]
              simp only [e86_81, e86_82, e86_85, e86_86, e86_87, e86_90, e86_92, e86_95, e86_96, e86_99, e86_100, e86_103, e86_104, e86_105, e86_107, e86_108, e86_109, e86_111, e86_112, e86_115, e86_116, e86_119, e86_120, e86_121, e86_123, e86_124, e86_125, e86_127, e86_129, e86_131, e86_132, e86_135, e86_136, e86_139, e86_141, e86_142, e86_143, e86_146, e86_148, e86_149, e86_150, e86_153, e86_154, e86_157, e86_159, e86_160, e86_161, e86_162, e86_165, e86_167, e86_168, e86_169, e86_172, e86_173, e86_176, e86_177, e86_179, e86_182, mw0 hW, mr2 hW, mk2 hW, mn2 hW, mr4 hW, mk4 hW, mn4 hW, mr5 hW, mk5 hW, mn5 hW, mr17 hW, mk17 hW, mn17 hW, Nat.zero_le, Nat.reduceAdd, Nat.reduceLeDiff, reduceIte, rf_c1, int_c1, none_c1, cat_nil, cat_int, cat_long, cat_rf, toList_s, toList_n, true_and, and_true, Option.some.injEq, exists_eq_left', exists_eq_left, reduceCtorEq, if_true, if_false, eq_self, a3, a4, b3, b4, v2, v4, w4, nI_add, c3, c4, d3, d4, pa, pb, z, hl7, lc1, na1, nb1, nI_1]
              simpa using g1
            | some e =>
              have nb1 : (lg_cmp (chL (zh Z b i)) 0 < 0) = False := eq_false (fun w => by have := nb.mp w; rw [hzb] at this; cases this)
              have hcn := ba c hza
              have hen := bb e hzb
              obtain ⟨r1, r2⟩ := hla i c hca hza
              obtain ⟨r3, r4⟩ := hlb i e hcb hzb
              have ic : (chL (zh Z a i)).toInt32 = nI c := by rw [hza]; exact chL_i (o := some c)
              have ie : (chL (zh Z b i)).toInt32 = nI e := by rw [hzb]; exact chL_i (o := some e)
              have c5 : (nI c).toNatClampNeg = c := nI_clamp (by omega)
              have c6 := in_ok hcn (by omega)
              have e5 : (nI e).toNatClampNeg = e := nI_clamp (by omega)
              have e6 := in_ok hen (by omega)
              have qq : (nI (lik c) = nI (lik e)) ↔ lik c = lik e := nI_eq (by omega) (by omega)
              by_cases q2 : lik c = lik e
              · have qq1 : (nI (lik c) = nI (lik e)) = True := eq_true (qq.mpr q2)
                obtain ⟨x, g1, g2⟩ := nxt true (by rw [ep, hza, hzb]; exact ⟨fun _ => q2, fun _ => rfl⟩)
                refine ⟨x, ?_, g2⟩
                rw [b1] at g1 ⊢
                rw [e86_79]
                simp only [e86_81, e86_82, e86_85, e86_86, e86_87, e86_90, e86_92, e86_95, e86_96, e86_99, e86_100, e86_103, e86_104, e86_105, e86_107, e86_108, e86_109, e86_111, e86_112, e86_115, e86_116, e86_119, e86_120, e86_121, e86_123, e86_124, e86_125, e86_127, e86_129, e86_131, e86_132, e86_135, e86_136, e86_139, e86_141, e86_142, e86_143, e86_146, e86_148, e86_149, e86_150, e86_153, e86_154, e86_157, e86_159, e86_160, e86_161, e86_162, e86_165, e86_167, e86_168, e86_169, e86_172, e86_173, e86_176, e86_177, e86_179, e86_182, mw0 hW, mr2 hW, mk2 hW, mn2 hW, mr4 hW, mk4 hW, mn4 hW, mr5 hW, mk5 hW, mn5 hW, mr17 hW, mk17 hW, mn17 hW, Nat.zero_le, Nat.reduceAdd, Nat.reduceLeDiff, reduceIte, rf_c1, int_c1, none_c1, cat_nil, cat_int, cat_long, cat_rf, toList_s, toList_n, true_and, and_true, Option.some.injEq, exists_eq_left', exists_eq_left, reduceCtorEq, if_true, if_false, eq_self, a3, a4, b3, b4, v2, v4, w4, nI_add, c3, c4, d3, d4, pa, pb, z, hl7, lc1, na1, nb1, ic, ie, c5, c6, e5, e6, r1, r3, qq1, nI_1]
                simpa using g1
              · have qq1 : (nI (lik c) = nI (lik e)) = False := eq_false (fun w => q2 (qq.mp w))
                obtain ⟨x, g1, g2⟩ := nxt false (by rw [ep, hza, hzb]; exact ⟨fun w => (by cases w), fun w => absurd w q2⟩)
                refine ⟨x, ?_, g2⟩
                have b0 : bI false = 0 := rfl
                rw [b0] at g1
                rw [b1, e86_79]
                simp only [e86_81, e86_82, e86_85, e86_86, e86_87, e86_90, e86_92, e86_95, e86_96, e86_99, e86_100, e86_103, e86_104, e86_105, e86_107, e86_108, e86_109, e86_111, e86_112, e86_115, e86_116, e86_119, e86_120, e86_121, e86_123, e86_124, e86_125, e86_127, e86_129, e86_131, e86_132, e86_135, e86_136, e86_139, e86_141, e86_142, e86_143, e86_146, e86_148, e86_149, e86_150, e86_153, e86_154, e86_157, e86_159, e86_160, e86_161, e86_162, e86_165, e86_167, e86_168, e86_169, e86_172, e86_173, e86_176, e86_177, e86_179, e86_182, mw0 hW, mr2 hW, mk2 hW, mn2 hW, mr4 hW, mk4 hW, mn4 hW, mr5 hW, mk5 hW, mn5 hW, mr17 hW, mk17 hW, mn17 hW, Nat.zero_le, Nat.reduceAdd, Nat.reduceLeDiff, reduceIte, rf_c1, int_c1, none_c1, cat_nil, cat_int, cat_long, cat_rf, toList_s, toList_n, true_and, and_true, Option.some.injEq, exists_eq_left', exists_eq_left, reduceCtorEq, if_true, if_false, eq_self, a3, a4, b3, b4, v2, v4, w4, nI_add, c3, c4, d3, d4, pa, pb, z, hl7, lc1, na1, nb1, ic, ie, c5, c6, e5, e6, r1, r3, qq1, nI_1]
                simpa using g1
      · have y' : ¬ hook (zk Z b) := by rw [← h1]; exact y
        have ea : pl Z a i = zm Z a i := by unfold pl; rw [if_neg y]
        have eb : pl Z b i = zm Z b i := by unfold pl; rw [if_neg y']
        have ep : pqZ Z lik a b i ↔ zm Z a i = zm Z b i := by unfold pqZ; rw [if_neg y]
        rw [ea, eb] at nxt
        rw [ea] at pa
        rw [eb] at pb
        rw [if_neg y] at nxt ⊢
        by_cases q1 : zm Z a i = zm Z b i
        · have lc1 : (lg_cmp (zm Z a i) (zm Z b i) = 0) = True := eq_true ((lg_cmp_eq _ _).mpr q1)
          obtain ⟨x, g1, g2⟩ := nxt true (by rw [ep]; exact ⟨fun _ => q1, fun _ => rfl⟩)
          refine ⟨x, ?_, g2⟩
          rw [b1] at g1 ⊢
          rw [e86_79]
          simp only [e86_81, e86_82, e86_85, e86_86, e86_87, e86_90, e86_92, e86_95, e86_96, e86_99, e86_100, e86_103, e86_104, e86_105, e86_107, e86_108, e86_109, e86_111, e86_112, e86_115, e86_116, e86_119, e86_120, e86_121, e86_123, e86_124, e86_125, e86_127, e86_129, e86_131, e86_132, e86_135, e86_136, e86_139, e86_141, e86_142, e86_143, e86_146, e86_148, e86_149, e86_150, e86_153, e86_154, e86_157, e86_159, e86_160, e86_161, e86_162, e86_165, e86_167, e86_168, e86_169, e86_172, e86_173, e86_176, e86_177, e86_179, e86_182, mw0 hW, mr2 hW, mk2 hW, mn2 hW, mr4 hW, mk4 hW, mn4 hW, mr5 hW, mk5 hW, mn5 hW, mr17 hW, mk17 hW, mn17 hW, Nat.zero_le, Nat.reduceAdd, Nat.reduceLeDiff, reduceIte, rf_c1, int_c1, none_c1, cat_nil, cat_int, cat_long, cat_rf, toList_s, toList_n, true_and, and_true, Option.some.injEq, exists_eq_left', exists_eq_left, reduceCtorEq, if_true, if_false, eq_self, a3, a4, b3, b4, v2, v4, w4, nI_add, c3, c4, d3, d4, pa, pb, z, hl7, lc1, nI_1]
          simpa using g1
        · have lc1 : (lg_cmp (zm Z a i) (zm Z b i) = 0) = False := eq_false (fun w => q1 ((lg_cmp_eq _ _).mp w))
          obtain ⟨x, g1, g2⟩ := nxt false (by rw [ep]; exact ⟨fun w => (by cases w), fun w => absurd w q1⟩)
          refine ⟨x, ?_, g2⟩
          have b0 : bI false = 0 := rfl
          rw [b0] at g1
          rw [b1, e86_79]
          simp only [e86_81, e86_82, e86_85, e86_86, e86_87, e86_90, e86_92, e86_95, e86_96, e86_99, e86_100, e86_103, e86_104, e86_105, e86_107, e86_108, e86_109, e86_111, e86_112, e86_115, e86_116, e86_119, e86_120, e86_121, e86_123, e86_124, e86_125, e86_127, e86_129, e86_131, e86_132, e86_135, e86_136, e86_139, e86_141, e86_142, e86_143, e86_146, e86_148, e86_149, e86_150, e86_153, e86_154, e86_157, e86_159, e86_160, e86_161, e86_162, e86_165, e86_167, e86_168, e86_169, e86_172, e86_173, e86_176, e86_177, e86_179, e86_182, mw0 hW, mr2 hW, mk2 hW, mn2 hW, mr4 hW, mk4 hW, mn4 hW, mr5 hW, mk5 hW, mn5 hW, mr17 hW, mk17 hW, mn17 hW, Nat.zero_le, Nat.reduceAdd, Nat.reduceLeDiff, reduceIte, rf_c1, int_c1, none_c1, cat_nil, cat_int, cat_long, cat_rf, toList_s, toList_n, true_and, and_true, Option.some.injEq, exists_eq_left', exists_eq_left, reduceCtorEq, if_true, if_false, eq_self, a3, a4, b3, b4, v2, v4, w4, nI_add, c3, c4, d3, d4, pa, pb, z, hl7, lc1, nI_1]
          simpa using g1
end MLIKE
