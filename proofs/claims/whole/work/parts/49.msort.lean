/-! ===== sort: the reference ===== -/
section MSORT
variable {m : Nat} {A : Nat → Nat} {Z : Zs}
theorem MR_row {S : ns_St} {t : Nat} {g g' : Nat → Option Nat} (h : MR S m A (wF Z t g)) (hg : ∀ j, j < zl Z t → g j = g' j) : MR S m A (wF Z t g') := by
  obtain ⟨hW, hc, hT, hu, hp, hs⟩ := id h
  refine ⟨hW, hc, hT, hu, fun i j hi hj => ?_, hs⟩
  have := hp i j hi hj
  rw [show bg (zl (wF Z t g')) i = bg (zl (wF Z t g)) i from rfl, this]
  show (if hook (zk Z i) then chL (va_up (zh Z) t g i j) else zm Z i j) = if hook (zk Z i) then chL (va_up (zh Z) t g' i j) else zm Z i j
  by_cases e : i = t
  · subst e
    rw [va_up_self, va_up_self, hg j hj]
  · rw [va_up_ne _ _ e, va_up_ne _ _ e]
theorem MR_19 {S : ns_St} (h : MR S m A Z) (u : Nat) (x : Int32) : MR (qI S (A 19) u x) m A Z := by
  have hW := h.1
  refine MR_same h rfl rfl rfl (fun f _ => rfl) (fun f hf => ?_) rfl
  have hf' : f = 1 ∨ f = 2 ∨ f = 3 ∨ f = 4 := by simpa using hf
  funext i
  rw [qI_aI, if_neg (fun z => absurd ((mwi hW (show f < 20 by omega) (by decide)).mp z.1) (by omega))]
theorem m_ins (hZ : ZI Z) {x : Nat} (hx : x < zn Z) {t n i : Int32} {many : Nat} (hm : many < 500) : ∀ (k : Nat) (f : Nat → Nat) (S : ns_St), k ≤ many → MR S m A Z → (∀ j, j ≤ many → j ≠ k → aI S (A 19) j = nI (f j) ∧ f j < zn Z) → ∃ S' l6, sz0 S S' ∧ MR S' m A Z ∧ (∀ j, j ≤ many → aI S' (A 19) j = nI (insF (bbN (zv Z)) x k f j) ∧ insF (bbN (zv Z)) x k f j < zn Z) ∧ ∀ r, Ev (90, 173, [some (va_rf (some m)), some (.int t), some (.int n), some (.int (nI many)), some (.int i), some (.int (nI x)), l6], [], S') r → Ev (90, 113, [some (va_rf (some m)), some (.int t), some (.int n), some (.int (nI many)), some (.int i), some (.int (nI x)), some (.int (nI k))], [], S) r := by
  have hn := hZ.1
  have x3 : (nI x).toNatClampNeg = x := nI_clamp (by omega)
  have x4 := in_ok (show x < 2000 by omega) (by omega)
  have put : ∀ (k : Nat) (f : Nat → Nat) (S : ns_St), k ≤ many → MR S m A Z → (∀ j, j ≤ many → j ≠ k → aI S (A 19) j = nI (f j) ∧ f j < zn Z) → MR (qI S (A 19) k (nI x)) m A Z ∧ (∀ j, j ≤ many → aI (qI S (A 19) k (nI x)) (A 19) j = nI (va_up f k x j) ∧ va_up f k x j < zn Z) ∧ ∀ r, Ev (90, 173, [some (va_rf (some m)), some (.int t), some (.int n), some (.int (nI many)), some (.int i), some (.int (nI x)), some (.int (nI k))], [], qI S (A 19) k (nI x)) r → Ev (90, 164, [some (va_rf (some m)), some (.int t), some (.int n), some (.int (nI many)), some (.int i), some (.int (nI x)), some (.int (nI k))], [], S) r := by
    intro k f S hk h hf
    have hW := h.1
    refine ⟨MR_19 h k (nI x), fun j hj => ?_, fun r hr => ?_⟩
    · rw [qI_aI]
      by_cases y : j = k
      · subst y; rw [if_pos ⟨rfl, rfl⟩, va_up_self]; exact ⟨rfl, hx⟩
      · rw [if_neg (fun z => y z.2), va_up_ne _ _ y]; exact hf j hj y
    · have a3 : (nI k).toNatClampNeg = k := nI_clamp (by omega)
      have a4 := in_ok (show k < 500 by omega) (by omega)
      simp only [e90_164, e90_165, e90_168, e90_170, e90_172, mw0 hW, mr19 hW, mk19 hW, mn19 hW, Nat.zero_le, Nat.reduceAdd, Nat.reduceLeDiff, reduceIte, rf_c1, int_c1, none_c1, cat_nil, cat_int, cat_long, cat_rf, toList_s, toList_n, true_and, and_true, Option.some.injEq, exists_eq_left', exists_eq_left, reduceCtorEq, if_true, if_false, eq_self, a3, a4]
      exact hr
  intro k
  induction k with
  | zero =>
    intro f S hk h hf
    obtain ⟨p1, p2, p3⟩ := put 0 f S hk h hf
    refine ⟨qI S (A 19) 0 (nI x), some (.int (nI 0)), ⟨rfl, rfl⟩, p1, p2, fun r hr => ?_⟩
    have p4 := p3 r hr
    have z : nI 0 ≤ (0 : Int32) := by decide
    rw [e90_113]
    simp only [e90_115, z, Nat.zero_le, Nat.reduceAdd, Nat.reduceLeDiff, reduceIte, rf_c1, int_c1, none_c1, cat_nil, cat_int, cat_long, cat_rf, toList_s, toList_n, true_and, and_true, Option.some.injEq, exists_eq_left', exists_eq_left, reduceCtorEq, if_true, if_false, eq_self]
    exact p4
  | succ k ih =>
    intro f S hk h hf
    have hW := h.1
    obtain ⟨r1, r2⟩ := hf k (by omega) (by omega)
    have z : ¬ nI (k + 1) ≤ (0 : Int32) := nI_nle (by omega) (by omega)
    have a3 : (nI k).toNatClampNeg = k := nI_clamp (by omega)
    have a4 := in_ok (show k < 500 by omega) (by omega)
    have b3 : (nI (k + 1)).toNatClampNeg = k + 1 := nI_clamp (by omega)
    have b4 := in_ok (show k + 1 < 500 by omega) (by omega)
    have f3 : (nI (f k)).toNatClampNeg = f k := nI_clamp (by omega)
    have f4 := in_ok (show f k < 2000 by omega) (by omega)
    have v1 : aI S (A 3) (f k) = zv Z (f k) := (h.2.2.1 (f k) r2).2.2.1
    have v2 : aI S (A 3) x = zv Z x := (h.2.2.1 x hx).2.2.1
    have pm : nI (k + 1) + (-1) = nI k := (Int32.sub_eq_add_neg ..).symm.trans (nI_pred k)
    have ef : insF (bbN (zv Z)) x (k + 1) f = if bbN (zv Z) (f k) x = true then insF (bbN (zv Z)) x k (va_up f (k + 1) (f k)) else va_up f (k + 1) x := rfl
    rw [ef]
    have eb : (bbN (zv Z) (f k) x = true) ↔ ¬ zv Z (f k) ≤ zv Z x := by
      unfold bbN
      rw [decide_eq_true_iff, Int32.not_le]
    by_cases w : zv Z (f k) ≤ zv Z x
    · rw [if_neg (fun q => eb.mp q w)]
      obtain ⟨p1, p2, p3⟩ := put (k + 1) f S hk h hf
      refine ⟨qI S (A 19) (k + 1) (nI x), some (.int (nI (k + 1))), ⟨rfl, rfl⟩, p1, p2, fun r hr => ?_⟩
      have p4 := p3 r hr
      rw [e90_113]
      simp only [e90_115, e90_118, e90_119, e90_122, e90_123, e90_126, e90_128, e90_129, e90_130, e90_131, e90_132, e90_133, e90_136, e90_138, e90_139, e90_142, e90_143, e90_146, e90_148, e90_149, e90_152, e90_154, e90_155, e90_156, e90_157, e90_158, e90_161, mw0 hW, mr3 hW, mk3 hW, mn3 hW, mr19 hW, mk19 hW, mn19 hW, Nat.zero_le, Nat.reduceAdd, Nat.reduceLeDiff, reduceIte, rf_c1, int_c1, none_c1, cat_nil, cat_int, cat_long, cat_rf, toList_s, toList_n, true_and, and_true, Option.some.injEq, exists_eq_left', exists_eq_left, reduceCtorEq, if_true, if_false, eq_self, z, nI_pred, a3, a4, b3, b4, f3, f4, x3, x4, r1, v1, v2, w]
      exact p4
    · rw [if_pos (eb.mpr w)]
      obtain ⟨S', l6, g1, g2, g3, g4⟩ := ih (va_up f (k + 1) (f k)) (qI S (A 19) (k + 1) (nI (f k))) (by omega) (MR_19 h _ _) (fun j hj hjk => by
        rw [qI_aI]
        by_cases y : j = k + 1
        · subst y; rw [if_pos ⟨rfl, rfl⟩, va_up_self]; exact ⟨rfl, r2⟩
        · rw [if_neg (fun z => y z.2), va_up_ne _ _ y]; exact hf j hj y)
      refine ⟨S', l6, g1, g2, g3, fun r hr => ?_⟩
      have g5 := g4 r hr
      rw [e90_113]
      simp only [e90_115, e90_118, e90_119, e90_122, e90_123, e90_126, e90_128, e90_129, e90_130, e90_131, e90_132, e90_133, e90_136, e90_138, e90_139, e90_142, e90_143, e90_146, e90_148, e90_149, e90_152, e90_154, e90_155, e90_156, e90_157, e90_158, e90_161, mw0 hW, mr3 hW, mk3 hW, mn3 hW, mr19 hW, mk19 hW, mn19 hW, Nat.zero_le, Nat.reduceAdd, Nat.reduceLeDiff, reduceIte, rf_c1, int_c1, none_c1, cat_nil, cat_int, cat_long, cat_rf, toList_s, toList_n, true_and, and_true, Option.some.injEq, exists_eq_left', exists_eq_left, reduceCtorEq, if_true, if_false, eq_self, z, nI_pred, a3, a4, b3, b4, f3, f4, x3, x4, r1, v1, v2, w, pm]
      exact g5
theorem m_insall (hZ : ZI Z) {t : Nat} (ht : t < zn Z) (hk : chl Z t = zl Z t) : ∀ (d i : Nat) (g : Nat → Nat) (S : ns_St) (l5 l6 : Option Value), i + d = zl Z t → MR S m A Z → RA g (srM (zv Z) (zh Z t) i) → (∀ j, j < (srM (zv Z) (zh Z t) i).length → aI S (A 19) j = nI (g j) ∧ g j < zn Z) → ∃ S' g' l5' l6', sz0 S S' ∧ MR S' m A Z ∧ RA g' (srM (zv Z) (zh Z t) (zl Z t)) ∧ (∀ j, j < (srM (zv Z) (zh Z t) (zl Z t)).length → aI S' (A 19) j = nI (g' j) ∧ g' j < zn Z) ∧ ∀ r, Ev (90, 182, [some (va_rf (some m)), some (.int (nI t)), some (.int (nI (zl Z t))), some (.int (nI (srM (zv Z) (zh Z t) (zl Z t)).length)), some (.int (nI (zl Z t))), l5', l6'], [], S') r → Ev (90, 86, [some (va_rf (some m)), some (.int (nI t)), some (.int (nI (zl Z t))), some (.int (nI (srM (zv Z) (zh Z t) i).length)), some (.int (nI i)), l5, l6], [], S) r := by
  have hn := hZ.1
  have hl := (hZ.2.1 t ht).2.1
  intro d
  induction d with
  | zero =>
    intro i g S l5 l6 hi h hr hg
    have e : i = zl Z t := by omega
    subst e
    have hW := h.1
    refine ⟨S, g, l5, l6, ⟨rfl, rfl⟩, h, hr, hg, fun r hr => ?_⟩
    have z : nI (zl Z t) ≤ nI (zl Z t) := nI_le (Nat.le_refl _) (by omega)
    rw [e90_86]
    simp only [e90_88, e90_89, Nat.zero_le, Nat.reduceAdd, Nat.reduceLeDiff, reduceIte, rf_c1, int_c1, none_c1, cat_nil, cat_int, cat_long, cat_rf, toList_s, toList_n, true_and, and_true, Option.some.injEq, exists_eq_left', exists_eq_left, reduceCtorEq, if_true, if_false, eq_self, z]
    exact hr
  | succ d ih =>
    intro i g S l5 l6 hi h hr hg
    have hW := h.1
    have hlt : i < zl Z t := by omega
    have hlt2 : i < chl Z t := by omega
    have z : ¬ nI (zl Z t) ≤ nI i := nI_ge hlt (by omega)
    obtain ⟨mm, sm1, sm2⟩ := sr_same (zv Z) (zh Z t) i
    have es : srM (zv Z) (zh Z t) (i + 1) = match zh Z t i with
      | none => srM (zv Z) (zh Z t) i
      | some c => insR (bbN (zv Z)) c (srM (zv Z) (zh Z t) i) := rfl
    cases hz : zh Z t i with
    | none =>
      rw [hz] at es
      have es : srM (zv Z) (zh Z t) (i + 1) = srM (zv Z) (zh Z t) i := es
      obtain ⟨S', g', l5', l6', g1, g2, g3, g4, g5⟩ := ih (i + 1) g S (some (.int (-1))) l6 (by omega) h (by rw [es]; exact hr) (by rw [es]; exact hg)
      refine ⟨S', g', l5', l6', g1, g2, g3, g4, fun r hr => ?_⟩
      have g6 := g5 r hr
      rw [es] at g6
      have k1 : chI none = -1 := rfl
      rw [e90_86]
      simp only [e90_88, e90_89, e90_92, e90_93, e90_94, e90_96, e90_99, e90_101, e90_103, e90_104, e90_107, e90_110, e90_111, e90_176, e90_179, t61z h hZ ht hlt2, hz, k1, mw0 hW, mr19 hW, mk19 hW, mn19 hW, Nat.zero_le, Nat.reduceAdd, Nat.reduceLeDiff, reduceIte, rf_c1, int_c1, none_c1, cat_nil, cat_int, cat_long, cat_rf, toList_s, toList_n, true_and, and_true, Option.some.injEq, exists_eq_left', exists_eq_left, reduceCtorEq, if_true, if_false, eq_self, z, nI_1]
      exact g6
    | some c =>
      rw [hz] at es
      have es : srM (zv Z) (zh Z t) (i + 1) = insR (bbN (zv Z)) c (srM (zv Z) (zh Z t) i) := es
      have hcn := zch hZ t i c ht hlt2 hz
      have k1 : chI (some c) = nI c := rfl
      have c2 : ¬ nI c = -1 := fun z => (nI_pos (n := c) (by omega)) (by rw [z]; decide)
      obtain ⟨S1, l6', g1, g2, g3, g4⟩ := m_ins (m := m) (A := A) (t := nI t) (n := nI (zl Z t)) (i := nI i) (many := (srM (zv Z) (zh Z t) i).length) hZ hcn (by omega) (srM (zv Z) (zh Z t) i).length g S (Nat.le_refl _) h (fun j hj hne => hg j (by omega))
      have hins := insF_ok (bbN (zv Z)) c (srM (zv Z) (zh Z t) i) g hr
      have hlen : (srM (zv Z) (zh Z t) (i + 1)).length = (srM (zv Z) (zh Z t) i).length + 1 := by rw [es, insR_len]
      obtain ⟨S', g', l5', l6'', p1, p2, p3, p4, p5⟩ := ih (i + 1) _ S1 (some (.int (nI c))) l6' (by omega) g2 (by rw [es]; exact hins.1) (fun j hj => g3 j (by omega))
      refine ⟨S', g', l5', l6'', ⟨p1.1.trans g1.1, p1.2.trans g1.2⟩, p2, p3, p4, fun r hr => ?_⟩
      have p6 := p5 r hr
      rw [hlen] at p6
      have g5 := g4 r (by
        simp only [e90_173, e90_176, e90_179, Nat.zero_le, Nat.reduceAdd, Nat.reduceLeDiff, reduceIte, rf_c1, int_c1, none_c1, cat_nil, cat_int, cat_long, cat_rf, toList_s, toList_n, true_and, and_true, Option.some.injEq, exists_eq_left', exists_eq_left, reduceCtorEq, if_true, if_false, eq_self, nI_1]
        exact p6)
      rw [e90_86]
      simp only [e90_88, e90_89, e90_92, e90_93, e90_94, e90_96, e90_99, e90_101, e90_103, e90_104, e90_107, e90_110, e90_111, t61z h hZ ht hlt2, hz, k1, c2, mw0 hW, mr19 hW, mk19 hW, mn19 hW, Nat.zero_le, Nat.reduceAdd, Nat.reduceLeDiff, reduceIte, rf_c1, int_c1, none_c1, cat_nil, cat_int, cat_long, cat_rf, toList_s, toList_n, true_and, and_true, Option.some.injEq, exists_eq_left', exists_eq_left, reduceCtorEq, if_true, if_false, eq_self, z, nI_1]
      exact g5
theorem m_back (hZ : ZI Z) {t : Nat} (ht : t < zn Z) (hk : hook (zk Z t)) {g : Nat → Nat} {many : Nat} (hmany : many ≤ 500) {l5 l6 : Option Value} : ∀ (d i : Nat) (f : Nat → Option Nat) (S : ns_St), i + d = zl Z t → MR S m A (wF Z t f) → (∀ j, j < many → aI S (A 19) j = nI (g j) ∧ g j < zn Z) → (∀ j, j < i → f j = if j < many then some (g j) else none) → ∃ S' f', sz0 S S' ∧ MR S' m A (wF Z t f') ∧ (∀ j, j < zl Z t → f' j = if j < many then some (g j) else none) ∧ Ev (90, 185, [some (va_rf (some m)), some (.int (nI t)), some (.int (nI (zl Z t))), some (.int (nI many)), some (.int (nI i)), l5, l6], [], S) (some (.int 0), S') := by
  have hn := hZ.1
  have hl := (hZ.2.1 t ht).2.1
  intro d
  induction d with
  | zero =>
    intro i f S hi h hg hf
    have e : i = zl Z t := by omega
    subst e
    refine ⟨S, f, ⟨rfl, rfl⟩, h, hf, ?_⟩
    have z : nI (zl Z t) ≤ nI (zl Z t) := nI_le (Nat.le_refl _) (by omega)
    rw [e90_185]
    simp only [e90_187, e90_188, e90_231, e90_232, Nat.zero_le, Nat.reduceAdd, Nat.reduceLeDiff, reduceIte, rf_c1, int_c1, none_c1, cat_nil, cat_int, cat_long, cat_rf, toList_s, toList_n, true_and, and_true, Option.some.injEq, exists_eq_left', exists_eq_left, reduceCtorEq, if_true, if_false, eq_self, z]
  | succ d ih =>
    intro i f S hi h hg hf
    have hW := h.1
    have hlt : i < zl Z t := by omega
    have z : ¬ nI (zl Z t) ≤ nI i := nI_ge hlt (by omega)
    have t3 : (nI t).toNatClampNeg = t := nI_clamp (by omega)
    have t4 := in_ok (show t < 2000 by omega) (by omega)
    have i3 : (nI i).toNatClampNeg = i := nI_clamp (by omega)
    have i4 := in_ok (show i < 500 by omega) (by omega)
    have bt : aI S (A 4) t = nI (bg (zl Z) t) := (h.2.2.1 t ht).2.2.2
    have bin := bg_in hZ ht hlt
    have b3 : (nI (bg (zl Z) t + i)).toNatClampNeg = bg (zl Z) t + i := nI_clamp (by omega)
    have b4 := in_ok (show bg (zl Z) t + i < 1000000 from bin) (by omega)
    have one : ∀ c : Option Nat, c = (if i < many then some (g i) else none) → ∃ S' f', sz0 S S' ∧ MR S' m A (wF Z t f') ∧ (∀ j, j < zl Z t → f' j = if j < many then some (g j) else none) ∧ Ev (90, 185, [some (va_rf (some m)), some (.int (nI t)), some (.int (nI (zl Z t))), some (.int (nI many)), some (.int (nI (i + 1))), l5, l6], [], qJ S (A 5) (bg (zl Z) t + i) (chL c)) (some (.int 0), S') := fun c hc => by
      have h1 : MR (qJ S (A 5) (bg (zl Z) t + i) (chL c)) m A (wF Z t (va_up f i c)) := by
        have := MR_wH h (j := t) (x := i) ht hlt hk c
        rw [wF_wH] at this
        exact this
      obtain ⟨S', f', g1, g2, g3, g4⟩ := ih (i + 1) (va_up f i c) _ (by omega) h1 hg (fun j hj => by
        by_cases y : j = i
        · subst y; rw [va_up_self]; exact hc
        · rw [va_up_ne _ _ y]; exact hf j (by omega))
      exact ⟨S', f', ⟨g1.1, g1.2⟩, g2, g3, g4⟩
    by_cases w : i < many
    · have w2 : ¬ nI many ≤ nI i := nI_ge w (by omega)
      obtain ⟨r1, r2⟩ := hg i w
      obtain ⟨S', f', g1, g2, g3, g4⟩ := one (some (g i)) (by rw [if_pos w])
      refine ⟨S', f', g1, g2, g3, ?_⟩
      have cl : (nI (g i)).toInt64 = chL (some (g i)) := chI_l (o := some (g i)) (fun c hc => by cases hc; omega)
      rw [e90_185]
      simp only [e90_187, e90_188, e90_191, e90_192, e90_195, e90_196, e90_199, e90_200, e90_201, e90_203, e90_204, e90_206, e90_207, e90_210, e90_211, e90_214, e90_216, e90_217, e90_218, e90_221, e90_224, e90_225, e90_228, mw0 hW, mr4 hW, mk4 hW, mn4 hW, mr5 hW, mk5 hW, mn5 hW, mr19 hW, mk19 hW, mn19 hW, Nat.zero_le, Nat.reduceAdd, Nat.reduceLeDiff, reduceIte, rf_c1, int_c1, none_c1, cat_nil, cat_int, cat_long, cat_rf, toList_s, toList_n, true_and, and_true, Option.some.injEq, exists_eq_left', exists_eq_left, reduceCtorEq, if_true, if_false, eq_self, z, t3, t4, i3, i4, bt, nI_add, b3, b4, w2, r1, cl, nI_1]
      exact g4
    · have w2 : nI many ≤ nI i := nI_le (by omega) (by omega)
      obtain ⟨S', f', g1, g2, g3, g4⟩ := one none (by rw [if_neg w])
      refine ⟨S', f', g1, g2, g3, ?_⟩
      have cl : chL none = -1 := rfl
      rw [cl] at g4
      rw [e90_185]
      simp only [e90_187, e90_188, e90_191, e90_192, e90_195, e90_196, e90_199, e90_200, e90_201, e90_203, e90_204, e90_206, e90_207, e90_210, e90_211, e90_214, e90_216, e90_217, e90_218, e90_221, e90_224, e90_225, e90_228, mw0 hW, mr4 hW, mk4 hW, mn4 hW, mr5 hW, mk5 hW, mn5 hW, mr19 hW, mk19 hW, mn19 hW, Nat.zero_le, Nat.reduceAdd, Nat.reduceLeDiff, reduceIte, rf_c1, int_c1, none_c1, cat_nil, cat_int, cat_long, cat_rf, toList_s, toList_n, true_and, and_true, Option.some.injEq, exists_eq_left', exists_eq_left, reduceCtorEq, if_true, if_false, eq_self, z, t3, t4, i3, i4, bt, nI_add, b3, b4, w2, nI_1]
      exact g4
theorem m_plain (hZ : ZI Z) {t : Nat} (ht : t < zn Z) (hk : chl Z t = zl Z t) {S : ns_St} (h : MR S m A Z) : ∀ (d i : Nat), i + d = zl Z t → ∀ r, (if hpl Z t i d = true then r = (some (.int 3), S) else Ev (90, 81, [some (va_rf (some m)), some (.int (nI t)), some (.int (nI (zl Z t))), some (.int (nI (zl Z t))), none, none, none], [], S) r) → Ev (90, 42, [some (va_rf (some m)), some (.int (nI t)), some (.int (nI (zl Z t))), some (.int (nI i)), none, none, none], [], S) r := by
  have hn := hZ.1
  have hl := (hZ.2.1 t ht).2.1
  have hW := h.1
  intro d
  induction d with
  | zero =>
    intro i hi r hr
    have e : i = zl Z t := by omega
    subst e
    have eh : hpl Z t (zl Z t) 0 = false := rfl
    rw [eh, if_neg (by decide)] at hr
    have z : nI (zl Z t) ≤ nI (zl Z t) := nI_le (Nat.le_refl _) (by omega)
    rw [e90_42]
    simp only [e90_43, e90_44, Nat.zero_le, Nat.reduceAdd, Nat.reduceLeDiff, reduceIte, rf_c1, int_c1, none_c1, cat_nil, cat_int, cat_long, cat_rf, toList_s, toList_n, true_and, and_true, Option.some.injEq, exists_eq_left', exists_eq_left, reduceCtorEq, if_true, if_false, eq_self, z]
    exact hr
  | succ d ih =>
    intro i hi r hr
    have hlt : i < zl Z t := by omega
    have hlt2 : i < chl Z t := by omega
    have z : ¬ nI (zl Z t) ≤ nI i := nI_ge hlt (by omega)
    have eh : hpl Z t i (d + 1) = ((match zh Z t i with
      | none => false
      | some c => zk Z c == 7) || hpl Z t (i + 1) d) := rfl
    rw [eh] at hr
    cases hz : zh Z t i with
    | none =>
      rw [hz] at hr
      have g := ih (i + 1) (by omega) r (by simpa using hr)
      have k1 : chI none = -1 := rfl
      rw [e90_42]
      simp only [e90_43, e90_44, e90_47, e90_48, e90_49, e90_50, e90_53, e90_54, e90_57, e90_58, e90_61, e90_62, e90_63, e90_64, e90_67, e90_68, e90_70, e90_73, e90_74, e90_75, e90_78, t61z h hZ ht hlt2, hz, k1, mw0 hW, mr1 hW, mk1 hW, mn1 hW, Nat.zero_le, Nat.reduceAdd, Nat.reduceLeDiff, reduceIte, rf_c1, int_c1, none_c1, cat_nil, cat_int, cat_long, cat_rf, toList_s, toList_n, true_and, and_true, Option.some.injEq, exists_eq_left', exists_eq_left, reduceCtorEq, if_true, if_false, eq_self, z, nI_1]
      exact g
    | some c =>
      rw [hz] at hr
      have hcn := zch hZ t i c ht hlt2 hz
      have k8 := (hZ.2.1 c hcn).1
      have k1 : chI (some c) = nI c := rfl
      have c2 : ¬ nI c = -1 := fun z => (nI_pos (n := c) (by omega)) (by rw [z]; decide)
      have c3 : (nI c).toNatClampNeg = c := nI_clamp (by omega)
      have c4 := in_ok (show c < 2000 by omega) (by omega)
      have vc : aI S (A 1) c = nI (zk Z c) := (h.2.2.1 c hcn).1
      rw [e90_42]
      by_cases w : zk Z c = 7
      · have w7 : (nI (zk Z c) = 7) = True := eq_true ((kf_e7 k8).mpr w)
        simp only [e90_43, e90_44, e90_47, e90_48, e90_49, e90_50, e90_53, e90_54, e90_57, e90_58, e90_61, e90_62, e90_63, e90_64, e90_67, e90_68, e90_70, e90_73, e90_74, e90_75, e90_78, t61z h hZ ht hlt2, hz, k1, c2, c3, c4, vc, w7, mw0 hW, mr1 hW, mk1 hW, mn1 hW, Nat.zero_le, Nat.reduceAdd, Nat.reduceLeDiff, reduceIte, rf_c1, int_c1, none_c1, cat_nil, cat_int, cat_long, cat_rf, toList_s, toList_n, true_and, and_true, Option.some.injEq, exists_eq_left', exists_eq_left, reduceCtorEq, if_true, if_false, eq_self, z, nI_1]
        simpa [w] using hr
      · have w7 : (nI (zk Z c) = 7) = False := eq_false (fun q => w ((kf_e7 k8).mp q))
        have e3 : (zk Z c == 7) = false := by simpa using w
        have g := ih (i + 1) (by omega) r (by simpa [e3] using hr)
        simp only [e90_43, e90_44, e90_47, e90_48, e90_49, e90_50, e90_53, e90_54, e90_57, e90_58, e90_61, e90_62, e90_63, e90_64, e90_67, e90_68, e90_70, e90_73, e90_74, e90_75, e90_78, t61z h hZ ht hlt2, hz, k1, c2, c3, c4, vc, w7, mw0 hW, mr1 hW, mk1 hW, mn1 hW, Nat.zero_le, Nat.reduceAdd, Nat.reduceLeDiff, reduceIte, rf_c1, int_c1, none_c1, cat_nil, cat_int, cat_long, cat_rf, toList_s, toList_n, true_and, and_true, Option.some.injEq, exists_eq_left', exists_eq_left, reduceCtorEq, if_true, if_false, eq_self, z, nI_1]
        exact g
theorem m_sort {S : ns_St} (h : MR S m A Z) (hZ : ZI Z) (t : Int32) : ∃ S', Ev (90, 0, [some (va_rf (some m)), some (.int t), none, none, none, none, none], [], S) (some (.int (o_sort Z t).1), S') ∧ MR S' m A (o_sort Z t).2 ∧ sz0 S S' := by
  have hn := hZ.1
  have hW := h.1
  rcases zt_cases (n := zn Z) (by omega) t with ⟨e, g⟩ | ⟨s, hs, rfl, e⟩
  · have e2 : o_sort Z t = (1, Z) := by unfold o_sort; rw [e]
    rw [e2]
    refine ⟨S, ?_, h, ⟨rfl, rfl⟩⟩
    rcases g with g | ⟨g, g'⟩
    · simp only [e90_0, e90_1, e90_2, e90_5, e90_8, e90_9, e90_10, e90_11, e90_14, e90_15, e90_16, e90_17, e90_20, e90_21, e90_24, e90_25, e90_26, e90_28, e90_31, e90_32, e90_33, e90_34, e90_37, e90_38, e90_39, e90_40, e90_41, t58 hW, mw0 hW, mr1 hW, mk1 hW, mn1 hW, Nat.zero_le, Nat.reduceAdd, Nat.reduceLeDiff, reduceIte, rf_c1, int_c1, none_c1, cat_nil, cat_int, cat_long, cat_rf, toList_s, toList_n, true_and, and_true, Option.some.injEq, exists_eq_left', exists_eq_left, reduceCtorEq, if_true, if_false, eq_self, g]
    · simp only [e90_0, e90_1, e90_2, e90_5, e90_8, e90_9, e90_10, e90_11, e90_14, e90_15, e90_16, e90_17, e90_20, e90_21, e90_24, e90_25, e90_26, e90_28, e90_31, e90_32, e90_33, e90_34, e90_37, e90_38, e90_39, e90_40, e90_41, t58 hW, mw0 hW, mr1 hW, mk1 hW, mn1 hW, Nat.zero_le, Nat.reduceAdd, Nat.reduceLeDiff, reduceIte, rf_c1, int_c1, none_c1, cat_nil, cat_int, cat_long, cat_rf, toList_s, toList_n, true_and, and_true, Option.some.injEq, exists_eq_left', exists_eq_left, reduceCtorEq, if_true, if_false, eq_self, g, g', h.2.1]
  · have e2 : o_sort Z (nI s) = if passes (zk Z s) 4 = true then (if hpl Z s 0 (chl Z s) = true then (3, Z) else (0, wF Z s (srF (zv Z) (zh Z s) (chl Z s)))) else (4, Z) := by unfold o_sort; rw [e]
    rw [e2]
    obtain ⟨a1, a2, a3⟩ := there_ok hs (by omega)
    have a4 := in_ok (show s < 2000 by omega) (by omega)
    have k8 := (hZ.2.1 s hs).1
    have v1 : aI S (A 1) s = nI (zk Z s) := (h.2.2.1 s hs).1
    have v2 : aI S (A 2) s = nI (zl Z s) := (h.2.2.1 s hs).2.1
    have ep : (passes (zk Z s) 4 = true) ↔ zk Z s = 4 ∨ zk Z s = 6 := by simp [passes]
    by_cases y : zk Z s = 4 ∨ zk Z s = 6
    · rw [if_pos (ep.mpr y)]
      have hk : hook (zk Z s) := by rcases y with y | y <;> rw [y] <;> decide
      have hcl : chl Z s = zl Z s := by unfold chl; rw [if_pos hk]
      have hl := (hZ.2.1 s hs).2.1
      have start : ∀ r, (if hpl Z s 0 (zl Z s) = true then r = (some (.int 3), S) else Ev (90, 81, [some (va_rf (some m)), some (.int (nI s)), some (.int (nI (zl Z s))), some (.int (nI (zl Z s))), none, none, none], [], S) r) → Ev (90, 0, [some (va_rf (some m)), some (.int (nI s)), none, none, none, none, none], [], S) r := fun r hr => by
        have g := m_plain hZ hs hcl h (zl Z s) 0 (by omega) r hr
        have g : Ev (90, 42, [some (va_rf (some m)), some (.int (nI s)), some (.int (nI (zl Z s))), some (.int 0), none, none, none], [], S) r := g
        rcases y with y | y
        · have w1 : (nI (zk Z s) = 4) = True := eq_true ((kf_e4 k8).mpr y)
          simp only [e90_0, e90_1, e90_2, e90_5, e90_8, e90_9, e90_10, e90_11, e90_14, e90_15, e90_16, e90_17, e90_20, e90_21, e90_24, e90_25, e90_26, e90_28, e90_31, e90_32, e90_33, e90_34, e90_37, e90_38, e90_39, e90_40, e90_41, t58 hW, mw0 hW, mr1 hW, mk1 hW, mn1 hW, mr2 hW, mk2 hW, mn2 hW, Nat.zero_le, Nat.reduceAdd, Nat.reduceLeDiff, reduceIte, rf_c1, int_c1, none_c1, cat_nil, cat_int, cat_long, cat_rf, toList_s, toList_n, true_and, and_true, Option.some.injEq, exists_eq_left', exists_eq_left, reduceCtorEq, if_true, if_false, eq_self, h.2.1, a1, a2, a3, a4, v1, v2, w1]
          simpa using g
        · have w1 : (nI (zk Z s) = 4) = False := eq_false (fun q => by have := (kf_e4 k8).mp q; omega)
          have w2 : (nI (zk Z s) = 6) = True := eq_true ((kf_e6 k8).mpr y)
          simp only [e90_0, e90_1, e90_2, e90_5, e90_8, e90_9, e90_10, e90_11, e90_14, e90_15, e90_16, e90_17, e90_20, e90_21, e90_24, e90_25, e90_26, e90_28, e90_31, e90_32, e90_33, e90_34, e90_37, e90_38, e90_39, e90_40, e90_41, t58 hW, mw0 hW, mr1 hW, mk1 hW, mn1 hW, mr2 hW, mk2 hW, mn2 hW, Nat.zero_le, Nat.reduceAdd, Nat.reduceLeDiff, reduceIte, rf_c1, int_c1, none_c1, cat_nil, cat_int, cat_long, cat_rf, toList_s, toList_n, true_and, and_true, Option.some.injEq, exists_eq_left', exists_eq_left, reduceCtorEq, if_true, if_false, eq_self, h.2.1, a1, a2, a3, a4, v1, v2, w1, w2]
          simpa using g
      rw [hcl]
      by_cases w : hpl Z s 0 (zl Z s) = true
      · rw [if_pos w]
        refine ⟨S, start _ ?_, h, ⟨rfl, rfl⟩⟩
        rw [if_pos w]
      · rw [if_neg w]
        obtain ⟨S1, g', l5', l6', g1, g2, g3, g4, g5⟩ := m_insall hZ hs hcl (zl Z s) 0 (fun _ => 0) S none none (by omega) h trivial (fun j hj => absurd hj (Nat.not_lt_zero j))
        obtain ⟨mm, sm1, sm2⟩ := sr_same (zv Z) (zh Z s) (zl Z s)
        have h0 : MR S1 m A (wF Z s (zh Z s)) := by rw [wF_self]; exact g2
        obtain ⟨S', f', p1, p2, p3, p4⟩ := m_back (l5 := l5') (l6 := l6') hZ hs hk (g := g') (many := (srM (zv Z) (zh Z s) (zl Z s)).length) (by omega) (zl Z s) 0 (zh Z s) S1 (by omega) h0 g4 (fun j hj => absurd hj (Nat.not_lt_zero j))
        refine ⟨S', start _ ?_, MR_row p2 (fun j hj => ?_), ⟨p1.1.trans g1.1, p1.2.trans g1.2⟩⟩
        · rw [if_neg w]
          have p4 : Ev (90, 185, [some (va_rf (some m)), some (.int (nI s)), some (.int (nI (zl Z s))), some (.int (nI (srM (zv Z) (zh Z s) (zl Z s)).length)), some (.int 0), l5', l6'], [], S1) (some (.int 0), S') := p4
          have g6 := g5 (some (.int 0), S') (by
            simp only [e90_182, e90_183, Nat.zero_le, Nat.reduceAdd, Nat.reduceLeDiff, reduceIte, rf_c1, int_c1, none_c1, cat_nil, cat_int, cat_long, cat_rf, toList_s, toList_n, true_and, and_true, Option.some.injEq, exists_eq_left', exists_eq_left, reduceCtorEq, if_true, if_false, eq_self]
            exact p4)
          have g6 : Ev (90, 86, [some (va_rf (some m)), some (.int (nI s)), some (.int (nI (zl Z s))), some (.int 0), some (.int 0), none, none], [], S) (some (.int 0), S') := g6
          simp only [e90_81, e90_82, e90_83, e90_84, Nat.zero_le, Nat.reduceAdd, Nat.reduceLeDiff, reduceIte, rf_c1, int_c1, none_c1, cat_nil, cat_int, cat_long, cat_rf, toList_s, toList_n, true_and, and_true, Option.some.injEq, exists_eq_left', exists_eq_left, reduceCtorEq, if_true, if_false, eq_self]
          exact g6
        · rw [p3 j hj, srF_ref (zv Z) g3 j hj]
    · rw [if_neg (fun q => y (ep.mp q))]
      have w1 : (nI (zk Z s) = 4) = False := eq_false (fun q => by have := (kf_e4 k8).mp q; omega)
      have w2 : (nI (zk Z s) = 6) = False := eq_false (fun q => by have := (kf_e6 k8).mp q; omega)
      refine ⟨S, ?_, h, ⟨rfl, rfl⟩⟩
      simp only [e90_0, e90_1, e90_2, e90_5, e90_8, e90_9, e90_10, e90_11, e90_14, e90_15, e90_16, e90_17, e90_20, e90_21, e90_24, e90_25, e90_26, e90_28, e90_31, e90_32, e90_33, e90_34, e90_37, e90_38, e90_39, e90_40, e90_41, t58 hW, mw0 hW, mr1 hW, mk1 hW, mn1 hW, mr2 hW, mk2 hW, mn2 hW, Nat.zero_le, Nat.reduceAdd, Nat.reduceLeDiff, reduceIte, rf_c1, int_c1, none_c1, cat_nil, cat_int, cat_long, cat_rf, toList_s, toList_n, true_and, and_true, Option.some.injEq, exists_eq_left', exists_eq_left, reduceCtorEq, if_true, if_false, eq_self, h.2.1, a1, a2, a3, a4, v1, v2, w1, w2]
      all_goals simp
theorem ZI_wF (h : ZI Z) {t : Nat} {f : Nat → Option Nat} (hf : ∀ j c, j < zl Z t → f j = some c → c < zn Z) : ZI (wF Z t f) := by
  refine ⟨h.1, h.2.1, fun i j c hi hj hc => ?_⟩
  have hc : va_up (zh Z) t f i j = some c := hc
  by_cases y : i = t
  · subst y; rw [va_up_self] at hc; exact hf j c hj hc
  · rw [va_up_ne _ _ y] at hc; exact h.2.2 i j c hi hj hc
theorem ZI_sort (h : ZI Z) (t : Int32) : ZI (o_sort Z t).2 := by
  unfold o_sort
  cases e : zt (zn Z) t with
  | none => exact h
  | some s =>
    dsimp only
    have hs := zt_lt e
    split
    · split
      · exact h
      · refine ZI_wF h (fun j c hj hc => ?_)
        obtain ⟨i, hi, e2⟩ := srF_mem (zv Z) hc
        exact zch h s i c hs hi e2
    · exact h
end MSORT
