/-! ===== sort: the class ===== -/
def wF (Z : Zs) (t : Nat) (f : Nat → Option Nat) : Zs := (zn Z, zk Z, zl Z, zv Z, zm Z, va_up (zh Z) t f, zs Z)
theorem wF_self (Z : Zs) (t : Nat) : wF Z t (zh Z t) = Z := by
  have e : va_up (zh Z) t (zh Z t) = zh Z := by
    funext i
    by_cases y : i = t
    · subst y; exact va_up_self _ _ _
    · exact va_up_ne _ _ y
  unfold wF
  rw [e]
  rfl
theorem wF_wH (Z : Zs) (t : Nat) (f : Nat → Option Nat) (j : Nat) (c : Option Nat) : wH (wF Z t f) t j c = wF Z t (va_up f j c) := by
  have e : up2 (va_up (zh Z) t f) t j c = va_up (zh Z) t (va_up f j c) := by
    funext i x
    rw [up2_at]
    by_cases y : i = t
    · subst y
      rw [va_up_self, va_up_self]
      by_cases w : x = j
      · subst w; rw [if_pos ⟨rfl, rfl⟩, va_up_self]
      · rw [if_neg (fun z => w z.2), va_up_ne _ _ w]
    · rw [if_neg (fun z => y z.1), va_up_ne _ _ y, va_up_ne _ _ y]
  unfold wH wF
  show (zn Z, zk Z, zl Z, zv Z, zm Z, up2 (va_up (zh Z) t f) t j c, zs Z) = _
  rw [e]
theorem wF_zh (Z : Zs) (t : Nat) (f : Nat → Option Nat) : zh (wF Z t f) t = f := va_up_self _ _ _
/-- a plain token hangs in one of the d places from i on -/
def hpl (Z : Zs) (s : Nat) : Nat → Nat → Bool
  | _, 0 => false
  | i, d + 1 => (match zh Z s i with
    | none => false
    | some c => zk Z c == 7) || hpl Z s (i + 1) d
def o_sort (Z : Zs) (t : Int32) : Int32 × Zs := match zt (zn Z) t with
  | none => (1, Z)
  | some s => if passes (zk Z s) 4 = true then (if hpl Z s 0 (chl Z s) = true then (3, Z) else (0, wF Z s (srF (zv Z) (zh Z s) (chl Z s)))) else (4, Z)
section CSORT
variable {sh T wk cur : Nat} {ad na ha : Nat → Nat} {Z : Zs}
theorem CR_row {S : ns_St} {t : Nat} {g g' : Nat → Option Nat} (h : CR S sh T wk ad na ha cur (wF Z t g)) (hg : ∀ j, j < chl Z t → g j = g' j) : CR S sh T wk ad na ha cur (wF Z t g') := by
  obtain ⟨s, hT, i1, i2, i3, i4⟩ := id h
  refine ⟨s, fun i hi => ⟨(hT i hi).1, ?_⟩, i1, i2, i3, i4⟩
  obtain ⟨-, t1, t2, t3, t4, t5, t6, t7, t8, t9, t10, t11⟩ := hT i hi
  refine ⟨t1, t2, t3, t4, t5, t6, t7, t8, t9, t10, fun y hy => ?_⟩
  rw [t11 y hy]
  show Option.map ad (va_up (zh Z) t g i y) = Option.map ad (va_up (zh Z) t g' i y)
  by_cases e : i = t
  · subst e
    rw [va_up_self, va_up_self, hg y hy]
  · rw [va_up_ne _ _ e, va_up_ne _ _ e]
theorem c55 {S : ns_St} (h : CR S sh T wk ad na ha cur Z) {x y : Option Nat} (hx : ∀ c, x = some c → c < zn Z) (hy : ∀ c, y = some c → c < zn Z) {r : ns_Rs} : Ev (55, 0, [some (va_rf (x.map ad)), some (va_rf (y.map ad))], [], S) r ↔ r = (some (.int (bI (bbO (zv Z) x y))), S) := by
  cases y with
  | none =>
    have e : bbO (zv Z) x none = false := by cases x <;> rfl
    rw [e]
    simp only [e55_0, e55_1, e55_4, e55_5, e55_6, e55_7, e55_10, e55_11, e55_14, e55_15, e55_18, e55_21, e55_22, e55_25, e55_26, Nat.zero_le, Nat.reduceAdd, Nat.reduceLeDiff, reduceIte, rf_c1, int_c1, none_c1, cat_nil, cat_int, cat_long, cat_rf, toList_s, toList_n, true_and, and_true, Option.some.injEq, exists_eq_left', exists_eq_left, reduceCtorEq, if_true, if_false, eq_self, Option.map_none]
    simp [bI]
  | some b =>
    have kb := CR_k h (hy b rfl)
    have vb : fI S 102 (ad b) = zv Z b := (h.2.1 b (hy b rfl)).2.2.2.2.1
    cases x with
    | none =>
      have e : bbO (zv Z) none (some b) = true := rfl
      rw [e]
      simp only [e55_0, e55_1, e55_4, e55_5, e55_6, e55_7, e55_10, e55_11, e55_14, e55_15, e55_18, e55_21, e55_22, e55_25, e55_26, Nat.zero_le, Nat.reduceAdd, Nat.reduceLeDiff, reduceIte, rf_c1, int_c1, none_c1, cat_nil, cat_int, cat_long, cat_rf, toList_s, toList_n, true_and, and_true, Option.some.injEq, exists_eq_left', exists_eq_left, reduceCtorEq, if_true, if_false, eq_self, Option.map_none, Option.map_some]
      simp [bI]
    | some a =>
      have ka := CR_k h (hx a rfl)
      have va : fI S 102 (ad a) = zv Z a := (h.2.1 a (hx a rfl)).2.2.2.2.1
      have e : bbO (zv Z) (some a) (some b) = decide (zv Z b < zv Z a) := rfl
      rw [e]
      simp only [e55_0, e55_1, e55_4, e55_5, e55_6, e55_7, e55_10, e55_11, e55_14, e55_15, e55_18, e55_21, e55_22, e55_25, e55_26, Nat.zero_le, Nat.reduceAdd, Nat.reduceLeDiff, reduceIte, rf_c1, int_c1, none_c1, cat_nil, cat_int, cat_long, cat_rf, toList_s, toList_n, true_and, and_true, Option.some.injEq, exists_eq_left', exists_eq_left, reduceCtorEq, if_true, if_false, eq_self, Option.map_some, ka, kb, va, vb]
      by_cases w : zv Z a ≤ zv Z b
      · have w2 : ¬ zv Z b < zv Z a := Int32.not_lt.mpr w
        simp [w, w2, bI]
      · have w2 : zv Z b < zv Z a := Int32.not_le.mp w
        simp [w, w2, bI]
theorem c53 {S : ns_St} (h : CR S sh T wk ad na ha cur Z) (hZ : ZI Z) {s : Nat} (hs : s < zn Z) : ∀ (d i : Nat) (l2 : Option Value), i + d = chl Z s → Ev (53, 2, [some (va_rf (some (ha s))), some (.int (nI i)), l2], [], S) (some (.int (bI (hpl Z s i d))), S) := by
  have hn := hZ.1
  obtain ⟨q1, q2, q3, q4⟩ := CR_h h hs
  have hcl : chl Z s ≤ 500 := by
    unfold chl
    have := (hZ.2.1 s hs).2.1
    split <;> omega
  intro d
  induction d with
  | zero =>
    intro i l2 hi
    have e : i = chl Z s := by omega
    subst e
    have z : nI (chl Z s) ≤ nI (chl Z s) := nI_le (Nat.le_refl _) (by omega)
    rw [e53_2]
    simp only [e53_0, e53_1, e53_3, e53_4, e53_5, e53_8, e53_9, e53_10, e53_11, e53_12, e53_13, e53_16, e53_17, e53_20, e53_22, e53_25, e53_26, e53_27, e53_30, e53_33, e53_34, Nat.zero_le, Nat.reduceAdd, Nat.reduceLeDiff, reduceIte, rf_c1, int_c1, none_c1, cat_nil, cat_int, cat_long, cat_rf, toList_s, toList_n, true_and, and_true, Option.some.injEq, exists_eq_left', exists_eq_left, reduceCtorEq, if_true, if_false, eq_self, q2, q3, z]
    simp [bI, hpl]
  | succ d ih =>
    intro i l2 hi
    have hlt : i < chl Z s := by omega
    have z : ¬ nI (chl Z s) ≤ nI i := nI_ge hlt (by omega)
    have a3 : (nI i).toNatClampNeg = i := nI_clamp (by omega)
    have a4 := in_ok hlt (by omega)
    have a5 := q4 i hlt
    have eh : hpl Z s i (d + 1) = ((match zh Z s i with
      | none => false
      | some c => zk Z c == 7) || hpl Z s (i + 1) d) := rfl
    rw [eh]
    cases hz : zh Z s i with
    | none =>
      have g := ih (i + 1) (some (va_rf none)) (by omega)
      rw [hz] at a5
      rw [e53_2]
      simp only [e53_0, e53_1, e53_3, e53_4, e53_5, e53_8, e53_9, e53_10, e53_11, e53_12, e53_13, e53_16, e53_17, e53_20, e53_22, e53_25, e53_26, e53_27, e53_30, e53_33, e53_34, Nat.zero_le, Nat.reduceAdd, Nat.reduceLeDiff, reduceIte, rf_c1, int_c1, none_c1, cat_nil, cat_int, cat_long, cat_rf, toList_s, toList_n, true_and, and_true, Option.some.injEq, exists_eq_left', exists_eq_left, reduceCtorEq, if_true, if_false, eq_self, q2, q3, z, a3, a4, a5, Option.map_none, nI_1]
      simpa using g
    | some c =>
      have hcn := zch hZ s i c hs hlt hz
      have g := ih (i + 1) (some (va_rf (some (ad c)))) (by omega)
      rw [hz] at a5
      have kc := CR_k h hcn
      have k8 := (hZ.2.1 c hcn).1
      have vc : fI S 101 (ad c) = nI (zk Z c) := (h.2.1 c hcn).2.2.2.1
      rw [e53_2]
      by_cases w : zk Z c = 7
      · have w7 : (nI (zk Z c) = 7) = True := eq_true ((kf_e7 k8).mpr w)
        simp only [e53_0, e53_1, e53_3, e53_4, e53_5, e53_8, e53_9, e53_10, e53_11, e53_12, e53_13, e53_16, e53_17, e53_20, e53_22, e53_25, e53_26, e53_27, e53_30, e53_33, e53_34, Nat.zero_le, Nat.reduceAdd, Nat.reduceLeDiff, reduceIte, rf_c1, int_c1, none_c1, cat_nil, cat_int, cat_long, cat_rf, toList_s, toList_n, true_and, and_true, Option.some.injEq, exists_eq_left', exists_eq_left, reduceCtorEq, if_true, if_false, eq_self, q2, q3, z, a3, a4, a5, Option.map_some, nI_1, kc, vc, w7]
        simp [bI, w]
      · have w7 : (nI (zk Z c) = 7) = False := eq_false (fun q => w ((kf_e7 k8).mp q))
        have e3 : (zk Z c == 7) = false := by simpa using w
        simp only [e53_0, e53_1, e53_3, e53_4, e53_5, e53_8, e53_9, e53_10, e53_11, e53_12, e53_13, e53_16, e53_17, e53_20, e53_22, e53_25, e53_26, e53_27, e53_30, e53_33, e53_34, Nat.zero_le, Nat.reduceAdd, Nat.reduceLeDiff, reduceIte, rf_c1, int_c1, none_c1, cat_nil, cat_int, cat_long, cat_rf, toList_s, toList_n, true_and, and_true, Option.some.injEq, exists_eq_left', exists_eq_left, reduceCtorEq, if_true, if_false, eq_self, q2, q3, z, a3, a4, a5, Option.map_some, nI_1, kc, vc, w7]
        simpa [e3] using g
theorem okT_ad {S : ns_St} (h : CR S sh T wk ad na ha cur Z) {x : Option Nat} (hx : ∀ c, x = some c → c < zn Z) : ns_okT S (x.map ad) = true := by
  cases x with
  | none => rfl
  | some c => simpa [ns_okT] using CR_k h (hx c rfl)
theorem c_ins (hZ : ZI Z) {t : Nat} (ht : t < zn Z) {i : Nat} (hi : i < chl Z t) {x : Option Nat} (hx : ∀ c, x = some c → c < zn Z) : ∀ (k : Nat) (f : Nat → Option Nat) (S : ns_St), k ≤ i → CR S sh T wk ad na ha cur (wF Z t f) → (∀ j c, j < chl Z t → f j = some c → c < zn Z) → ∃ S' l3, sz0 S S' ∧ CR S' sh T wk ad na ha cur (wF Z t (insF (bbO (zv Z)) x k f)) ∧ (∀ j c, j < chl Z t → insF (bbO (zv Z)) x k f j = some c → c < zn Z) ∧ ∀ r, Ev (54, 48, [some (va_rf (some (ha t))), some (.int (nI i)), some (va_rf (x.map ad)), l3], [], S') r → Ev (54, 14, [some (va_rf (some (ha t))), some (.int (nI i)), some (va_rf (x.map ad)), some (.int (nI k))], [], S) r := by
  have hn := hZ.1
  have hcl : chl Z t ≤ 500 := by
    unfold chl
    have := (hZ.2.1 t ht).2.1
    split <;> omega
  have put : ∀ (k : Nat) (f : Nat → Option Nat) (S : ns_St), k ≤ i → CR S sh T wk ad na ha cur (wF Z t f) → (∀ j c, j < chl Z t → f j = some c → c < zn Z) → CR (qR S (ha t) k (x.map ad)) sh T wk ad na ha cur (wF Z t (va_up f k x)) ∧ (∀ j c, j < chl Z t → va_up f k x j = some c → c < zn Z) ∧ ∀ r, Ev (54, 48, [some (va_rf (some (ha t))), some (.int (nI i)), some (va_rf (x.map ad)), some (.int (nI k))], [], qR S (ha t) k (x.map ad)) r → Ev (54, 44, [some (va_rf (some (ha t))), some (.int (nI i)), some (va_rf (x.map ad)), some (.int (nI k))], [], S) r := by
    intro k f S hk h hf
    obtain ⟨q1, q2, q3, q4⟩ := CR_h h (u := t) ht
    have q3 : ns_n S (ha t) = chl Z t := q3
    refine ⟨?_, fun j c hj hc => ?_, fun r hr => ?_⟩
    · have := CR_hang h (j := t) (x := k) ht x
      rw [wF_wH] at this
      exact this
    · by_cases y : j = k
      · subst y; rw [va_up_self] at hc; exact hx c hc
      · rw [va_up_ne _ _ y] at hc; exact hf j c hj hc
    · have a3 : (nI k).toNatClampNeg = k := nI_clamp (by omega)
      have a4 := in_ok (show k < chl Z t by omega) (by omega)
      have ok := okT_ad h hx
      simp only [e54_44, e54_45, e54_46, e54_47, Nat.zero_le, Nat.reduceAdd, Nat.reduceLeDiff, reduceIte, rf_c1, int_c1, none_c1, cat_nil, cat_int, cat_long, cat_rf, toList_s, toList_n, true_and, and_true, Option.some.injEq, exists_eq_left', exists_eq_left, reduceCtorEq, if_true, if_false, eq_self, q2, q3, a3, a4, ok]
      exact hr
  intro k
  induction k with
  | zero =>
    intro f S hk h hf
    obtain ⟨p1, p2, p3⟩ := put 0 f S hk h hf
    refine ⟨qR S (ha t) 0 (x.map ad), some (.int (nI 0)), ⟨rfl, rfl⟩, p1, p2, fun r hr => ?_⟩
    have p4 := p3 r hr
    rw [e54_14]
    have z : nI 0 ≤ (0 : Int32) := by decide
    simp only [e54_15, z, Nat.zero_le, Nat.reduceAdd, Nat.reduceLeDiff, reduceIte, rf_c1, int_c1, none_c1, cat_nil, cat_int, cat_long, cat_rf, toList_s, toList_n, true_and, and_true, Option.some.injEq, exists_eq_left', exists_eq_left, reduceCtorEq, if_true, if_false, eq_self]
    exact p4
  | succ k ih =>
    intro f S hk h hf
    obtain ⟨q1, q2, q3, q4⟩ := CR_h h (u := t) ht
    have q3 : ns_n S (ha t) = chl Z t := q3
    have hk2 : k < chl Z t := by omega
    have q5 := q4 k hk2
    rw [wF_zh] at q5
    have z : ¬ nI (k + 1) ≤ (0 : Int32) := nI_nle (by omega) (by omega)
    have a3 : (nI k).toNatClampNeg = k := nI_clamp (by omega)
    have a4 := in_ok hk2 (by omega)
    have b3 : (nI (k + 1)).toNatClampNeg = k + 1 := nI_clamp (by omega)
    have b4 := in_ok (show k + 1 < chl Z t by omega) (by omega)
    have hfk : ∀ c, f k = some c → c < zn Z := fun c hc => hf k c hk2 hc
    have cc := fun (r : ns_Rs) => c55 (S := S) (x := f k) (y := x) (r := r) h hfk hx
    have ok := okT_ad h hfk
    have ef : insF (bbO (zv Z)) x (k + 1) f = if bbO (zv Z) (f k) x = true then insF (bbO (zv Z)) x k (va_up f (k + 1) (f k)) else va_up f (k + 1) x := rfl
    rw [ef]
    have vv : zv (wF Z t f) = zv Z := rfl
    rw [vv] at cc
    by_cases w : bbO (zv Z) (f k) x = true
    · rw [if_pos w]
      have h1 : CR (qR S (ha t) (k + 1) ((f k).map ad)) sh T wk ad na ha cur (wF Z t (va_up f (k + 1) (f k))) := by
        have := CR_hang h (j := t) (x := k + 1) ht (f k)
        rw [wF_wH] at this
        exact this
      obtain ⟨S', l3, g1, g2, g3, g4⟩ := ih (va_up f (k + 1) (f k)) _ (by omega) h1 (fun j c hj hc => by
        by_cases y : j = k + 1
        · subst y; rw [va_up_self] at hc; exact hfk c hc
        · rw [va_up_ne _ _ y] at hc; exact hf j c hj hc)
      refine ⟨S', l3, g1, g2, g3, fun r hr => ?_⟩
      have g5 := g4 r hr
      have bw : bI (bbO (zv Z) (f k) x) = 1 := by rw [w]; rfl
      have pm : nI (k + 1) + (-1) = nI k := (Int32.sub_eq_add_neg ..).symm.trans (nI_pred k)
      rw [e54_14]
      simp only [e54_15, e54_18, e54_19, e54_20, e54_21, e54_22, e54_23, e54_24, e54_27, e54_30, e54_31, e54_32, e54_33, e54_34, e54_35, e54_36, e54_37, e54_38, e54_41, Nat.zero_le, Nat.reduceAdd, Nat.reduceLeDiff, reduceIte, rf_c1, int_c1, none_c1, cat_nil, cat_int, cat_long, cat_rf, toList_s, toList_n, true_and, and_true, Option.some.injEq, exists_eq_left', exists_eq_left, reduceCtorEq, if_true, if_false, eq_self, cc, bw, q2, q3, q5, z, nI_pred, a3, a4, b3, b4, ok, pm]
      simpa using g5
    · rw [if_neg w]
      obtain ⟨p1, p2, p3⟩ := put (k + 1) f S hk h hf
      refine ⟨qR S (ha t) (k + 1) (x.map ad), some (.int (nI (k + 1))), ⟨rfl, rfl⟩, p1, p2, fun r hr => ?_⟩
      have p4 := p3 r hr
      have bw : bI (bbO (zv Z) (f k) x) = 0 := by
        cases hb : bbO (zv Z) (f k) x with
        | true => exact absurd hb w
        | false => rfl
      rw [e54_14]
      simp only [e54_15, e54_18, e54_19, e54_20, e54_21, e54_22, e54_23, e54_24, e54_27, e54_30, e54_31, e54_32, e54_33, e54_34, e54_35, e54_36, e54_37, e54_38, e54_41, Nat.zero_le, Nat.reduceAdd, Nat.reduceLeDiff, reduceIte, rf_c1, int_c1, none_c1, cat_nil, cat_int, cat_long, cat_rf, toList_s, toList_n, true_and, and_true, Option.some.injEq, exists_eq_left', exists_eq_left, reduceCtorEq, if_true, if_false, eq_self, cc, bw, q2, q3, q5, z, nI_pred, a3, a4, b3, b4, ok]
      simpa using p4
theorem c_order1 (hZ : ZI Z) {t : Nat} (ht : t < zn Z) (f0 : Nat → Option Nat) : ∀ (d i : Nat) (f : Nat → Option Nat) (S : ns_St) (l2 l3 : Option Value), i + d = chl Z t → CR S sh T wk ad na ha cur (wF Z t f) → (∀ j c, j < chl Z t → f j = some c → c < zn Z) → RA f (srC (zv Z) f0 i) → (∀ j, i ≤ j → f j = f0 j) → ∃ S' g, sz0 S S' ∧ CR S' sh T wk ad na ha cur (wF Z t g) ∧ RA g (srC (zv Z) f0 (chl Z t)) ∧ Ev (54, 2, [some (va_rf (some (ha t))), some (.int (nI i)), l2, l3], [], S) (none, S') := by
  have hn := hZ.1
  have hcl : chl Z t ≤ 500 := by
    unfold chl
    have := (hZ.2.1 t ht).2.1
    split <;> omega
  intro d
  induction d with
  | zero =>
    intro i f S l2 l3 hi h hf hr hj
    have e : i = chl Z t := by omega
    subst e
    obtain ⟨q1, q2, q3, q4⟩ := CR_h h (u := t) ht
    have q3 : ns_n S (ha t) = chl Z t := q3
    refine ⟨S, f, ⟨rfl, rfl⟩, h, hr, ?_⟩
    have z : nI (chl Z t) ≤ nI (chl Z t) := nI_le (Nat.le_refl _) (by omega)
    rw [e54_2]
    simp only [e54_3, e54_4, e54_5, e54_54, Nat.zero_le, Nat.reduceAdd, Nat.reduceLeDiff, reduceIte, rf_c1, int_c1, none_c1, cat_nil, cat_int, cat_long, cat_rf, toList_s, toList_n, true_and, and_true, Option.some.injEq, exists_eq_left', exists_eq_left, reduceCtorEq, if_true, if_false, eq_self, q2, q3, z]
    all_goals simp
  | succ d ih =>
    intro i f S l2 l3 hi h hf hr hj
    have hlt : i < chl Z t := by omega
    obtain ⟨q1, q2, q3, q4⟩ := CR_h h (u := t) ht
    have q3 : ns_n S (ha t) = chl Z t := q3
    have q5 := q4 i hlt
    rw [wF_zh] at q5
    have z : ¬ nI (chl Z t) ≤ nI i := nI_ge hlt (by omega)
    have a3 : (nI i).toNatClampNeg = i := nI_clamp (by omega)
    have a4 := in_ok hlt (by omega)
    obtain ⟨S1, l3', g1, g2, g3, g4⟩ := c_ins (x := f i) hZ ht hlt (fun c hc => hf i c hlt hc) i f S (Nat.le_refl _) h hf
    have hlen := srC_len (zv Z) f0 i
    have hins := insF_ok (bbO (zv Z)) (f i) (srC (zv Z) f0 i) f hr
    rw [hlen] at hins
    have e1 : srC (zv Z) f0 (i + 1) = insR (bbO (zv Z)) (f i) (srC (zv Z) f0 i) := by
      rw [hj i (Nat.le_refl _)]
      rfl
    obtain ⟨S', g, p1, p2, p3, p4⟩ := ih (i + 1) _ S1 (some (va_rf ((f i).map ad))) l3' (by omega) g2 g3 (by rw [e1]; exact hins.1) (fun j hj' => by rw [hins.2 j (by omega)]; exact hj j (by omega))
    refine ⟨S', g, ⟨p1.1.trans g1.1, p1.2.trans g1.2⟩, p2, p3, ?_⟩
    have g5 := g4 (none, S') (by
      simp only [e54_48, e54_51, Nat.zero_le, Nat.reduceAdd, Nat.reduceLeDiff, reduceIte, rf_c1, int_c1, none_c1, cat_nil, cat_int, cat_long, cat_rf, toList_s, toList_n, true_and, and_true, Option.some.injEq, exists_eq_left', exists_eq_left, reduceCtorEq, if_true, if_false, eq_self, nI_1, rf_c1]
      exact p4)
    rw [e54_2]
    simp only [e54_3, e54_4, e54_5, e54_8, e54_9, e54_10, e54_11, e54_12, e54_13, Nat.zero_le, Nat.reduceAdd, Nat.reduceLeDiff, reduceIte, rf_c1, int_c1, none_c1, cat_nil, cat_int, cat_long, cat_rf, toList_s, toList_n, true_and, and_true, Option.some.injEq, exists_eq_left', exists_eq_left, reduceCtorEq, if_true, if_false, eq_self, q2, q3, q5, z, a3, a4]
    exact g5
theorem c_sort {S : ns_St} (h : CR S sh T wk ad na ha cur Z) (hZ : ZI Z) (t : Int32) : ∃ S', Ev (31, 0, [some (va_rf (some sh)), some (.int t), none], [], S) (some (.int (o_sort Z t).1), S') ∧ CR S' sh T wk ad na ha cur (o_sort Z t).2 ∧ sz0 S S' := by
  have hn := hZ.1
  have h1 : ns_k S sh = 4 := h.1.1
  rcases zt_cases (n := zn Z) (by omega) t with ⟨e, g⟩ | ⟨s, hs, rfl, e⟩
  · have e2 : o_sort Z t = (1, Z) := by unfold o_sort; rw [e]
    rw [e2]
    refine ⟨S, ?_, h, ⟨rfl, rfl⟩⟩
    simp only [e31_0, e31_1, e31_2, e31_5, e31_6, e31_7, e31_10, e31_11, e31_12, e31_13, e31_16, e31_17, e31_20, e31_23, e31_24, e31_25, e31_26, e31_29, e31_32, e31_35, e31_36, e31_37, e31_38, e31_41, e31_44, e31_45, c36 h hZ, h1, Nat.zero_le, Nat.reduceAdd, Nat.reduceLeDiff, reduceIte, rf_c1, int_c1, none_c1, cat_nil, cat_int, cat_long, cat_rf, toList_s, toList_n, true_and, and_true, Option.some.injEq, exists_eq_left', exists_eq_left, reduceCtorEq, if_true, if_false, eq_self, e, Option.map_none]
  · have e2 : o_sort Z (nI s) = if passes (zk Z s) 4 = true then (if hpl Z s 0 (chl Z s) = true then (3, Z) else (0, wF Z s (srF (zv Z) (zh Z s) (chl Z s)))) else (4, Z) := by unfold o_sort; rw [e]
    rw [e2]
    have ks := CR_k h hs
    have k8 := (hZ.2.1 s hs).1
    have vs : fI S 101 (ad s) = nI (zk Z s) := (h.2.1 s hs).2.2.2.1
    obtain ⟨q1, q2, q3, q4⟩ := CR_h h hs
    by_cases y : passes (zk Z s) 4 = true
    · rw [if_pos y]
      have hp := c53 h hZ hs (chl Z s) 0 none (by omega)
      have hp2 : Ev (53, 0, [some (va_rf (some (ha s))), none, none], [], S) (some (.int (bI (hpl Z s 0 (chl Z s)))), S) := by
        simp only [e53_0, e53_1, Nat.zero_le, Nat.reduceAdd, Nat.reduceLeDiff, reduceIte, rf_c1, int_c1, none_c1, cat_nil, cat_int, cat_long, cat_rf, toList_s, toList_n, true_and, and_true, Option.some.injEq, exists_eq_left', exists_eq_left, reduceCtorEq, if_true, if_false, eq_self]
        exact hp
      by_cases w : hpl Z s 0 (chl Z s) = true
      · rw [if_pos w]
        rw [w] at hp2
        have b1 : bI true = 1 := rfl
        rw [b1] at hp2
        refine ⟨S, ?_, h, ⟨rfl, rfl⟩⟩
        simp only [e31_0, e31_1, e31_2, e31_5, e31_6, e31_7, e31_10, e31_11, e31_12, e31_13, e31_16, e31_17, e31_20, e31_23, e31_24, e31_25, e31_26, e31_29, e31_32, e31_35, e31_36, e31_37, e31_38, e31_41, e31_44, e31_45, c36 h hZ, h1, c43 k8, Ev_is hp2, Nat.zero_le, Nat.reduceAdd, Nat.reduceLeDiff, reduceIte, rf_c1, int_c1, none_c1, cat_nil, cat_int, cat_long, cat_rf, toList_s, toList_n, true_and, and_true, Option.some.injEq, exists_eq_left', exists_eq_left, reduceCtorEq, if_true, if_false, eq_self, e, Option.map_some, ks, vs, q1, y]
        all_goals simp
      · rw [if_neg w]
        have b1 : bI (hpl Z s 0 (chl Z s)) = 0 := by
          cases hb : hpl Z s 0 (chl Z s) with
          | true => exact absurd hb w
          | false => rfl
        rw [b1] at hp2
        have h0 : CR S sh T wk ad na ha cur (wF Z s (zh Z s)) := by rw [wF_self]; exact h
        have hb : ∀ j c, j < chl Z s → zh Z s j = some c → c < zn Z := fun j c hj hc => zch hZ s j c hs hj hc
        have fin : ∃ S' g, sz0 S S' ∧ CR S' sh T wk ad na ha cur (wF Z s g) ∧ RA g (srC (zv Z) (zh Z s) (chl Z s)) ∧ Ev (54, 2, [some (va_rf (some (ha s))), some (.int 1), none, none], [], S) (none, S') := by
          by_cases c0 : chl Z s = 0
          · refine ⟨S, zh Z s, ⟨rfl, rfl⟩, h0, by rw [c0]; trivial, ?_⟩
            rw [e54_2]
            have z : nI 0 ≤ (1 : Int32) := by decide
            simp only [e54_3, e54_4, e54_5, e54_54, Nat.zero_le, Nat.reduceAdd, Nat.reduceLeDiff, reduceIte, rf_c1, int_c1, none_c1, cat_nil, cat_int, cat_long, cat_rf, toList_s, toList_n, true_and, and_true, Option.some.injEq, exists_eq_left', exists_eq_left, reduceCtorEq, if_true, if_false, eq_self, q2, q3, c0, z]
            all_goals simp
          · obtain ⟨S', g, p1, p2, p3, p4⟩ := c_order1 hZ hs (zh Z s) (chl Z s - 1) 1 (zh Z s) S none none (by omega) h0 hb ⟨rfl, trivial⟩ (fun _ _ => rfl)
            exact ⟨S', g, p1, p2, p3, p4⟩
        obtain ⟨S', g, p1, p2, p3, p4⟩ := fin
        refine ⟨S', ?_, CR_row p2 (fun j hj => (srF_get (zv Z) p3 hj).symm), p1⟩
        have p5 : Ev (54, 0, [some (va_rf (some (ha s))), none, none, none], [], S) (none, S') := by
          simp only [e54_0, e54_1, Nat.zero_le, Nat.reduceAdd, Nat.reduceLeDiff, reduceIte, rf_c1, int_c1, none_c1, cat_nil, cat_int, cat_long, cat_rf, toList_s, toList_n, true_and, and_true, Option.some.injEq, exists_eq_left', exists_eq_left, reduceCtorEq, if_true, if_false, eq_self]
          exact p4
        simp only [e31_0, e31_1, e31_2, e31_5, e31_6, e31_7, e31_10, e31_11, e31_12, e31_13, e31_16, e31_17, e31_20, e31_23, e31_24, e31_25, e31_26, e31_29, e31_32, e31_35, e31_36, e31_37, e31_38, e31_41, e31_44, e31_45, c36 h hZ, h1, c43 k8, Ev_is hp2, Ev_is p5, Nat.zero_le, Nat.reduceAdd, Nat.reduceLeDiff, reduceIte, rf_c1, int_c1, none_c1, cat_nil, cat_int, cat_long, cat_rf, toList_s, toList_n, true_and, and_true, Option.some.injEq, exists_eq_left', exists_eq_left, reduceCtorEq, if_true, if_false, eq_self, e, Option.map_some, ks, vs, q1, y]
        all_goals simp
    · rw [if_neg y]
      refine ⟨S, ?_, h, ⟨rfl, rfl⟩⟩
      simp only [e31_0, e31_1, e31_2, e31_5, e31_6, e31_7, e31_10, e31_11, e31_12, e31_13, e31_16, e31_17, e31_20, e31_23, e31_24, e31_25, e31_26, e31_29, e31_32, e31_35, e31_36, e31_37, e31_38, e31_41, e31_44, e31_45, c36 h hZ, h1, c43 k8, Nat.zero_le, Nat.reduceAdd, Nat.reduceLeDiff, reduceIte, rf_c1, int_c1, none_c1, cat_nil, cat_int, cat_long, cat_rf, toList_s, toList_n, true_and, and_true, Option.some.injEq, exists_eq_left', exists_eq_left, reduceCtorEq, if_true, if_false, eq_self, e, Option.map_some, ks, vs, q1, y]
      all_goals simp
end CSORT
