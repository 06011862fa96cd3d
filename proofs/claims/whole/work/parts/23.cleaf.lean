/-! ===== the class: its world, its leaves ===== -/
def cnl (Z : Zs) (i : Nat) : Nat := if zk Z i < 3 then zl Z i else 0
def chl (Z : Zs) (i : Nat) : Nat := if hook (zk Z i) then zl Z i else 0
def sumL (f : Nat → Int64) : Nat → Int64
  | 0 => 0
  | n + 1 => sumL f n + f n
/-- a thing's own weight -/
def own (Z : Zs) (i : Nat) : Int64 := if zk Z i < 3 then sumL (zm Z i) (zl Z i) else if 7 ≤ zk Z i then (zv Z i).toInt64 else 0
def CT (S : ns_St) (ad na ha : Nat → Nat) (cur : Nat) (Z : Zs) (i : Nat) : Prop := ns_k S (ad i) = 2 ∧ fI S 100 (ad i) = nI i ∧ fI S 101 (ad i) = nI (zk Z i) ∧ fI S 102 (ad i) = zv Z i ∧ fR S 103 (ad i) = some (na i) ∧ fR S 104 (ad i) = some (ha i) ∧ fJ S 105 (ad i) = own Z i ∧ (∃ w, w ≤ cur ∧ fI S 106 (ad i) = nI w) ∧ (ns_k S (na i) = 7 ∧ ns_n S (na i) = cnl Z i ∧ ns_k S (ha i) = 8 ∧ ns_n S (ha i) = chl Z i) ∧ (∀ j, j < cnl Z i → aJ S (na i) j = zm Z i j) ∧ ∀ j, j < chl Z i → aR S (ha i) j = (zh Z i j).map ad
def CS (S : ns_St) (sh T wk : Nat) (cur : Nat) (Z : Zs) : Prop := ns_k S sh = 4 ∧ fR S 300 sh = some T ∧ fR S 301 sh = some wk ∧ fI S 302 sh = nI (zn Z) ∧ fI S 303 sh = zs Z ∧ ns_k S T = 8 ∧ ns_n S T = 2000 ∧ ns_k S wk = 3 ∧ fI S 200 wk = nI cur
def CR (S : ns_St) (sh T wk : Nat) (ad na ha : Nat → Nat) (cur : Nat) (Z : Zs) : Prop := CS S sh T wk cur Z ∧ (∀ i, i < zn Z → aR S T i = some (ad i) ∧ CT S ad na ha cur Z i) ∧ (∀ i j, i < zn Z → j < zn Z → ad i = ad j → i = j) ∧ (∀ i j, i < zn Z → j < zn Z → na i = na j → i = j) ∧ (∀ i j, i < zn Z → j < zn Z → ha i = ha j → i = j) ∧ ∀ i, i < zn Z → ha i ≠ T
section CLEAF
variable {S : ns_St} {r : ns_Rs}
theorem c39 {k : Nat} (h : k ≤ 8) : Ev (39, 0, [some (.int (nI k))], [], S) r ↔ r = (some (.int (if k < 3 then 1 else 0)), S) := by
  have h1 : ¬ nI k < 0 := nI_pos (by omega)
  simp only [e39_0, e39_1, e39_4, e39_5, e39_6, e39_9, e39_10, e39_13, e39_14, Nat.zero_le, Nat.reduceAdd, Nat.reduceLeDiff, reduceIte, rf_c1, int_c1, none_c1, cat_nil, cat_int, cat_long, cat_rf, toList_s, toList_n, true_and, and_true, Option.some.injEq, exists_eq_left', exists_eq_left, reduceCtorEq, if_true, if_false, eq_self, h1, kf_3le h, kf_lt3 h, kf_7lt h, kf_6lt h, kf_7le h, kf_lt7 h, kf_2lt h, kf_lt0 h, kf_e0 h, kf_e1 h, kf_e2 h, kf_e3 h, kf_e4 h, kf_e5 h, kf_e6 h, kf_e7 h, kf_e8 h]
  by_cases y : k < 3
  · have y1 : ¬ 2 < k := by omega
    simp [y, y1]
  · have y1 : 2 < k := by omega
    simp [y, y1]
theorem c40 {k : Nat} (h : k ≤ 8) : Ev (40, 0, [some (.int (nI k))], [], S) r ↔ r = (some (.int (if hook k then 1 else 0)), S) := by
  simp only [e40_0, e40_1, e40_2, e40_5, e40_6, e40_8, e40_11, e40_12, e40_15, e40_16, Nat.zero_le, Nat.reduceAdd, Nat.reduceLeDiff, reduceIte, rf_c1, int_c1, none_c1, cat_nil, cat_int, cat_long, cat_rf, toList_s, toList_n, true_and, and_true, Option.some.injEq, exists_eq_left', exists_eq_left, reduceCtorEq, if_true, if_false, eq_self, kf_3le h, kf_lt3 h, kf_7lt h, kf_6lt h, kf_7le h, kf_lt7 h, kf_2lt h, kf_lt0 h, kf_e0 h, kf_e1 h, kf_e2 h, kf_e3 h, kf_e4 h, kf_e5 h, kf_e6 h, kf_e7 h, kf_e8 h]
  by_cases y : k < 3
  · rw [if_neg (show ¬ hook k by omega)]
    simp [y]
  · by_cases y2 : 7 < k
    · rw [if_neg (show ¬ hook k by omega)]
      simp [y, y2]
    · rw [if_pos (show hook k by omega)]
      simp [y, y2]
theorem c41 {k : Nat} (h : k ≤ 8) : Ev (41, 0, [some (.int (nI k))], [], S) r ↔ r = (some (.int (if 7 ≤ k then 1 else 0)), S) := by
  simp only [e41_0, e41_1, e41_3, e41_6, e41_7, e41_9, e41_12, e41_13, e41_16, e41_17, Nat.zero_le, Nat.reduceAdd, Nat.reduceLeDiff, reduceIte, rf_c1, int_c1, none_c1, cat_nil, cat_int, cat_long, cat_rf, toList_s, toList_n, true_and, and_true, Option.some.injEq, exists_eq_left', exists_eq_left, reduceCtorEq, if_true, if_false, eq_self, kf_3le h, kf_lt3 h, kf_7lt h, kf_6lt h, kf_7le h, kf_lt7 h, kf_2lt h, kf_lt0 h, kf_e0 h, kf_e1 h, kf_e2 h, kf_e3 h, kf_e4 h, kf_e5 h, kf_e6 h, kf_e7 h, kf_e8 h]
  by_cases y : k = 7
  · simp [y]
  · by_cases y2 : k = 8
    · simp [y2]
    · have y3 : ¬ 7 ≤ k := by omega
      simp [y, y2, y3]
theorem c43 {k : Nat} (h : k ≤ 8) (t : Int32) : Ev (43, 0, [some (.int (nI k)), some (.int t)], [], S) r ↔ r = (some (.int (if passes k t = true then 1 else 0)), S) := by
  simp only [e43_0, e43_1, e43_2, e43_5, e43_6, e43_7, e43_10, e43_11, e43_13, e43_16, e43_17, e43_20, e43_21, e43_22, e43_23, e43_25, e43_28, e43_29, e43_32, e43_33, e43_34, e43_35, e43_38, e43_39, e43_42, e43_43, c41 h, Nat.zero_le, Nat.reduceAdd, Nat.reduceLeDiff, reduceIte, rf_c1, int_c1, none_c1, cat_nil, cat_int, cat_long, cat_rf, toList_s, toList_n, true_and, and_true, Option.some.injEq, exists_eq_left', exists_eq_left, reduceCtorEq, if_true, if_false, eq_self, kf_3le h, kf_lt3 h, kf_7lt h, kf_6lt h, kf_7le h, kf_lt7 h, kf_2lt h, kf_lt0 h, kf_e0 h, kf_e1 h, kf_e2 h, kf_e3 h, kf_e4 h, kf_e5 h, kf_e6 h, kf_e7 h, kf_e8 h, passes]
  by_cases y1 : t = 4
  · subst y1
    by_cases y2 : k = 4 <;> by_cases y3 : k = 6 <;> simp [y2, y3]
  · by_cases y2 : t = 7
    · subst y2
      by_cases y3 : 7 ≤ k
      · have y4 : k = 7 ∨ k = 8 := by omega
        rcases y4 with y4 | y4 <;> simp [y4]
      · have y4 : ¬ k = 7 := by omega
        have y5 : ¬ k = 8 := by omega
        simp [y3, y4, y5]
    · by_cases y3 : nI k = t <;> simp [y1, y2, y3]
theorem c44 {c k : Nat} (hc : c ≤ 8) (h : k ≤ 8) (hh : hook k) : Ev (44, 0, [some (.int (nI c)), some (.int (nI k))], [], S) r ↔ r = (some (.int (if mayh c k = true then 1 else 0)), S) := by
  have sw := fun (L : List (Option Value)) (st : List Value) (x : Int32) (r : ns_Rs) => E_sw4 (S := S) (L := L) (st := st) (r := r) (x := x) (k := 44) (pc := 1) (t3 := 32) (t4 := 38) (t5 := 45) (t6 := 51) (td := 58) dX3_mayHang_1 (by decide) rfl rfl rfl rfl rfl
  simp only [e44_0, e44_32, e44_33, e44_34, e44_37, e44_38, e44_39, e44_41, e44_44, e44_45, e44_46, e44_47, e44_50, e44_51, e44_52, e44_54, e44_57, e44_58, e44_59, e44_61, e44_64, e44_65, e44_68, e44_69, sw, c43 hc, Nat.zero_le, Nat.reduceAdd, Nat.reduceLeDiff, reduceIte, rf_c1, int_c1, none_c1, cat_nil, cat_int, cat_long, cat_rf, toList_s, toList_n, true_and, and_true, Option.some.injEq, exists_eq_left', exists_eq_left, reduceCtorEq, if_true, if_false, eq_self, kf_3le h, kf_lt3 h, kf_7lt h, kf_6lt h, kf_7le h, kf_lt7 h, kf_2lt h, kf_lt0 h, kf_e0 h, kf_e1 h, kf_e2 h, kf_e3 h, kf_e4 h, kf_e5 h, kf_e6 h, kf_e7 h, kf_e8 h]
  have y : k = 3 ∨ k = 4 ∨ k = 5 ∨ k = 6 ∨ k = 7 := by omega
  rcases y with y | y | y | y | y <;> rw [y] <;> simp [mayh] <;> intro _ <;> (first | (split <;> simp) | skip)
theorem chr_ok (v : Int64) : ((v.toInt32.toUInt32 % 65536).toInt32).toInt64 = v &&& 65535 := by
  have h1 : v.toInt32.toBitVec.toNat = v.toBitVec.toNat % 2 ^ 32 := by
    rw [Int64.toBitVec_toInt32, BitVec.signExtend_eq_setWidth_of_le _ (by decide), BitVec.toNat_setWidth]
  rw [pk_char, h1]
  have h2 : v.toBitVec.toNat % 2 ^ 32 % 65536 = v.toBitVec.toNat % 65536 := by omega
  rw [h2, nI_l (by omega)]
  apply Int64.toBitVec_inj.mp
  apply BitVec.eq_of_toNat_eq
  have h3 : (v &&& 65535).toBitVec.toNat = v.toBitVec.toNat &&& 65535 := by
    show (v.toBitVec &&& (65535 : Int64).toBitVec).toNat = _
    rw [BitVec.toNat_and]
    rfl
  rw [h3, show (65535 : Nat) = 2 ^ 16 - 1 from rfl, Nat.and_two_pow_sub_one_eq_mod]
  show (BitVec.ofNat 64 (v.toBitVec.toNat % 65536)).toNat = _
  rw [BitVec.toNat_ofNat]
  have : v.toBitVec.toNat % 65536 < 65536 := Nat.mod_lt _ (by decide)
  omega
theorem c42 {k : Nat} (h : k ≤ 8) (h2 : k < 3) (v : Int64) : Ev (42, 0, [some (.int (nI k)), some (.long v), none], [], S) r ↔ r = (some (.long (fitv k v)), S) := by
  have y : k = 0 ∨ k = 1 ∨ k = 2 := by omega
  simp only [e42_0, e42_1, e42_4, e42_5, e42_6, e42_7, e42_8, e42_9, e42_10, e42_13, e42_14, e42_15, e42_16, e42_17, e42_20, e42_21, Nat.zero_le, Nat.reduceAdd, Nat.reduceLeDiff, reduceIte, rf_c1, int_c1, none_c1, cat_nil, cat_int, cat_long, cat_rf, toList_s, toList_n, true_and, and_true, Option.some.injEq, exists_eq_left', exists_eq_left, reduceCtorEq, if_true, if_false, eq_self, kf_3le h, kf_lt3 h, kf_7lt h, kf_6lt h, kf_7le h, kf_lt7 h, kf_2lt h, kf_lt0 h, kf_e0 h, kf_e1 h, kf_e2 h, kf_e3 h, kf_e4 h, kf_e5 h, kf_e6 h, kf_e7 h, kf_e8 h, fitv, chr_ok]
  rcases y with rfl | rfl | rfl <;> simp
variable {sh T wk cur : Nat} {ad na ha : Nat → Nat} {Z : Zs}
theorem c36 (h : CR S sh T wk ad na ha cur Z) (hZ : ZI Z) (x : Int32) : Ev (36, 0, [some (va_rf (some sh)), some (.int x)], [], S) r ↔ r = (some (va_rf ((zt (zn Z) x).map ad)), S) := by
  obtain ⟨⟨s1, s2, s3, s4, s5, s6, s7, s8, s9⟩, hT, -⟩ := id h
  have hn := hZ.1
  have n1 : nI 2000 = (2000 : Int32) := rfl
  simp only [e36_0, e36_1, e36_4, e36_5, e36_6, e36_9, e36_12, e36_13, e36_14, e36_17, e36_18, e36_21, e36_22, e36_25, e36_26, e36_27, e36_30, e36_31, Nat.zero_le, Nat.reduceAdd, Nat.reduceLeDiff, reduceIte, rf_c1, int_c1, none_c1, cat_nil, cat_int, cat_long, cat_rf, toList_s, toList_n, true_and, and_true, Option.some.injEq, exists_eq_left', exists_eq_left, reduceCtorEq, if_true, if_false, eq_self, s1, s2, s4, s6, s7, n1]
  unfold zt
  by_cases y : x < 0
  · simp [y]
  · obtain ⟨j, hj, rfl⟩ := nI_of y
    have y2 : (nI (zn Z) ≤ nI j) ↔ zn Z ≤ j := nI_leI (by omega) hj
    have y3 : ((2000 : Int32) ≤ nI j) ↔ 2000 ≤ j := nI_leI (a := 2000) (by omega) hj
    have y4 : (nI j).toNatClampNeg = j := nI_clamp hj
    simp only [y, y2, y3, y4, if_false]
    by_cases y5 : zn Z ≤ j
    · simp [y5]
    · have y6 : ¬ 2000 ≤ j := by omega
      have y7 := in_ok (show j < 2000 by omega) (by omega)
      simp [y5, y6, y7, (hT j (by omega)).1]
theorem c37 (h : CR S sh T wk ad na ha cur Z) (hZ : ZI Z) {k : Nat} (hk : k ≤ 4000) : Ev (37, 0, [some (va_rf (some sh)), some (.int (nI k))], [], S) r ↔ r = (some (.int (if zn Z + k ≤ 2000 then 1 else 0)), S) := by
  obtain ⟨⟨s1, s2, s3, s4, s5, s6, s7, s8, s9⟩, hT, -⟩ := id h
  have hn := hZ.1
  have y : (nI (zn Z + k) ≤ 2000) ↔ zn Z + k ≤ 2000 := nI_leI (b := 2000) (by omega) (by omega)
  have y' : ((2000 : Int32) < nI (zn Z + k)) ↔ 2000 < zn Z + k := nI_ltI (a := 2000) (by omega) (by omega)
  simp only [e37_0, e37_1, e37_4, e37_5, e37_6, e37_9, e37_12, e37_13, e37_16, e37_17, Nat.zero_le, Nat.reduceAdd, Nat.reduceLeDiff, reduceIte, rf_c1, int_c1, none_c1, cat_nil, cat_int, cat_long, cat_rf, toList_s, toList_n, true_and, and_true, Option.some.injEq, exists_eq_left', exists_eq_left, reduceCtorEq, if_true, if_false, eq_self, s1, s4, nI_add, y, y']
  by_cases q : zn Z + k ≤ 2000
  · have q2 : ¬ 2000 < zn Z + k := by omega
    simp [q, q2]
  · have q2 : 2000 < zn Z + k := by omega
    simp [q, q2]
end CLEAF
