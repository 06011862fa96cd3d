/-! ===== copy: the class makes a twin ===== -/
section CDUP
variable {S : ns_St} {sh T wk cur : Nat} {ad na ha : Nat → Nat} {Z : Zs}
def d3 (S : ns_St) (b c : Nat) : ns_St := nC (nC (nO S 1 17) b) c
def dN (S : ns_St) (b c : Nat) (id k v : Int32) (w : Int64) : ns_St := pJ (ini5 (d3 S b c) (ns_z S) id k v (some (ns_z S + 1)) (some (ns_z S + 2))) 105 (ns_z S) w
theorem d3_z (S : ns_St) (b c : Nat) : ns_z (d3 S b c) = ns_z S + 3 := by
  unfold d3
  rw [nC_ns_z, nC_ns_z, nO_ns_z]
theorem d3_k {b c : Nat} (hb : b < ns_z S) (hc : c < ns_z S) (x : Nat) : ns_k (d3 S b c) x = if x = ns_z S + 2 then ns_k S c else if x = ns_z S + 1 then ns_k S b else if x = ns_z S then 2 else ns_k S x := by
  unfold d3
  simp only [nC_ns_k, nC_ns_z, nO_ns_z, nO_ns_k]
  have e1 : ¬ c = ns_z S + 1 := by omega
  have e2 : ¬ c = ns_z S := by omega
  have e3 : ¬ b = ns_z S := by omega
  simp only [e1, e2, e3, if_false, Nat.add_assoc, Nat.reduceAdd]
theorem d3_n {b c : Nat} (hb : b < ns_z S) (hc : c < ns_z S) (x : Nat) : ns_n (d3 S b c) x = if x = ns_z S + 2 then ns_n S c else if x = ns_z S + 1 then ns_n S b else ns_n S x := by
  unfold d3
  simp only [nC_ns_n, nC_ns_z, nO_ns_z, nO_ns_n]
  have e1 : ¬ c = ns_z S + 1 := by omega
  simp only [e1, if_false, Nat.add_assoc, Nat.reduceAdd]
  rfl
theorem d3_aJ {b c : Nat} (hb : b < ns_z S) (hc : c < ns_z S) (x j : Nat) : aJ (d3 S b c) x j = if x = ns_z S + 2 then aJ S c j else if x = ns_z S + 1 then aJ S b j else aJ S x j := by
  unfold d3
  simp only [nC_aJ, nC_ns_z, nO_ns_z, nO_aJ]
  have e1 : ¬ c = ns_z S + 1 := by omega
  simp only [e1, if_false, Nat.add_assoc, Nat.reduceAdd]
  rfl
theorem d3_aR {b c : Nat} (hb : b < ns_z S) (hc : c < ns_z S) (x j : Nat) : aR (d3 S b c) x j = if x = ns_z S + 2 then aR S c j else if x = ns_z S + 1 then aR S b j else aR S x j := by
  unfold d3
  simp only [nC_aR, nC_ns_z, nO_ns_z, nO_aR]
  have e1 : ¬ c = ns_z S + 1 := by omega
  simp only [e1, if_false, Nat.add_assoc, Nat.reduceAdd]
  rfl
theorem d3_s {b c : Nat} (hb : b < ns_z S) (hc : c < ns_z S) : ns_s (d3 S b c) = ns_s S + 17 + ns_n S b + ns_n S c := by
  unfold d3
  rw [nC_ns_s, nC_ns_s, nO_ns_s, nC_ns_n, nO_ns_n, nO_ns_z, if_neg (by omega)]
theorem d3_EX (S : ns_St) (b c : Nat) : EX S (d3 S b c) := ((EX.rf.nO 1 17).nC b).nC c
theorem d3_fI (b c f x : Nat) : fI (d3 S b c) f x = if x = ns_z S then 0 else fI S f x := by
  unfold d3
  rw [nC_fI, nC_fI]
  rfl
theorem CR_new2 (h : CR S sh T wk ad na ha cur Z) {u : Nat} (hu : u < zn Z) : na u < ns_z S ∧ ha u < ns_z S ∧ ad u < ns_z S := by
  obtain ⟨-, t1, t2, t3, t4, t5, t6, t7, t8, t9, t10, t11⟩ := h.2.1 u hu
  exact ⟨klt t9.1 (by decide), klt t9.2.2.1 (by decide), klt t1 (by decide)⟩
theorem c6 (h : CR S sh T wk ad na ha cur Z) {u : Nat} (hu : u < zn Z) {id : Int32} {r : ns_Rs} : Ev (6, 0, [some (va_rf (some (ad u))), some (.int id), none], [], S) r ↔ r = (some (va_rf (some (ns_z S))), dN S (na u) (ha u) id (nI (zk Z u)) (zv Z u) (own Z u)) := by
  obtain ⟨l1, l2, l3⟩ := CR_new2 h hu
  obtain ⟨-, t1, t2, t3, t4, t5, t6, t7, t8, t9, t10, t11⟩ := h.2.1 u hu
  have e0 : ¬ ad u = ns_z S := by omega
  have e1 : ¬ ad u = ns_z S + 1 := by omega
  have e2 : ¬ ad u = ns_z S + 2 := by omega
  have e3 : ¬ na u = ns_z S := by omega
  have e4 : ¬ ha u = ns_z S := by omega
  have e5 : ¬ ha u = ns_z S + 1 := by omega
  have k2 : ns_k (d3 S (na u) (ha u)) (ns_z S) = 2 := by
    rw [d3_k l1 l2, if_neg (by omega), if_neg (by omega), if_pos rfl]
  have c := fun (r : ns_Rs) => c5 (S := d3 S (na u) (ha u)) (a := ns_z S) (id := id) (k := nI (zk Z u)) (v := zv Z u) (b := some (ns_z S + 1)) (c := some (ns_z S + 2)) (r := r) k2
  unfold d3 at c k2
  unfold dN d3
  simp only [e6_0, e6_3, e6_4, e6_5, e6_6, e6_9, e6_10, e6_13, e6_14, e6_17, e6_20, e6_23, e6_24, e6_27, e6_30, e6_33, e6_36, e6_37, e6_38, e6_39, e6_42, e6_45, e6_46, c, pI_ns_z, pI_ns_s, pI_ns_k, pI_ns_n, pI_fI, pI_fJ, pI_fR, pI_aI, pI_aJ, pI_aR, pJ_ns_z, pJ_ns_s, pJ_ns_k, pJ_ns_n, pJ_fI, pJ_fJ, pJ_fR, pJ_aI, pJ_aJ, pJ_aR, pR_ns_z, pR_ns_s, pR_ns_k, pR_ns_n, pR_fI, pR_fJ, pR_fR, pR_aI, pR_aJ, pR_aR, qI_ns_z, qI_ns_s, qI_ns_k, qI_ns_n, qI_fI, qI_fJ, qI_fR, qI_aI, qI_aJ, qI_aR, qJ_ns_z, qJ_ns_s, qJ_ns_k, qJ_ns_n, qJ_fI, qJ_fJ, qJ_fR, qJ_aI, qJ_aJ, qJ_aR, qR_ns_z, qR_ns_s, qR_ns_k, qR_ns_n, qR_fI, qR_fJ, qR_fR, qR_aI, qR_aJ, qR_aR, nO_ns_z, nO_ns_s, nO_ns_k, nO_ns_n, nO_fI, nO_fJ, nO_fR, nO_aI, nO_aJ, nO_aR, nA_ns_z, nA_ns_s, nA_ns_k, nA_ns_n, nA_fI, nA_fJ, nA_fR, nA_aI, nA_aJ, nA_aR, nC_ns_z, nC_ns_s, nC_ns_k, nC_ns_n, nC_fI, nC_fJ, nC_fR, nC_aI, nC_aJ, nC_aR, Nat.zero_le, Nat.reduceAdd, Nat.reduceLeDiff, reduceIte, rf_c1, int_c1, none_c1, cat_nil, cat_int, cat_long, cat_rf, toList_s, toList_n, true_and, and_true, Option.some.injEq, exists_eq_left', exists_eq_left, reduceCtorEq, if_true, if_false, eq_self, e0, e1, e2, e3, e4, e5, t1, t3, t4, t5, t6, t7, t9.1, t9.2.2.1, Nat.add_assoc]
  simp
theorem own_wC {u : Nat} : own (wC Z u) (zn Z) = own Z u := by
  show (if va_up (zk Z) (zn Z) (zk Z u) (zn Z) < 3 then sumL (va_up (zm Z) (zn Z) (zm Z u) (zn Z)) (va_up (zl Z) (zn Z) (zl Z u) (zn Z)) else if 7 ≤ va_up (zk Z) (zn Z) (zk Z u) (zn Z) then (va_up (zv Z) (zn Z) (zv Z u) (zn Z)).toInt64 else 0) = _
  simp only [va_up_self]
  rfl
theorem i5_f (S3 : ns_St) (a : Nat) (id k v : Int32) (b c : Option Nat) (w : Int64) : fI (pJ (ini5 S3 a id k v b c) 105 a w) 100 a = id ∧ fI (pJ (ini5 S3 a id k v b c) 105 a w) 101 a = k ∧ fI (pJ (ini5 S3 a id k v b c) 105 a w) 102 a = v ∧ fI (pJ (ini5 S3 a id k v b c) 105 a w) 106 a = fI S3 106 a ∧ fR (pJ (ini5 S3 a id k v b c) 105 a w) 103 a = b ∧ fR (pJ (ini5 S3 a id k v b c) 105 a w) 104 a = c ∧ fJ (pJ (ini5 S3 a id k v b c) 105 a w) 105 a = w := by
  refine ⟨?_, ?_, ?_, ?_, ?_, ?_, ?_⟩
  · simp [pI_fI, pR_fI, pJ_fI]
  · simp [pI_fI, pR_fI, pJ_fI]
  · simp [pI_fI, pR_fI, pJ_fI]
  · simp [pI_fI, pR_fI, pJ_fI]
  · simp [pR_fR, pJ_fR]
  · simp [pR_fR, pJ_fR]
  · simp [pJ_fJ]
theorem dup_ok (h : CR S sh T wk ad na ha cur Z) (hZ : ZI Z) {u : Nat} (hu : u < zn Z) {S5 : ns_St} (hS5 : S5 = dN S (na u) (ha u) (nI (zn Z)) (nI (zk Z u)) (zv Z u) (own Z u)) : EX S S5 ∧ ns_z S5 = ns_z S + 3 ∧ ns_s S5 ≤ ns_s S + 600 ∧ ns_k S5 (ns_z S) = 2 ∧ fI S5 100 (ns_z S) = nI (zn Z) ∧ ∀ S6, ns_k S6 = ns_k S5 → ns_n S6 = ns_n S5 → aJ S6 = aJ S5 → aR S6 = aR S5 → fI S6 = fI S5 → fJ S6 = fJ S5 → (∀ f x, f ≠ 113 → fR S6 f x = fR S5 f x) → CR S6 sh T wk ad na ha cur Z ∧ CR (shv S6 sh T (zn Z) (ns_z S)) sh T wk (va_up ad (zn Z) (ns_z S)) (va_up na (zn Z) (ns_z S + 1)) (va_up ha (zn Z) (ns_z S + 2)) cur (wC Z u) := by
  obtain ⟨l1, l2, l3⟩ := CR_new2 h hu
  obtain ⟨-, t1, t2, t3, t4, t5, t6, t7, t8, t9, t10, t11⟩ := h.2.1 u hu
  have q : ns_z S ≤ ns_z S := Nat.le_refl _
  have ex : EX S S5 := by
    rw [hS5]
    exact (((((((d3_EX S (na u) (ha u)).pI q _).pI q _).pI q _).pR q _).pR q _).pJ q _).pJ q _
  have e1 : ns_k S5 = ns_k (d3 S (na u) (ha u)) := by rw [hS5]; unfold dN; simp only [pJ_ns_k, pR_ns_k, pI_ns_k]
  have e2 : ns_n S5 = ns_n (d3 S (na u) (ha u)) := by rw [hS5]; unfold dN; simp only [pJ_ns_n, pR_ns_n, pI_ns_n]
  have e3 : aJ S5 = aJ (d3 S (na u) (ha u)) := by rw [hS5]; unfold dN; simp only [pJ_aJ, pR_aJ, pI_aJ]
  have e4 : aR S5 = aR (d3 S (na u) (ha u)) := by rw [hS5]; unfold dN; simp only [pJ_aR, pR_aR, pI_aR]
  have e5 : ns_z S5 = ns_z S + 3 := by rw [hS5]; unfold dN; simp only [pJ_ns_z, pR_ns_z, pI_ns_z, d3_z]
  have e6 : ns_s S5 = ns_s S + 17 + ns_n S (na u) + ns_n S (ha u) := by rw [hS5]; unfold dN; simp only [pJ_ns_s, pR_ns_s, pI_ns_s, d3_s l1 l2]
  obtain ⟨f100, f101, f102, f106', f103, f104, f105⟩ := i5_f (d3 S (na u) (ha u)) (ns_z S) (nI (zn Z)) (nI (zk Z u)) (zv Z u) (some (ns_z S + 1)) (some (ns_z S + 2)) (own Z u)
  have f106 : fI (dN S (na u) (ha u) (nI (zn Z)) (nI (zk Z u)) (zv Z u) (own Z u)) 106 (ns_z S) = 0 := by
    refine f106'.trans ?_
    rw [d3_fI, if_pos rfl]
  have f100 : fI (dN S (na u) (ha u) (nI (zn Z)) (nI (zk Z u)) (zv Z u) (own Z u)) 100 (ns_z S) = nI (zn Z) := f100
  have f101 : fI (dN S (na u) (ha u) (nI (zn Z)) (nI (zk Z u)) (zv Z u) (own Z u)) 101 (ns_z S) = nI (zk Z u) := f101
  have f102 : fI (dN S (na u) (ha u) (nI (zn Z)) (nI (zk Z u)) (zv Z u) (own Z u)) 102 (ns_z S) = zv Z u := f102
  have f103 : fR (dN S (na u) (ha u) (nI (zn Z)) (nI (zk Z u)) (zv Z u) (own Z u)) 103 (ns_z S) = some (ns_z S + 1) := f103
  have f104 : fR (dN S (na u) (ha u) (nI (zn Z)) (nI (zk Z u)) (zv Z u) (own Z u)) 104 (ns_z S) = some (ns_z S + 2) := f104
  have f105 : fJ (dN S (na u) (ha u) (nI (zn Z)) (nI (zk Z u)) (zv Z u) (own Z u)) 105 (ns_z S) = own Z u := f105
  rw [← hS5] at f100 f101 f102 f103 f104 f105 f106
  have k2 : ns_k S5 (ns_z S) = 2 := by rw [e1, d3_k l1 l2, if_neg (by omega), if_neg (by omega), if_pos rfl]
  have hcl : cnl Z u + chl Z u ≤ 500 := by
    unfold cnl chl
    have := (hZ.2.1 u hu).2.1
    split
    · rename_i hh
      rw [if_neg (fun z : hook (zk Z u) => by omega)]
      omega
    · split <;> omega
  refine ⟨ex, e5, by rw [e6, t9.2.1, t9.2.2.2]; omega, k2, f100, fun S6 g1 g2 g3 g4 g5 g6 g7 => ?_⟩
  have h5 := CR_EX h ex
  have h6 : CR S6 sh T wk ad na ha cur Z := CR_same h5 g1 g2 g3 g4 (fun f a _ => by rw [g5]) (fun f a hf => g7 f a (by omega)) (fun a => by rw [g6]) (fun v hv => by rw [g5]; exact CR_w h5 hv) (by rw [g5]; exact CR_200 h5)
  refine ⟨h6, ?_⟩
  obtain ⟨n1, n2⟩ := c_fresh h
  have c1 : cnl (wC Z u) (zn Z) = cnl Z u := by
    show (if va_up (zk Z) (zn Z) (zk Z u) (zn Z) < 3 then va_up (zl Z) (zn Z) (zl Z u) (zn Z) else 0) = _
    simp only [va_up_self]
    rfl
  have c2 : chl (wC Z u) (zn Z) = chl Z u := by
    show (if hook (va_up (zk Z) (zn Z) (zk Z u) (zn Z)) then va_up (zl Z) (zn Z) (zl Z u) (zn Z) else 0) = _
    simp only [va_up_self]
    rfl
  have hct : CT S6 (va_up ad (zn Z) (ns_z S)) (va_up na (zn Z) (ns_z S + 1)) (va_up ha (zn Z) (ns_z S + 2)) cur (wC Z u) (zn Z) := by
    unfold CT
    rw [c1, c2, own_wC]
    show ns_k S6 (va_up ad (zn Z) (ns_z S) (zn Z)) = 2 ∧ fI S6 100 (va_up ad (zn Z) (ns_z S) (zn Z)) = nI (zn Z) ∧ fI S6 101 (va_up ad (zn Z) (ns_z S) (zn Z)) = nI (va_up (zk Z) (zn Z) (zk Z u) (zn Z)) ∧ fI S6 102 (va_up ad (zn Z) (ns_z S) (zn Z)) = va_up (zv Z) (zn Z) (zv Z u) (zn Z) ∧ fR S6 103 (va_up ad (zn Z) (ns_z S) (zn Z)) = some (va_up na (zn Z) (ns_z S + 1) (zn Z)) ∧ fR S6 104 (va_up ad (zn Z) (ns_z S) (zn Z)) = some (va_up ha (zn Z) (ns_z S + 2) (zn Z)) ∧ fJ S6 105 (va_up ad (zn Z) (ns_z S) (zn Z)) = own Z u ∧ (∃ w, w ≤ cur ∧ fI S6 106 (va_up ad (zn Z) (ns_z S) (zn Z)) = nI w) ∧ (ns_k S6 (va_up na (zn Z) (ns_z S + 1) (zn Z)) = 7 ∧ ns_n S6 (va_up na (zn Z) (ns_z S + 1) (zn Z)) = cnl Z u ∧ ns_k S6 (va_up ha (zn Z) (ns_z S + 2) (zn Z)) = 8 ∧ ns_n S6 (va_up ha (zn Z) (ns_z S + 2) (zn Z)) = chl Z u) ∧ (∀ j, j < cnl Z u → aJ S6 (va_up na (zn Z) (ns_z S + 1) (zn Z)) j = va_up (zm Z) (zn Z) (zm Z u) (zn Z) j) ∧ ∀ j, j < chl Z u → aR S6 (va_up ha (zn Z) (ns_z S + 2) (zn Z)) j = Option.map (va_up ad (zn Z) (ns_z S)) (va_up (zh Z) (zn Z) (zh Z u) (zn Z) j)
    simp only [va_up_self]
    rw [g1, g2, g3, g4, g5, g6, g7 _ _ (by omega), g7 _ _ (by omega), e1, e2, e3, e4]
    refine ⟨by rw [← e1]; exact k2, f100, f101, f102, f103, f104, f105, ⟨0, Nat.zero_le _, f106⟩, ⟨?_, ?_, ?_, ?_⟩, fun j hj => ?_, fun j hj => ?_⟩
    · rw [d3_k l1 l2, if_neg (by omega), if_pos rfl]; exact t9.1
    · rw [d3_n l1 l2, if_neg (by omega), if_pos rfl]; exact t9.2.1
    · rw [d3_k l1 l2, if_pos rfl]; exact t9.2.2.1
    · rw [d3_n l1 l2, if_pos rfl]; exact t9.2.2.2
    · rw [d3_aJ l1 l2, if_neg (by omega), if_pos rfl]; exact t10 j hj
    · rw [d3_aR l1 l2, if_pos rfl, t11 j hj]
      cases hz : zh Z u j with
      | none => rfl
      | some x =>
        have := zch hZ u j x hu hj hz
        show some (ad x) = some (va_up ad (zn Z) (ns_z S) x)
        rw [va_up_ne _ _ (by omega)]
  exact CR_shelve (f := zm Z u) (hh := zh Z u) h6 hZ (fun i hi => (n1 i hi _ (Nat.le_refl _)).1) (fun i hi => (n1 i hi _ (by omega)).2.1) (fun i hi => (n1 i hi _ (by omega)).2.2) (n2 _ (by omega)).1 (fun j x hj hx => hZ.2.2 u j x hu hj hx) hct
end CDUP
