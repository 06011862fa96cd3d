/-! ===== rules to run the machine by: each an equivalence ===== -/
theorem rf_ok (o : Option Nat) : ns_rfok (va_rf o) = true := by cases o <;> rfl
theorem rf_o (o : Option Nat) : ns_rfo (va_rf o) = o := by cases o <;> rfl
theorem rf_cat (o : Option Nat) : (va_rf o).category = 1 := by cases o <;> rfl
theorem rf_c1 (o : Option Nat) : ns_c1 (some (va_rf o)) = true := by cases o <;> rfl
theorem int_c1 (x : Int32) : ns_c1 (some (.int x)) = true := rfl
theorem none_c1 : ns_c1 none = true := rfl
theorem cat_nil : ns_cat [] = 0 := rfl
theorem cat_int (x : Int32) (t : List Value) : ns_cat (.int x :: t) = 1 + ns_cat t := by simp [ns_cat, Value.category]
theorem cat_long (x : Int64) (t : List Value) : ns_cat (.long x :: t) = 2 + ns_cat t := by simp [ns_cat, Value.category]
theorem cat_rf (o : Option Nat) (t : List Value) : ns_cat (va_rf o :: t) = 1 + ns_cat t := by simp [ns_cat, rf_cat]
theorem toList_s (v : Value) (t : List Value) : (some v).toList ++ t = v :: t := rfl
theorem toList_n (t : List Value) : (none : Option Value).toList ++ t = t := rfl
section NSR
variable {k pc : Nat} {L : List (Option Value)} {st : List Value} {S : ns_St} {r : ns_Rs} {i : Instr} {n : Nat}
theorem ns_act_of (hd : decode (ns_c k) pc = .ok (i, n)) (hk : k < 95) (hn : ns_ln i n = true) : ns_act (k, pc, L, st, S) = ns_I k pc L st S i := by
  unfold ns_act
  simp only [hd, hk, hn, and_self, if_true]
theorem E1 (hd : decode (ns_c k) pc = .ok (i, n)) (hk : k < 95) (hn : ns_ln i n = true) {y : ns_Cf} (hI : ns_I k pc L st S i = some (.inl y)) : Ev (k, pc, L, st, S) r ↔ Ev y r := Ev_next ((ns_act_of hd hk hn).trans hI) r
theorem E2 (hd : decode (ns_c k) pc = .ok (i, n)) (hk : k < 95) (hn : ns_ln i n = true) {y1 y2 : ns_Cf} {q : Prop} [Decidable q] (hI : ns_I k pc L st S i = if q then some (.inl y1) else some (.inl y2)) : Ev (k, pc, L, st, S) r ↔ if q then Ev y1 r else Ev y2 r := by
  have h := (ns_act_of (L := L) (st := st) (S := S) hd hk hn).trans hI
  by_cases g : q
  · rw [if_pos g] at h ⊢
    exact Ev_next h r
  · rw [if_neg g] at h ⊢
    exact Ev_next h r
/-- a step behind a test -/
theorem E3 (hd : decode (ns_c k) pc = .ok (i, n)) (hk : k < 95) (hn : ns_ln i n = true) {y : ns_Cf} {q : Prop} [Decidable q] (hI : ns_I k pc L st S i = if q then some (.inl y) else none) : Ev (k, pc, L, st, S) r ↔ q ∧ Ev y r := by
  have h := (ns_act_of (L := L) (st := st) (S := S) hd hk hn).trans hI
  by_cases g : q
  · rw [if_pos g] at h
    rw [Ev_next h r]
    exact ⟨fun z => ⟨g, z⟩, fun z => z.2⟩
  · rw [if_neg g] at h
    rw [Ev_bad h r]
    exact ⟨fun z => z.elim, fun z => g z.1⟩
/-- a reference that must be there -/
theorem E4 (hd : decode (ns_c k) pc = .ok (i, n)) (hk : k < 95) (hn : ns_ln i n = true) {o : Option Nat} {f : Value → List Value} {y : Nat → ns_Cf} {q : Nat → Prop} [DecidablePred q] (h0 : ns_I k pc L (f .null) S i = none) (hI : ∀ a, ns_I k pc L (f (.ref a)) S i = if q a then some (.inl (y a)) else none) : Ev (k, pc, L, f (va_rf o), S) r ↔ ∃ a, o = some a ∧ q a ∧ Ev (y a) r := by
  cases o with
  | none =>
    rw [show f (va_rf none) = f .null from rfl, Ev_bad ((ns_act_of hd hk hn).trans h0) r]
    exact ⟨fun z => z.elim, fun ⟨a, h, _⟩ => by cases h⟩
  | some a =>
    rw [show f (va_rf (some a)) = f (.ref a) from rfl, E3 hd hk hn (hI a)]
    exact ⟨fun z => ⟨a, rfl, z⟩, fun ⟨b, h, z⟩ => by cases h; exact z⟩
theorem E_ret (hd : decode (ns_c k) pc = .ok (i, n)) (hk : k < 95) (hn : ns_ln i n = true) {r0 : ns_Rs} (hI : ns_I k pc L st S i = some (.inr (.inl r0))) : Ev (k, pc, L, st, S) r ↔ r = r0 := Ev_ret ((ns_act_of hd hk hn).trans hI) r
theorem E_retz {x : Int32} (hd : decode (ns_c k) pc = .ok (.ireturn, 1)) (hk : k < 95) (hr : ns_r k = some .boolean) : Ev (k, pc, L, [.int x], S) r ↔ (x = 0 ∨ x = 1) ∧ r = (some (.int x), S) := by
  have h := ns_act_of (L := L) (st := [.int x]) (S := S) hd hk rfl
  have h1 : ns_I k pc L [.int x] S .ireturn = if ns_retok (ns_r k) (.int x) 0 = true then some (.inr (.inl (some (.int x), S))) else none := rfl
  rw [h1, hr] at h
  by_cases g : x = 0 ∨ x = 1
  · rw [if_pos (by simpa [ns_retok] using g)] at h
    rw [Ev_ret h r]
    exact ⟨fun z => ⟨g, z⟩, fun z => z.2⟩
  · rw [if_neg (by simpa [ns_retok] using g)] at h
    rw [Ev_bad h r]
    exact ⟨fun z => z.elim, fun z => g z.1⟩
theorem E_reta {o : Option Nat} {C : String} (hd : decode (ns_c k) pc = .ok (.areturn, 1)) (hk : k < 95) (hr : ns_r k = some (.object C)) : Ev (k, pc, L, [va_rf o], S) r ↔ r = (some (va_rf o), S) := by
  have h := ns_act_of (L := L) (st := [va_rf o]) (S := S) hd hk rfl
  have h1 : ns_I k pc L [va_rf o] S .areturn = if ns_retok (ns_r k) (va_rf o) 2 = true then some (.inr (.inl (some (va_rf o), S))) else none := rfl
  rw [h1, hr, if_pos (by cases o <;> rfl)] at h
  exact Ev_ret h r
theorem E_aload (hd : decode (ns_c k) pc = .ok (i, n)) (hk : k < 95) (hn : ns_ln i n = true) {o : Option Nat} {j : Nat} (hi : i = .aload j ∨ ∃ f : Fin 4, i = .aload_n f ∧ (f : Nat) = j) (hL : L.getD j none = some (va_rf o)) : Ev (k, pc, L, st, S) r ↔ Ev (k, pc + n, L, va_rf o :: st, S) r := by
  refine E1 hd hk hn ?_
  rcases hi with rfl | ⟨f, rfl, rfl⟩
  · have e : n = 2 := eq_of_beq hn
    subst e
    show ns_ld k pc L st S ns_rfok j 2 = _
    unfold ns_ld
    rw [hL]
    simp only [rf_ok, if_true]
  · have e : n = 1 := eq_of_beq hn
    subst e
    show ns_ld k pc L st S ns_rfok f 1 = _
    unfold ns_ld
    rw [hL]
    simp only [rf_ok, if_true]
theorem E_astore (hd : decode (ns_c k) pc = .ok (i, n)) (hk : k < 95) (hn : ns_ln i n = true) {o : Option Nat} {j : Nat} (hi : i = .astore j ∨ ∃ f : Fin 4, i = .astore_n f ∧ (f : Nat) = j) {L' : List (Option Value)} (hj : j < L.length) (hL : L.set j (some (va_rf o)) = L') : Ev (k, pc, L, va_rf o :: st, S) r ↔ ns_ahead L j = true ∧ Ev (k, pc + n, L', st, S) r := by
  subst hL
  refine E3 hd hk hn ?_
  rcases hi with rfl | ⟨f, rfl, rfl⟩
  · have e : n = 2 := eq_of_beq hn
    subst e
    show ns_sto k pc L (va_rf o :: st) S ns_rfok j 2 = _
    unfold ns_sto
    simp only [rf_ok, hj, true_and]
  · have e : n = 1 := eq_of_beq hn
    subst e
    show ns_sto k pc L (va_rf o :: st) S ns_rfok f 1 = _
    unfold ns_sto
    simp only [rf_ok, hj, true_and]
theorem E_istore (hd : decode (ns_c k) pc = .ok (i, n)) (hk : k < 95) (hn : ns_ln i n = true) {x : Int32} {j : Nat} (hi : i = .istore j ∨ ∃ f : Fin 4, i = .istore_n f ∧ (f : Nat) = j) {L' : List (Option Value)} (hj : j < L.length) (hL : L.set j (some (.int x)) = L') : Ev (k, pc, L, .int x :: st, S) r ↔ ns_ahead L j = true ∧ Ev (k, pc + n, L', st, S) r := by
  subst hL
  refine E3 hd hk hn ?_
  rcases hi with rfl | ⟨f, rfl, rfl⟩
  · have e : n = 2 := eq_of_beq hn
    subst e
    show ns_sto k pc L (.int x :: st) S ns_isI j 2 = _
    unfold ns_sto
    simp only [ns_isI, hj, true_and]
  · have e : n = 1 := eq_of_beq hn
    subst e
    show ns_sto k pc L (.int x :: st) S ns_isI f 1 = _
    unfold ns_sto
    simp only [ns_isI, hj, true_and]
theorem E_lstore (hd : decode (ns_c k) pc = .ok (i, n)) (hk : k < 95) (hn : ns_ln i n = true) {x : Int64} {j : Nat} (hi : i = .lstore j ∨ ∃ f : Fin 4, i = .lstore_n f ∧ (f : Nat) = j) {L' : List (Option Value)} (hj : j + 1 < L.length) (hL : (L.set j (some (.long x))).set (j + 1) none = L') : Ev (k, pc, L, .long x :: st, S) r ↔ ns_ahead L j = true ∧ Ev (k, pc + n, L', st, S) r := by
  subst hL
  refine E3 hd hk hn ?_
  rcases hi with rfl | ⟨f, rfl, rfl⟩
  · have e : n = 2 := eq_of_beq hn
    subst e
    show ns_sto2 k pc L (.long x :: st) S j 2 = _
    unfold ns_sto2
    simp only [ns_isJ, hj, true_and]
  · have e : n = 1 := eq_of_beq hn
    subst e
    show ns_sto2 k pc L (.long x :: st) S f 1 = _
    unfold ns_sto2
    simp only [ns_isJ, hj, true_and]
theorem E_iinc {x : Int32} {j : Nat} {m : Int} {v : Int32} (hd : decode (ns_c k) pc = .ok (.iinc j m, 3)) (hk : k < 95) {L' : List (Option Value)} (hj : j < L.length) (hx : L.getD j none = some (.int x)) (hv : Int32.ofInt m = v) (hL : L.set j (some (.int (x + v))) = L') : Ev (k, pc, L, st, S) r ↔ ns_ahead L j = true ∧ Ev (k, pc + 3, L', st, S) r := by
  subst hL
  subst hv
  refine E3 hd hk rfl ?_
  show ns_iinc k pc L st S j m = _
  unfold ns_iinc
  rw [hx]
  simp only [hj, true_and]
theorem E_dupr {o : Option Nat} (hd : decode (ns_c k) pc = .ok (.dup, 1)) (hk : k < 95) : Ev (k, pc, L, va_rf o :: st, S) r ↔ Ev (k, pc + 1, L, va_rf o :: va_rf o :: st, S) r := by
  refine E1 hd hk rfl ?_
  show ns_dup k pc L (va_rf o :: st) S = _
  unfold ns_dup
  simp only [rf_cat, if_true]
theorem E_popr {o : Option Nat} (hd : decode (ns_c k) pc = .ok (.pop, 1)) (hk : k < 95) : Ev (k, pc, L, va_rf o :: st, S) r ↔ Ev (k, pc + 1, L, st, S) r := by
  refine E1 hd hk rfl ?_
  show ns_pop k pc L (va_rf o :: st) S = _
  unfold ns_pop
  simp only [rf_cat, if_true]
theorem E_dup2ir {o : Option Nat} {x : Int32} (hd : decode (ns_c k) pc = .ok (.dup2, 1)) (hk : k < 95) : Ev (k, pc, L, .int x :: va_rf o :: st, S) r ↔ Ev (k, pc + 1, L, .int x :: va_rf o :: .int x :: va_rf o :: st, S) r := by
  refine E1 hd hk rfl ?_
  show ns_dup2 k pc L (.int x :: va_rf o :: st) S = _
  unfold ns_dup2
  exact if_pos ⟨rfl, rf_cat o⟩
theorem E_null {o : Option Nat} {off : Int} {tgt : Nat} (hd : decode (ns_c k) pc = .ok (.ifnull off, 3)) (hk : k < 95) (ht : (pc : Int) + off = (tgt : Int)) : Ev (k, pc, L, va_rf o :: st, S) r ↔ if o = none then Ev (k, tgt, L, st, S) r else Ev (k, pc + 3, L, st, S) r := by
  refine E2 hd hk rfl ?_
  show (if 0 ≤ (pc : Int) + off then ns_nul k pc L (va_rf o :: st) S true off else none) = _
  unfold ns_nul ns_to
  rw [ht]
  cases o <;> simp [va_rf, ns_rfok, ns_rfo]
theorem E_nonnull {o : Option Nat} {off : Int} {tgt : Nat} (hd : decode (ns_c k) pc = .ok (.ifnonnull off, 3)) (hk : k < 95) (ht : (pc : Int) + off = (tgt : Int)) : Ev (k, pc, L, va_rf o :: st, S) r ↔ if o = none then Ev (k, pc + 3, L, st, S) r else Ev (k, tgt, L, st, S) r := by
  refine E2 hd hk rfl ?_
  show (if 0 ≤ (pc : Int) + off then ns_nul k pc L (va_rf o :: st) S false off else none) = _
  unfold ns_nul ns_to
  rw [ht]
  cases o <;> simp [va_rf, ns_rfok, ns_rfo]
theorem E_acmp_eq {o o' : Option Nat} {off : Int} {tgt : Nat} (hd : decode (ns_c k) pc = .ok (.if_acmp .eq off, 3)) (hk : k < 95) (ht : (pc : Int) + off = (tgt : Int)) : Ev (k, pc, L, va_rf o' :: va_rf o :: st, S) r ↔ if o = o' then Ev (k, tgt, L, st, S) r else Ev (k, pc + 3, L, st, S) r := by
  refine E2 hd hk rfl ?_
  show (if 0 ≤ (pc : Int) + off then ns_acmp k pc L (va_rf o' :: va_rf o :: st) S .eq off else none) = _
  unfold ns_acmp ns_to
  rw [ht]
  simp [rf_ok, rf_o]
theorem E_acmp_ne {o o' : Option Nat} {off : Int} {tgt : Nat} (hd : decode (ns_c k) pc = .ok (.if_acmp .ne off, 3)) (hk : k < 95) (ht : (pc : Int) + off = (tgt : Int)) : Ev (k, pc, L, va_rf o' :: va_rf o :: st, S) r ↔ if o = o' then Ev (k, pc + 3, L, st, S) r else Ev (k, tgt, L, st, S) r := by
  refine E2 hd hk rfl ?_
  show (if 0 ≤ (pc : Int) + off then ns_acmp k pc L (va_rf o' :: va_rf o :: st) S .ne off else none) = _
  unfold ns_acmp ns_to
  rw [ht]
  simp [rf_ok, rf_o]
-- fields
theorem E_get {o : Option Nat} {j ci f : Nat} (hd : decode (ns_c k) pc = .ok (.getfield j, 3)) (hk : k < 95) (hl : ns_lk (ns_o k) j ns_ft = some (ci, f)) {V : Nat → Value} (hV : ∀ a, ns_fv S ci f a = V a) : Ev (k, pc, L, va_rf o :: st, S) r ↔ ∃ a, o = some a ∧ ns_k S a = ci + 1 ∧ Ev (k, pc + 3, L, V a :: st, S) r := by
  refine E4 (f := fun v => v :: st) hd hk rfl ?_ (fun a => ?_)
  · rfl
  · show ns_get k pc L (.ref a :: st) S j = _
    unfold ns_get
    simp only [hl, hV]
theorem E_putI {o : Option Nat} {j ci f x9 : Nat} {x : Int32} (hd : decode (ns_c k) pc = .ok (.putfield j, 3)) (hk : k < 95) (hl : ns_lk (ns_o k) j ns_ft = some (ci, f)) (hf : (ns_T ci f).2.2.2 = false ∨ (ns_ini k = true ∧ ci = ns_o k)) (ht : ns_fk (ns_ty ci f) = 0) (hx : 100 * ci + f = x9) : Ev (k, pc, L, .int x :: va_rf o :: st, S) r ↔ ∃ a, o = some a ∧ ns_k S a = ci + 1 ∧ Ev (k, pc + 3, L, st, pI S x9 a x) r := by
  refine E4 (f := fun v => .int x :: v :: st) hd hk rfl ?_ (fun a => ?_)
  · rfl
  · show ns_put k pc L (.int x :: .ref a :: st) S j = _
    unfold ns_put
    simp only [hl, hf, and_true]
    unfold ns_putv
    rw [ht, hx]
    rfl
theorem E_putZ {o : Option Nat} {j ci f x9 : Nat} {x : Int32} (hd : decode (ns_c k) pc = .ok (.putfield j, 3)) (hk : k < 95) (hl : ns_lk (ns_o k) j ns_ft = some (ci, f)) (hf : (ns_T ci f).2.2.2 = false ∨ (ns_ini k = true ∧ ci = ns_o k)) (ht : ns_fk (ns_ty ci f) = 1) (hx : 100 * ci + f = x9) : Ev (k, pc, L, .int x :: va_rf o :: st, S) r ↔ ∃ a, o = some a ∧ (ns_k S a = ci + 1 ∧ (x = 0 ∨ x = 1)) ∧ Ev (k, pc + 3, L, st, pI S x9 a x) r := by
  refine E4 (f := fun v => .int x :: v :: st) hd hk rfl ?_ (fun a => ?_)
  · rfl
  · show ns_put k pc L (.int x :: .ref a :: st) S j = _
    unfold ns_put
    simp only [hl, hf, and_true]
    unfold ns_putv
    rw [ht, hx]
    by_cases g : x = 0 ∨ x = 1 <;> by_cases g2 : ns_k S a = ci + 1 <;> simp [g, g2]
theorem E_putJ {o : Option Nat} {j ci f x9 : Nat} {x : Int64} (hd : decode (ns_c k) pc = .ok (.putfield j, 3)) (hk : k < 95) (hl : ns_lk (ns_o k) j ns_ft = some (ci, f)) (hf : (ns_T ci f).2.2.2 = false ∨ (ns_ini k = true ∧ ci = ns_o k)) (ht : ns_fk (ns_ty ci f) = 2) (hx : 100 * ci + f = x9) : Ev (k, pc, L, .long x :: va_rf o :: st, S) r ↔ ∃ a, o = some a ∧ ns_k S a = ci + 1 ∧ Ev (k, pc + 3, L, st, pJ S x9 a x) r := by
  refine E4 (f := fun v => .long x :: v :: st) hd hk rfl ?_ (fun a => ?_)
  · rfl
  · show ns_put k pc L (.long x :: .ref a :: st) S j = _
    unfold ns_put
    simp only [hl, hf, and_true]
    unfold ns_putv
    rw [ht, hx]
    rfl
theorem E_putR {o w : Option Nat} {j ci f x9 : Nat} (hd : decode (ns_c k) pc = .ok (.putfield j, 3)) (hk : k < 95) (hl : ns_lk (ns_o k) j ns_ft = some (ci, f)) (hf : (ns_T ci f).2.2.2 = false ∨ (ns_ini k = true ∧ ci = ns_o k)) (ht : ns_fk (ns_ty ci f) = 3) (hx : 100 * ci + f = x9) : Ev (k, pc, L, va_rf w :: va_rf o :: st, S) r ↔ ∃ a, o = some a ∧ ns_k S a = ci + 1 ∧ Ev (k, pc + 3, L, st, pR S x9 a w) r := by
  refine E4 (f := fun v => va_rf w :: v :: st) hd hk rfl ?_ (fun a => ?_)
  · cases w <;> rfl
  · show ns_put k pc L (va_rf w :: .ref a :: st) S j = _
    unfold ns_put
    simp only [hl, hf, and_true]
    unfold ns_putv
    rw [ht, hx]
    simp only [rf_ok, rf_o, if_true]
-- rows
theorem E_ldI {o : Option Nat} {j : Int32} (hd : decode (ns_c k) pc = .ok (.iaload, 1)) (hk : k < 95) : Ev (k, pc, L, .int j :: va_rf o :: st, S) r ↔ ∃ a, o = some a ∧ (ns_k S a = 6 ∧ ns_inb j (ns_n S a) = true) ∧ Ev (k, pc + 1, L, .int (aI S a j.toNatClampNeg) :: st, S) r :=
  E4 (f := fun v => .int j :: v :: st) hd hk rfl rfl (fun _ => rfl)
theorem E_ldJ {o : Option Nat} {j : Int32} (hd : decode (ns_c k) pc = .ok (.laload, 1)) (hk : k < 95) : Ev (k, pc, L, .int j :: va_rf o :: st, S) r ↔ ∃ a, o = some a ∧ (ns_k S a = 7 ∧ ns_inb j (ns_n S a) = true) ∧ Ev (k, pc + 1, L, .long (aJ S a j.toNatClampNeg) :: st, S) r :=
  E4 (f := fun v => .int j :: v :: st) hd hk rfl rfl (fun _ => rfl)
theorem E_ldR {o : Option Nat} {j : Int32} (hd : decode (ns_c k) pc = .ok (.aaload, 1)) (hk : k < 95) : Ev (k, pc, L, .int j :: va_rf o :: st, S) r ↔ ∃ a, o = some a ∧ (ns_k S a = 8 ∧ ns_inb j (ns_n S a) = true) ∧ Ev (k, pc + 1, L, va_rf (aR S a j.toNatClampNeg) :: st, S) r :=
  E4 (f := fun v => .int j :: v :: st) hd hk rfl rfl (fun _ => rfl)
theorem E_stI {o : Option Nat} {j x : Int32} (hd : decode (ns_c k) pc = .ok (.iastore, 1)) (hk : k < 95) : Ev (k, pc, L, .int x :: .int j :: va_rf o :: st, S) r ↔ ∃ a, o = some a ∧ (ns_k S a = 6 ∧ ns_inb j (ns_n S a) = true) ∧ Ev (k, pc + 1, L, st, qI S a j.toNatClampNeg x) r :=
  E4 (f := fun v => .int x :: .int j :: v :: st) hd hk rfl rfl (fun _ => rfl)
theorem E_stJ {o : Option Nat} {j : Int32} {x : Int64} (hd : decode (ns_c k) pc = .ok (.lastore, 1)) (hk : k < 95) : Ev (k, pc, L, .long x :: .int j :: va_rf o :: st, S) r ↔ ∃ a, o = some a ∧ (ns_k S a = 7 ∧ ns_inb j (ns_n S a) = true) ∧ Ev (k, pc + 1, L, st, qJ S a j.toNatClampNeg x) r :=
  E4 (f := fun v => .long x :: .int j :: v :: st) hd hk rfl rfl (fun _ => rfl)
theorem E_stR {o w : Option Nat} {j : Int32} (hd : decode (ns_c k) pc = .ok (.aastore, 1)) (hk : k < 95) : Ev (k, pc, L, va_rf w :: .int j :: va_rf o :: st, S) r ↔ ∃ a, o = some a ∧ (ns_k S a = 8 ∧ ns_inb j (ns_n S a) = true ∧ ns_okT S w = true) ∧ Ev (k, pc + 1, L, st, qR S a j.toNatClampNeg w) r := by
  refine E4 (f := fun v => va_rf w :: .int j :: v :: st) hd hk rfl ?_ (fun a => ?_)
  · cases w <;> rfl
  · show ns_stR k pc L (va_rf w :: .int j :: .ref a :: st) S = _
    unfold ns_stR
    simp only [rf_ok, rf_o, true_and]
theorem E_len {o : Option Nat} (hd : decode (ns_c k) pc = .ok (.arraylength, 1)) (hk : k < 95) : Ev (k, pc, L, va_rf o :: st, S) r ↔ ∃ a, o = some a ∧ (6 ≤ ns_k S a ∧ ns_k S a ≤ 8) ∧ Ev (k, pc + 1, L, .int (nI (ns_n S a)) :: st, S) r :=
  E4 (f := fun v => v :: st) hd hk rfl rfl (fun _ => rfl)
theorem E_cast7 {o : Option Nat} (hd : decode (ns_c k) pc = .ok (.checkcast 32, 3)) (hk : k < 95) (ho : ns_o k = 1) : Ev (k, pc, L, va_rf o :: st, S) r ↔ ∃ a, o = some a ∧ ns_k S a = 7 ∧ Ev (k, pc + 3, L, va_rf (some a) :: st, S) r := by
  refine E4 (f := fun v => v :: st) hd hk rfl rfl (fun a => ?_)
  show ns_cast k pc L (.ref a :: st) S 32 = _
  unfold ns_cast
  simp [ho, va_rf]
theorem E_cast8 {o : Option Nat} (hd : decode (ns_c k) pc = .ok (.checkcast 37, 3)) (hk : k < 95) (ho : ns_o k = 1) : Ev (k, pc, L, va_rf o :: st, S) r ↔ ∃ a, o = some a ∧ ns_k S a = 8 ∧ Ev (k, pc + 3, L, va_rf (some a) :: st, S) r := by
  refine E4 (f := fun v => v :: st) hd hk rfl rfl (fun a => ?_)
  show ns_cast k pc L (.ref a :: st) S 37 = _
  unfold ns_cast
  simp [ho, va_rf]
theorem E_clone7 {o : Option Nat} (hd : decode (ns_c k) pc = .ok (.invokevirtual 31, 3)) (hk : k < 95) (ho : ns_o k = 1) : Ev (k, pc, L, va_rf o :: st, S) r ↔ ∃ a, o = some a ∧ (ns_k S a = 7 ∧ ns_cat st ≤ 8) ∧ Ev (k, pc + 3, L, va_rf (some (ns_z S)) :: st, nC S a) r := by
  refine E4 (f := fun v => v :: st) hd hk rfl ?_ (fun a => ?_)
  · show ns_virt k pc L (.null :: st) S 31 = _
    unfold ns_virt
    simp [ho]
  · show ns_virt k pc L (.ref a :: st) S 31 = _
    unfold ns_virt
    simp [ho, va_rf]
theorem E_clone8 {o : Option Nat} (hd : decode (ns_c k) pc = .ok (.invokevirtual 36, 3)) (hk : k < 95) (ho : ns_o k = 1) : Ev (k, pc, L, va_rf o :: st, S) r ↔ ∃ a, o = some a ∧ (ns_k S a = 8 ∧ ns_cat st ≤ 8) ∧ Ev (k, pc + 3, L, va_rf (some (ns_z S)) :: st, nC S a) r := by
  refine E4 (f := fun v => v :: st) hd hk rfl ?_ (fun a => ?_)
  · show ns_virt k pc L (.null :: st) S 36 = _
    unfold ns_virt
    simp [ho]
  · show ns_virt k pc L (.ref a :: st) S 36 = _
    unfold ns_virt
    simp [ho, va_rf]
theorem E_newa {x : Int32} {kd : Nat} (hd : decode (ns_c k) pc = .ok (i, n)) (hk : k < 95) (hn : ns_ln i n = true) (hI : ns_I k pc L (.int x :: st) S i = ns_newa k pc L (.int x :: st) S kd n) : Ev (k, pc, L, .int x :: st, S) r ↔ (¬ x < 0 ∧ x.toNatClampNeg ≤ 1000000) ∧ Ev (k, pc + n, L, va_rf (some (ns_z S)) :: st, nA S kd x.toNatClampNeg) r := E3 hd hk hn (hI.trans rfl)
-- calls
theorem E_go (hd : decode (ns_c k) pc = .ok (i, n)) (hk : k < 95) (hn : ns_ln i n = true) {k1 : Nat} {vs t : List Value} (hI : ns_I k pc L st S i = ns_go k pc L S k1 vs t) {Le : List (Option Value)} (h1 : ns_h k1 + 1 ≤ ns_h k ∧ ns_m k1 ≤ 16) (hl : (ns_el vs).length ≤ ns_m k1) (he : ns_entry k1 vs = Le) : Ev (k, pc, L, st, S) r ↔ ns_cat t ≤ 8 ∧ ∃ r1, Ev (k1, 0, Le, [], S) r1 ∧ Ev (k, pc + 3, L, r1.1.toList ++ t, r1.2) r := by
  subst he
  have h := (ns_act_of (L := L) (st := st) (S := S) hd hk hn).trans hI
  unfold ns_go at h
  by_cases g : ns_cat t ≤ 8
  · rw [if_pos ⟨h1.1, h1.2, hl, g⟩] at h
    rw [Ev_call h r]
    exact ⟨fun z => ⟨g, z⟩, fun z => z.2⟩
  · rw [if_neg (fun z => g z.2.2.2)] at h
    rw [Ev_bad h r]
    exact ⟨fun z => z.elim, fun z => g z.1⟩
theorem E_virt {j k1 : Nat} {o : Option Nat} {vs t : List Value} (hd : decode (ns_c k) pc = .ok (.invokevirtual j, 3)) (hk : k < 95) (hj : ¬ (ns_o k = 1 ∧ j = 31) ∧ ¬ (ns_o k = 1 ∧ j = 36)) (hm : ns_lk (ns_o k) j ns_mt = some k1) (hf : ns_stt k1 = false ∧ ns_ini k1 = false) (hvs : vs.length = ns_pn k1) {Le : Nat → List (Option Value)} (h1 : ns_h k1 + 1 ≤ ns_h k ∧ ns_m k1 ≤ 16) (hl : (ns_el vs.reverse).length + 1 ≤ ns_m k1) (he : ∀ a, ns_entry k1 (.ref a :: vs.reverse) = Le a) : Ev (k, pc, L, vs ++ va_rf o :: t, S) r ↔ ∃ a, o = some a ∧ ns_k S a = ns_o k1 + 1 ∧ ns_cat t ≤ 8 ∧ ∃ r1, Ev (k1, 0, Le a, [], S) r1 ∧ Ev (k, pc + 3, L, r1.1.toList ++ t, r1.2) r := by
  have key : ∀ v : Value, ns_I k pc L (vs ++ v :: t) S (.invokevirtual j) = (match v with
      | .ref b => if ns_k S b = ns_o k1 + 1 ∧ ns_stt k1 = false ∧ ns_ini k1 = false then ns_go k pc L S k1 (.ref b :: vs.reverse) t else none
      | _ => none) := by
    intro v
    show ns_virt k pc L (vs ++ v :: t) S j = _
    unfold ns_virt
    rw [if_neg hj.1, if_neg hj.2, hm]
    simp only [← hvs, List.drop_left, List.take_left]
    cases v <;> rfl
  cases o with
  | none =>
    rw [show va_rf none = Value.null from rfl, Ev_bad ((ns_act_of hd hk rfl).trans (key .null)) r]
    exact ⟨fun z => z.elim, fun ⟨a, h, _⟩ => by cases h⟩
  | some a =>
    rw [show va_rf (some a) = Value.ref a from rfl]
    by_cases g : ns_k S a = ns_o k1 + 1
    · have h2 := key (.ref a)
      simp only [g, hf, and_self, if_true] at h2
      rw [E_go hd hk rfl h2 h1 (by
        show (ns_el (.ref a :: vs.reverse)).length ≤ _
        unfold ns_el
        simp [Value.category]
        exact hl) (he a)]
      exact ⟨fun z => ⟨a, rfl, g, z⟩, fun ⟨b, h, _, z⟩ => by cases h; exact z⟩
    · have h2 := key (.ref a)
      simp only [g, false_and, if_false] at h2
      rw [Ev_bad ((ns_act_of hd hk rfl).trans h2) r]
      exact ⟨fun z => z.elim, fun ⟨b, h, z, _⟩ => by cases h; exact g z⟩
theorem E_spec {j k1 : Nat} {o : Option Nat} {vs t : List Value} (hd : decode (ns_c k) pc = .ok (.invokespecial j, 3)) (hk : k < 95) (hj : ns_lk (ns_o k) j ns_ot = none) (hm : ns_lk (ns_o k) j (ns_mt ++ ns_nt) = some k1) (hf : ns_ini k1 = true) (hvs : vs.length = ns_pn k1) {Le : Nat → List (Option Value)} (h1 : ns_h k1 + 1 ≤ ns_h k ∧ ns_m k1 ≤ 16) (hl : (ns_el vs.reverse).length + 1 ≤ ns_m k1) (he : ∀ a, ns_entry k1 (.ref a :: vs.reverse) = Le a) : Ev (k, pc, L, vs ++ va_rf o :: t, S) r ↔ ∃ a, o = some a ∧ ns_cat t ≤ 8 ∧ ∃ r1, Ev (k1, 0, Le a, [], S) r1 ∧ Ev (k, pc + 3, L, r1.1.toList ++ t, r1.2) r := by
  have key : ∀ v : Value, ns_I k pc L (vs ++ v :: t) S (.invokespecial j) = (match v with
      | .ref b => ns_go k pc L S k1 (.ref b :: vs.reverse) t
      | _ => none) := by
    intro v
    show ns_spec k pc L (vs ++ v :: t) S j = _
    unfold ns_spec
    rw [hj]
    simp only [hm, ← hvs, List.drop_left, List.take_left]
    cases v <;> simp [hf]
  cases o with
  | none =>
    rw [show va_rf none = Value.null from rfl, Ev_bad ((ns_act_of hd hk rfl).trans (key .null)) r]
    exact ⟨fun z => z.elim, fun ⟨a, h, _⟩ => by cases h⟩
  | some a =>
    rw [show va_rf (some a) = Value.ref a from rfl, E_go hd hk rfl (key (.ref a)) h1 (by
        show (ns_el (.ref a :: vs.reverse)).length ≤ _
        unfold ns_el
        simp [Value.category]
        exact hl) (he a)]
    exact ⟨fun z => ⟨a, rfl, z⟩, fun ⟨b, h, z⟩ => by cases h; exact z⟩
theorem E_stat {j k1 : Nat} {vs t : List Value} (hd : decode (ns_c k) pc = .ok (.invokestatic j, 3)) (hk : k < 95) (hj : ¬ (ns_o k = 3 ∧ j = 145)) (hm : ns_lk (ns_o k) j ns_mt = some k1) (hf : ns_stt k1 = true) (hvs : vs.length = ns_pn k1) {Le : List (Option Value)} (h1 : ns_h k1 + 1 ≤ ns_h k ∧ ns_m k1 ≤ 16) (hl : (ns_el vs.reverse).length ≤ ns_m k1) (he : ns_entry k1 vs.reverse = Le) : Ev (k, pc, L, vs ++ t, S) r ↔ ns_cat t ≤ 8 ∧ ∃ r1, Ev (k1, 0, Le, [], S) r1 ∧ Ev (k, pc + 3, L, r1.1.toList ++ t, r1.2) r := by
  refine E_go hd hk rfl (vs := vs.reverse) ?_ h1 hl he
  show ns_stat k pc L (vs ++ t) S j = _
  unfold ns_stat
  rw [if_neg hj, hm]
  simp only [← hvs, List.drop_left, List.take_left, List.length_append]
  rw [if_pos ⟨by omega, hf⟩]
theorem E_obj {j : Nat} {o : Option Nat} (hd : decode (ns_c k) pc = .ok (.invokespecial j, 3)) (hk : k < 95) (hj : ns_lk (ns_o k) j ns_ot = some 0) : Ev (k, pc, L, va_rf o :: st, S) r ↔ ∃ a, o = some a ∧ ns_cat st ≤ 8 ∧ Ev (k, pc + 3, L, st, S) r := by
  refine E4 (f := fun v => v :: st) hd hk rfl ?_ (fun a => ?_)
  · show ns_spec k pc L (.null :: st) S j = _
    unfold ns_spec
    rw [hj]
  · show ns_spec k pc L (.ref a :: st) S j = _
    unfold ns_spec
    rw [hj]
end NSR
