/-! ===== one step of the small machine ===== -/
abbrev ns_Cf : Type := Nat × Nat × List (Option Value) × List Value × ns_St
abbrev ns_Rs : Type := Option Value × ns_St
abbrev ns_Act : Type := ns_Cf ⊕ (ns_Rs ⊕ (ns_Cf × (Option Value → ns_St → ns_Cf)))
def ns_lk {α : Type} (o i : Nat) : List (Nat × Nat × α) → Option α
  | [] => none
  | (a, b, c) :: t => if a = o ∧ b = i then some c else ns_lk o i t
theorem ns_lk_mem {α : Type} {o i : Nat} {c : α} : ∀ {t : List (Nat × Nat × α)}, ns_lk o i t = some c → (o, i, c) ∈ t
  | [], h => by cases h
  | (a, b, d) :: t, h => by
    unfold ns_lk at h
    by_cases e : a = o ∧ b = i
    · rw [if_pos e] at h
      cases h
      rw [e.1, e.2]
      exact List.mem_cons_self
    · rw [if_neg e] at h
      exact List.mem_cons_of_mem _ (ns_lk_mem h)
def ns_rfok (v : Value) : Bool := match v with
  | .ref _ => true
  | .null => true
  | _ => false
def ns_rfo (v : Value) : Option Nat := match v with
  | .ref a => some a
  | _ => none
def ns_isI (v : Value) : Bool := match v with
  | .int _ => true
  | _ => false
def ns_isJ (v : Value) : Bool := match v with
  | .long _ => true
  | _ => false
/-- the place ahead holds no value of two places -/
def ns_c1 (o : Option Value) : Bool := match o with
  | some (.long _) => false
  | some (.double _) => false
  | _ => true
def ns_ahead (L : List (Option Value)) (i : Nat) : Bool := match i with
  | 0 => true
  | j + 1 => ns_c1 (L.getD j none)
def ns_cat (st : List Value) : Nat := (st.map fun v => v.category).sum
def ns_el : List Value → List (Option Value)
  | [] => []
  | v :: r => if v.category = 2 then some v :: none :: ns_el r else some v :: ns_el r
def ns_entry (k : Nat) (vs : List Value) : List (Option Value) := ns_el vs ++ List.replicate (ns_m k - (ns_el vs).length) none
def ns_inb (i : Int32) (n : Nat) : Bool := decide (¬ i < 0 ∧ i.toNatClampNeg < n)
theorem ns_inb_iff {i : Int32} {n : Nat} : ns_inb i n = true ↔ ¬ i < 0 ∧ i.toNatClampNeg < n := by unfold ns_inb; exact decide_eq_true_iff
theorem ns_in_vp {i : Int32} {n : Nat} (h : ns_inb i n = true) : vp_in i n := fun q => q.elim (ns_inb_iff.mp h).1 (fun q => absurd (ns_inb_iff.mp h).2 (Nat.not_lt.mpr q))
def ns_okT (S : ns_St) (o : Option Nat) : Bool := match o with
  | some b => ns_k S b == 2
  | none => true
def ns_retok (t : Option FieldType) (v : Value) (k : Nat) : Bool := match t, v with
  | some .int, .int _ => k == 0
  | some .boolean, .int x => k == 0 && (x == 0 || x == 1)
  | some .long, .long _ => k == 1
  | some (.object _), .ref _ => k == 2
  | some (.object _), .null => k == 2
  | _, _ => false
section NSI
variable (m pc : Nat) (L : List (Option Value)) (st : List Value) (S : ns_St)
def ns_push (n : Nat) (v : Value) : Option ns_Act := some (.inl (m, pc + n, L, v :: st, S))
def ns_ld (p : Value → Bool) (i n : Nat) : Option ns_Act := match L.getD i none with
  | some v => if p v = true then some (.inl (m, pc + n, L, v :: st, S)) else none
  | none => none
def ns_sto (p : Value → Bool) (i n : Nat) : Option ns_Act := match st with
  | v :: r => if p v = true ∧ i < L.length ∧ ns_ahead L i = true then some (.inl (m, pc + n, L.set i (some v), r, S)) else none
  | [] => none
def ns_sto2 (i n : Nat) : Option ns_Act := match st with
  | v :: r => if ns_isJ v = true ∧ i + 1 < L.length ∧ ns_ahead L i = true then some (.inl (m, pc + n, (L.set i (some v)).set (i + 1) none, r, S)) else none
  | [] => none
def ns_iinc (i : Nat) (n : Int) : Option ns_Act := match L.getD i none with
  | some (.int x) => if i < L.length ∧ ns_ahead L i = true then some (.inl (m, pc + 3, L.set i (some (.int (x + Int32.ofInt n))), st, S)) else none
  | _ => none
def ns_ii (f : Int32 → Int32 → Int32) : Option ns_Act := match st with
  | .int y :: .int x :: r => some (.inl (m, pc + 1, L, .int (f x y) :: r, S))
  | _ => none
def ns_jj (f : Int64 → Int64 → Int64) : Option ns_Act := match st with
  | .long y :: .long x :: r => some (.inl (m, pc + 1, L, .long (f x y) :: r, S))
  | _ => none
def ns_lcmp : Option ns_Act := match st with
  | .long y :: .long x :: r => some (.inl (m, pc + 1, L, .int (lg_cmp x y) :: r, S))
  | _ => none
def ns_i2l : Option ns_Act := match st with
  | .int x :: r => some (.inl (m, pc + 1, L, .long x.toInt64 :: r, S))
  | _ => none
def ns_l2i : Option ns_Act := match st with
  | .long x :: r => some (.inl (m, pc + 1, L, .int x.toInt32 :: r, S))
  | _ => none
def ns_i2c : Option ns_Act := match st with
  | .int x :: r => some (.inl (m, pc + 1, L, .int (x.toUInt32 % 65536).toInt32 :: r, S))
  | _ => none
def ns_dup : Option ns_Act := match st with
  | v :: r => if v.category = 1 then some (.inl (m, pc + 1, L, v :: v :: r, S)) else none
  | [] => none
def ns_pop : Option ns_Act := match st with
  | v :: r => if v.category = 1 then some (.inl (m, pc + 1, L, r, S)) else none
  | [] => none
def ns_dup2 : Option ns_Act := match st with
  | v :: w :: r => if v.category = 1 ∧ w.category = 1 then some (.inl (m, pc + 1, L, v :: w :: v :: w :: r, S)) else none
  | _ => none
def ns_to (off : Int) (r : List Value) : Option ns_Act := if 0 ≤ (pc : Int) + off then some (.inl (m, ((pc : Int) + off).toNat, L, r, S)) else none
def ns_if1 (c : ClassFile.Cond) (off : Int) : Option ns_Act := match st with
  | .int x :: r => match c with
    | .eq => if x = 0 then ns_to m pc L S off r else some (.inl (m, pc + 3, L, r, S))
    | .ne => if x = 0 then some (.inl (m, pc + 3, L, r, S)) else ns_to m pc L S off r
    | .lt => if x < 0 then ns_to m pc L S off r else some (.inl (m, pc + 3, L, r, S))
    | .ge => if 0 ≤ x then ns_to m pc L S off r else some (.inl (m, pc + 3, L, r, S))
    | .gt => if 0 < x then ns_to m pc L S off r else some (.inl (m, pc + 3, L, r, S))
    | .le => if x ≤ 0 then ns_to m pc L S off r else some (.inl (m, pc + 3, L, r, S))
  | _ => none
def ns_if2 (c : ClassFile.Cond) (off : Int) : Option ns_Act := match st with
  | .int y :: .int x :: r => match c with
    | .eq => if x = y then ns_to m pc L S off r else some (.inl (m, pc + 3, L, r, S))
    | .ne => if x = y then some (.inl (m, pc + 3, L, r, S)) else ns_to m pc L S off r
    | .lt => if x < y then ns_to m pc L S off r else some (.inl (m, pc + 3, L, r, S))
    | .ge => if y ≤ x then ns_to m pc L S off r else some (.inl (m, pc + 3, L, r, S))
    | .gt => if y < x then ns_to m pc L S off r else some (.inl (m, pc + 3, L, r, S))
    | .le => if x ≤ y then ns_to m pc L S off r else some (.inl (m, pc + 3, L, r, S))
  | _ => none
def ns_nul (b : Bool) (off : Int) : Option ns_Act := match st with
  | v :: r => if ns_rfok v = true then (if (ns_rfo v).isNone = b then ns_to m pc L S off r else some (.inl (m, pc + 3, L, r, S))) else none
  | [] => none
def ns_acmp (c : ACond) (off : Int) : Option ns_Act := match st with
  | w :: v :: r => if ns_rfok v = true ∧ ns_rfok w = true then (match c with
    | .eq => if ns_rfo v = ns_rfo w then ns_to m pc L S off r else some (.inl (m, pc + 3, L, r, S))
    | .ne => if ns_rfo v = ns_rfo w then some (.inl (m, pc + 3, L, r, S)) else ns_to m pc L S off r) else none
  | _ => none
def ns_sw (dflt lo hi : Int) (offs : Array Int) : Option ns_Act := match st with
  | .int x :: r => if x.toInt < lo ∨ hi < x.toInt then ns_to m pc L S dflt r else match offs[(x.toInt - lo).toNat]? with
    | some off => ns_to m pc L S off r
    | none => none
  | _ => none
def ns_get (i : Nat) : Option ns_Act := match st with
  | .ref a :: r => match ns_lk (ns_o m) i ns_ft with
    | some (ci, k) => if ns_k S a = ci + 1 then some (.inl (m, pc + 3, L, ns_fv S ci k a :: r, S)) else none
    | none => none
  | _ => none
def ns_putv (ci k a : Nat) (v : Value) : Option ns_St := match ns_fk (ns_ty ci k), v with
  | 0, .int x => some (pI S (100 * ci + k) a x)
  | 1, .int x => if x = 0 ∨ x = 1 then some (pI S (100 * ci + k) a x) else none
  | 2, .long x => some (pJ S (100 * ci + k) a x)
  | 3, w => if ns_rfok w = true then some (pR S (100 * ci + k) a (ns_rfo w)) else none
  | _, _ => none
def ns_put (i : Nat) : Option ns_Act := match st with
  | v :: .ref a :: r => match ns_lk (ns_o m) i ns_ft with
    | some (ci, k) => if ns_k S a = ci + 1 ∧ ((ns_T ci k).2.2.2 = false ∨ (ns_ini m = true ∧ ci = ns_o m)) then (match ns_putv S ci k a v with
      | some S' => some (.inl (m, pc + 3, L, r, S'))
      | none => none) else none
    | none => none
  | _ => none
def ns_ldI : Option ns_Act := match st with
  | .int i :: .ref a :: r => if ns_k S a = 6 ∧ ns_inb i (ns_n S a) = true then some (.inl (m, pc + 1, L, .int (aI S a i.toNatClampNeg) :: r, S)) else none
  | _ => none
def ns_ldJ : Option ns_Act := match st with
  | .int i :: .ref a :: r => if ns_k S a = 7 ∧ ns_inb i (ns_n S a) = true then some (.inl (m, pc + 1, L, .long (aJ S a i.toNatClampNeg) :: r, S)) else none
  | _ => none
def ns_ldR : Option ns_Act := match st with
  | .int i :: .ref a :: r => if ns_k S a = 8 ∧ ns_inb i (ns_n S a) = true then some (.inl (m, pc + 1, L, va_rf (aR S a i.toNatClampNeg) :: r, S)) else none
  | _ => none
def ns_stI : Option ns_Act := match st with
  | .int x :: .int i :: .ref a :: r => if ns_k S a = 6 ∧ ns_inb i (ns_n S a) = true then some (.inl (m, pc + 1, L, r, qI S a i.toNatClampNeg x)) else none
  | _ => none
def ns_stJ : Option ns_Act := match st with
  | .long x :: .int i :: .ref a :: r => if ns_k S a = 7 ∧ ns_inb i (ns_n S a) = true then some (.inl (m, pc + 1, L, r, qJ S a i.toNatClampNeg x)) else none
  | _ => none
def ns_stR : Option ns_Act := match st with
  | w :: .int i :: .ref a :: r => if ns_k S a = 8 ∧ ns_inb i (ns_n S a) = true ∧ ns_rfok w = true ∧ ns_okT S (ns_rfo w) = true then some (.inl (m, pc + 1, L, r, qR S a i.toNatClampNeg (ns_rfo w))) else none
  | _ => none
def ns_len : Option ns_Act := match st with
  | .ref a :: r => if 6 ≤ ns_k S a ∧ ns_k S a ≤ 8 then some (.inl (m, pc + 1, L, .int (nI (ns_n S a)) :: r, S)) else none
  | _ => none
def ns_new (i : Nat) : Option ns_Act := match ns_lk (ns_o m) i ns_ct with
  | some ci => some (.inl (m, pc + 3, L, .ref (ns_z S) :: st, nO S ci (ns_N ci)))
  | none => none
def ns_newa (kd n : Nat) : Option ns_Act := match st with
  | .int x :: r => if ¬ x < 0 ∧ x.toNatClampNeg ≤ 1000000 then some (.inl (m, pc + n, L, .ref (ns_z S) :: r, nA S kd x.toNatClampNeg)) else none
  | _ => none
def ns_cast (i : Nat) : Option ns_Act := match st with
  | .ref a :: r => if ns_o m = 1 ∧ ((i = 32 ∧ ns_k S a = 7) ∨ (i = 37 ∧ ns_k S a = 8)) then some (.inl (m, pc + 3, L, .ref a :: r, S)) else none
  | _ => none
def ns_go (k : Nat) (vs r : List Value) : Option ns_Act := if ns_h k + 1 ≤ ns_h m ∧ ns_m k ≤ 16 ∧ (ns_el vs).length ≤ ns_m k ∧ ns_cat r ≤ 8 then some (.inr (.inr ((k, 0, ns_entry k vs, [], S), fun v S' => (m, pc + 3, L, v.toList ++ r, S')))) else none
def ns_virt (i : Nat) : Option ns_Act :=
  if ns_o m = 1 ∧ i = 31 then (match st with
    | .ref a :: r => if ns_k S a = 7 ∧ ns_cat r ≤ 8 then some (.inl (m, pc + 3, L, .ref (ns_z S) :: r, nC S a)) else none
    | _ => none)
  else if ns_o m = 1 ∧ i = 36 then (match st with
    | .ref a :: r => if ns_k S a = 8 ∧ ns_cat r ≤ 8 then some (.inl (m, pc + 3, L, .ref (ns_z S) :: r, nC S a)) else none
    | _ => none)
  else match ns_lk (ns_o m) i ns_mt with
  | some k => match st.drop (ns_pn k) with
    | .ref b :: r => if ns_k S b = ns_o k + 1 ∧ ns_stt k = false ∧ ns_ini k = false then ns_go m pc L S k (.ref b :: (st.take (ns_pn k)).reverse) r else none
    | _ => none
  | none => none
def ns_stat (i : Nat) : Option ns_Act :=
  if ns_o m = 3 ∧ i = 145 then (match st with
    | .int y :: .int x :: r => if ns_cat r ≤ 8 then some (.inl (m, pc + 3, L, .int (if y < x then y else x) :: r, S)) else none
    | _ => none)
  else match ns_lk (ns_o m) i ns_mt with
  | some k => if ns_pn k ≤ st.length ∧ ns_stt k = true then ns_go m pc L S k ((st.take (ns_pn k)).reverse) (st.drop (ns_pn k)) else none
  | none => none
def ns_spec (i : Nat) : Option ns_Act := match ns_lk (ns_o m) i ns_ot with
  | some _ => (match st with
    | .ref a :: r => if ns_cat r ≤ 8 then some (.inl (m, pc + 3, L, r, S)) else none
    | _ => none)
  | none => match ns_lk (ns_o m) i (ns_mt ++ ns_nt) with
    | some k => match st.drop (ns_pn k) with
      | .ref b :: r => if ns_ini k = true then ns_go m pc L S k (.ref b :: (st.take (ns_pn k)).reverse) r else none
      | _ => none
    | none => none
def ns_ret (k : Nat) : Option ns_Act := match st with
  | [v] => if ns_retok (ns_r m) v k = true then some (.inr (.inl (some v, S))) else none
  | _ => none
def ns_retv : Option ns_Act := match st with
  | [] => if ns_r m = none then some (.inr (.inl (none, S))) else none
  | _ => none
def ns_I (i : Instr) : Option ns_Act := match i with
  | .iconst n => ns_push m pc L st S 1 (.int (Int32.ofInt n))
  | .bipush n => ns_push m pc L st S 2 (.int (Int8.ofInt n).toInt32)
  | .sipush n => ns_push m pc L st S 3 (.int (Int16.ofInt n).toInt32)
  | .lconst n => ns_push m pc L st S 1 (.long (Int64.ofNat (n : Nat)))
  | .aconst_null => ns_push m pc L st S 1 .null
  | .ldc j => (match ns_lk (ns_o m) j ns_k1 with
    | some v => ns_push m pc L st S 2 (.int v)
    | none => none)
  | .ldc2_w j => (match ns_lk (ns_o m) j ns_k2 with
    | some v => ns_push m pc L st S 3 (.long v)
    | none => none)
  | .iload_n j => ns_ld m pc L st S ns_isI j 1
  | .iload j => ns_ld m pc L st S ns_isI j 2
  | .lload_n j => ns_ld m pc L st S ns_isJ j 1
  | .lload j => ns_ld m pc L st S ns_isJ j 2
  | .aload_n j => ns_ld m pc L st S ns_rfok j 1
  | .aload j => ns_ld m pc L st S ns_rfok j 2
  | .istore_n j => ns_sto m pc L st S ns_isI j 1
  | .istore j => ns_sto m pc L st S ns_isI j 2
  | .astore_n j => ns_sto m pc L st S ns_rfok j 1
  | .astore j => ns_sto m pc L st S ns_rfok j 2
  | .lstore_n j => ns_sto2 m pc L st S j 1
  | .lstore j => ns_sto2 m pc L st S j 2
  | .iinc j n => ns_iinc m pc L st S j n
  | .iadd => ns_ii m pc L st S (fun x y => x + y)
  | .isub => ns_ii m pc L st S (fun x y => x - y)
  | .ladd => ns_jj m pc L st S (fun x y => x + y)
  | .lsub => ns_jj m pc L st S (fun x y => x - y)
  | .lmul => ns_jj m pc L st S (fun x y => x * y)
  | .land => ns_jj m pc L st S (fun x y => x &&& y)
  | .lcmp => ns_lcmp m pc L st S
  | .i2l => ns_i2l m pc L st S
  | .l2i => ns_l2i m pc L st S
  | .i2c => ns_i2c m pc L st S
  | .dup => ns_dup m pc L st S
  | .dup2 => ns_dup2 m pc L st S
  | .pop => ns_pop m pc L st S
  | .goto off => ns_to m pc L S off st
  | .ifCond c off => if 0 ≤ (pc : Int) + off then ns_if1 m pc L st S c off else none
  | .if_icmp c off => if 0 ≤ (pc : Int) + off then ns_if2 m pc L st S c off else none
  | .ifnull off => if 0 ≤ (pc : Int) + off then ns_nul m pc L st S true off else none
  | .ifnonnull off => if 0 ≤ (pc : Int) + off then ns_nul m pc L st S false off else none
  | .if_acmp c off => if 0 ≤ (pc : Int) + off then ns_acmp m pc L st S c off else none
  | .tableswitch d lo hi offs => ns_sw m pc L st S d lo hi offs
  | .getfield j => ns_get m pc L st S j
  | .putfield j => ns_put m pc L st S j
  | .iaload => ns_ldI m pc L st S
  | .laload => ns_ldJ m pc L st S
  | .aaload => ns_ldR m pc L st S
  | .iastore => ns_stI m pc L st S
  | .lastore => ns_stJ m pc L st S
  | .aastore => ns_stR m pc L st S
  | .arraylength => ns_len m pc L st S
  | .new j => ns_new m pc L st S j
  | .newarray .int => ns_newa m pc L st S 6 2
  | .newarray .long => ns_newa m pc L st S 7 2
  | .anewarray j => if ns_o m = 3 ∧ j = 9 then ns_newa m pc L st S 8 3 else none
  | .checkcast j => ns_cast m pc L st S j
  | .invokevirtual j => ns_virt m pc L st S j
  | .invokestatic j => ns_stat m pc L st S j
  | .invokespecial j => ns_spec m pc L st S j
  | .ireturn => ns_ret m st S 0
  | .lreturn => ns_ret m st S 1
  | .areturn => ns_ret m st S 2
  | .return_ => ns_retv m st S
  | _ => none
end NSI
/-- how long an instruction is; of a switch any length -/
def ns_ln (i : Instr) (n : Nat) : Bool := match i with
  | .tableswitch _ _ _ _ => true
  | .bipush _ => n == 2
  | .ldc _ => n == 2
  | .iload _ => n == 2
  | .lload _ => n == 2
  | .aload _ => n == 2
  | .istore _ => n == 2
  | .lstore _ => n == 2
  | .astore _ => n == 2
  | .newarray _ => n == 2
  | .sipush _ => n == 3
  | .ldc2_w _ => n == 3
  | .iinc _ _ => n == 3
  | .goto _ => n == 3
  | .ifCond _ _ => n == 3
  | .if_icmp _ _ => n == 3
  | .if_acmp _ _ => n == 3
  | .ifnull _ => n == 3
  | .ifnonnull _ => n == 3
  | .getfield _ => n == 3
  | .putfield _ => n == 3
  | .new _ => n == 3
  | .anewarray _ => n == 3
  | .checkcast _ => n == 3
  | .invokevirtual _ => n == 3
  | .invokestatic _ => n == 3
  | .invokespecial _ => n == 3
  | _ => n == 1
def ns_act (x : ns_Cf) : Option ns_Act := match decode (ns_c x.1) x.2.1 with
  | .ok (i, n) => if x.1 < 95 ∧ ns_ln i n = true then ns_I x.1 x.2.1 x.2.2.1 x.2.2.2.1 x.2.2.2.2 i else none
  | .error _ => none
def ns_exe : Nat → ns_Cf → Option ns_Rs
  | 0, _ => none
  | n + 1, x => match ns_act x with
    | none => none
    | some (.inl y) => ns_exe n y
    | some (.inr (.inl r)) => some r
    | some (.inr (.inr (y, k))) => match ns_exe n y with
      | none => none
      | some r => ns_exe n (k r.1 r.2)
/-- from x the machine comes to its end with r -/
def Ev (x : ns_Cf) (r : ns_Rs) : Prop := ∃ n, ns_exe n x = some r
theorem ns_mono1 : ∀ (n : Nat) (x : ns_Cf) (r : ns_Rs), ns_exe n x = some r → ns_exe (n + 1) x = some r := by
  intro n
  induction n with
  | zero => intro x r h; cases h
  | succ n ih =>
    intro x r h
    unfold ns_exe at h ⊢
    cases ha : ns_act x with
    | none => rw [ha] at h; cases h
    | some a =>
      rw [ha] at h
      match a, h with
      | .inl y, h => exact ih y r h
      | .inr (.inl r'), h => exact h
      | .inr (.inr (y, k)), h =>
        simp only at h ⊢
        cases hy : ns_exe n y with
        | none => rw [hy] at h; cases h
        | some r' =>
          rw [hy] at h
          rw [ih y r' hy]
          exact ih _ r h
theorem ns_mono {n n' : Nat} (hn : n ≤ n') {x : ns_Cf} {r : ns_Rs} (h : ns_exe n x = some r) : ns_exe n' x = some r := by
  induction hn with
  | refl => exact h
  | step _ ih => exact ns_mono1 _ _ _ ih
theorem Ev_det {x : ns_Cf} {r r' : ns_Rs} (h : Ev x r) (h' : Ev x r') : r = r' := by
  obtain ⟨n, h⟩ := h
  obtain ⟨n', h'⟩ := h'
  have a := ns_mono (Nat.le_max_left n n') h
  have b := ns_mono (Nat.le_max_right n n') h'
  rw [a] at b
  exact Option.some.inj b
theorem Ev_is {x : ns_Cf} {r0 : ns_Rs} (h : Ev x r0) (r : ns_Rs) : Ev x r ↔ r = r0 := ⟨fun q => Ev_det q h, fun q => q ▸ h⟩
theorem Ev_next {x y : ns_Cf} (h : ns_act x = some (.inl y)) (r : ns_Rs) : Ev x r ↔ Ev y r := by
  constructor
  · intro ⟨n, q⟩
    cases n with
    | zero => cases q
    | succ n => unfold ns_exe at q; rw [h] at q; exact ⟨n, q⟩
  · intro ⟨n, q⟩
    exact ⟨n + 1, by unfold ns_exe; rw [h]; exact q⟩
theorem Ev_ret {x : ns_Cf} {r0 : ns_Rs} (h : ns_act x = some (.inr (.inl r0))) (r : ns_Rs) : Ev x r ↔ r = r0 := by
  constructor
  · intro ⟨n, q⟩
    cases n with
    | zero => cases q
    | succ n => unfold ns_exe at q; rw [h] at q; exact (Option.some.inj q).symm
  · intro q
    exact ⟨1, by unfold ns_exe; rw [h, q]⟩
theorem Ev_call {x y : ns_Cf} {k : Option Value → ns_St → ns_Cf} (h : ns_act x = some (.inr (.inr (y, k)))) (r : ns_Rs) : Ev x r ↔ ∃ r1, Ev y r1 ∧ Ev (k r1.1 r1.2) r := by
  constructor
  · intro ⟨n, q⟩
    cases n with
    | zero => cases q
    | succ n =>
      unfold ns_exe at q; rw [h] at q
      simp only at q
      cases hy : ns_exe n y with
      | none => rw [hy] at q; cases q
      | some r1 => rw [hy] at q; exact ⟨r1, ⟨n, hy⟩, ⟨n, q⟩⟩
  · intro ⟨r1, ⟨n1, q1⟩, ⟨n2, q2⟩⟩
    refine ⟨max n1 n2 + 1, ?_⟩
    unfold ns_exe; rw [h]
    simp only [ns_mono (Nat.le_max_left n1 n2) q1]
    exact ns_mono (Nat.le_max_right n1 n2) q2
theorem Ev_bad {x : ns_Cf} (h : ns_act x = none) (r : ns_Rs) : Ev x r ↔ False := by
  constructor
  · intro ⟨n, q⟩
    cases n with
    | zero => cases q
    | succ n => unfold ns_exe at q; rw [h] at q; cases q
  · intro q; exact q.elim
