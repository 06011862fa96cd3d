/-! ===== what the machine computes, the JVM does ===== -/
def ns_le (S S' : ns_St) : Prop := ns_z S ≤ ns_z S' ∧ ns_s S ≤ ns_s S' ∧ ∀ b, ns_k S' b ≠ 0 → ns_A S b
theorem ns_le.rf (S : ns_St) : ns_le S S := ⟨Nat.le_refl _, Nat.le_refl _, fun _ h => Or.inl h⟩
theorem ns_le.tr {S S1 S2 : ns_St} (h : ns_le S S1) (h' : ns_le S1 S2) : ns_le S S2 := ⟨Nat.le_trans h.1 h'.1, Nat.le_trans h.2.1 h'.2.1, fun b g => (h'.2.2 b g).elim (fun q => h.2.2 b q) (fun q => Or.inr (Nat.le_trans h.1 q))⟩
theorem ns_le.same {S S' : ns_St} (h1 : ns_z S' = ns_z S) (h2 : ns_s S' = ns_s S) (h3 : ∀ b, ns_k S' b = ns_k S b) : ns_le S S' := ⟨by omega, by omega, fun b g => Or.inl (by rw [← h3]; exact g)⟩
theorem ns_le.new {S S' : ns_St} {kd : Nat} (h1 : ns_z S' = ns_z S + 1) (h2 : ns_s S ≤ ns_s S') (h3 : ∀ b, ns_k S' b = if b = ns_z S then kd else ns_k S b) : ns_le S S' := ⟨by omega, h2, fun b g => by
  rw [h3] at g
  by_cases e : b = ns_z S
  · exact Or.inr (by omega)
  · rw [if_neg e] at g
    exact Or.inl g⟩
def ns_okA (m : Nat) (S : ns_St) (a : ns_Act) : Prop := match a with
  | .inl y => y.1 = m ∧ ns_le S y.2.2.2.2
  | .inr (.inl r) => r.2 = S
  | .inr (.inr (y, kk)) => (∃ (k1 : Nat) (vs : List Value), k1 < 95 ∧ (ns_el vs).length ≤ ns_m k1 ∧ y = (k1, 0, ns_entry k1 vs, [], S)) ∧ ∀ v S', (kk v S').1 = m ∧ (kk v S').2.2.2.2 = S'
def ns_ok (m : Nat) (S : ns_St) (o : Option ns_Act) : Prop := ∀ a, o = some a → ns_okA m S a
theorem ns_ok_none (m : Nat) (S : ns_St) : ns_ok m S none := fun a h => by cases h
section NSO
variable {m pc : Nat} {L : List (Option Value)} {st : List Value} {S : ns_St}
theorem ns_ok_inl {y : ns_Cf} (h1 : y.1 = m) (h2 : y.2.2.2.2 = S) : ns_ok m S (some (.inl y)) := fun a h => by
  cases h
  exact ⟨h1, by rw [h2]; exact ns_le.rf S⟩
theorem ns_ok_le {y : ns_Cf} (h1 : y.1 = m) (h2 : ns_le S y.2.2.2.2) : ns_ok m S (some (.inl y)) := fun a h => by
  cases h
  exact ⟨h1, h2⟩
theorem ns_ok_ite {c : Prop} [Decidable c] {x y : Option ns_Act} (h1 : ns_ok m S x) (h2 : ns_ok m S y) : ns_ok m S (if c then x else y) := by
  by_cases h : c
  · rw [if_pos h]; exact h1
  · rw [if_neg h]; exact h2
theorem ok_to {off : Int} {r : List Value} : ns_ok m S (ns_to m pc L S off r) := ns_ok_ite (ns_ok_inl rfl rfl) (ns_ok_none m S)
theorem ok_push {n : Nat} {v : Value} : ns_ok m S (ns_push m pc L st S n v) := by
  unfold ns_push
  repeat' split
  all_goals first | exact ns_ok_inl rfl rfl | exact ns_ok_none m S | exact ok_to
theorem ok_ld {p : Value → Bool} {i n : Nat} : ns_ok m S (ns_ld m pc L st S p i n) := by
  unfold ns_ld
  repeat' split
  all_goals first | exact ns_ok_inl rfl rfl | exact ns_ok_none m S | exact ok_to
theorem ok_sto {p : Value → Bool} {i n : Nat} : ns_ok m S (ns_sto m pc L st S p i n) := by
  unfold ns_sto
  repeat' split
  all_goals first | exact ns_ok_inl rfl rfl | exact ns_ok_none m S | exact ok_to
theorem ok_sto2 {i n : Nat} : ns_ok m S (ns_sto2 m pc L st S i n) := by
  unfold ns_sto2
  repeat' split
  all_goals first | exact ns_ok_inl rfl rfl | exact ns_ok_none m S | exact ok_to
theorem ok_iinc {i : Nat} {n : Int} : ns_ok m S (ns_iinc m pc L st S i n) := by
  unfold ns_iinc
  repeat' split
  all_goals first | exact ns_ok_inl rfl rfl | exact ns_ok_none m S | exact ok_to
theorem ok_ii {f : Int32 → Int32 → Int32} : ns_ok m S (ns_ii m pc L st S f) := by
  unfold ns_ii
  repeat' split
  all_goals first | exact ns_ok_inl rfl rfl | exact ns_ok_none m S | exact ok_to
theorem ok_jj {f : Int64 → Int64 → Int64} : ns_ok m S (ns_jj m pc L st S f) := by
  unfold ns_jj
  repeat' split
  all_goals first | exact ns_ok_inl rfl rfl | exact ns_ok_none m S | exact ok_to
theorem ok_lcmp  : ns_ok m S (ns_lcmp m pc L st S) := by
  unfold ns_lcmp
  repeat' split
  all_goals first | exact ns_ok_inl rfl rfl | exact ns_ok_none m S | exact ok_to
theorem ok_i2l  : ns_ok m S (ns_i2l m pc L st S) := by
  unfold ns_i2l
  repeat' split
  all_goals first | exact ns_ok_inl rfl rfl | exact ns_ok_none m S | exact ok_to
theorem ok_l2i  : ns_ok m S (ns_l2i m pc L st S) := by
  unfold ns_l2i
  repeat' split
  all_goals first | exact ns_ok_inl rfl rfl | exact ns_ok_none m S | exact ok_to
theorem ok_i2c  : ns_ok m S (ns_i2c m pc L st S) := by
  unfold ns_i2c
  repeat' split
  all_goals first | exact ns_ok_inl rfl rfl | exact ns_ok_none m S | exact ok_to
theorem ok_dup  : ns_ok m S (ns_dup m pc L st S) := by
  unfold ns_dup
  repeat' split
  all_goals first | exact ns_ok_inl rfl rfl | exact ns_ok_none m S | exact ok_to
theorem ok_pop  : ns_ok m S (ns_pop m pc L st S) := by
  unfold ns_pop
  repeat' split
  all_goals first | exact ns_ok_inl rfl rfl | exact ns_ok_none m S | exact ok_to
theorem ok_dup2  : ns_ok m S (ns_dup2 m pc L st S) := by
  unfold ns_dup2
  repeat' split
  all_goals first | exact ns_ok_inl rfl rfl | exact ns_ok_none m S | exact ok_to
theorem ok_if1 {c : ClassFile.Cond} {off : Int} : ns_ok m S (ns_if1 m pc L st S c off) := by
  unfold ns_if1
  repeat' split
  all_goals first | exact ns_ok_inl rfl rfl | exact ns_ok_none m S | exact ok_to
theorem ok_if2 {c : ClassFile.Cond} {off : Int} : ns_ok m S (ns_if2 m pc L st S c off) := by
  unfold ns_if2
  repeat' split
  all_goals first | exact ns_ok_inl rfl rfl | exact ns_ok_none m S | exact ok_to
theorem ok_nul {b : Bool} {off : Int} : ns_ok m S (ns_nul m pc L st S b off) := by
  unfold ns_nul
  repeat' split
  all_goals first | exact ns_ok_inl rfl rfl | exact ns_ok_none m S | exact ok_to
theorem ok_acmp {c : ACond} {off : Int} : ns_ok m S (ns_acmp m pc L st S c off) := by
  unfold ns_acmp
  repeat' split
  all_goals first | exact ns_ok_inl rfl rfl | exact ns_ok_none m S | exact ok_to
theorem ok_sw {d lo hi : Int} {offs : Array Int} : ns_ok m S (ns_sw m pc L st S d lo hi offs) := by
  unfold ns_sw
  repeat' split
  all_goals first | exact ns_ok_inl rfl rfl | exact ns_ok_none m S | exact ok_to
theorem ok_get {i : Nat} : ns_ok m S (ns_get m pc L st S i) := by
  unfold ns_get
  repeat' split
  all_goals first | exact ns_ok_inl rfl rfl | exact ns_ok_none m S | exact ok_to
theorem ok_ldI  : ns_ok m S (ns_ldI m pc L st S) := by
  unfold ns_ldI
  repeat' split
  all_goals first | exact ns_ok_inl rfl rfl | exact ns_ok_none m S | exact ok_to
theorem ok_ldJ  : ns_ok m S (ns_ldJ m pc L st S) := by
  unfold ns_ldJ
  repeat' split
  all_goals first | exact ns_ok_inl rfl rfl | exact ns_ok_none m S | exact ok_to
theorem ok_ldR  : ns_ok m S (ns_ldR m pc L st S) := by
  unfold ns_ldR
  repeat' split
  all_goals first | exact ns_ok_inl rfl rfl | exact ns_ok_none m S | exact ok_to
theorem ok_len  : ns_ok m S (ns_len m pc L st S) := by
  unfold ns_len
  repeat' split
  all_goals first | exact ns_ok_inl rfl rfl | exact ns_ok_none m S | exact ok_to
theorem ok_cast {i : Nat} : ns_ok m S (ns_cast m pc L st S i) := by
  unfold ns_cast
  repeat' split
  all_goals first | exact ns_ok_inl rfl rfl | exact ns_ok_none m S | exact ok_to
theorem ok_stI : ns_ok m S (ns_stI m pc L st S) := by
  unfold ns_stI
  repeat' split
  all_goals first | exact ns_ok_none m S | exact ns_ok_le rfl (ns_le.same rfl rfl (fun _ => rfl))
theorem ok_stJ : ns_ok m S (ns_stJ m pc L st S) := by
  unfold ns_stJ
  repeat' split
  all_goals first | exact ns_ok_none m S | exact ns_ok_le rfl (ns_le.same rfl rfl (fun _ => rfl))
theorem ok_stR : ns_ok m S (ns_stR m pc L st S) := by
  unfold ns_stR
  repeat' split
  all_goals first | exact ns_ok_none m S | exact ns_ok_le rfl (ns_le.same rfl rfl (fun _ => rfl))
theorem ns_putv_le {ci f b : Nat} {v : Value} {S' : ns_St} (h : ns_putv S ci f b v = some S') : ns_le S S' := by
  unfold ns_putv at h
  repeat' split at h
  all_goals first | (cases h; exact ns_le.same rfl rfl (fun _ => rfl)) | cases h
theorem ok_put {i : Nat} : ns_ok m S (ns_put m pc L st S i) := by
  unfold ns_put
  split
  · split
    · refine ns_ok_ite ?_ (ns_ok_none m S)
      split
      · rename_i hv
        exact ns_ok_le rfl (ns_putv_le hv)
      · exact ns_ok_none m S
    · exact ns_ok_none m S
  · exact ns_ok_none m S
theorem ok_new {i : Nat} : ns_ok m S (ns_new m pc L st S i) := by
  unfold ns_new
  split
  · exact ns_ok_le rfl (ns_le.new rfl (by rw [nO_ns_s]; omega) (fun b => nO_ns_k S _ _ b))
  · exact ns_ok_none m S
theorem ok_newa {kd n : Nat} : ns_ok m S (ns_newa m pc L st S kd n) := by
  unfold ns_newa
  split
  · exact ns_ok_ite (ns_ok_le rfl (ns_le.new rfl (by rw [nA_ns_s]; omega) (fun b => nA_ns_k S _ _ b))) (ns_ok_none m S)
  · exact ns_ok_none m S
theorem ok_go {k1 : Nat} {vs r : List Value} (hk : k1 < 95) : ns_ok m S (ns_go m pc L S k1 vs r) := by
  unfold ns_go
  intro a h
  by_cases q : ns_h k1 + 1 ≤ ns_h m ∧ ns_m k1 ≤ 16 ∧ (ns_el vs).length ≤ ns_m k1 ∧ ns_cat r ≤ 8
  · rw [if_pos q] at h
    cases h
    exact ⟨⟨k1, vs, hk, q.2.2.1, rfl⟩, fun _ _ => ⟨rfl, rfl⟩⟩
  · rw [if_neg q] at h
    cases h
theorem ns_nt_lt : ∀ e ∈ ns_mt ++ ns_nt, e.2.2 < 95 := by decide +kernel
theorem ok_virt {i : Nat} : ns_ok m S (ns_virt m pc L st S i) := by
  unfold ns_virt
  have cl : ∀ (b : Nat) (r : List Value), ns_ok m S (some (.inl (m, pc + 3, L, .ref (ns_z S) :: r, nC S b))) := fun b r => ns_ok_le rfl (ns_le.new rfl (by rw [nC_ns_s]; omega) (fun q => nC_ns_k S b q))
  refine ns_ok_ite ?_ (ns_ok_ite ?_ ?_)
  · split
    · exact ns_ok_ite (cl _ _) (ns_ok_none m S)
    · exact ns_ok_none m S
  · split
    · exact ns_ok_ite (cl _ _) (ns_ok_none m S)
    · exact ns_ok_none m S
  · split
    · rename_i k1 hl
      split
      · exact ns_ok_ite (ok_go (ns_mt_ok _ (ns_lk_mem hl)).2) (ns_ok_none m S)
      · exact ns_ok_none m S
    · exact ns_ok_none m S
theorem ok_stat {i : Nat} : ns_ok m S (ns_stat m pc L st S i) := by
  unfold ns_stat
  refine ns_ok_ite ?_ ?_
  · split
    · exact ns_ok_ite (ns_ok_inl rfl rfl) (ns_ok_none m S)
    · exact ns_ok_none m S
  · split
    · rename_i k1 hl
      exact ns_ok_ite (ok_go (ns_mt_ok _ (ns_lk_mem hl)).2) (ns_ok_none m S)
    · exact ns_ok_none m S
theorem ok_spec {i : Nat} : ns_ok m S (ns_spec m pc L st S i) := by
  unfold ns_spec
  split
  · split
    · exact ns_ok_ite (ns_ok_inl rfl rfl) (ns_ok_none m S)
    · exact ns_ok_none m S
  · split
    · rename_i k1 hl
      split
      · exact ns_ok_ite (ok_go (ns_nt_lt _ (ns_lk_mem hl))) (ns_ok_none m S)
      · exact ns_ok_none m S
    · exact ns_ok_none m S
theorem ok_ret {n : Nat} : ns_ok m S (ns_ret m st S n) := by
  unfold ns_ret
  split
  · refine ns_ok_ite (fun a h => ?_) (ns_ok_none m S)
    cases h
    rfl
  · exact ns_ok_none m S
theorem ok_retv : ns_ok m S (ns_retv m st S) := by
  unfold ns_retv
  split
  · refine ns_ok_ite (fun a h => ?_) (ns_ok_none m S)
    cases h
    rfl
  · exact ns_ok_none m S
theorem ns_I_ok (i : Instr) : ns_ok m S (ns_I m pc L st S i) := by
  cases i with
  | iconst n => exact ok_push
  | bipush n => exact ok_push
  | sipush n => exact ok_push
  | lconst n => exact ok_push
  | aconst_null => exact ok_push
  | ldc j =>
    show ns_ok m S (match ns_lk (ns_o m) j ns_k1 with
      | some v => ns_push m pc L st S 2 (.int v)
      | none => none)
    split
    · exact ok_push
    · exact ns_ok_none m S
  | ldc2_w j =>
    show ns_ok m S (match ns_lk (ns_o m) j ns_k2 with
      | some v => ns_push m pc L st S 3 (.long v)
      | none => none)
    split
    · exact ok_push
    · exact ns_ok_none m S
  | iload_n j => exact ok_ld
  | iload j => exact ok_ld
  | lload_n j => exact ok_ld
  | lload j => exact ok_ld
  | aload_n j => exact ok_ld
  | aload j => exact ok_ld
  | istore_n j => exact ok_sto
  | istore j => exact ok_sto
  | astore_n j => exact ok_sto
  | astore j => exact ok_sto
  | lstore_n j => exact ok_sto2
  | lstore j => exact ok_sto2
  | iinc j n => exact ok_iinc
  | iadd => exact ok_ii
  | isub => exact ok_ii
  | ladd => exact ok_jj
  | lsub => exact ok_jj
  | lmul => exact ok_jj
  | land => exact ok_jj
  | lcmp => exact ok_lcmp
  | i2l => exact ok_i2l
  | l2i => exact ok_l2i
  | i2c => exact ok_i2c
  | dup => exact ok_dup
  | dup2 => exact ok_dup2
  | pop => exact ok_pop
  | goto off => exact ok_to
  | ifCond c off => exact ns_ok_ite ok_if1 (ns_ok_none m S)
  | if_icmp c off => exact ns_ok_ite ok_if2 (ns_ok_none m S)
  | ifnull off => exact ns_ok_ite ok_nul (ns_ok_none m S)
  | ifnonnull off => exact ns_ok_ite ok_nul (ns_ok_none m S)
  | if_acmp c off => exact ns_ok_ite ok_acmp (ns_ok_none m S)
  | tableswitch d lo hi offs => exact ok_sw
  | getfield j => exact ok_get
  | putfield j => exact ok_put
  | iaload => exact ok_ldI
  | laload => exact ok_ldJ
  | aaload => exact ok_ldR
  | iastore => exact ok_stI
  | lastore => exact ok_stJ
  | aastore => exact ok_stR
  | arraylength => exact ok_len
  | new j => exact ok_new
  | newarray t => cases t <;> first | exact ok_newa | exact ns_ok_none m S
  | anewarray j => exact ns_ok_ite ok_newa (ns_ok_none m S)
  | checkcast j => exact ok_cast
  | invokevirtual j => exact ok_virt
  | invokestatic j => exact ok_stat
  | invokespecial j => exact ok_spec
  | ireturn => exact ok_ret
  | lreturn => exact ok_ret
  | areturn => exact ok_ret
  | return_ => exact ok_retv
  | _ => exact ns_ok_none m S
end NSO
section NSS
variable {p : Program} {l : Launch} {e : Env} {s : State} {m : MethodId} {args : Array Value} {below : List Frame} {meth : Method} {c : Code} {D : va_G} {cI cJ cT : ClassId} {k : Nat} {S0 : ns_St} {r : ns_Rs}
theorem ns_step {pc n : Nat} {L : List (Option Value)} {st : List Value} {S : ns_St} {a : ns_Act} {i : Instr} (C0 : ns_C p s m args meth c D cI cJ cT k S0) (hd : decode (ns_c k) pc = .ok (i, n)) (hn : ns_ln i n = true) (h : ns_I k pc L st S i = some a) (hs : ns_Sim p l e s m args below meth c D cI cJ cT k S0 r a) : ns_G p l e s m args below meth c D cI cJ cT k S0 r pc L st S := by
  cases i with
  | iconst n9 =>
    have e : n = 1 := eq_of_beq hn
    subst e
    exact so_iconst C0 hd h hs
  | bipush n9 =>
    have e : n = 2 := eq_of_beq hn
    subst e
    exact so_bipush C0 hd h hs
  | sipush n9 =>
    have e : n = 3 := eq_of_beq hn
    subst e
    exact so_sipush C0 hd h hs
  | lconst n9 =>
    have e : n = 1 := eq_of_beq hn
    subst e
    exact so_lconst C0 hd h hs
  | aconst_null =>
    have e : n = 1 := eq_of_beq hn
    subst e
    exact so_null C0 hd h hs
  | ldc j =>
    have e : n = 2 := eq_of_beq hn
    subst e
    exact so_ldc C0 hd h hs
  | ldc2_w j =>
    have e : n = 3 := eq_of_beq hn
    subst e
    exact so_ldc2 C0 hd h hs
  | iload_n j =>
    have e : n = 1 := eq_of_beq hn
    subst e
    exact so_iload_n C0 hd h hs
  | iload j =>
    have e : n = 2 := eq_of_beq hn
    subst e
    exact so_iload C0 hd h hs
  | lload_n j =>
    have e : n = 1 := eq_of_beq hn
    subst e
    exact so_lload_n C0 hd h hs
  | lload j =>
    have e : n = 2 := eq_of_beq hn
    subst e
    exact so_lload C0 hd h hs
  | aload_n j =>
    have e : n = 1 := eq_of_beq hn
    subst e
    exact so_aload_n C0 hd h hs
  | aload j =>
    have e : n = 2 := eq_of_beq hn
    subst e
    exact so_aload C0 hd h hs
  | istore_n j =>
    have e : n = 1 := eq_of_beq hn
    subst e
    exact so_istore_n C0 hd h hs
  | istore j =>
    have e : n = 2 := eq_of_beq hn
    subst e
    exact so_istore C0 hd h hs
  | astore_n j =>
    have e : n = 1 := eq_of_beq hn
    subst e
    exact so_astore_n C0 hd h hs
  | astore j =>
    have e : n = 2 := eq_of_beq hn
    subst e
    exact so_astore C0 hd h hs
  | lstore_n j =>
    have e : n = 1 := eq_of_beq hn
    subst e
    exact so_lstore_n C0 hd h hs
  | lstore j =>
    have e : n = 2 := eq_of_beq hn
    subst e
    exact so_lstore C0 hd h hs
  | iinc j n9 =>
    have e : n = 3 := eq_of_beq hn
    subst e
    exact so_iinc C0 hd h hs
  | iadd =>
    have e : n = 1 := eq_of_beq hn
    subst e
    exact so_iadd C0 hd h hs
  | isub =>
    have e : n = 1 := eq_of_beq hn
    subst e
    exact so_isub C0 hd h hs
  | ladd =>
    have e : n = 1 := eq_of_beq hn
    subst e
    exact so_ladd C0 hd h hs
  | lsub =>
    have e : n = 1 := eq_of_beq hn
    subst e
    exact so_lsub C0 hd h hs
  | lmul =>
    have e : n = 1 := eq_of_beq hn
    subst e
    exact so_lmul C0 hd h hs
  | land =>
    have e : n = 1 := eq_of_beq hn
    subst e
    exact so_land C0 hd h hs
  | lcmp =>
    have e : n = 1 := eq_of_beq hn
    subst e
    exact so_lcmp C0 hd h hs
  | i2l =>
    have e : n = 1 := eq_of_beq hn
    subst e
    exact so_i2l C0 hd h hs
  | l2i =>
    have e : n = 1 := eq_of_beq hn
    subst e
    exact so_l2i C0 hd h hs
  | i2c =>
    have e : n = 1 := eq_of_beq hn
    subst e
    exact so_i2c C0 hd h hs
  | dup =>
    have e : n = 1 := eq_of_beq hn
    subst e
    exact so_dup C0 hd h hs
  | dup2 =>
    have e : n = 1 := eq_of_beq hn
    subst e
    exact so_dup2 C0 hd h hs
  | pop =>
    have e : n = 1 := eq_of_beq hn
    subst e
    exact so_pop C0 hd h hs
  | goto off =>
    have e : n = 3 := eq_of_beq hn
    subst e
    exact so_goto C0 hd h hs
  | ifCond c off =>
    have e : n = 3 := eq_of_beq hn
    subst e
    cases c with
    | eq => exact so_if_eq C0 hd h hs
    | ne => exact so_if_ne C0 hd h hs
    | lt => exact so_if_lt C0 hd h hs
    | ge => exact so_if_ge C0 hd h hs
    | gt => exact so_if_gt C0 hd h hs
    | le => exact so_if_le C0 hd h hs
  | if_icmp c off =>
    have e : n = 3 := eq_of_beq hn
    subst e
    cases c with
    | eq => exact so_icmp_eq C0 hd h hs
    | ne => exact so_icmp_ne C0 hd h hs
    | lt => exact so_icmp_lt C0 hd h hs
    | ge => exact so_icmp_ge C0 hd h hs
    | gt => exact so_icmp_gt C0 hd h hs
    | le => exact so_icmp_le C0 hd h hs
  | ifnull off =>
    have e : n = 3 := eq_of_beq hn
    subst e
    exact so_ifnull C0 hd h hs
  | ifnonnull off =>
    have e : n = 3 := eq_of_beq hn
    subst e
    exact so_ifnonnull C0 hd h hs
  | if_acmp c off =>
    have e : n = 3 := eq_of_beq hn
    subst e
    cases c with
    | eq => exact so_acmp_eq C0 hd h hs
    | ne => exact so_acmp_ne C0 hd h hs
  | tableswitch d lo hi offs => exact so_switch C0 hd h hs
  | getfield j =>
    have e : n = 3 := eq_of_beq hn
    subst e
    exact so_get C0 hd h hs
  | putfield j =>
    have e : n = 3 := eq_of_beq hn
    subst e
    exact so_put C0 hd h hs
  | iaload =>
    have e : n = 1 := eq_of_beq hn
    subst e
    exact so_ldI C0 hd h hs
  | laload =>
    have e : n = 1 := eq_of_beq hn
    subst e
    exact so_ldJ C0 hd h hs
  | aaload =>
    have e : n = 1 := eq_of_beq hn
    subst e
    exact so_ldR C0 hd h hs
  | iastore =>
    have e : n = 1 := eq_of_beq hn
    subst e
    exact so_stI C0 hd h hs
  | lastore =>
    have e : n = 1 := eq_of_beq hn
    subst e
    exact so_stJ C0 hd h hs
  | aastore =>
    have e : n = 1 := eq_of_beq hn
    subst e
    exact so_stR C0 hd h hs
  | arraylength =>
    have e : n = 1 := eq_of_beq hn
    subst e
    exact so_len C0 hd h hs
  | new j =>
    have e : n = 3 := eq_of_beq hn
    subst e
    exact so_new C0 hd h hs
  | newarray t =>
    have e : n = 2 := eq_of_beq hn
    subst e
    cases t with
    | int => exact so_newI C0 hd h hs
    | long => exact so_newJ C0 hd h hs
    | _ => cases h
  | anewarray j =>
    have e : n = 3 := eq_of_beq hn
    subst e
    exact so_newR C0 hd h hs
  | checkcast j =>
    have e : n = 3 := eq_of_beq hn
    subst e
    exact so_cast C0 hd h hs
  | invokevirtual j =>
    have e : n = 3 := eq_of_beq hn
    subst e
    exact so_virt C0 hd h hs
  | invokestatic j =>
    have e : n = 3 := eq_of_beq hn
    subst e
    exact so_stat C0 hd h hs
  | invokespecial j =>
    have e : n = 3 := eq_of_beq hn
    subst e
    exact so_spec C0 hd h hs
  | ireturn =>
    have e : n = 1 := eq_of_beq hn
    subst e
    exact so_iret C0 hd h hs
  | lreturn =>
    have e : n = 1 := eq_of_beq hn
    subst e
    exact so_lret C0 hd h hs
  | areturn =>
    have e : n = 1 := eq_of_beq hn
    subst e
    exact so_aret C0 hd h hs
  | return_ =>
    have e : n = 1 := eq_of_beq hn
    subst e
    exact so_vret C0 hd h hs
  | _ => cases h
theorem ns_act_I {x : ns_Cf} {a : ns_Act} (h : ns_act x = some a) : ∃ (i : Instr) (n : Nat), decode (ns_c x.1) x.2.1 = .ok (i, n) ∧ x.1 < 95 ∧ ns_ln i n = true ∧ ns_I x.1 x.2.1 x.2.2.1 x.2.2.2.1 x.2.2.2.2 i = some a := by
  unfold ns_act at h
  split at h
  · rename_i i n hd
    by_cases q : x.1 < 95 ∧ ns_ln i n = true
    · rw [if_pos q] at h
      exact ⟨i, n, hd, q.1, q.2, h⟩
    · rw [if_neg q] at h
      cases h
  · cases h
theorem ns_exe_le : ∀ (n : Nat) (x : ns_Cf) (r : ns_Rs), ns_exe n x = some r → ns_le x.2.2.2.2 r.2 := by
  intro n
  induction n with
  | zero => intro x r h; cases h
  | succ n ih =>
    intro x r h
    unfold ns_exe at h
    cases ha : ns_act x with
    | none => rw [ha] at h; cases h
    | some a =>
      rw [ha] at h
      obtain ⟨i, len, -, -, -, hI⟩ := ns_act_I ha
      have hok := ns_I_ok i a hI
      match a, h, hok with
      | .inl y, h, hok => exact hok.2.tr (ih y r h)
      | .inr (.inl r'), h, hok =>
        cases h
        have hok : r.2 = x.2.2.2.2 := hok
        rw [hok]
        exact ns_le.rf _
      | .inr (.inr (y, kk)), h, hok =>
        simp only at h
        obtain ⟨⟨k1, vs, h1, h2, h3⟩, h4⟩ := hok
        cases hy : ns_exe n y with
        | none => rw [hy] at h; cases h
        | some r1 =>
          rw [hy] at h
          have g1 := ih y r1 hy
          have g2 := ih _ r h
          rw [(h4 r1.1 r1.2).2] at g2
          rw [h3] at g1
          exact g1.tr g2
def ns_PN (l : Launch) (D : va_G) (cI cJ cT : ClassId) (n : Nat) : Prop := (∀ (p : Program) (e : Env) (s : State) (m : MethodId) (args : Array Value) (below : List Frame) (meth : Method) (c : Code) (k : Nat) (S0 : ns_St) (r : ns_Rs) (pc : Nat) (L : List (Option Value)) (st : List Value) (S : ns_St), ns_exe n (k, pc, L, st, S) = some r → ns_C p s m args meth c D cI cJ cT k S0 → ns_G p l e s m args below meth c D cI cJ cT k S0 r pc L st S)
theorem ns_met_of {n : Nat} (hP : ns_PN l D cI cJ cT n) (k : Nat) (vs : List Value) (S : ns_St) (r : ns_Rs) (hk : k < 95) (hlen : (ns_el vs).length ≤ ns_m k) (h : ns_exe n (k, 0, ns_entry k vs, [], S) = some r) : ns_Met l D cI cJ cT k vs S r := by
  obtain ⟨w1, w2, w3, w4⟩ := ns_kind_ok k hk
  obtain ⟨v1, v2, v3, v4⟩ := ns_sel_ok k hk
  refine Met.ofW (cc := ns_c k) (maxL := ns_m k) (ret := ns_r k) w4 rfl ?_
  intro p e s m args below meth c s₁ B hml hv
  obtain ⟨rfl, h1, h2, h3, h4⟩ := hv
  have hts := atoms_spec (ws := ns_w k) B.pre
  have hown : s.vm.findClass (ns_y k).cls = some m.cls := findClass_of_methodNamed B.named
  rw [w2] at hown
  have hC : ns_C p s m vs.toArray meth c D cI cJ cT k S := ⟨hk, B.exec, B.bytes, hml, B.returns, B.notSynchronized, fun q => (name_of_methodNamed B.named B.method).1.trans (v4 q).2.1, hown, fun w hw => hts w (List.mem_cons_of_mem _ hw), h3, h4, h1⟩
  have hg := hP p e s m vs.toArray below meth c k S r 0 (ns_entry k vs) [] S h hC _ s.heap [] (ns_entry_ok hlen) ⟨h1, h2, fun _ q => Or.inl q, va_S.rf, Nat.le_refl _, Nat.le_refl _⟩
  rw [Nat.sub_self, Nat.sub_self] at hg
  rw [lg_entry_eq]
  exact hg
theorem ns_all (n : Nat) : ns_PN l D cI cJ cT n := by
  induction n with
  | zero => intro p e s m args below meth c k S0 r pc L st S h; cases h
  | succ n ih =>
    intro p e s m args below meth c k S0 r pc L st S h hC
    unfold ns_exe at h
    cases ha : ns_act (k, pc, L, st, S) with
    | none => rw [ha] at h; cases h
    | some a =>
      rw [ha] at h
      obtain ⟨i, len, hd, hk, hn, hI⟩ := ns_act_I ha
      have hok := ns_I_ok i a hI
      refine ns_step hC hd hn hI ?_
      match a, h, hok with
      | .inl y, h, hok =>
        have hle := ns_exe_le n y r h
        obtain ⟨k', pc', L', st', S'⟩ := y
        have e : k' = k := hok.1
        subst e
        exact ⟨ih p e s m args below meth c k' S0 r pc' L' st' S' h hC, hle.1, hle.2.1⟩
      | .inr (.inl r'), h, hok =>
        exact Option.some.inj h
      | .inr (.inr (y, kk)), h, hok =>
        simp only at h
        obtain ⟨⟨k1, vs, h1, h2, h3⟩, h4⟩ := hok
        cases hy : ns_exe n y with
        | none => rw [hy] at h; cases h
        | some r1 =>
          rw [hy] at h
          have h : ns_exe n (kk r1.1 r1.2) = some r := h
          have g1 := ns_exe_le n y r1 hy
          have g2 := ns_exe_le n _ r h
          obtain ⟨e1, e2⟩ := h4 r1.1 r1.2
          subst h3
          refine ⟨r1, fun vs' e3 e4 => ?_, ?_, g1.2.2, g1.1, g1.2.1, by rw [← e2]; exact g2.1, by rw [← e2]; exact g2.2.1⟩
          · dsimp only at e3 e4 ⊢
            rw [e3] at hy
            exact ns_met_of ih k1 vs' S r1 h1 e4 hy
          · generalize hz : kk r1.1 r1.2 = z at h e1
            obtain ⟨k', pc', L', st', S'⟩ := z
            have e : k' = k := e1
            subst e
            exact ih p _ s m args below meth c k' S0 r pc' L' st' S' h hC
/-- THE BRIDGE: what the machine comes to, the method's contract says -/
theorem ns_bridge (l : Launch) (D : va_G) (cI cJ cT : ClassId) {k : Nat} {vs : List Value} {S : ns_St} {r : ns_Rs} (hk : k < 95) (hlen : (ns_el vs).length ≤ ns_m k) (h : Ev (k, 0, ns_entry k vs, [], S) r) : ns_Met l D cI cJ cT k vs S r := by
  obtain ⟨n, h⟩ := h
  exact ns_met_of (ns_all n) k vs S r hk hlen h
theorem Ev_le {x : ns_Cf} {r : ns_Rs} (h : Ev x r) : ns_le x.2.2.2.2 r.2 := by
  obtain ⟨n, h⟩ := h
  exact ns_exe_le n x r h
end NSS
