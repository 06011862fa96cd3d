/-! ===== the pool as functions, and a small machine over it ===== -/
abbrev ns_St : Type := (Nat × Nat) × (Nat → Nat) × (Nat → Nat) × (Nat → Nat → Int32) × (Nat → Nat → Int64) × (Nat → Nat → Option Nat) × (Nat → Nat → Int32) × (Nat → Nat → Int64) × (Nat → Nat → Option Nat)
/-- cells so far -/
def ns_z (S : ns_St) : Nat := S.1.1
/-- slots so far -/
def ns_s (S : ns_St) : Nat := S.1.2
/-- kind of a cell: 0 none, 1..5 an object of class 0..4, 6 int[], 7 long[], 8 Thing[] -/
def ns_k (S : ns_St) (a : Nat) : Nat := if a < S.1.1 then S.2.1 a else 0
def ns_n (S : ns_St) (a : Nat) : Nat := S.2.2.1 a
def fI (S : ns_St) : Nat → Nat → Int32 := S.2.2.2.1
def fJ (S : ns_St) : Nat → Nat → Int64 := S.2.2.2.2.1
def fR (S : ns_St) : Nat → Nat → Option Nat := S.2.2.2.2.2.1
def aI (S : ns_St) : Nat → Nat → Int32 := S.2.2.2.2.2.2.1
def aJ (S : ns_St) : Nat → Nat → Int64 := S.2.2.2.2.2.2.2.1
def aR (S : ns_St) : Nat → Nat → Option Nat := S.2.2.2.2.2.2.2.2
def up2 {α : Type} (f : Nat → Nat → α) (k a : Nat) (v : α) : Nat → Nat → α := fun k' a' => if k' = k ∧ a' = a then v else f k' a'
def pI (S : ns_St) (k a : Nat) (v : Int32) : ns_St := (S.1, S.2.1, S.2.2.1, up2 (fI S) k a v, fJ S, fR S, aI S, aJ S, aR S)
def pJ (S : ns_St) (k a : Nat) (v : Int64) : ns_St := (S.1, S.2.1, S.2.2.1, fI S, up2 (fJ S) k a v, fR S, aI S, aJ S, aR S)
def pR (S : ns_St) (k a : Nat) (v : Option Nat) : ns_St := (S.1, S.2.1, S.2.2.1, fI S, fJ S, up2 (fR S) k a v, aI S, aJ S, aR S)
def qI (S : ns_St) (a i : Nat) (v : Int32) : ns_St := (S.1, S.2.1, S.2.2.1, fI S, fJ S, fR S, up2 (aI S) a i v, aJ S, aR S)
def qJ (S : ns_St) (a i : Nat) (v : Int64) : ns_St := (S.1, S.2.1, S.2.2.1, fI S, fJ S, fR S, aI S, up2 (aJ S) a i v, aR S)
def qR (S : ns_St) (a i : Nat) (v : Option Nat) : ns_St := (S.1, S.2.1, S.2.2.1, fI S, fJ S, fR S, aI S, aJ S, up2 (aR S) a i v)
/-- a new object of class ci with n fields -/
def nO (S : ns_St) (ci n : Nat) : ns_St := ((S.1.1 + 1, S.1.2 + n), va_up S.2.1 S.1.1 (ci + 1), S.2.2.1, fun k a => if a = S.1.1 then 0 else fI S k a, fun k a => if a = S.1.1 then 0 else fJ S k a, fun k a => if a = S.1.1 then none else fR S k a, aI S, aJ S, aR S)
/-- a new array of kind kd and length n -/
def nA (S : ns_St) (kd n : Nat) : ns_St := ((S.1.1 + 1, S.1.2 + n), va_up S.2.1 S.1.1 kd, va_up S.2.2.1 S.1.1 n, fI S, fJ S, fR S, fun a i => if a = S.1.1 then 0 else aI S a i, fun a i => if a = S.1.1 then 0 else aJ S a i, fun a i => if a = S.1.1 then none else aR S a i)
/-- a copy of the array b -/
def nC (S : ns_St) (b : Nat) : ns_St := ((S.1.1 + 1, S.1.2 + ns_n S b), va_up S.2.1 S.1.1 (ns_k S b), va_up S.2.2.1 S.1.1 (ns_n S b), fI S, fJ S, fR S, fun a i => if a = S.1.1 then aI S b i else aI S a i, fun a i => if a = S.1.1 then aJ S b i else aJ S a i, fun a i => if a = S.1.1 then aR S b i else aR S a i)
-- the classes
def ns_R (ci : Nat) : String := match ci with
  | 0 => RX0
  | 1 => RX1
  | 2 => RX2
  | 3 => RX3
  | _ => RX4
def ns_T (ci : Nat) : u_T := match ci with
  | 0 => TX0
  | 1 => TX1
  | 2 => TX2
  | 3 => TX3
  | _ => TX4
def ns_ty (ci : Nat) : Nat → FieldType := match ci with
  | 0 => tyX0
  | 1 => tyX1
  | 2 => tyX2
  | 3 => tyX3
  | _ => tyX4
def ns_N (ci : Nat) : Nat := match ci with
  | 0 => 1
  | 1 => 17
  | 2 => 6
  | 3 => 4
  | _ => 20
/-- what a field holds: 0 int, 1 boolean, 2 long, 3 a reference -/
def ns_fk (t : FieldType) : Nat := match t with
  | .int => 0
  | .boolean => 1
  | .long => 2
  | _ => 3
def ns_fv (S : ns_St) (ci k a : Nat) : Value := match ns_fk (ns_ty ci k) with
  | 0 => .int (fI S (100 * ci + k) a)
  | 1 => .int (fI S (100 * ci + k) a)
  | 2 => .long (fJ S (100 * ci + k) a)
  | _ => va_rf (fR S (100 * ci + k) a)
def ns_fl (S : ns_St) (ci a : Nat) : List Value := (List.range (ns_N ci)).map (fun k => ns_fv S ci k a)
def ns_ce (cI cJ cT : ClassId) (S : ns_St) (a : Nat) : va_E :=
  if ns_k S a = 6 then .inl (cI, ns_n S a, .inl (aI S a)) else if ns_k S a = 7 then .inl (cJ, ns_n S a, .inr (.inl (aJ S a))) else if ns_k S a = 8 then .inl (cT, ns_n S a, .inr (.inr (.inr (.inr (aR S a))))) else .inr (ns_k S a - 1, ns_fl S (ns_k S a - 1) a)
def ns_dom (S : ns_St) : List Nat := (List.range (ns_z S)).filter (fun a => ns_k S a != 0)
def ns_pool (cI cJ cT : ClassId) (S : ns_St) : va_W := va_pl (ns_dom S) (ns_ce cI cJ cT S)
-- reading behind writing
theorem up2_at {α : Type} (f : Nat → Nat → α) (k a : Nat) (v : α) (k' a' : Nat) : up2 f k a v k' a' = if k' = k ∧ a' = a then v else f k' a' := rfl
theorem pI_ns_z (S : ns_St) (k a : Nat) (v : Int32) : ns_z (pI S k a v) = ns_z S := rfl
theorem pI_ns_s (S : ns_St) (k a : Nat) (v : Int32) : ns_s (pI S k a v) = ns_s S := rfl
theorem pI_ns_k (S : ns_St) (k a : Nat) (v : Int32) : ns_k (pI S k a v) = ns_k S := rfl
theorem pI_ns_n (S : ns_St) (k a : Nat) (v : Int32) : ns_n (pI S k a v) = ns_n S := rfl
theorem pI_fI (S : ns_St) (k a : Nat) (v : Int32) (k' a' : Nat) : fI (pI S k a v) k' a' = if k' = k ∧ a' = a then v else fI S k' a' := rfl
theorem pI_fJ (S : ns_St) (k a : Nat) (v : Int32) : fJ (pI S k a v) = fJ S := rfl
theorem pI_fR (S : ns_St) (k a : Nat) (v : Int32) : fR (pI S k a v) = fR S := rfl
theorem pI_aI (S : ns_St) (k a : Nat) (v : Int32) : aI (pI S k a v) = aI S := rfl
theorem pI_aJ (S : ns_St) (k a : Nat) (v : Int32) : aJ (pI S k a v) = aJ S := rfl
theorem pI_aR (S : ns_St) (k a : Nat) (v : Int32) : aR (pI S k a v) = aR S := rfl
theorem pJ_ns_z (S : ns_St) (k a : Nat) (v : Int64) : ns_z (pJ S k a v) = ns_z S := rfl
theorem pJ_ns_s (S : ns_St) (k a : Nat) (v : Int64) : ns_s (pJ S k a v) = ns_s S := rfl
theorem pJ_ns_k (S : ns_St) (k a : Nat) (v : Int64) : ns_k (pJ S k a v) = ns_k S := rfl
theorem pJ_ns_n (S : ns_St) (k a : Nat) (v : Int64) : ns_n (pJ S k a v) = ns_n S := rfl
theorem pJ_fI (S : ns_St) (k a : Nat) (v : Int64) : fI (pJ S k a v) = fI S := rfl
theorem pJ_fJ (S : ns_St) (k a : Nat) (v : Int64) (k' a' : Nat) : fJ (pJ S k a v) k' a' = if k' = k ∧ a' = a then v else fJ S k' a' := rfl
theorem pJ_fR (S : ns_St) (k a : Nat) (v : Int64) : fR (pJ S k a v) = fR S := rfl
theorem pJ_aI (S : ns_St) (k a : Nat) (v : Int64) : aI (pJ S k a v) = aI S := rfl
theorem pJ_aJ (S : ns_St) (k a : Nat) (v : Int64) : aJ (pJ S k a v) = aJ S := rfl
theorem pJ_aR (S : ns_St) (k a : Nat) (v : Int64) : aR (pJ S k a v) = aR S := rfl
theorem pR_ns_z (S : ns_St) (k a : Nat) (v : Option Nat) : ns_z (pR S k a v) = ns_z S := rfl
theorem pR_ns_s (S : ns_St) (k a : Nat) (v : Option Nat) : ns_s (pR S k a v) = ns_s S := rfl
theorem pR_ns_k (S : ns_St) (k a : Nat) (v : Option Nat) : ns_k (pR S k a v) = ns_k S := rfl
theorem pR_ns_n (S : ns_St) (k a : Nat) (v : Option Nat) : ns_n (pR S k a v) = ns_n S := rfl
theorem pR_fI (S : ns_St) (k a : Nat) (v : Option Nat) : fI (pR S k a v) = fI S := rfl
theorem pR_fJ (S : ns_St) (k a : Nat) (v : Option Nat) : fJ (pR S k a v) = fJ S := rfl
theorem pR_fR (S : ns_St) (k a : Nat) (v : Option Nat) (k' a' : Nat) : fR (pR S k a v) k' a' = if k' = k ∧ a' = a then v else fR S k' a' := rfl
theorem pR_aI (S : ns_St) (k a : Nat) (v : Option Nat) : aI (pR S k a v) = aI S := rfl
theorem pR_aJ (S : ns_St) (k a : Nat) (v : Option Nat) : aJ (pR S k a v) = aJ S := rfl
theorem pR_aR (S : ns_St) (k a : Nat) (v : Option Nat) : aR (pR S k a v) = aR S := rfl
theorem qI_ns_z (S : ns_St) (k a : Nat) (v : Int32) : ns_z (qI S k a v) = ns_z S := rfl
theorem qI_ns_s (S : ns_St) (k a : Nat) (v : Int32) : ns_s (qI S k a v) = ns_s S := rfl
theorem qI_ns_k (S : ns_St) (k a : Nat) (v : Int32) : ns_k (qI S k a v) = ns_k S := rfl
theorem qI_ns_n (S : ns_St) (k a : Nat) (v : Int32) : ns_n (qI S k a v) = ns_n S := rfl
theorem qI_fI (S : ns_St) (k a : Nat) (v : Int32) : fI (qI S k a v) = fI S := rfl
theorem qI_fJ (S : ns_St) (k a : Nat) (v : Int32) : fJ (qI S k a v) = fJ S := rfl
theorem qI_fR (S : ns_St) (k a : Nat) (v : Int32) : fR (qI S k a v) = fR S := rfl
theorem qI_aI (S : ns_St) (k a : Nat) (v : Int32) (k' a' : Nat) : aI (qI S k a v) k' a' = if k' = k ∧ a' = a then v else aI S k' a' := rfl
theorem qI_aJ (S : ns_St) (k a : Nat) (v : Int32) : aJ (qI S k a v) = aJ S := rfl
theorem qI_aR (S : ns_St) (k a : Nat) (v : Int32) : aR (qI S k a v) = aR S := rfl
theorem qJ_ns_z (S : ns_St) (k a : Nat) (v : Int64) : ns_z (qJ S k a v) = ns_z S := rfl
theorem qJ_ns_s (S : ns_St) (k a : Nat) (v : Int64) : ns_s (qJ S k a v) = ns_s S := rfl
theorem qJ_ns_k (S : ns_St) (k a : Nat) (v : Int64) : ns_k (qJ S k a v) = ns_k S := rfl
theorem qJ_ns_n (S : ns_St) (k a : Nat) (v : Int64) : ns_n (qJ S k a v) = ns_n S := rfl
theorem qJ_fI (S : ns_St) (k a : Nat) (v : Int64) : fI (qJ S k a v) = fI S := rfl
theorem qJ_fJ (S : ns_St) (k a : Nat) (v : Int64) : fJ (qJ S k a v) = fJ S := rfl
theorem qJ_fR (S : ns_St) (k a : Nat) (v : Int64) : fR (qJ S k a v) = fR S := rfl
theorem qJ_aI (S : ns_St) (k a : Nat) (v : Int64) : aI (qJ S k a v) = aI S := rfl
theorem qJ_aJ (S : ns_St) (k a : Nat) (v : Int64) (k' a' : Nat) : aJ (qJ S k a v) k' a' = if k' = k ∧ a' = a then v else aJ S k' a' := rfl
theorem qJ_aR (S : ns_St) (k a : Nat) (v : Int64) : aR (qJ S k a v) = aR S := rfl
theorem qR_ns_z (S : ns_St) (k a : Nat) (v : Option Nat) : ns_z (qR S k a v) = ns_z S := rfl
theorem qR_ns_s (S : ns_St) (k a : Nat) (v : Option Nat) : ns_s (qR S k a v) = ns_s S := rfl
theorem qR_ns_k (S : ns_St) (k a : Nat) (v : Option Nat) : ns_k (qR S k a v) = ns_k S := rfl
theorem qR_ns_n (S : ns_St) (k a : Nat) (v : Option Nat) : ns_n (qR S k a v) = ns_n S := rfl
theorem qR_fI (S : ns_St) (k a : Nat) (v : Option Nat) : fI (qR S k a v) = fI S := rfl
theorem qR_fJ (S : ns_St) (k a : Nat) (v : Option Nat) : fJ (qR S k a v) = fJ S := rfl
theorem qR_fR (S : ns_St) (k a : Nat) (v : Option Nat) : fR (qR S k a v) = fR S := rfl
theorem qR_aI (S : ns_St) (k a : Nat) (v : Option Nat) : aI (qR S k a v) = aI S := rfl
theorem qR_aJ (S : ns_St) (k a : Nat) (v : Option Nat) : aJ (qR S k a v) = aJ S := rfl
theorem qR_aR (S : ns_St) (k a : Nat) (v : Option Nat) (k' a' : Nat) : aR (qR S k a v) k' a' = if k' = k ∧ a' = a then v else aR S k' a' := rfl
theorem nO_ns_z (S : ns_St) (ci n : Nat) : ns_z (nO S ci n) = ns_z S + 1 := rfl
theorem nO_ns_s (S : ns_St) (ci n : Nat) : ns_s (nO S ci n) = ns_s S + n := rfl
theorem nO_ns_k (S : ns_St) (ci n a : Nat) : ns_k (nO S ci n) a = if a = ns_z S then ci + 1 else ns_k S a := by
  simp only [ns_k, nO, ns_z, va_up]
  by_cases h : a = S.1.1
  · simp [h]
  · by_cases h2 : a < S.1.1
    · simp [h, h2, Nat.lt_succ_of_lt h2]
    · have h3 : ¬ a < S.1.1 + 1 := by omega
      simp [h, h2, h3]
theorem nO_ns_n (S : ns_St) (ci n : Nat) : ns_n (nO S ci n) = ns_n S := rfl
theorem nO_fI (S : ns_St) (ci n k a : Nat) : fI (nO S ci n) k a = if a = ns_z S then 0 else fI S k a := rfl
theorem nO_fJ (S : ns_St) (ci n k a : Nat) : fJ (nO S ci n) k a = if a = ns_z S then 0 else fJ S k a := rfl
theorem nO_fR (S : ns_St) (ci n k a : Nat) : fR (nO S ci n) k a = if a = ns_z S then none else fR S k a := rfl
theorem nO_aI (S : ns_St) (ci n : Nat) : aI (nO S ci n) = aI S := rfl
theorem nO_aJ (S : ns_St) (ci n : Nat) : aJ (nO S ci n) = aJ S := rfl
theorem nO_aR (S : ns_St) (ci n : Nat) : aR (nO S ci n) = aR S := rfl
theorem nA_ns_z (S : ns_St) (kd n : Nat) : ns_z (nA S kd n) = ns_z S + 1 := rfl
theorem nA_ns_s (S : ns_St) (kd n : Nat) : ns_s (nA S kd n) = ns_s S + n := rfl
theorem nA_ns_k (S : ns_St) (kd n : Nat) (a : Nat) : ns_k (nA S kd n) a = if a = ns_z S then kd else ns_k S a := by
  simp only [ns_k, nA, ns_z, va_up]
  by_cases h : a = S.1.1
  · simp [h]
  · by_cases h2 : a < S.1.1
    · simp [h, h2, Nat.lt_succ_of_lt h2]
    · have h3 : ¬ a < S.1.1 + 1 := by omega
      simp [h, h2, h3]
theorem nA_ns_n (S : ns_St) (kd n : Nat) (a : Nat) : ns_n (nA S kd n) a = if a = ns_z S then n else ns_n S a := rfl
theorem nA_fI (S : ns_St) (kd n : Nat) : fI (nA S kd n) = fI S := rfl
theorem nA_fJ (S : ns_St) (kd n : Nat) : fJ (nA S kd n) = fJ S := rfl
theorem nA_fR (S : ns_St) (kd n : Nat) : fR (nA S kd n) = fR S := rfl
theorem nA_aI (S : ns_St) (kd n : Nat) (a i : Nat) : aI (nA S kd n) a i = if a = ns_z S then 0 else aI S a i := rfl
theorem nA_aJ (S : ns_St) (kd n : Nat) (a i : Nat) : aJ (nA S kd n) a i = if a = ns_z S then 0 else aJ S a i := rfl
theorem nA_aR (S : ns_St) (kd n : Nat) (a i : Nat) : aR (nA S kd n) a i = if a = ns_z S then none else aR S a i := rfl
theorem nC_ns_z (S : ns_St) (b : Nat) : ns_z (nC S b) = ns_z S + 1 := rfl
theorem nC_ns_s (S : ns_St) (b : Nat) : ns_s (nC S b) = ns_s S + ns_n S b := rfl
theorem nC_ns_k (S : ns_St) (b : Nat) (a : Nat) : ns_k (nC S b) a = if a = ns_z S then ns_k S b else ns_k S a := by
  simp only [ns_k, nC, ns_z, va_up]
  by_cases h : a = S.1.1
  · simp [h]
  · by_cases h2 : a < S.1.1
    · simp [h, h2, Nat.lt_succ_of_lt h2]
    · have h3 : ¬ a < S.1.1 + 1 := by omega
      simp [h, h2, h3]
theorem nC_ns_n (S : ns_St) (b : Nat) (a : Nat) : ns_n (nC S b) a = if a = ns_z S then ns_n S b else ns_n S a := rfl
theorem nC_fI (S : ns_St) (b : Nat) : fI (nC S b) = fI S := rfl
theorem nC_fJ (S : ns_St) (b : Nat) : fJ (nC S b) = fJ S := rfl
theorem nC_fR (S : ns_St) (b : Nat) : fR (nC S b) = fR S := rfl
theorem nC_aI (S : ns_St) (b : Nat) (a i : Nat) : aI (nC S b) a i = if a = ns_z S then aI S b i else aI S a i := rfl
theorem nC_aJ (S : ns_St) (b : Nat) (a i : Nat) : aJ (nC S b) a i = if a = ns_z S then aJ S b i else aJ S a i := rfl
theorem nC_aR (S : ns_St) (b : Nat) (a i : Nat) : aR (nC S b) a i = if a = ns_z S then aR S b i else aR S a i := rfl
