/-! ===== sorting by insertion: the list stands backwards ===== -/
section INS
variable {α : Type}
def insR (bb : α → α → Bool) (x : α) : List α → List α
  | [] => [x]
  | y :: t => if bb y x = true then y :: insR bb x t else x :: y :: t
theorem insR_len (bb : α → α → Bool) (x : α) : ∀ t, (insR bb x t).length = t.length + 1
  | [] => rfl
  | y :: t => by
    unfold insR
    split
    · simp [insR_len bb x t]
    · simp
theorem insR_mem (bb : α → α → Bool) (x : α) : ∀ t, ∀ z, z ∈ insR bb x t → z = x ∨ z ∈ t
  | [], z, h => by
    unfold insR at h
    simp at h
    exact Or.inl h
  | y :: t, z, h => by
    unfold insR at h
    split at h
    · rcases List.mem_cons.mp h with w | w
      · exact Or.inr (by simp [w])
      · rcases insR_mem bb x t z w with v | v
        · exact Or.inl v
        · exact Or.inr (by simp [v])
    · rcases List.mem_cons.mp h with w | w
      · exact Or.inl w
      · exact Or.inr w
/-- the row f holds the list r, its last first -/
def RA (f : Nat → α) : List α → Prop
  | [] => True
  | y :: t => f t.length = y ∧ RA f t
theorem RA_congr {f g : Nat → α} : ∀ t, (∀ i, i < t.length → g i = f i) → RA f t → RA g t
  | [], _, _ => trivial
  | y :: t, h, hh => ⟨(h t.length (by simp)).trans hh.1, RA_congr t (fun i hi => h i (by simp; omega)) hh.2⟩
theorem RA_get {f : Nat → α} : ∀ (t : List α), RA f t → ∀ i, i < t.length → t.reverse[i]? = some (f i)
  | y :: t, h, i, hi => by
    rw [List.reverse_cons]
    by_cases e : i < t.length
    · rw [List.getElem?_append_left (by simpa using e)]
      exact RA_get t h.2 i e
    · have e2 : i = t.length := by simp at hi; omega
      subst e2
      rw [List.getElem?_append_right (by simp)]
      simp [h.1]
/-- the row's cells as the loop moves them -/
def insF (bb : α → α → Bool) (x : α) : Nat → (Nat → α) → Nat → α
  | 0, f => va_up f 0 x
  | k + 1, f => if bb (f k) x = true then insF bb x k (va_up f (k + 1) (f k)) else va_up f (k + 1) x
theorem insF_ok (bb : α → α → Bool) (x : α) : ∀ (t : List α) (f : Nat → α), RA f t → RA (insF bb x t.length f) (insR bb x t) ∧ ∀ j, t.length < j → insF bb x t.length f j = f j
  | [], f, _ => ⟨⟨va_up_self _ _ _, trivial⟩, fun j hj => va_up_ne _ _ (by simp at hj; omega)⟩
  | y :: t, f, h => by
    have e : insF bb x (y :: t).length f = if bb y x = true then insF bb x t.length (va_up f (t.length + 1) y) else va_up f (t.length + 1) x := by
      show (if bb (f t.length) x = true then insF bb x t.length (va_up f (t.length + 1) (f t.length)) else va_up f (t.length + 1) x) = _
      rw [h.1]
    have e2 : insR bb x (y :: t) = if bb y x = true then y :: insR bb x t else x :: y :: t := rfl
    rw [e, e2]
    by_cases w : bb y x = true
    · rw [if_pos w, if_pos w]
      obtain ⟨g1, g2⟩ := insF_ok bb x t (va_up f (t.length + 1) y) (RA_congr t (fun i hi => va_up_ne _ _ (by omega)) h.2)
      refine ⟨⟨?_, g1⟩, fun j hj => ?_⟩
      · rw [insR_len, g2 _ (by omega), va_up_self]
      · have hj : t.length + 1 < j := hj
        rw [g2 j (by omega), va_up_ne _ _ (by omega)]
    · rw [if_neg w, if_neg w]
      refine ⟨⟨va_up_self _ _ _, (va_up_ne _ _ (by omega)).trans h.1, RA_congr t (fun i hi => va_up_ne _ _ (by omega)) h.2⟩, fun j hj => va_up_ne _ _ ?_⟩
      have hj : t.length + 1 < j := hj
      omega
end INS
section SRT
variable (v : Nat → Int32)
def bbO : Option Nat → Option Nat → Bool
  | _, none => false
  | none, some _ => true
  | some a, some b => decide (v b < v a)
def bbN (a b : Nat) : Bool := decide (v b < v a)
/-- the class's list and the reference's, after k places of the row f -/
def srC (f : Nat → Option Nat) : Nat → List (Option Nat)
  | 0 => []
  | k + 1 => insR (bbO v) (f k) (srC f k)
def srM (f : Nat → Option Nat) : Nat → List Nat
  | 0 => []
  | k + 1 => match f k with
    | none => srM f k
    | some c => insR (bbN v) c (srM f k)
theorem insR_none : ∀ t, insR (bbO v) none t = none :: t
  | [] => rfl
  | none :: _ => rfl
  | some _ :: _ => rfl
theorem insR_map (c : Nat) : ∀ t : List Nat, insR (bbO v) (some c) (t.map some) = (insR (bbN v) c t).map some
  | [] => rfl
  | y :: t => by
    have e : insR (bbO v) (some c) ((y :: t).map some) = if bbO v (some y) (some c) = true then some y :: insR (bbO v) (some c) (t.map some) else some c :: some y :: t.map some := rfl
    have e2 : insR (bbN v) c (y :: t) = if bbN v y c = true then y :: insR (bbN v) c t else c :: y :: t := rfl
    rw [e, e2, insR_map c t]
    have : bbO v (some y) (some c) = bbN v y c := rfl
    rw [this]
    split <;> rfl
theorem insR_skip (c : Nat) (t : List (Option Nat)) : ∀ m, insR (bbO v) (some c) (List.replicate m none ++ t) = List.replicate m none ++ insR (bbO v) (some c) t
  | 0 => rfl
  | m + 1 => by
    have e : insR (bbO v) (some c) (List.replicate (m + 1) none ++ t) = none :: insR (bbO v) (some c) (List.replicate m none ++ t) := rfl
    rw [e, insR_skip c t m]
    rfl
theorem srC_len (f : Nat → Option Nat) : ∀ k, (srC v f k).length = k
  | 0 => rfl
  | k + 1 => by
    unfold srC
    rw [insR_len, srC_len f k]
theorem sr_same (f : Nat → Option Nat) : ∀ k, ∃ m, m + (srM v f k).length = k ∧ srC v f k = List.replicate m none ++ (srM v f k).map some
  | 0 => ⟨0, rfl, rfl⟩
  | k + 1 => by
    obtain ⟨m, h1, h2⟩ := sr_same f k
    unfold srC srM
    rw [h2]
    cases f k with
    | none =>
      refine ⟨m + 1, by dsimp only; omega, ?_⟩
      rw [insR_none]
      rfl
    | some c =>
      refine ⟨m, ?_, ?_⟩
      · dsimp only
        rw [insR_len]
        omega
      · rw [insR_skip, insR_map]
theorem srC_mem (f : Nat → Option Nat) : ∀ k x, x ∈ srC v f k → ∃ j, j < k ∧ f j = x
  | k + 1, x, h => by
    rcases insR_mem _ _ _ x h with z | z
    · exact ⟨k, by omega, z.symm⟩
    · obtain ⟨j, hj, e⟩ := srC_mem f k x z
      exact ⟨j, by omega, e⟩
/-- the row when it is sorted -/
def srF (f : Nat → Option Nat) (n : Nat) (j : Nat) : Option Nat := ((srC v f n).reverse[j]?).join
theorem srF_get {f g : Nat → Option Nat} {n j : Nat} (h : RA g (srC v f n)) (hj : j < n) : srF v f n j = g j := by
  unfold srF
  rw [RA_get _ h j (by rw [srC_len]; exact hj)]
  rfl
theorem srF_ref {f : Nat → Option Nat} {g : Nat → Nat} {n : Nat} (h : RA g (srM v f n)) (j : Nat) (hj : j < n) : srF v f n j = if j < (srM v f n).length then some (g j) else none := by
  obtain ⟨m, h1, h2⟩ := sr_same v f n
  unfold srF
  rw [h2, List.reverse_append]
  by_cases y : j < (srM v f n).length
  · rw [if_pos y, List.getElem?_append_left (by simpa using y), ← List.map_reverse, List.getElem?_map, RA_get _ h j y]
    rfl
  · rw [if_neg y, List.getElem?_append_right (by simpa using y)]
    simp only [List.reverse_replicate, List.getElem?_replicate]
    split <;> rfl
theorem srF_mem {f : Nat → Option Nat} {n j c : Nat} (h : srF v f n j = some c) : ∃ i, i < n ∧ f i = some c := by
  unfold srF at h
  cases e : (srC v f n).reverse[j]? with
  | none => rw [e] at h; cases h
  | some x =>
    rw [e] at h
    have hx : x = some c := h
    have := List.mem_of_getElem? e
    rw [List.mem_reverse] at this
    obtain ⟨i, hi, e2⟩ := srC_mem v f n x this
    exact ⟨i, hi, e2.trans hx⟩
end SRT
