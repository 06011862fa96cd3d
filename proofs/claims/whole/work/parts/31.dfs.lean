/-! ===== the walk as a mathematical thing: both sides go its steps ===== -/
/-- stack (the thing, its next place), marks (0 new, 1 open, 2 left), things in the order they were come to, in the order they were left, a ring was met, the start was met again -/
abbrev Dx : Type := List (Nat × Nat) × (Nat → Nat) × List Nat × List Nat × Bool × Bool
section DFS
variable (hk : Nat → Nat) (ch : Nat → Nat → Option Nat) (s0 n : Nat)
def dstep (X : Dx) : Dx := match X.1 with
  | [] => X
  | (u, p) :: t => if hk u ≤ p then (t, va_up X.2.1 u 2, X.2.2.1, X.2.2.2.1 ++ [u], X.2.2.2.2) else match ch u p with
    | none => ((u, p + 1) :: t, X.2)
    | some c => if X.2.1 c = 0 then ((c, 0) :: (u, p + 1) :: t, va_up X.2.1 c 1, X.2.2.1 ++ [c], X.2.2.2) else if X.2.1 c = 1 then ((u, p + 1) :: t, X.2.1, X.2.2.1, X.2.2.2.1, true, X.2.2.2.2.2 || c == s0) else ((u, p + 1) :: t, X.2)
/-- below an open thing all is left but what stands above it in the stack -/
def dOk (mk : Nat → Nat) : Option Nat → List (Nat × Nat) → Prop
  | _, [] => True
  | ab, (u, p) :: t => (∀ q c, q < p → ch u q = some c → mk c = 2 ∨ (q + 1 = p ∧ ab = some c)) ∧ dOk mk (some u) t
def dInv (X : Dx) : Prop :=
  (X.1.map Prod.fst).Nodup ∧ (∀ u, X.2.1 u = 1 ↔ u ∈ X.1.map Prod.fst) ∧ (∀ u, X.2.1 u ≤ 2) ∧ (∀ x ∈ X.1, x.2 ≤ hk x.1) ∧ (X.2.2.1.Nodup ∧ ∀ u, u ∈ X.2.2.1 ↔ X.2.1 u ≠ 0) ∧ (X.2.2.2.1.Nodup ∧ ∀ u, u ∈ X.2.2.2.1 ↔ X.2.1 u = 2) ∧ (∀ u, X.2.1 u ≠ 0 → u < n) ∧
  (X.2.2.2.2.1 = false → dOk ch X.2.1 none X.1 ∧ ∀ A u B, X.2.2.2.1 = A ++ u :: B → ∀ p c, p < hk u → ch u p = some c → c ∈ A)
theorem dOk_mono {mk mk' : Nat → Nat} (h : ∀ c, mk c = 2 → mk' c = 2) : ∀ (ab : Option Nat) (t : List (Nat × Nat)), dOk ch mk ab t → dOk ch mk' ab t
  | _, [], _ => trivial
  | ab, (u, p) :: t, hh => ⟨fun q c hq hc => (hh.1 q c hq hc).imp (h c) id, dOk_mono h (some u) t hh.2⟩
/-- the thing above is left: then all below is -/
theorem dOk_left {mk mk' : Nat → Nat} (h : ∀ c, mk c = 2 → mk' c = 2) {v : Nat} (hv : mk' v = 2) : ∀ (t : List (Nat × Nat)), dOk ch mk (some v) t → dOk ch mk' none t
  | [], _ => trivial
  | (u, p) :: t, hh => ⟨fun q c hq hc => (hh.1 q c hq hc).elim (fun z => Or.inl (h c z)) (fun z => Or.inl (by cases z.2; exact hv)), dOk_mono ch h (some u) t hh.2⟩
theorem dInv_step {X : Dx} (hch : ∀ u p c, u < n → p < hk u → ch u p = some c → c < n) (h : dInv hk ch n X) : dInv hk ch n (dstep hk ch s0 X) := by
  obtain ⟨stk, mk, pre, post, ring, met⟩ := X
  obtain ⟨h1, h2, h3, h4, ⟨h5, h5'⟩, ⟨h6, h6'⟩, h7, h8⟩ := h
  dsimp only at h1 h2 h3 h4 h5 h5' h6 h6' h7 h8
  match stk, h1, h2, h4, h8 with
  | [], h1, h2, h4, h8 => exact ⟨h1, h2, h3, h4, ⟨h5, h5'⟩, ⟨h6, h6'⟩, h7, h8⟩
  | (u, p) :: t, h1, h2, h4, h8 =>
    have hu1 : mk u = 1 := (h2 u).mpr (by simp)
    have hut : u ∉ t.map Prod.fst := (List.nodup_cons.mp h1).1
    have htn : (t.map Prod.fst).Nodup := (List.nodup_cons.mp h1).2
    have hun : u < n := h7 u (by omega)
    unfold dstep
    dsimp only
    by_cases e : hk u ≤ p
    · rw [if_pos e]
      have hp : p = hk u := Nat.le_antisymm (h4 (u, p) (by simp)) e
      refine ⟨htn, fun v => ?_, fun v => ?_, fun x hx => h4 x (by simp [hx]), ⟨h5, fun v => ?_⟩, ⟨?_, fun v => ?_⟩, fun v hv => ?_, fun hr => ?_⟩
      · by_cases y : v = u
        · subst y
          simp only [va_up_self]
          exact ⟨fun z => by omega, fun z => absurd z hut⟩
        · simp only [va_up_ne _ _ y]
          rw [h2 v]
          simp [y]
      · by_cases y : v = u
        · subst y; simp only [va_up_self]; omega
        · simp only [va_up_ne _ _ y]; exact h3 v
      · by_cases y : v = u
        · subst y
          simp only [va_up_self]
          rw [h5' v, hu1]; omega
        · simp only [va_up_ne _ _ y]; exact h5' v
      · show (post ++ [u]).Nodup
        rw [List.nodup_append]
        exact ⟨h6, by simp, fun a ha b hb => by
          simp at hb
          subst hb
          intro q
          subst q
          have := (h6' a).mp ha
          omega⟩
      · show v ∈ post ++ [u] ↔ _
        by_cases y : v = u
        · subst y; simp [va_up_self]
        · simp only [va_up_ne _ _ y]
          rw [← h6' v]; simp [y]
      · by_cases y : v = u
        · subst y; exact hun
        · simp only [va_up_ne _ _ y] at hv; exact h7 v hv
      · obtain ⟨o1, o2⟩ := h8 hr
        have keep : ∀ c, mk c = 2 → va_up mk u 2 c = 2 := fun c hc => by
          by_cases y : c = u
          · subst y; exact va_up_self _ _ _
          · rw [va_up_ne _ _ y]; exact hc
        refine ⟨dOk_left ch keep (va_up_self _ _ _) t o1.2, fun A v B eq q c hq hc => ?_⟩
        have eq : post ++ [u] = A ++ v :: B := eq
        rcases List.append_eq_append_iff.mp eq with ⟨as, ha1, ha2⟩ | ⟨cs, hc1, hc2⟩
        · -- A = post ++ as, [u] = as ++ v :: B
          cases as with
          | nil =>
            simp at ha2
            obtain ⟨rfl, rfl⟩ := ha2
            have := (o1.1 q c (by omega) hc).elim id (fun z => by cases z.2)
            rw [ha1, List.append_nil]
            exact (h6' c).mpr this
          | cons a as => simp at ha2
        · -- post = A ++ cs, v :: B = cs ++ [u]
          cases cs with
          | nil =>
            simp at hc2
            obtain ⟨rfl, rfl⟩ := hc2
            have := (o1.1 q c (by omega) hc).elim id (fun z => by cases z.2)
            rw [List.append_nil] at hc1
            rw [← hc1]
            exact (h6' c).mpr this
          | cons a as =>
            simp at hc2
            obtain ⟨rfl, rfl⟩ := hc2
            exact o2 A v as hc1 q c hq hc
    · rw [if_neg e]
      have hlt : p < hk u := Nat.not_le.mp e
      -- one place on, nothing else
      have skip : ∀ (r' : Bool) (m' : Bool), (r' = false → ring = false ∧ ∀ c, ch u p = some c → mk c = 2) → dInv hk ch n ((u, p + 1) :: t, mk, pre, post, r', m') := by
        intro r' m' hr'
        refine ⟨h1, h2, h3, fun x hx => ?_, ⟨h5, h5'⟩, ⟨h6, h6'⟩, h7, fun hr => ?_⟩
        · rcases List.mem_cons.mp hx with z | z
          · subst z; exact hlt
          · exact h4 x (by simp [z])
        · obtain ⟨g1, g2⟩ := hr' hr
          obtain ⟨o1, o2⟩ := h8 g1
          refine ⟨⟨fun q c hq hc => ?_, o1.2⟩, o2⟩
          by_cases y : q = p
          · subst y; exact Or.inl (g2 c hc)
          · exact Or.inl ((o1.1 q c (by omega) hc).elim id (fun z => by cases z.2))
      cases hc : ch u p with
      | none => exact skip ring met (fun z => ⟨z, fun c q => by rw [hc] at q; cases q⟩)
      | some c =>
        dsimp only
        have hcn := hch u p c hun hlt hc
        by_cases y0 : mk c = 0
        · rw [if_pos y0]
          have hcs : c ∉ ((u, p) :: t).map Prod.fst := fun z => by
            have := (h2 c).mpr z
            omega
          have hcu : c ≠ u := fun z => hcs (by simp [z])
          refine ⟨?_, fun v => ?_, fun v => ?_, fun x hx => ?_, ⟨?_, fun v => ?_⟩, ⟨h6, fun v => ?_⟩, fun v hv => ?_, fun hr => ?_⟩
          · show (c :: u :: t.map Prod.fst).Nodup
            exact List.nodup_cons.mpr ⟨hcs, h1⟩
          · show va_up mk c 1 v = 1 ↔ v ∈ c :: u :: t.map Prod.fst
            by_cases y : v = c
            · subst y; simp [va_up_self]
            · rw [va_up_ne _ _ y, h2 v]
              simp [y]
          · show va_up mk c 1 v ≤ 2
            by_cases y : v = c
            · subst y; rw [va_up_self]; omega
            · rw [va_up_ne _ _ y]; exact h3 v
          · rcases List.mem_cons.mp hx with z | z
            · subst z; exact Nat.zero_le _
            · rcases List.mem_cons.mp z with z | z
              · subst z; exact hlt
              · exact h4 x (by simp [z])
          · show (pre ++ [c]).Nodup
            rw [List.nodup_append]
            exact ⟨h5, by simp, fun a ha b hb => by
              simp at hb
              subst hb
              intro q
              subst q
              exact (h5' a).mp ha y0⟩
          · show v ∈ pre ++ [c] ↔ va_up mk c 1 v ≠ 0
            by_cases y : v = c
            · subst y; simp [va_up_self]
            · rw [va_up_ne _ _ y, ← h5' v]; simp [y]
          · show v ∈ post ↔ va_up mk c 1 v = 2
            by_cases y : v = c
            · subst y
              rw [va_up_self, h6' v]; omega
            · rw [va_up_ne _ _ y]; exact h6' v
          · have hv : va_up mk c 1 v ≠ 0 := hv
            by_cases y : v = c
            · subst y; exact hcn
            · rw [va_up_ne _ _ y] at hv; exact h7 v hv
          · obtain ⟨o1, o2⟩ := h8 hr
            have keep : ∀ x, mk x = 2 → va_up mk c 1 x = 2 := fun x hx => by
              by_cases y : x = c
              · subst y; omega
              · rw [va_up_ne _ _ y]; exact hx
            refine ⟨⟨fun q c' hq => absurd hq (Nat.not_lt_zero q), ⟨fun q c' hq hc' => ?_, dOk_mono ch keep (some u) t o1.2⟩⟩, o2⟩
            by_cases y : q = p
            · subst y
              rw [hc] at hc'
              exact Or.inr ⟨rfl, hc'⟩
            · exact Or.inl (keep c' ((o1.1 q c' (by omega) hc').elim id (fun z => by cases z.2)))
        · rw [if_neg y0]
          by_cases y1 : mk c = 1
          · rw [if_pos y1]
            exact skip true _ (fun z => by cases z)
          · rw [if_neg y1]
            have := h3 c
            exact skip ring met (fun z => ⟨z, fun c' q => by rw [hc] at q; cases q; omega⟩)
end DFS
