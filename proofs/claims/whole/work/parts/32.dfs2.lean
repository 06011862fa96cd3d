/-! ===== the walk ends ===== -/
def sumN (f : Nat → Nat) : Nat → Nat
  | 0 => 0
  | k + 1 => sumN f k + f k
theorem sumN_congr {f g : Nat → Nat} : ∀ n, (∀ i, i < n → f i = g i) → sumN f n = sumN g n
  | 0, _ => rfl
  | n + 1, h => by
    show sumN f n + f n = sumN g n + g n
    rw [sumN_congr n (fun i hi => h i (by omega)), h n (by omega)]
theorem sumN_le {f : Nat → Nat} {b : Nat} : ∀ n, (∀ i, i < n → f i ≤ b) → sumN f n ≤ n * b
  | 0, _ => by simp [sumN]
  | n + 1, h => by
    have h1 := sumN_le n (fun i hi => h i (by omega))
    have h2 := h n (by omega)
    show sumN f n + f n ≤ (n + 1) * b
    rw [Nat.succ_mul]
    omega
theorem sumN_up {f g : Nat → Nat} {c : Nat} : ∀ n, c < n → (∀ i, i ≠ c → g i = f i) → sumN g n + f c = sumN f n + g c
  | 0, h, _ => absurd h (Nat.not_lt_zero c)
  | n + 1, h, hg => by
    show sumN g n + g n + f c = sumN f n + f n + g c
    by_cases y : c = n
    · subst y
      rw [sumN_congr c (f := g) (g := f) (fun i hi => hg i (by omega))]
      omega
    · have := sumN_up n (by omega) hg
      rw [hg n (fun z => y z.symm)]
      omega
section DFS2
variable (hk : Nat → Nat) (ch : Nat → Nat → Option Nat) (s0 n : Nat)
theorem dst_leave {u p : Nat} {t : List (Nat × Nat)} {mk : Nat → Nat} {pre post : List Nat} {ring met : Bool} (e : hk u ≤ p) : dstep hk ch s0 ((u, p) :: t, mk, pre, post, ring, met) = (t, va_up mk u 2, pre, post ++ [u], ring, met) := by
  unfold dstep
  dsimp only
  rw [if_pos e]
theorem dst_none {u p : Nat} {t : List (Nat × Nat)} {mk : Nat → Nat} {pre post : List Nat} {ring met : Bool} (e : ¬ hk u ≤ p) (hc : ch u p = none) : dstep hk ch s0 ((u, p) :: t, mk, pre, post, ring, met) = ((u, p + 1) :: t, mk, pre, post, ring, met) := by
  unfold dstep
  dsimp only
  rw [if_neg e, hc]
theorem dst_new {u p c : Nat} {t : List (Nat × Nat)} {mk : Nat → Nat} {pre post : List Nat} {ring met : Bool} (e : ¬ hk u ≤ p) (hc : ch u p = some c) (y : mk c = 0) : dstep hk ch s0 ((u, p) :: t, mk, pre, post, ring, met) = ((c, 0) :: (u, p + 1) :: t, va_up mk c 1, pre ++ [c], post, ring, met) := by
  unfold dstep
  dsimp only
  rw [if_neg e, hc]
  dsimp only
  rw [if_pos y]
theorem dst_open {u p c : Nat} {t : List (Nat × Nat)} {mk : Nat → Nat} {pre post : List Nat} {ring met : Bool} (e : ¬ hk u ≤ p) (hc : ch u p = some c) (y : mk c = 1) : dstep hk ch s0 ((u, p) :: t, mk, pre, post, ring, met) = ((u, p + 1) :: t, mk, pre, post, true, met || c == s0) := by
  unfold dstep
  dsimp only
  rw [if_neg e, hc]
  dsimp only
  rw [if_neg (by omega), if_pos y]
theorem dst_left {u p c : Nat} {t : List (Nat × Nat)} {mk : Nat → Nat} {pre post : List Nat} {ring met : Bool} (e : ¬ hk u ≤ p) (hc : ch u p = some c) (y : mk c = 2) : dstep hk ch s0 ((u, p) :: t, mk, pre, post, ring, met) = ((u, p + 1) :: t, mk, pre, post, ring, met) := by
  unfold dstep
  dsimp only
  rw [if_neg e, hc]
  dsimp only
  rw [if_neg (by omega), if_neg (by omega)]
def dmu (X : Dx) : Nat := sumN (fun u => if X.2.1 u = 0 then hk u + 1 else 0) n + (X.1.map (fun x => hk x.1 - x.2 + 1)).sum
theorem dmu_step {X : Dx} (hch : ∀ u p c, u < n → p < hk u → ch u p = some c → c < n) (h : dInv hk ch n X) (hne : X.1 ≠ []) : dmu hk n (dstep hk ch s0 X) + 1 = dmu hk n X := by
  obtain ⟨stk, mk, pre, post, ring, met⟩ := X
  obtain ⟨h1, h2, h3, h4, h5, h6, h7, h8⟩ := h
  dsimp only at h1 h2 h3 h4 h7 hne
  match stk, hne, h1, h2, h4 with
  | (u, p) :: t, hne, h1, h2, h4 =>
    have hu1 : mk u = 1 := (h2 u).mpr (by simp)
    have hp := h4 (u, p) (by simp)
    dsimp only at hp
    have skip : p < hk u → ∀ (r' m' : Bool), dmu hk n ((u, p + 1) :: t, mk, pre, post, r', m') + 1 = dmu hk n ((u, p) :: t, mk, pre, post, ring, met) := by
      intro hlt r' m'
      unfold dmu
      simp only [List.map_cons, List.sum_cons]
      omega
    by_cases e : hk u ≤ p
    · rw [dst_leave hk ch s0 e]
      have e1 : sumN (fun v => if va_up mk u 2 v = 0 then hk v + 1 else 0) n = sumN (fun v => if mk v = 0 then hk v + 1 else 0) n := by
        refine sumN_congr n (fun v _ => ?_)
        by_cases y : v = u
        · subst y
          rw [va_up_self, if_neg (by omega), if_neg (by omega)]
        · rw [va_up_ne _ _ y]
      unfold dmu
      dsimp only
      rw [e1]
      simp only [List.map_cons, List.sum_cons]
      omega
    · have hlt : p < hk u := Nat.not_le.mp e
      cases hc : ch u p with
      | none =>
        rw [dst_none hk ch s0 e hc]
        exact skip hlt ring met
      | some c =>
        have hcn := hch u p c (h7 u (by omega)) hlt hc
        have h3c := h3 c
        rcases (show mk c = 0 ∨ mk c = 1 ∨ mk c = 2 by omega) with y | y | y
        · rw [dst_new hk ch s0 e hc y]
          have e1 := sumN_up (f := fun v => if mk v = 0 then hk v + 1 else 0) (g := fun v => if va_up mk c 1 v = 0 then hk v + 1 else 0) n hcn (fun v hv => by simp only [va_up_ne _ _ hv])
          simp only [va_up_self, y] at e1
          unfold dmu
          dsimp only
          simp only [List.map_cons, List.sum_cons]
          simp at e1
          omega
        · rw [dst_open hk ch s0 e hc y]
          exact skip hlt true _
        · rw [dst_left hk ch s0 e hc y]
          exact skip hlt ring met
def drun : Nat → Dx → Dx
  | 0, X => X
  | k + 1, X => drun k (dstep hk ch s0 X)
theorem dstep_nil {X : Dx} (h : X.1 = []) : dstep hk ch s0 X = X := by
  unfold dstep
  rw [h]
theorem drun_nil {X : Dx} (h : X.1 = []) : ∀ k, drun hk ch s0 k X = X
  | 0 => rfl
  | k + 1 => by
    show drun hk ch s0 k (dstep hk ch s0 X) = X
    rw [dstep_nil hk ch s0 h]
    exact drun_nil h k
/-- where the walk ends -/
def dend (X : Dx) : Dx := drun hk ch s0 (dmu hk n X) X
theorem dend_nil {X : Dx} (h : X.1 = []) : dend hk ch s0 n X = X := drun_nil hk ch s0 h _
theorem dend_step {X : Dx} (hch : ∀ u p c, u < n → p < hk u → ch u p = some c → c < n) (h : dInv hk ch n X) (hne : X.1 ≠ []) : dend hk ch s0 n X = dend hk ch s0 n (dstep hk ch s0 X) := by
  unfold dend
  rw [← dmu_step hk ch s0 n hch h hne]
  rfl
theorem dmu_0 {X : Dx} (h : dmu hk n X = 0) : X.1 = [] := by
  unfold dmu at h
  cases hX : X.1 with
  | nil => rfl
  | cons a t =>
    rw [hX] at h
    simp only [List.map_cons, List.sum_cons] at h
    omega
theorem dend_all {X : Dx} (hch : ∀ u p c, u < n → p < hk u → ch u p = some c → c < n) : ∀ (k : Nat) (X : Dx), dmu hk n X = k → dInv hk ch n X → dInv hk ch n (dend hk ch s0 n X) ∧ (dend hk ch s0 n X).1 = [] := by
  intro k
  induction k with
  | zero =>
    intro X hk0 h
    have := dmu_0 hk n hk0
    rw [dend_nil hk ch s0 n this]
    exact ⟨h, this⟩
  | succ k ih =>
    intro X hk1 h
    by_cases e : X.1 = []
    · rw [dend_nil hk ch s0 n e]
      exact ⟨h, e⟩
    · rw [dend_step hk ch s0 n hch h e]
      have := dmu_step hk ch s0 n hch h e
      exact ih _ (by omega) (dInv_step hk ch s0 n hch h)
/-- a ring, once met, stays met -/
theorem dring_step (X : Dx) (h : X.2.2.2.2.1 = true) : (dstep hk ch s0 X).2.2.2.2.1 = true := by
  unfold dstep
  repeat' split
  all_goals first | exact h | rfl
theorem dring_run : ∀ (k : Nat) (X : Dx), X.2.2.2.2.1 = true → (drun hk ch s0 k X).2.2.2.2.1 = true
  | 0, _, h => h
  | k + 1, X, h => dring_run k _ (dring_step hk ch s0 X h)
/-- the walk's beginning at s, over what earlier walks have left -/
def dbeg (mk : Nat → Nat) (pre post : List Nat) (s : Nat) : Dx := ([(s, 0)], va_up mk s 1, pre ++ [s], post, false, false)
theorem dInv_beg {mk : Nat → Nat} {pre post : List Nat} {s : Nat} (hs : s < n) (h0 : mk s = 0) (h : dInv hk ch n ([], mk, pre, post, false, false)) : dInv hk ch n (dbeg mk pre post s) := by
  obtain ⟨h1, h2, h3, h4, ⟨h5, h5'⟩, ⟨h6, h6'⟩, h7, h8⟩ := h
  dsimp only at h1 h2 h3 h4 h5 h5' h6 h6' h7 h8
  refine ⟨by simp [dbeg], fun v => ?_, fun v => ?_, fun x hx => ?_, ⟨?_, fun v => ?_⟩, ⟨h6, fun v => ?_⟩, fun v hv => ?_, fun _ => ⟨⟨fun q c hq => absurd hq (Nat.not_lt_zero q), trivial⟩, (h8 rfl).2⟩⟩
  · show va_up mk s 1 v = 1 ↔ v ∈ [s]
    by_cases y : v = s
    · subst y; simp [va_up_self]
    · rw [va_up_ne _ _ y, h2 v]; simp [y]
  · show va_up mk s 1 v ≤ 2
    by_cases y : v = s
    · subst y; rw [va_up_self]; omega
    · rw [va_up_ne _ _ y]; exact h3 v
  · have hx : x ∈ [(s, 0)] := hx
    simp at hx
    subst hx
    exact Nat.zero_le _
  · show (pre ++ [s]).Nodup
    rw [List.nodup_append]
    exact ⟨h5, by simp, fun a ha b hb => by
      simp at hb
      subst hb
      intro q
      subst q
      exact (h5' a).mp ha h0⟩
  · show v ∈ pre ++ [s] ↔ va_up mk s 1 v ≠ 0
    by_cases y : v = s
    · subst y; simp [va_up_self]
    · rw [va_up_ne _ _ y, ← h5' v]; simp [y]
  · show v ∈ post ↔ va_up mk s 1 v = 2
    by_cases y : v = s
    · subst y; rw [va_up_self, h6' v]; omega
    · rw [va_up_ne _ _ y]; exact h6' v
  · have hv : va_up mk s 1 v ≠ 0 := hv
    by_cases y : v = s
    · subst y; exact hs
    · rw [va_up_ne _ _ y] at hv; exact h7 v hv
theorem dInv_0 : dInv hk ch n ([], fun _ => 0, [], [], false, false) := by
  refine ⟨?_, ?_, ?_, ?_, ⟨?_, ?_⟩, ⟨?_, ?_⟩, ?_, fun _ => ⟨trivial, fun A u B e => ?_⟩⟩
  · simp
  · intro u; simp
  · intro u; simp
  · intro x hx; simp at hx
  · simp
  · intro u; simp
  · simp
  · intro u; simp
  · intro u hu; simp at hu
  · simp at e
end DFS2
