/-! ===== equal things: the greatest relation of likeness; groups and their tops ===== -/
def oR (R : Nat → Nat → Prop) : Option Nat → Option Nat → Prop
  | none, none => True
  | some c, some d => R c d
  | _, _ => False
theorem oR_mono {R R' : Nat → Nat → Prop} (h : ∀ c d, R c d → R' c d) : ∀ x y, oR R x y → oR R' x y
  | none, none, _ => trivial
  | some c, some d, hh => h c d hh
  | none, some _, hh => hh.elim
  | some _, none, hh => hh.elim
section EQV
variable (hk : Nat → Nat) (ch : Nat → Nat → Option Nat) (lk : Nat → Nat → Prop)
def Bs (R : Nat → Nat → Prop) (u v : Nat) : Prop := lk u v ∧ ∀ p, p < hk u → oR R (ch u p) (ch v p)
def Eqv (u v : Nat) : Prop := ∃ R : Nat → Nat → Prop, (∀ x y, R x y → Bs hk ch lk R x y) ∧ R u v
/-- looking alike -/
def Lks : Prop := (∀ u, lk u u) ∧ (∀ u v, lk u v → lk v u ∧ hk u = hk v) ∧ ∀ u v w, lk u v → lk v w → lk u w
variable {hk ch lk}
theorem Bs_mono {R R' : Nat → Nat → Prop} (h : ∀ c d, R c d → R' c d) {u v : Nat} (hh : Bs hk ch lk R u v) : Bs hk ch lk R' u v := ⟨hh.1, fun p hp => oR_mono h _ _ (hh.2 p hp)⟩
theorem oR_refl {R : Nat → Nat → Prop} (h : ∀ c, R c c) : ∀ x, oR R x x
  | none => trivial
  | some c => h c
theorem oR_symm {R : Nat → Nat → Prop} (h : ∀ c d, R c d → R d c) : ∀ x y, oR R x y → oR R y x
  | none, none, _ => trivial
  | some c, some d, hh => h c d hh
  | none, some _, hh => hh.elim
  | some _, none, hh => hh.elim
theorem oR_trans {R R2 R3 : Nat → Nat → Prop} (h : ∀ c d e, R c d → R2 d e → R3 c e) : ∀ x y z, oR R x y → oR R2 y z → oR R3 x z
  | none, none, none, _, _ => trivial
  | some c, some d, some e, h1, h2 => h c d e h1 h2
  | none, some _, _, hh, _ => hh.elim
  | some _, none, _, hh, _ => hh.elim
  | none, none, some _, _, hh => hh.elim
  | some _, some _, none, _, hh => hh.elim
theorem Bs_refl (hl : Lks hk lk) {R : Nat → Nat → Prop} (h : ∀ c, R c c) (u : Nat) : Bs hk ch lk R u u := ⟨hl.1 u, fun _ _ => oR_refl h _⟩
theorem Bs_symm (hl : Lks hk lk) {R : Nat → Nat → Prop} (h : ∀ c d, R c d → R d c) {u v : Nat} (hh : Bs hk ch lk R u v) : Bs hk ch lk R v u := ⟨(hl.2.1 u v hh.1).1, fun p hp => oR_symm h _ _ (hh.2 p (by rw [(hl.2.1 u v hh.1).2]; exact hp))⟩
theorem Bs_trans (hl : Lks hk lk) {R R2 R3 : Nat → Nat → Prop} (h : ∀ c d e, R c d → R2 d e → R3 c e) {u v w : Nat} (h1 : Bs hk ch lk R u v) (h2 : Bs hk ch lk R2 v w) : Bs hk ch lk R3 u w := ⟨hl.2.2 u v w h1.1 h2.1, fun p hp => oR_trans h _ _ _ (h1.2 p hp) (h2.2 p (by rw [← (hl.2.1 u v h1.1).2]; exact hp))⟩
theorem Eqv_refl (hl : Lks hk lk) (u : Nat) : Eqv hk ch lk u u := ⟨fun x y => x = y, fun x y h => by subst h; exact Bs_refl hl (fun _ => rfl) x, rfl⟩
theorem Eqv_symm (hl : Lks hk lk) {u v : Nat} (h : Eqv hk ch lk u v) : Eqv hk ch lk v u := by
  obtain ⟨R, h1, h2⟩ := h
  refine ⟨fun x y => R y x, fun x y hh => ?_, h2⟩
  have g := h1 y x hh
  exact ⟨(hl.2.1 y x g.1).1, fun p hp => by
    have := g.2 p (by rw [(hl.2.1 y x g.1).2]; exact hp)
    revert this
    cases ch y p <;> cases ch x p <;> exact id⟩
theorem Eqv_trans (hl : Lks hk lk) {u v w : Nat} (h : Eqv hk ch lk u v) (h' : Eqv hk ch lk v w) : Eqv hk ch lk u w := by
  obtain ⟨R, h1, h2⟩ := h
  obtain ⟨R', h1', h2'⟩ := h'
  exact ⟨fun x z => ∃ y, R x y ∧ R' y z, fun x z ⟨y, g1, g2⟩ => Bs_trans hl (fun c d e a b => ⟨d, a, b⟩) (h1 x y g1) (h1' y z g2), v, h2, h2'⟩
theorem Eqv_iff {u v : Nat} : Eqv hk ch lk u v ↔ Bs hk ch lk (Eqv hk ch lk) u v := by
  have fw : ∀ x y, Eqv hk ch lk x y → Bs hk ch lk (Eqv hk ch lk) x y := fun x y ⟨R, h1, h2⟩ => Bs_mono (fun c d hcd => ⟨R, h1, hcd⟩) (h1 x y h2)
  refine ⟨fw u v, fun h => ⟨Bs hk ch lk (Eqv hk ch lk), fun x y hxy => Bs_mono fw hxy, h⟩⟩
end EQV
section UF
/-- r is u's top -/
def Rt (ld : Nat → Option Nat) (u r : Nat) : Prop := ∀ Q : Nat → Nat → Prop, (∀ r, ld r = none → Q r r) → (∀ u v r, ld u = some v → Q v r → Q u r) → Q u r
theorem Rt_nil {ld : Nat → Option Nat} {r : Nat} (h : ld r = none) : Rt ld r r := fun _ h1 _ => h1 r h
theorem Rt_cons {ld : Nat → Option Nat} {u v r : Nat} (h : ld u = some v) (hr : Rt ld v r) : Rt ld u r := fun Q h1 h2 => h2 u v r h (hr Q h1 h2)
theorem Rt_root {ld : Nat → Option Nat} {u r : Nat} (h : Rt ld u r) : ld r = none := h (fun _ r => ld r = none) (fun _ h => h) (fun _ _ _ _ ih => ih)
theorem Rt_inv {ld : Nat → Option Nat} {u r : Nat} (h : Rt ld u r) : (ld u = none ∧ u = r) ∨ ∃ v, ld u = some v ∧ Rt ld v r := by
  have := h (fun u r => Rt ld u r ∧ ((ld u = none ∧ u = r) ∨ ∃ v, ld u = some v ∧ Rt ld v r)) (fun r h => ⟨Rt_nil h, Or.inl ⟨h, rfl⟩⟩) (fun u v r e ih => ⟨Rt_cons e ih.1, Or.inr ⟨v, e, ih.1⟩⟩)
  exact this.2
theorem Rt_det {ld : Nat → Option Nat} {u r r' : Nat} (h : Rt ld u r) (h' : Rt ld u r') : r = r' := by
  have := h (fun u r => ∀ r', Rt ld u r' → r = r') (fun r h r' h' => by
    rcases Rt_inv h' with ⟨_, e⟩ | ⟨v, e, _⟩
    · exact e
    · rw [h] at e; cases e) (fun u v r e ih r' h' => by
    rcases Rt_inv h' with ⟨e2, _⟩ | ⟨v', e2, h2⟩
    · rw [e] at e2; cases e2
    · rw [e] at e2
      cases e2
      exact ih r' h2)
  exact this r' h'
/-- the groups: leaders, the things that have a leader in the order in which they got it -/
def Uf (n : Nat) (W : Nat → Prop) (ld : Nat → Option Nat) (J : List Nat) : Prop := (∀ u v, ld u = some v → J.idxOf u < J.idxOf v ∧ W u ∧ W v) ∧ (∀ u, ld u ≠ none ↔ u ∈ J) ∧ J.Nodup ∧ (∀ u, W u → u < n) ∧ (J ≠ [] → J.length < n)
variable {n : Nat} {W : Nat → Prop} {ld : Nat → Option Nat} {J : List Nat}
theorem Rt_ex (h : Uf n W ld J) : ∀ (k u : Nat), J.length ≤ J.idxOf u + k → ∃ r, Rt ld u r := by
  intro k
  induction k with
  | zero =>
    intro u hu
    cases e : ld u with
    | none => exact ⟨u, Rt_nil e⟩
    | some v =>
      have h1 := (h.1 u v e).1
      have h2 := List.idxOf_le_length (a := v) (l := J)
      omega
  | succ k ih =>
    intro u hu
    cases e : ld u with
    | none => exact ⟨u, Rt_nil e⟩
    | some v =>
      have h1 := (h.1 u v e).1
      obtain ⟨r, hr⟩ := ih v (by omega)
      exact ⟨r, Rt_cons e hr⟩
theorem Rt_W (h : Uf n W ld J) {u r : Nat} (hu : W u) (hr : Rt ld u r) : W r := by
  exact hr (fun u r => W u → W r) (fun r _ hu => hu) (fun u v r e ih _ => ih (h.1 _ _ e).2.2) hu
def St (ld : Nat → Option Nat) (u v : Nat) : Prop := ∃ r, Rt ld u r ∧ Rt ld v r
theorem St_refl (h : Uf n W ld J) (u : Nat) : St ld u u := by
  obtain ⟨r, hr⟩ := Rt_ex h J.length u (by omega)
  exact ⟨r, hr, hr⟩
theorem St_symm {u v : Nat} (h : St ld u v) : St ld v u := by
  obtain ⟨r, h1, h2⟩ := h
  exact ⟨r, h2, h1⟩
theorem St_trans {u v w : Nat} (h : St ld u v) (h' : St ld v w) : St ld u w := by
  obtain ⟨r, h1, h2⟩ := h
  obtain ⟨r', h1', h2'⟩ := h'
  rw [Rt_det h1' h2] at h2'
  exact ⟨r, h1, h2'⟩
/-- f and l, two tops, are joined: f follows l -/
theorem Rt_join {f l : Nat} (hf : ld f = none) (hl : ld l = none) (hfl : f ≠ l) {u r : Nat} (h : Rt ld u r) : Rt (va_up ld f (some l)) u (if r = f then l else r) := by
  have hl' : va_up ld f (some l) l = none := by rw [va_up_ne _ _ (fun z => hfl z.symm)]; exact hl
  refine h (fun u r => Rt (va_up ld f (some l)) u (if r = f then l else r)) (fun r h => ?_) (fun u v r e ih => ?_)
  · by_cases y : r = f
    · subst y
      rw [if_pos rfl]
      exact Rt_cons (va_up_self _ _ _) (Rt_nil hl')
    · rw [if_neg y]
      exact Rt_nil (by rw [va_up_ne _ _ y]; exact h)
  · exact Rt_cons (by rw [va_up_ne _ _ (fun y => by rw [y, hf] at e; cases e)]; exact e) ih
theorem St_join {f l : Nat} (hf : ld f = none) (hl : ld l = none) (hfl : f ≠ l) {u v : Nat} (h : St ld u v) : St (va_up ld f (some l)) u v := by
  obtain ⟨r, h1, h2⟩ := h
  exact ⟨_, Rt_join hf hl hfl h1, Rt_join hf hl hfl h2⟩
theorem Uf_join {f l : Nat} (h : Uf n W ld J) (hf : ld f = none) (hl : ld l = none) (hfl : f ≠ l) (hWf : W f) (hWl : W l) : Uf n W (va_up ld f (some l)) (J ++ [f]) := by
  obtain ⟨u1, u2, u3, u4, u5⟩ := h
  have hfJ : f ∉ J := fun z => (u2 f).mpr z hf
  have hlJ : l ∉ J := fun z => (u2 l).mpr z hl
  have hnd : (J ++ [f]).Nodup := by
    rw [List.nodup_append]
    exact ⟨u3, by simp, fun a ha b hb => by
      simp at hb
      subst hb
      intro q
      subst q
      exact hfJ ha⟩
  have jn : ∀ u, u ∈ J → u < n := fun u hu => by
    cases e : ld u with
    | none => exact absurd e ((u2 u).mpr hu)
    | some v => exact u4 u (u1 u v e).2.1
  refine ⟨fun u v e => ?_, fun u => ?_, hnd, u4, fun _ => ?_⟩
  · by_cases y : u = f
    · subst y
      rw [va_up_self] at e
      cases e
      refine ⟨?_, hWf, hWl⟩
      rw [List.idxOf_append, if_neg hfJ, List.idxOf_append, if_neg hlJ]
      have e1 : [u].idxOf l = 1 := by
        rw [List.idxOf_cons]
        have : (u == l) = false := by simpa using hfl
        simp [this]
      have e2 : [u].idxOf u = 0 := by simp
      omega
    · rw [va_up_ne _ _ y] at e
      obtain ⟨g1, g2⟩ := u1 u v e
      refine ⟨?_, g2⟩
      have huJ : u ∈ J := (u2 u).mp (by rw [e]; simp)
      have h2 := List.idxOf_le_length (a := v) (l := J)
      rw [List.idxOf_append, if_pos huJ, List.idxOf_append]
      split <;> omega
  · by_cases y : u = f
    · subst y; simp [va_up_self]
    · rw [va_up_ne _ _ y, u2 u]; simp [y]
  · have := nd_len n ((J ++ [f]) ++ [l]) (by
      rw [List.nodup_append]
      exact ⟨hnd, by simp, fun a ha b hb => by
        simp at hb
        subst hb
        intro q
        subst q
        rcases List.mem_append.mp ha with z | z
        · exact hlJ z
        · simp at z; exact hfl z.symm⟩) (fun x hx => by
      simp at hx
      rcases hx with z | z | z
      · exact jn x z
      · subst z; exact u4 _ hWf
      · subst z; exact u4 _ hWl)
    rw [List.length_append] at this
    simp only [List.length_cons, List.length_nil] at this
    omega
theorem Uf_0 (hW : ∀ u, W u → u < n) : Uf n W (fun _ => none) [] := ⟨fun u v e => (by cases e), fun u => (by simp), (by simp), hW, fun z => absurd rfl z⟩
/-- all links good: then likeness -/
theorem Uf_eqv {hk : Nat → Nat} {ch : Nat → Nat → Option Nat} {lk : Nat → Nat → Prop} (hl : Lks hk lk) (h : Uf n W ld J) (hb : ∀ u v, ld u = some v → Bs hk ch lk (St ld) u v) {a b : Nat} (hab : St ld a b) : Eqv hk ch lk a b := by
  have hr : ∀ u r, Rt ld u r → Bs hk ch lk (St ld) u r := fun u r hu => by
    refine hu (fun u r => Bs hk ch lk (St ld) u r) (fun r _ => Bs_refl hl (St_refl h) r) (fun u v r e ih => ?_)
    exact Bs_trans (R := St ld) (R2 := St ld) (R3 := St ld) hl (fun c d e h1 h2 => St_trans h1 h2) (hb _ _ e) ih
  exact ⟨St ld, fun x y ⟨r, h1, h2⟩ => Bs_trans (R := St ld) (R2 := St ld) (R3 := St ld) hl (fun c d e h1 h2 => St_trans h1 h2) (hr x r h1) (Bs_symm (R := St ld) hl (fun c d h => St_symm h) (hr y r h2)), hab⟩
theorem Rt_eqv {hk : Nat → Nat} {ch : Nat → Nat → Option Nat} {lk : Nat → Nat → Prop} (hl : Lks hk lk) (hb : ∀ u v, ld u = some v → Eqv hk ch lk u v) {u r : Nat} (hr : Rt ld u r) : Eqv hk ch lk u r := by
  exact hr (fun u r => Eqv hk ch lk u r) (fun r _ => Eqv_refl hl r) (fun u v r e ih => Eqv_trans hl (hb _ _ e) ih)
end UF
