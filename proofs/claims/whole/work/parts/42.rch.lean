/-! ===== reaching, rings, depths: what a walk's end says ===== -/
/-- u is in each set that holds s and, with a thing, all that hangs in it -/
def Rch (hk : Nat → Nat) (ch : Nat → Nat → Option Nat) (s u : Nat) : Prop := ∀ Q : Nat → Prop, Q s → (∀ u p c, Q u → p < hk u → ch u p = some c → Q c) → Q u
theorem Rch_refl {hk : Nat → Nat} {ch : Nat → Nat → Option Nat} {s : Nat} : Rch hk ch s s := fun _ h _ => h
theorem Rch_step {hk : Nat → Nat} {ch : Nat → Nat → Option Nat} {s u p c : Nat} (h : Rch hk ch s u) (hp : p < hk u) (hc : ch u p = some c) : Rch hk ch s c := fun Q h1 h2 => h2 u p c (h Q h1 h2) hp hc
section RCH
variable {hk : Nat → Nat} {ch : Nat → Nat → Option Nat} {n : Nat}
/-- a thing's children stand before it -/
def Topo (hk : Nat → Nat) (ch : Nat → Nat → Option Nat) (L : List Nat) : Prop := ∀ A u B, L = A ++ u :: B → ∀ p c, p < hk u → ch u p = some c → c ∈ A
theorem Topo_mem {L : List Nat} (h : Topo hk ch L) {u p c : Nat} (hu : u ∈ L) (hp : p < hk u) (hc : ch u p = some c) : c ∈ L := by
  obtain ⟨A, B, e⟩ := List.append_of_mem hu
  have := h A u B e p c hp hc
  rw [e]
  simp [this]
theorem Topo_rch {L : List Nat} (h : Topo hk ch L) {s u : Nat} (hs : s ∈ L) (hu : Rch hk ch s u) : u ∈ L := by
  exact hu (fun u => u ∈ L) hs (fun u p c ih hp hc => Topo_mem h ih hp hc)
theorem Topo_init {l : List Nat} {x : Nat} (h : Topo hk ch (l ++ [x])) : Topo hk ch l := fun A u B e p c hp hc => h A u (B ++ [x]) (by rw [e]; simp) p c hp hc
/-- no way back: a number that goes down along each way -/
def Acy (hk : Nat → Nat) (ch : Nat → Nat → Option Nat) (s : Nat) : Prop := ∃ ρ : Nat → Nat, ∀ u p c, Rch hk ch s u → p < hk u → ch u p = some c → ρ c < ρ u
theorem Topo_acy {L : List Nat} (hn : L.Nodup) (h : Topo hk ch L) {s : Nat} (hs : s ∈ L) : Acy hk ch s := by
  refine ⟨fun u => L.idxOf u, fun u p c hu hp hc => ?_⟩
  have hul := Topo_rch h hs hu
  obtain ⟨A, B, e⟩ := List.append_of_mem hul
  have hcA := h A u B e p c hp hc
  have huA : u ∉ A := fun z => by
    rw [e, List.nodup_append] at hn
    exact hn.2.2 u z u (by simp) rfl
  show L.idxOf c < L.idxOf u
  rw [e, List.idxOf_append, List.idxOf_append, if_pos hcA, if_neg huA]
  have := List.idxOf_lt_length_of_mem hcA
  omega
variable (s0 : Nat)
def aInv (ρ : Nat → Nat) (s : Nat) (hk : Nat → Nat) (ch : Nat → Nat → Option Nat) (X : Dx) : Prop := (∀ x, x ∈ X.1 → Rch hk ch s x.1) ∧ X.1.Pairwise (fun x y => ρ x.1 < ρ y.1) ∧ X.2.2.2.2.1 = false
theorem aInv_step {ρ : Nat → Nat} {s : Nat} (hρ : ∀ u p c, Rch hk ch s u → p < hk u → ch u p = some c → ρ c < ρ u) {X : Dx} (hI : dInv hk ch n X) (h : aInv ρ s hk ch X) : aInv ρ s hk ch (dstep hk ch s0 X) := by
  obtain ⟨stk, mk, pre, post, ring, met⟩ := X
  obtain ⟨a1, a2, a3⟩ := h
  dsimp only at a1 a2 a3
  match stk, hI, a1, a2 with
  | [], hI, a1, a2 => exact ⟨a1, a2, a3⟩
  | (u, p) :: t, hI, a1, a2 =>
    have b1 := a1 (u, p) (by simp)
    obtain ⟨b2, b3⟩ := List.pairwise_cons.mp a2
    dsimp only at b1 b2
    have skip : aInv ρ s hk ch ((u, p + 1) :: t, mk, pre, post, ring, met) := ⟨fun x hx => by
      rcases List.mem_cons.mp hx with z | z
      · subst z; exact b1
      · exact a1 x (by simp [z]), List.pairwise_cons.mpr ⟨b2, b3⟩, a3⟩
    by_cases e : hk u ≤ p
    · rw [dst_leave hk ch s0 e]
      exact ⟨fun x hx => a1 x (by simp [hx]), b3, a3⟩
    · have hlt : p < hk u := Nat.not_le.mp e
      cases hc : ch u p with
      | none =>
        rw [dst_none hk ch s0 e hc]
        exact skip
      | some c =>
        have hcr := hρ u p c b1 hlt hc
        have h3c := hI.2.2.1 c
        dsimp only at h3c
        rcases (show mk c = 0 ∨ mk c = 1 ∨ mk c = 2 by omega) with y | y | y
        · rw [dst_new hk ch s0 e hc y]
          refine ⟨fun x hx => ?_, List.pairwise_cons.mpr ⟨fun x hx => ?_, skip.2.1⟩, a3⟩
          · rcases List.mem_cons.mp hx with z | z
            · subst z; exact Rch_step b1 hlt hc
            · exact skip.1 x z
          · rcases List.mem_cons.mp hx with z | z
            · subst z; exact hcr
            · exact Nat.lt_trans hcr (b2 x z)
        · exfalso
          have hm : c ∈ ((u, p) :: t).map Prod.fst := (hI.2.1 c).mp y
          simp only [List.map_cons, List.mem_cons] at hm
          rcases hm with z | z
          · subst z; omega
          · obtain ⟨x, hx, rfl⟩ := List.mem_map.mp z
            have := b2 x hx
            omega
        · rw [dst_left hk ch s0 e hc y]
          exact skip
theorem aInv_run {ρ : Nat → Nat} {s : Nat} (hch : ∀ u p c, u < n → p < hk u → ch u p = some c → c < n) (hρ : ∀ u p c, Rch hk ch s u → p < hk u → ch u p = some c → ρ c < ρ u) : ∀ (k : Nat) (X : Dx), dInv hk ch n X → aInv ρ s hk ch X → aInv ρ s hk ch (drun hk ch s0 k X)
  | 0, _, _, h => h
  | k + 1, X, hI, h => aInv_run hch hρ k _ (dInv_step hk ch s0 n hch hI) (aInv_step s0 hρ hI h)
theorem noring {s : Nat} (hch : ∀ u p c, u < n → p < hk u → ch u p = some c → c < n) {mk : Nat → Nat} {pre post : List Nat} (hI : dInv hk ch n (dbeg mk pre post s)) (h : Acy hk ch s) : (dend hk ch s0 n (dbeg mk pre post s)).2.2.2.2.1 = false := by
  obtain ⟨ρ, hρ⟩ := h
  exact (aInv_run s0 hch hρ _ _ hI ⟨fun x hx => by
    have hx : x ∈ [(s, 0)] := hx
    simp at hx
    subst hx
    exact Rch_refl, by show [(s, 0)].Pairwise _; simp, rfl⟩).2.2
theorem dend_topo {X : Dx} (hI : dInv hk ch n X) (hr : X.2.2.2.2.1 = false) : X.2.2.2.1.Nodup ∧ Topo hk ch X.2.2.2.1 := ⟨hI.2.2.2.2.2.1.1, (hI.2.2.2.2.2.2.2 hr).2⟩
theorem dpF_fix : ∀ (k : Nat) (L : List Nat), L.length = k → L.Nodup → Topo hk ch L → ∀ u, u ∈ L → dpF hk ch L u = mxp ch (dpF hk ch L) u (hk u) + 1 := by
  intro k
  induction k with
  | zero =>
    intro L hl _ _ u hu
    rw [List.length_eq_zero_iff.mp hl] at hu
    cases hu
  | succ k ih =>
    intro L hl hn hT u hu
    rcases List.eq_nil_or_concat L with e | ⟨l, x, e⟩
    · subst e; simp at hl
    · rw [List.concat_eq_append] at e
      subst e
      have hl' : l.length = k := by simpa using hl
      have hn' := List.nodup_append.mp hn
      have hx : x ∉ l := fun z => hn'.2.2 x z x (by simp) rfl
      rw [dpF_snoc]
      rcases List.mem_append.mp hu with z | z
      · have hux : u ≠ x := fun y => hx (y ▸ z)
        rw [va_up_ne _ _ hux, ih l hl' hn'.1 (Topo_init hT) u z]
        congr 1
        refine (mxp_congr ch u _ (fun q c hq hc => ?_)).symm
        exact va_up_ne _ _ (fun y => hx (y ▸ Topo_mem (Topo_init hT) z hq hc))
      · simp at z
        subst z
        rw [va_up_self]
        congr 1
        refine (mxp_congr ch u _ (fun q c hq hc => ?_)).symm
        exact va_up_ne _ _ (fun y => hx (y ▸ hT l u [] rfl q c hq hc))
theorem dpF_same {L L' : List Nat} (hn : L.Nodup) (hT : Topo hk ch L) (hn' : L'.Nodup) (hT' : Topo hk ch L') : ∀ (k : Nat) (A : List Nat) (u : Nat) (B : List Nat), A.length ≤ k → L = A ++ u :: B → u ∈ L' → dpF hk ch L u = dpF hk ch L' u := by
  intro k
  induction k with
  | zero =>
    intro A u B hA e hu
    have hA : A = [] := List.length_eq_zero_iff.mp (by omega)
    rw [dpF_fix _ L rfl hn hT u (by rw [e]; simp), dpF_fix _ L' rfl hn' hT' u hu]
    congr 1
    refine mxp_congr ch u _ (fun q c hq hc => ?_)
    have := hT A u B e q c hq hc
    rw [hA] at this
    cases this
  | succ k ih =>
    intro A u B hA e hu
    rw [dpF_fix _ L rfl hn hT u (by rw [e]; simp), dpF_fix _ L' rfl hn' hT' u hu]
    congr 1
    refine mxp_congr ch u _ (fun q c hq hc => ?_)
    have h1 := hT A u B e q c hq hc
    obtain ⟨A1, A2, e1⟩ := List.append_of_mem h1
    refine ih A1 c (A2 ++ u :: B) ?_ (by rw [e, e1]; simp) (Topo_mem hT' hu hq hc)
    rw [e1] at hA
    simp at hA
    omega
/-- what of a thing's places a walk has met -/
def rInv (s : Nat) (hk : Nat → Nat) (ch : Nat → Nat → Option Nat) (X : Dx) : Prop := (∀ u, X.2.1 u ≠ 0 → Rch hk ch s u) ∧ (∀ u q c, (X.2.1 u = 2 ∧ q < hk u) ∨ (∃ p, (u, p) ∈ X.1 ∧ q < p) → ch u q = some c → X.2.1 c ≠ 0 ∧ (c = s → X.2.2.2.2.2 = true)) ∧ (X.2.2.2.2.2 = true → ∃ u p, Rch hk ch s u ∧ p < hk u ∧ ch u p = some s) ∧ (X.1 ≠ [] → ∃ l p, X.1 = l ++ [(s, p)])
theorem rInv_step {s : Nat} {X : Dx} (hI : dInv hk ch n X) (h : rInv s hk ch X) : rInv s hk ch (dstep hk ch s X) := by
  obtain ⟨stk, mk, pre, post, ring, met⟩ := X
  obtain ⟨a1, a2, a3, a4⟩ := h
  dsimp only at a1 a2 a3 a4
  match stk, hI, a2, a4 with
  | [], hI, a2, a4 => exact ⟨a1, a2, a3, a4⟩
  | (u, p) :: t, hI, a2, a4 =>
    have hu1 : mk u = 1 := (hI.2.1 u).mpr (by simp)
    have hpl : p ≤ hk u := hI.2.2.2.1 (u, p) (by simp)
    have hru := a1 u (by omega)
    obtain ⟨l, pl, el⟩ := a4 (by simp)
    have hs1 : mk s = 1 := (hI.2.1 s).mpr (by show s ∈ ((u, p) :: t).map Prod.fst; rw [el]; simp)
    have last : ∀ (v q : Nat), ∃ l pl, ((v, q) :: (u, p + 1) :: t : List (Nat × Nat)) = l ++ [(s, pl)] := fun v q => by
      cases l with
      | nil =>
        simp at el
        obtain ⟨⟨rfl, rfl⟩, rfl⟩ := el
        exact ⟨[(v, q)], p + 1, rfl⟩
      | cons y l =>
        simp at el
        obtain ⟨-, rfl⟩ := el
        exact ⟨(v, q) :: (u, p + 1) :: l, pl, rfl⟩
    have last1 : ∃ l pl, ((u, p + 1) :: t : List (Nat × Nat)) = l ++ [(s, pl)] := by
      cases l with
      | nil =>
        simp at el
        obtain ⟨⟨rfl, rfl⟩, rfl⟩ := el
        exact ⟨[], p + 1, rfl⟩
      | cons y l =>
        simp at el
        obtain ⟨-, rfl⟩ := el
        exact ⟨(u, p + 1) :: l, pl, rfl⟩
    by_cases e : hk u ≤ p
    · rw [dst_leave hk ch s e]
      refine ⟨fun v hv => ?_, fun v q c hv hc => ?_, a3, fun hne => ?_⟩
      · have hv : va_up mk u 2 v ≠ 0 := hv
        by_cases y : v = u
        · subst y; exact hru
        · rw [va_up_ne _ _ y] at hv; exact a1 v hv
      · dsimp only at hv ⊢
        have key : mk c ≠ 0 ∧ (c = s → met = true) := by
          by_cases y : v = u
          · subst y
            rcases hv with z | ⟨p', z1, z2⟩
            · exact a2 v q c (Or.inr ⟨p, by simp, by omega⟩) hc
            · exact a2 v q c (Or.inr ⟨p', by simp [z1], z2⟩) hc
          · rcases hv with z | ⟨p', z1, z2⟩
            · rw [va_up_ne _ _ y] at z
              exact a2 v q c (Or.inl z) hc
            · exact a2 v q c (Or.inr ⟨p', by simp [z1], z2⟩) hc
        refine ⟨?_, key.2⟩
        by_cases y : c = u
        · subst y; rw [va_up_self]; decide
        · rw [va_up_ne _ _ y]; exact key.1
      · dsimp only at hne
        cases l with
        | nil =>
          simp at el
          exact absurd el.2 hne
        | cons y l =>
          simp at el
          exact ⟨l, pl, el.2⟩
    · have hlt : p < hk u := Nat.not_le.mp e
      have old : ∀ v q, (mk v = 2 ∧ q < hk v) ∨ (∃ p', (v, p') ∈ ((u, p + 1) :: t : List (Nat × Nat)) ∧ q < p') → (v = u ∧ q = p) ∨ ((mk v = 2 ∧ q < hk v) ∨ (∃ p', (v, p') ∈ ((u, p) :: t : List (Nat × Nat)) ∧ q < p')) := fun v q hv => by
        rcases hv with z | ⟨p', z1, z2⟩
        · exact Or.inr (Or.inl z)
        · rcases List.mem_cons.mp z1 with w | w
          · cases w
            by_cases y : q = p
            · exact Or.inl ⟨rfl, y⟩
            · exact Or.inr (Or.inr ⟨p, by simp, by omega⟩)
          · exact Or.inr (Or.inr ⟨p', by simp [w], z2⟩)
      cases hc : ch u p with
      | none =>
        rw [dst_none hk ch s e hc]
        refine ⟨a1, fun v q c hv hcv => ?_, a3, fun _ => last1⟩
        rcases old v q hv with ⟨rfl, rfl⟩ | z
        · rw [hc] at hcv; cases hcv
        · exact a2 v q c z hcv
      | some c =>
        have h3c := hI.2.2.1 c
        dsimp only at h3c
        rcases (show mk c = 0 ∨ mk c = 1 ∨ mk c = 2 by omega) with y | y | y
        · rw [dst_new hk ch s e hc y]
          have hcs : c ≠ s := fun z => by subst z; omega
          have up : ∀ v, mk v ≠ 0 → va_up mk c 1 v ≠ 0 := fun v hv => by
            by_cases z : v = c
            · subst z; rw [va_up_self]; decide
            · rw [va_up_ne _ _ z]; exact hv
          refine ⟨fun v hv => ?_, fun v q c' hv hcv => ?_, a3, fun _ => last c 0⟩
          · have hv : va_up mk c 1 v ≠ 0 := hv
            by_cases z : v = c
            · subst z; exact Rch_step hru hlt hc
            · rw [va_up_ne _ _ z] at hv; exact a1 v hv
          · dsimp only at hv ⊢
            have hv' : (mk v = 2 ∧ q < hk v) ∨ (∃ p', (v, p') ∈ ((u, p + 1) :: t : List (Nat × Nat)) ∧ q < p') := by
              rcases hv with z | ⟨p', z1, z2⟩
              · by_cases w : v = c
                · subst w; rw [va_up_self] at z; omega
                · rw [va_up_ne _ _ w] at z; exact Or.inl z
              · rcases List.mem_cons.mp z1 with w | w
                · cases w; omega
                · exact Or.inr ⟨p', w, z2⟩
            rcases old v q hv' with ⟨rfl, rfl⟩ | z
            · rw [hc] at hcv; cases hcv
              exact ⟨by rw [va_up_self]; decide, fun w => absurd w hcs⟩
            · exact ⟨up _ (a2 v q c' z hcv).1, (a2 v q c' z hcv).2⟩
        · rw [dst_open hk ch s e hc y]
          refine ⟨a1, fun v q c' hv hcv => ?_, fun hm => ?_, fun _ => last1⟩
          · dsimp only at hv ⊢
            rcases old v q hv with ⟨rfl, rfl⟩ | z
            · rw [hc] at hcv; cases hcv
              exact ⟨by omega, fun w => by simp [w]⟩
            · exact ⟨(a2 v q c' z hcv).1, fun w => by simp [(a2 v q c' z hcv).2 w]⟩
          · dsimp only at hm
            by_cases w : met = true
            · exact a3 w
            · simp [w] at hm
              subst hm
              exact ⟨u, p, hru, hlt, hc⟩
        · rw [dst_left hk ch s e hc y]
          have hcs : c ≠ s := fun z => by subst z; omega
          refine ⟨a1, fun v q c' hv hcv => ?_, a3, fun _ => last1⟩
          dsimp only at hv ⊢
          rcases old v q hv with ⟨rfl, rfl⟩ | z
          · rw [hc] at hcv; cases hcv
            exact ⟨by omega, fun w => absurd w hcs⟩
          · exact a2 v q c' z hcv
theorem rInv_run {s : Nat} (hch : ∀ u p c, u < n → p < hk u → ch u p = some c → c < n) : ∀ (k : Nat) (X : Dx), dInv hk ch n X → rInv s hk ch X → rInv s hk ch (drun hk ch s k X)
  | 0, _, _, h => h
  | k + 1, X, hI, h => rInv_run hch k _ (dInv_step hk ch s n hch hI) (rInv_step hI h)
theorem dend_rch {s : Nat} (hch : ∀ u p c, u < n → p < hk u → ch u p = some c → c < n) (hs : s < n) : (∀ u, (dend hk ch s n (dbeg (fun _ => 0) [] [] s)).2.1 u ≠ 0 ↔ Rch hk ch s u) ∧ ((dend hk ch s n (dbeg (fun _ => 0) [] [] s)).2.2.2.2.2 = true ↔ ∃ u p, Rch hk ch s u ∧ p < hk u ∧ ch u p = some s) := by
  have hB := dInv_beg hk ch n hs rfl (dInv_0 hk ch n)
  have r0 : rInv s hk ch (dbeg (fun _ => 0) [] [] s) := by
    refine ⟨fun u hu => ?_, fun u q c hu => ?_, fun z => (by cases z), fun _ => ⟨[], 0, rfl⟩⟩
    · have hu : va_up (fun _ => 0) s 1 u ≠ 0 := hu
      by_cases y : u = s
      · subst y; exact Rch_refl
      · rw [va_up_ne _ _ y] at hu; exact absurd rfl hu
    · exfalso
      rcases hu with z | ⟨p, z1, z2⟩
      · have z : va_up (fun _ => 0) s 1 u = 2 := z.1
        by_cases y : u = s
        · subst y; rw [va_up_self] at z; cases z
        · rw [va_up_ne _ _ y] at z; cases z
      · have z1 : (u, p) ∈ [(s, 0)] := z1
        simp at z1
        omega
  have hR := rInv_run hch (dmu hk n (dbeg (fun _ => 0) [] [] s)) _ hB r0
  obtain ⟨hE, hnil⟩ := dend_all hk ch s n (X := dbeg (fun _ => 0) [] [] s) hch _ _ rfl hB
  have hR : rInv s hk ch (dend hk ch s n (dbeg (fun _ => 0) [] [] s)) := hR
  have hsx : s ∈ (dend hk ch s n (dbeg (fun _ => 0) [] [] s)).2.2.1 := dpre_run hk ch s _ _ (by show s ∈ [] ++ [s]; simp)
  revert hE hnil hR hsx
  generalize dend hk ch s n (dbeg (fun _ => 0) [] [] s) = Y
  intro hE hnil hR hsx
  obtain ⟨a1, a2, a3, a4⟩ := hR
  have two : ∀ u, Y.2.1 u ≠ 0 → Y.2.1 u = 2 := fun u hu => by
    have h3 := hE.2.2.1 u
    have h2 : Y.2.1 u ≠ 1 := fun z => by
      have := (hE.2.1 u).mp z
      rw [hnil] at this
      cases this
    omega
  have fw : ∀ u, Rch hk ch s u → Y.2.1 u ≠ 0 := fun u hu => by
    exact hu (fun u => Y.2.1 u ≠ 0) ((hE.2.2.2.2.1.2 s).mp hsx) (fun u p c ih hp hc => (a2 _ _ _ (Or.inl ⟨two _ ih, hp⟩) hc).1)
  refine ⟨fun u => ⟨a1 u, fw u⟩, a3, fun ⟨u, p, hu, hp, hc⟩ => (a2 u p s (Or.inl ⟨two u (fw u hu), hp⟩) hc).2 rfl⟩
end RCH
