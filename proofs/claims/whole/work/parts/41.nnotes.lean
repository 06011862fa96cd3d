/-! ===== the class's notes are depths and weights ===== -/
section NINV
variable (hk : Nat → Nat) (ch : Nat → Nat → Option Nat) (ow : Nat → Int64) (n : Nat)
theorem mxp_congr {d d' : Nat → Nat} (u : Nat) : ∀ p, (∀ q c, q < p → ch u q = some c → d' c = d c) → mxp ch d' u p = mxp ch d u p
  | 0, _ => rfl
  | p + 1, h => by
    have e := mxp_congr u p (fun q c hq hc => h q c (by omega) hc)
    unfold mxp
    rw [e]
    cases hc : ch u p with
    | none => rfl
    | some c => dsimp only; rw [h p c (by omega) hc]
theorem smp_congr {d d' : Nat → Int64} (u : Nat) : ∀ p, (∀ q c, q < p → ch u q = some c → d' c = d c) → smp ch d' u p = smp ch d u p
  | 0, _ => rfl
  | p + 1, h => by
    have e := smp_congr u p (fun q c hq hc => h q c (by omega) hc)
    unfold smp
    rw [e]
    cases hc : ch u p with
    | none => rfl
    | some c => dsimp only; rw [h p c (by omega) hc]
def nVal (dp : Nat → Nat) (wt : Nat → Int64) (N : Dn) (u p : Nat) : Prop := N.1 u = nI (mxp ch dp u p + 1) ∧ N.2 u = ow u + smp ch wt u p
def nOk (dp : Nat → Nat) (wt : Nat → Int64) (N : Dn) : Nat → List (Nat × Nat) → Prop
  | _, [] => True
  | a, (u, p) :: t => (∃ q, p = q + 1 ∧ ch u q = some a ∧ nVal ch ow dp wt N u q) ∧ nOk dp wt N u t
def nTop (dp : Nat → Nat) (wt : Nat → Int64) (N : Dn) : List (Nat × Nat) → Prop
  | [] => True
  | (u, p) :: t => nVal ch ow dp wt N u p ∧ nOk ch ow dp wt N u t
def nInv (X : Dx) (N : Dn) : Prop := X.2.2.2.2.1 = false → (∀ u, u ∈ X.2.2.2.1 → N.1 u = nI (dpF hk ch X.2.2.2.1 u) ∧ N.2 u = wtF hk ch ow X.2.2.2.1 u) ∧ nTop ch ow (dpF hk ch X.2.2.2.1) (wtF hk ch ow X.2.2.2.1) N X.1
theorem nVal_congr {dp dp' : Nat → Nat} {wt wt' : Nat → Int64} {N N' : Dn} {u p : Nat} (h : ∀ q c, q < p → ch u q = some c → dp' c = dp c ∧ wt' c = wt c) (hN : N'.1 u = N.1 u ∧ N'.2 u = N.2 u) (hh : nVal ch ow dp wt N u p) : nVal ch ow dp' wt' N' u p := by
  unfold nVal
  rw [mxp_congr ch u p (fun q c hq hc => (h q c hq hc).1), smp_congr ch u p (fun q c hq hc => (h q c hq hc).2), hN.1, hN.2]
  exact hh
theorem nOk_congr {mk : Nat → Nat} {dp dp' : Nat → Nat} {wt wt' : Nat → Int64} {N N' : Dn} (hc : ∀ c, mk c = 2 → dp' c = dp c ∧ wt' c = wt c) : ∀ (a : Nat) (t : List (Nat × Nat)), dOk ch mk (some a) t → (∀ u, u ∈ t.map Prod.fst → N'.1 u = N.1 u ∧ N'.2 u = N.2 u) → nOk ch ow dp wt N a t → nOk ch ow dp' wt' N' a t
  | _, [], _, _, _ => trivial
  | a, (u, p) :: t, hd, hN, ⟨⟨q, e1, e2, e3⟩, h⟩ => by
    refine ⟨⟨q, e1, e2, nVal_congr ch ow (fun q' c hq' hc' => hc c ?_) (hN u (by simp)) e3⟩, nOk_congr hc u t hd.2 (fun v hv => hN v (by simp only [List.map_cons, List.mem_cons]; exact Or.inr hv)) h⟩
    rcases hd.1 q' c (by omega) hc' with z | z
    · exact z
    · omega
theorem nVal_add {dp : Nat → Nat} {wt : Nat → Int64} {N : Dn} {u q c : Nat} (hc : ch u q = some c) (hd : ∀ v, dp v ≤ 2000) (h1 : N.1 c = nI (dp c)) (h2 : N.2 c = wt c) (h : nVal ch ow dp wt N u q) : nVal ch ow dp wt (nadd N u c) u (q + 1) := by
  have hm := mxp_le ch hd u q
  have hdc := hd c
  have e1 : mxp ch dp u (q + 1) = max (mxp ch dp u q) (dp c) := by
    show max _ _ = _
    rw [hc]
  have e2 : smp ch wt u (q + 1) = smp ch wt u q + wt c := by
    show _ + _ = _
    rw [hc]
  unfold nVal nadd
  dsimp only
  rw [va_up_self, va_up_self, h.1, h.2, h1, h2, e1, e2]
  refine ⟨?_, by rw [Int64.add_assoc]⟩
  have c6 : (nI (mxp ch dp u q + 1) ≤ nI (dp c)) ↔ mxp ch dp u q + 1 ≤ dp c := nI_leI (by omega) (by omega)
  by_cases y : mxp ch dp u q + 1 ≤ dp c
  · rw [if_pos (c6.mpr y), nI_1, Nat.max_eq_right (by omega)]
  · rw [if_neg (fun z => y (c6.mp z)), Nat.max_eq_left (by omega)]
theorem nadd_ne {N : Dn} {b c v : Nat} (h : v ≠ b) : (nadd N b c).1 v = N.1 v ∧ (nadd N b c).2 v = N.2 v := ⟨va_up_ne _ _ h, va_up_ne _ _ h⟩
theorem nnew_ne {N : Dn} {c v : Nat} (h : v ≠ c) : (nnew ow N c).1 v = N.1 v ∧ (nnew ow N c).2 v = N.2 v := ⟨va_up_ne _ _ h, va_up_ne _ _ h⟩
def nlv (N : Dn) (u : Nat) : List (Nat × Nat) → Dn
  | [] => N
  | (b, _) :: _ => nadd N b u
variable {hk ch ow n} {u p : Nat} {t : List (Nat × Nat)} {mk : Nat → Nat} {pre post : List Nat} {ring met : Bool} {N : Dn}
theorem dp2000 (hn : n ≤ 2000) (hI : dInv hk ch n (((u, p) :: t), mk, pre, post, ring, met)) : ∀ v, dpF hk ch post v ≤ 2000 := fun v => by
  have h1 := dpF_le hk ch post.length post rfl v
  have h2 := nd_len n post hI.2.2.2.2.2.1.1 (fun x hx => hI.2.2.2.2.2.2.1 x (by rw [(hI.2.2.2.2.2.1.2 x).mp hx]; decide))
  omega
theorem nv_leave (hn : n ≤ 2000) (hI : dInv hk ch n (((u, p) :: t), mk, pre, post, ring, met)) (e : hk u ≤ p) (h : nInv hk ch ow (((u, p) :: t), mk, pre, post, ring, met) N) : nInv hk ch ow (t, va_up mk u 2, pre, post ++ [u], ring, met) (nlv N u t) := by
  intro hr
  have hr : ring = false := hr
  have hdp := dp2000 hn hI
  obtain ⟨h1, h2, h3, h4, ⟨h5, h5'⟩, ⟨h6, h6'⟩, h7, h8⟩ := hI
  dsimp only at h1 h2 h3 h4 h5 h5' h6 h6' h7 h8
  obtain ⟨o1, o2⟩ := h8 hr
  obtain ⟨n1, n2, n3⟩ := h hr
  dsimp only at n1 n2 n3
  have hp : p = hk u := Nat.le_antisymm (h4 (u, p) (by simp)) e
  have hu1 : mk u = 1 := (h2 u).mpr (by simp)
  have hup : u ∉ post := fun z => by have := (h6' u).mp z; omega
  have hut : u ∉ t.map Prod.fst := (List.nodup_cons.mp h1).1
  have htn : (t.map Prod.fst).Nodup := (List.nodup_cons.mp h1).2
  have nb : ∀ v, v ∉ t.map Prod.fst → (nlv N u t).1 v = N.1 v ∧ (nlv N u t).2 v = N.2 v := fun v hv => by
    cases t with
    | nil => exact ⟨rfl, rfl⟩
    | cons b t => exact nadd_ne (fun z => hv (by simp [z]))
  have keep : ∀ c, mk c = 2 → dpF hk ch (post ++ [u]) c = dpF hk ch post c ∧ wtF hk ch ow (post ++ [u]) c = wtF hk ch ow post c := fun c hc => by
    have : c ≠ u := fun z => by subst z; omega
    rw [dpF_snoc, wtF_snoc]
    exact ⟨va_up_ne _ _ this, va_up_ne _ _ this⟩
  have eu : dpF hk ch (post ++ [u]) u = mxp ch (dpF hk ch post) u (hk u) + 1 ∧ wtF hk ch ow (post ++ [u]) u = ow u + smp ch (wtF hk ch ow post) u (hk u) := by
    rw [dpF_snoc, wtF_snoc]
    exact ⟨va_up_self _ _ _, va_up_self _ _ _⟩
  have hd' : ∀ v, dpF hk ch (post ++ [u]) v ≤ 2000 := fun v => by
    have h1 := dpF_le hk ch (post ++ [u]).length (post ++ [u]) rfl v
    have h2 := nd_len n (post ++ [u]) (by
      rw [List.nodup_append]
      exact ⟨h6, by simp, fun a ha b hb => by
        simp at hb
        subst hb
        intro q
        subst q
        exact hup ha⟩) (fun x hx => by
      rcases List.mem_append.mp hx with z | z
      · exact h7 x (by rw [(h6' x).mp z]; decide)
      · simp at z
        subst z
        exact h7 x (by omega))
    omega
  rw [hp] at n2
  refine ⟨fun v hv => ?_, ?_⟩
  · dsimp only at hv ⊢
    rcases List.mem_append.mp hv with z | z
    · have hv2 : mk v = 2 := (h6' v).mp z
      have hvt : v ∉ t.map Prod.fst := fun y => by
        have := (h2 v).mpr (by simp only [List.map_cons, List.mem_cons]; exact Or.inr y)
        omega
      rw [(nb v hvt).1, (nb v hvt).2, (keep v hv2).1, (keep v hv2).2]
      exact n1 v z
    · simp at z
      subst z
      rw [(nb v hut).1, (nb v hut).2, eu.1, eu.2]
      exact n2
  · dsimp only
    cases t with
    | nil => trivial
    | cons b t =>
      obtain ⟨b, pb⟩ := b
      obtain ⟨⟨q, e1, e2, e3⟩, n4⟩ := n3
      have hbt : b ∉ t.map Prod.fst := (List.nodup_cons.mp htn).1
      have hbu : u ≠ b := fun z => hut (by simp [z])
      have k2 := o1.2
      refine ⟨?_, nOk_congr ch ow keep b t k2.2 (fun v hv => nadd_ne (fun z => hbt (z ▸ hv))) n4⟩
      have e4 : nVal ch ow (dpF hk ch (post ++ [u])) (wtF hk ch ow (post ++ [u])) N b q := nVal_congr ch ow (fun q' c hq' hc' => keep c (by
        rcases k2.1 q' c (by omega) hc' with z | z
        · exact z
        · omega)) ⟨rfl, rfl⟩ e3
      rw [e1]
      exact nVal_add ch ow e2 hd' (by rw [eu.1]; exact n2.1) (by rw [eu.2]; exact n2.2) e4
theorem nv_none (hc : ch u p = none) (h : nInv hk ch ow (((u, p) :: t), mk, pre, post, ring, met) N) : nInv hk ch ow (((u, p + 1) :: t), mk, pre, post, ring, met) N := by
  intro hr
  obtain ⟨n1, n2, n3⟩ := h hr
  refine ⟨n1, ?_, n3⟩
  unfold nVal at n2 ⊢
  have e1 : mxp ch (dpF hk ch post) u (p + 1) = mxp ch (dpF hk ch post) u p := by
    show max _ _ = _
    rw [hc]
    exact Nat.max_eq_left (Nat.zero_le _)
  have e2 : smp ch (wtF hk ch ow post) u (p + 1) = smp ch (wtF hk ch ow post) u p := by
    show _ + _ = _
    rw [hc]
    exact Int64.add_zero _
  dsimp only at n2 ⊢
  rw [e1, e2]
  exact n2
theorem nv_open {r : Bool} : nInv hk ch ow (((u, p + 1) :: t), mk, pre, post, true, r) N := fun hr => by cases hr
theorem nv_left {c : Nat} (hn : n ≤ 2000) (hI : dInv hk ch n (((u, p) :: t), mk, pre, post, ring, met)) (hc : ch u p = some c) (hc2 : mk c = 2) (h : nInv hk ch ow (((u, p) :: t), mk, pre, post, ring, met) N) : nInv hk ch ow (((u, p + 1) :: t), mk, pre, post, ring, met) (nadd N u c) := by
  intro hr
  have hr : ring = false := hr
  have hdp := dp2000 hn hI
  obtain ⟨h1, h2, h3, h4, ⟨h5, h5'⟩, ⟨h6, h6'⟩, h7, h8⟩ := hI
  dsimp only at h1 h2 h3 h4 h5 h5' h6 h6' h7 h8
  obtain ⟨o1, o2⟩ := h8 hr
  obtain ⟨n1, n2, n3⟩ := h hr
  dsimp only at n1 n2 n3
  have hu1 : mk u = 1 := (h2 u).mpr (by simp)
  have hut : u ∉ t.map Prod.fst := (List.nodup_cons.mp h1).1
  have hcp : c ∈ post := (h6' c).mpr hc2
  refine ⟨fun v hv => ?_, ?_, ?_⟩
  · have hv : v ∈ post := hv
    have : v ≠ u := fun z => by
      have := (h6' v).mp hv
      subst z
      omega
    rw [(nadd_ne this).1, (nadd_ne this).2]
    exact n1 v hv
  · exact nVal_add ch ow hc hdp (n1 c hcp).1 (n1 c hcp).2 n2
  · exact nOk_congr ch ow (mk := mk) (fun _ _ => ⟨rfl, rfl⟩) u t o1.2 (fun v hv => nadd_ne (fun z => hut (z ▸ hv))) n3
theorem nv_new {c : Nat} (hI : dInv hk ch n (((u, p) :: t), mk, pre, post, ring, met)) (hc : ch u p = some c) (hc2 : mk c = 0) (h : nInv hk ch ow (((u, p) :: t), mk, pre, post, ring, met) N) : nInv hk ch ow (((c, 0) :: (u, p + 1) :: t), va_up mk c 1, pre ++ [c], post, ring, met) (nnew ow N c) := by
  intro hr
  have hr : ring = false := hr
  obtain ⟨h1, h2, h3, h4, ⟨h5, h5'⟩, ⟨h6, h6'⟩, h7, h8⟩ := hI
  dsimp only at h1 h2 h3 h4 h5 h5' h6 h6' h7 h8
  obtain ⟨o1, o2⟩ := h8 hr
  obtain ⟨n1, n2, n3⟩ := h hr
  dsimp only at n1 n2 n3
  have hu1 : mk u = 1 := (h2 u).mpr (by simp)
  have st : ∀ v, v ∈ ((u, p) :: t).map Prod.fst → v ≠ c := fun v hv z => by
    have := (h2 v).mpr hv
    subst z
    omega
  refine ⟨fun v hv => ?_, ?_, ⟨p, rfl, hc, ?_⟩, ?_⟩
  · have hv : v ∈ post := hv
    have : v ≠ c := fun z => by
      have := (h6' v).mp hv
      subst z
      omega
    rw [(nnew_ne ow this).1, (nnew_ne ow this).2]
    exact n1 v hv
  · refine ⟨va_up_self _ _ _, ?_⟩
    show va_up N.2 c (ow c) c = ow c + 0
    rw [va_up_self, Int64.add_zero]
  · exact nVal_congr ch ow (fun _ _ _ _ => ⟨rfl, rfl⟩) (nnew_ne ow (st u (by simp))) n2
  · exact nOk_congr ch ow (mk := mk) (fun _ _ => ⟨rfl, rfl⟩) u t o1.2 (fun v hv => nnew_ne ow (st v (by simp only [List.map_cons, List.mem_cons]; exact Or.inr hv))) n3
theorem nv_beg {s : Nat} {N : Dn} : nInv hk ch ow (dbeg (fun _ => 0) [] [] s) (nnew ow N s) := by
  intro _
  have h1 : ∀ v, v ∈ (dbeg (fun _ => 0) [] [] s).2.2.2.1 → (nnew ow N s).1 v = nI (dpF hk ch (dbeg (fun _ => 0) [] [] s).2.2.2.1 v) ∧ (nnew ow N s).2 v = wtF hk ch ow (dbeg (fun _ => 0) [] [] s).2.2.2.1 v := fun v hv => by cases hv
  have h2 : nVal ch ow (dpF hk ch []) (wtF hk ch ow []) (nnew ow N s) s 0 := by
    refine ⟨va_up_self _ _ _, ?_⟩
    show va_up N.2 s (ow s) s = ow s + 0
    rw [va_up_self, Int64.add_zero]
  exact ⟨h1, h2, trivial⟩
end NINV
