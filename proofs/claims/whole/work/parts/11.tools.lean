/-! ===== tools for walks: rows of memory, loops, turning a goal ===== -/
def rwc (M : Mm) (c : Nat) (f : Int → Int) : Mm := fun c' i => if c' = c then f i else M c' i
def up1 (f : Int → Int) (i z : Int) : Int → Int := fun j => if j = i then z else f j
theorem rwc_at (M : Mm) (c : Nat) (f : Int → Int) : rwc M c f c = f := by funext i; simp [rwc]
theorem rwc_ne {M : Mm} {c c' : Nat} {f : Int → Int} (h : c' ≠ c) : rwc M c f c' = M c' := by funext i; simp [rwc, h]
theorem rwc_self (M : Mm) (c : Nat) : rwc M c (M c) = M := by
  funext c' i
  by_cases h : c' = c
  · subst h; simp [rwc]
  · simp [rwc, h]
theorem rwc_rwc (M : Mm) (c : Nat) (f h : Int → Int) : rwc (rwc M c f) c h = rwc M c h := by
  funext c' i
  by_cases hc : c' = c <;> simp [rwc, hc]
theorem rwc_comm {M : Mm} {c c' : Nat} {f h : Int → Int} (hc : c ≠ c') : rwc (rwc M c f) c' h = rwc (rwc M c' h) c f := by
  funext q i
  by_cases h1 : q = c
  · subst h1; simp [rwc, hc]
  · by_cases h2 : q = c'
    · subst h2
      simp [rwc, h1]
    · simp [rwc, h1, h2]
theorem upM_rw (M : Mm) (c : Nat) (i z : Int) : upM M c i z = rwc M c (up1 (M c) i z) := by
  funext c' j
  by_cases h : c' = c
  · subst h; simp [rwc, upM, up1]
  · simp [rwc, upM, h]
theorem up1_s (f : Int → Int) (i z : Int) : up1 f i z i = z := by simp [up1]
theorem up1_n {f : Int → Int} {i j z : Int} (h : j ≠ i) : up1 f i z j = f j := by simp [up1, h]
theorem up1_id (f : Int → Int) (i : Int) : up1 f i (f i) = f := by
  funext j
  by_cases h : j = i
  · subst h; simp [up1]
  · simp [up1, h]
def lle : Lo → Lo → Prop
  | [], _ => True
  | none :: t, L => lle t L.tail
  | some v :: t, L => L.head? = some (some v) ∧ lle t L.tail
theorem lle_get : ∀ (L' L : Lo), lle L' L → ∀ (i : Nat) (v : V), L'[i]? = some (some v) → L[i]? = some (some v) := by
  intro L'
  induction L' with
  | nil => intro L _ i v h; simp at h
  | cons a t ih =>
    intro L h i v hi
    cases a with
    | none =>
      cases i with
      | zero => simp at hi
      | succ i =>
        have := ih L.tail h i v (by simpa using hi)
        cases L with
        | nil => simp at this
        | cons b L => simpa using this
    | some w =>
      cases L with
      | nil => simp [lle] at h
      | cons b L =>
        cases i with
        | zero =>
          simp at hi
          subst hi
          simpa using h.1
        | succ i => simpa using ih L h.2 i v (by simpa using hi)
theorem ev_to {d : Md} {pc : Nat} {L L' : Lo} {S S' : List V} {K : List Kd} {M M' : Mm} {P : Pm} {k n k' n' : Nat} {Φ : Ps} (h : Ev d pc L' S' K M' P k' n' Φ) (hL : lle L' L) (hM : M = M') (hS : S = S') (hk : k = k') (hn : n = n') : Ev d pc L S K M P k n Φ := by
  subst hM; subst hS; subst hk; subst hn
  exact ev_loc (lle_get L' L hL) h
/-- a loop that goes up: what stands at its head after i rounds -/
theorem up_loop {P : Nat → Prop} (N : Nat) (hN : P N) (hs : ∀ i, i < N → P (i + 1) → P i) : P 0 := by
  have key : ∀ j, j ≤ N → P (N - j) := by
    intro j
    induction j with
    | zero => intro _; exact hN
    | succ j ih =>
      intro hj
      refine hs (N - (j + 1)) (by omega) ?_
      have e : N - (j + 1) + 1 = N - j := by omega
      rw [e]
      exact ih (by omega)
  have := key N (Nat.le_refl N)
  rwa [Nat.sub_self] at this
theorem up_from {P : Nat → Prop} (a N : Nat) (ha : a ≤ N) (hN : P N) (hs : ∀ i, a ≤ i → i < N → P (i + 1) → P i) : P a := by
  have h := up_loop (P := fun j => P (a + j)) (N - a) (by show P (a + (N - a)); rw [Nat.add_sub_of_le ha]; exact hN) (fun i hi h => hs (a + i) (Nat.le_add_right _ _) (by omega) h)
  exact h
theorem isSh_ne {c c' : Nat} (h : isSh c) (h' : isSh c') : c ≠ c' + 1 := by
  intro e
  subst e
  have := h.1.symm.trans h'.2.1
  simp at this
section RulesF
variable {d : Md} {pc : Nat} {L : Lo} {S : List V} {K : List Kd} {M : Mm} {P : Pm} {k n : Nat} {Φ : Ps}
theorem ev_gI (fz : Int) {idx ci f c : Nat} (hd : decode (dc d) pc = .ok (.getfield idx, 3)) (hf : fldOK (dy d).cls idx ci f) (ht : fkd (tyC ci f) = 0) (hK : K[c]? = some (.inl ci)) (hz : (f : Int) = fz) (kk : Ev d (pc + 3) L (vI (M c fz) :: S) K M P k n Φ) : Ev d pc L (vR c :: S) K M P k n Φ := by
  subst hz
  exact ev_getI hd hf ht hK kk
theorem ev_gJ (fz : Int) {idx ci f c : Nat} (hd : decode (dc d) pc = .ok (.getfield idx, 3)) (hf : fldOK (dy d).cls idx ci f) (ht : fkd (tyC ci f) = 1) (hK : K[c]? = some (.inl ci)) (hz : (f : Int) = fz) (kk : Ev d (pc + 3) L (vL (M c fz) :: S) K M P k n Φ) : Ev d pc L (vR c :: S) K M P k n Φ := by
  subst hz
  exact ev_getJ hd hf ht hK kk
theorem ev_pI (fz : Int) {idx ci f c : Nat} {z : Int} (hd : decode (dc d) pc = .ok (.putfield idx, 3)) (hf : fldSet (dy d).cls idx ci f) (ht : tyC ci f = .int) (hK : K[c]? = some (.inl ci)) (hz : (f : Int) = fz) (kk : Ev d (pc + 3) L S K (upM M c fz z) P k n Φ) : Ev d pc L (vI z :: vR c :: S) K M P k n Φ := by
  subst hz
  exact ev_putI hd hf ht hK kk
theorem ev_pZ (fz : Int) {idx ci f c : Nat} {z : Int} (hd : decode (dc d) pc = .ok (.putfield idx, 3)) (hf : fldSet (dy d).cls idx ci f) (ht : tyC ci f = .boolean) (hb : z = 0 ∨ z = 1) (hK : K[c]? = some (.inl ci)) (hz : (f : Int) = fz) (kk : Ev d (pc + 3) L S K (upM M c fz z) P k n Φ) : Ev d pc L (vI z :: vR c :: S) K M P k n Φ := by
  subst hz
  exact ev_putZ hd hf ht hb hK kk
theorem ev_pJ (fz : Int) {idx ci f c : Nat} {z : Int} (hd : decode (dc d) pc = .ok (.putfield idx, 3)) (hf : fldSet (dy d).cls idx ci f) (ht : tyC ci f = .long) (hK : K[c]? = some (.inl ci)) (hz : (f : Int) = fz) (kk : Ev d (pc + 3) L S K (upM M c fz z) P k n Φ) : Ev d pc L (vL z :: vR c :: S) K M P k n Φ := by
  subst hz
  exact ev_putJ hd hf ht hK kk
end RulesF
def nx (a : Int) : Int := if a % 2 = 0 then a + 1 else a - 1
theorem xor1 {a : Int} (h : 0 ≤ a) (h2 : a < 6) : xorI a 1 = nx a := by
  have : a = 0 ∨ a = 1 ∨ a = 2 ∨ a = 3 ∨ a = 4 ∨ a = 5 := by omega
  rcases this with rfl | rfl | rfl | rfl | rfl | rfl <;> decide
theorem nx_rng {a : Int} (h : 0 ≤ a) (h2 : a < 6) : 0 ≤ nx a ∧ nx a < 6 := by
  unfold nx; split <;> omega
