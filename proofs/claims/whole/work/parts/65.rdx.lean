/-! ===== the reference reads as the class does (written by gen65.py) ===== -/
def nmV (kd z : Int) : Int := if kd = 0 ∨ kd = 1 ∨ kd = 3 then z + 100 else -1
theorem nm_0 (w : Int) : nmV 0 w = w + 100 := by unfold nmV; rw [if_pos (by decide)]
theorem nm_1 (w : Int) : nmV 1 w = w + 100 := by unfold nmV; rw [if_pos (by decide)]
theorem nm_3 (w : Int) : nmV 3 w = w + 100 := by unfold nmV; rw [if_pos (by decide)]
def RX (M : Mm) (X : Mm) : Prop := (X 54 2 = M 4 4) ∧ (X 54 5 = bllM M) ∧ (∀ j : Nat, (j : Int) < M 4 4 → X 56 (4 * (j : Int)) = M 5 j ∧ X 56 (4 * (j : Int) + 1) = M 6 j ∧ X 56 (4 * (j : Int) + 2) = M 7 j ∧ X 56 (4 * (j : Int) + 3) = nmV (M 5 j) (M 8 j)) ∧ (M 3 1 = -1 → X 54 3 = 0) ∧ (M 3 1 ≠ -1 → X 54 3 = M 3 2 + 1 ∧ X 54 4 = M 3 1) ∧ (M 3 1 ≠ -1 → M 3 2 < fml (M 3 1) → X 56 (4 * M 4 4) = M 3 1 ∧ X 56 (4 * M 4 4 + 1) = M 3 3 ∧ X 56 (4 * M 4 4 + 2) = M 3 4 ∧ X 56 (4 * M 4 4 + 3) = -1) ∧ ((((M 3 1 = 0 ∨ M 3 1 = 1) ∧ M 3 2 = 3) ∨ (M 3 1 = 3 ∧ M 3 2 = 2)) → X 54 6 = if M 3 6 = 0 then 1 else -1)
theorem RX.mn {M : Mm} {X : Mm} (h : RX M X) : X 54 2 = M 4 4 := h.1
theorem RX.fr {M : Mm} {X : Mm} (h : RX M X) : X 54 5 = bllM M := h.2.1
theorem RX.st {M : Mm} {X : Mm} (h : RX M X) : ∀ j : Nat, (j : Int) < M 4 4 → X 56 (4 * (j : Int)) = M 5 j ∧ X 56 (4 * (j : Int) + 1) = M 6 j ∧ X 56 (4 * (j : Int) + 2) = M 7 j ∧ X 56 (4 * (j : Int) + 3) = nmV (M 5 j) (M 8 j) := h.2.2.1
theorem RX.h0 {M : Mm} {X : Mm} (h : RX M X) : M 3 1 = -1 → X 54 3 = 0 := h.2.2.2.1
theorem RX.h1 {M : Mm} {X : Mm} (h : RX M X) : M 3 1 ≠ -1 → X 54 3 = M 3 2 + 1 ∧ X 54 4 = M 3 1 := h.2.2.2.2.1
theorem RX.pt {M : Mm} {X : Mm} (h : RX M X) : M 3 1 ≠ -1 → M 3 2 < fml (M 3 1) → X 56 (4 * M 4 4) = M 3 1 ∧ X 56 (4 * M 4 4 + 1) = M 3 3 ∧ X 56 (4 * M 4 4 + 2) = M 3 4 ∧ X 56 (4 * M 4 4 + 3) = -1 := h.2.2.2.2.2.1
theorem RX.sg {M : Mm} {X : Mm} (h : RX M X) : (((M 3 1 = 0 ∨ M 3 1 = 1) ∧ M 3 2 = 3) ∨ (M 3 1 = 3 ∧ M 3 2 = 2)) → X 54 6 = if M 3 6 = 0 then 1 else -1 := h.2.2.2.2.2.2
theorem RX.mk {M : Mm} {X : Mm} (mn : X 54 2 = M 4 4) (fr : X 54 5 = bllM M) (st : ∀ j : Nat, (j : Int) < M 4 4 → X 56 (4 * (j : Int)) = M 5 j ∧ X 56 (4 * (j : Int) + 1) = M 6 j ∧ X 56 (4 * (j : Int) + 2) = M 7 j ∧ X 56 (4 * (j : Int) + 3) = nmV (M 5 j) (M 8 j)) (h0 : M 3 1 = -1 → X 54 3 = 0) (h1 : M 3 1 ≠ -1 → X 54 3 = M 3 2 + 1 ∧ X 54 4 = M 3 1) (pt : M 3 1 ≠ -1 → M 3 2 < fml (M 3 1) → X 56 (4 * M 4 4) = M 3 1 ∧ X 56 (4 * M 4 4 + 1) = M 3 3 ∧ X 56 (4 * M 4 4 + 2) = M 3 4 ∧ X 56 (4 * M 4 4 + 3) = -1) (sg : (((M 3 1 = 0 ∨ M 3 1 = 1) ∧ M 3 2 = 3) ∨ (M 3 1 = 3 ∧ M 3 2 = 2)) → X 54 6 = if M 3 6 = 0 then 1 else -1) : RX M X := ⟨mn, fr, st, h0, h1, pt, sg⟩
theorem RX.mid {M X M' X' : Mm} (h : RX M X) (hk : M 3 1 ≠ -1) (hq : ∀ q, q ≠ 3 → M' q = M q) (m1 : M' 3 1 = M 3 1) (m2 : M' 3 2 = M 3 2 + 1) {a b g : Int} (e3 : M' 3 3 = a) (e4 : M' 3 4 = b) (e6 : M' 3 6 = g) (x2 : X' 54 2 = X 54 2) (x3 : X' 54 3 = X 54 3 + 1) (x4 : X' 54 4 = X 54 4) (x5 : X' 54 5 = X 54 5) (xs : ∀ j, j < 4 * M 4 4 → X' 56 j = X 56 j) (xp : X' 56 (4 * M 4 4) = M 3 1 ∧ X' 56 (4 * M 4 4 + 1) = a ∧ X' 56 (4 * M 4 4 + 2) = b ∧ X' 56 (4 * M 4 4 + 3) = -1) (sg : (((M 3 1 = 0 ∨ M 3 1 = 1) ∧ M 3 2 = 2) ∨ (M 3 1 = 3 ∧ M 3 2 = 1)) → X' 54 6 = if g = 0 then 1 else -1) : RX M' X' := by
  have f4 : M' 4 = M 4 := hq 4 (by decide)
  have f5 : M' 5 = M 5 := hq 5 (by decide)
  have hh := h.h1 hk
  apply RX.mk
  case mn => rw [x2, f4]; exact h.mn
  case fr => rw [x5, bllM_cg f4 f5]; exact h.fr
  case st =>
    intro j hj
    rw [f4] at hj
    rw [f5, hq 6 (by decide), hq 7 (by decide), hq 8 (by decide), xs _ (by omega), xs _ (by omega), xs _ (by omega), xs _ (by omega)]
    exact h.st j hj
  case h0 => rw [m1]; intro y; exact absurd y hk
  case h1 => rw [m1, m2, x3, x4]; intro _; exact ⟨by omega, hh.2⟩
  case pt => rw [m1, f4, e3, e4]; intro _ _; exact xp
  case sg => rw [m1, m2, e6]; intro y; exact sg (by omega)
theorem RX.last {M X F X' : Mm} (hR : RI M) (h : RX M X) (hq : ∀ q, q ≠ 3 → F q = M q) (m1 : F 3 1 = M 3 1) (m2 : F 3 2 = fml (M 3 1)) (hk : M 3 1 ≠ -1) {a b c : Int} (x2 : X' 54 2 = X 54 2 + 1) (x3 : X' 54 3 = fml (M 3 1) + 1) (x4 : X' 54 4 = M 3 1) (x5 : X' 54 5 = if M 3 1 = 4 then X 54 2 + 1 else X 54 5) (xs : ∀ j, j < 4 * M 4 4 → X' 56 j = X 56 j) (xp : X' 56 (4 * M 4 4) = M 3 1 ∧ X' 56 (4 * M 4 4 + 1) = a ∧ X' 56 (4 * M 4 4 + 2) = b ∧ X' 56 (4 * M 4 4 + 3) = nmV (M 3 1) c) : RX (insM F 4 (M 4 4) (M 3 1) a b c) X' := by
  have f4 : F 4 = M 4 := hq 4 (by decide)
  have f5 : F 5 = M 5 := hq 5 (by decide)
  have f6 : F 6 = M 6 := hq 6 (by decide)
  have f7 : F 7 = M 7 := hq 7 (by decide)
  have f8 : F 8 = M 8 := hq 8 (by decide)
  obtain ⟨n, i1, i2, -⟩ := hR.rd
  have hat := ins4_at (M := F) (kd := M 3 1) (a := a) (b := b) (z := c)
  rw [f4, f5, f6, f7, f8] at hat
  obtain ⟨a4, a5, a6, a7, a8⟩ := hat
  have a3 : insM F 4 (M 4 4) (M 3 1) a b c 3 = F 3 := ins4_o (by decide)
  have hfr := h.fr
  have hmn := h.mn
  have eb : bllM M = bll (M 5) n := by unfold bllM; rw [i1, Int.toNat_natCast]
  generalize insM F 4 (M 4 4) (M 3 1) a b c = G at *
  have hl5 := sl5 (fm (M 3 1)) (fm_lt _)
  have hl' : fml (M 3 1) ≤ 5 := by show ((s_len.getD (fm (M 3 1)) 0 : Nat) : Int) ≤ 5; omega
  apply RX.mk
  case mn => rw [x2, a4]; omega
  case fr =>
    have e2 : bllM G = bll (up1 (M 5) n (M 3 1)) (n + 1) := by unfold bllM; rw [a4, a5, i1]; rfl
    rw [x5, e2, bll_app, ← eb, hmn, i1, hfr]
  case st =>
    intro j hj
    rw [a4] at hj
    rw [a5, a6, a7, a8]
    by_cases e : (j : Int) = M 4 4
    · rw [e, up1_s, up1_s, up1_s, up1_s]
      exact xp
    · rw [up1_n e, up1_n e, up1_n e, up1_n e, xs _ (by omega), xs _ (by omega), xs _ (by omega), xs _ (by omega)]
      exact h.st j (by omega)
  case h0 => rw [a3, m1]; intro y; exact absurd y hk
  case h1 => rw [a3, m1, m2, x3, x4]; intro _; exact ⟨rfl, rfl⟩
  case pt => rw [a3, m1, m2]; intro _ y; omega
  case sg =>
    rw [a3, m1, m2]
    intro y
    rcases y with ⟨y | y, y2⟩ | ⟨y, y2⟩
    · rw [y, fml_0] at y2; omega
    · rw [y, fml_1] at y2; omega
    · rw [y, fml_3] at y2; omega
theorem rx_in {M X : Mm} {z : Int} (hR : RI M) (h : RX M X) (hk : M 3 1 ≠ -1) (hp : M 3 2 < fml (M 3 1)) : (dgC X (plO X) z → ∃ M', rdA M z M' ∧ RX M' (endX (upM (dgY X (plO X) z) 54 3 (X 54 3 + 1)))) ∧ (¬ dgC X (plO X) z → ∀ M2, ¬ rdA M z M2) := by
  have hx := h.h1 hk
  have hpt := h.pt hk hp
  have hmn := h.mn
  have hfr := h.fr
  have hsg := h.sg
  rcases rd_where hR with h1 | ⟨h1, h2⟩ | hw
  · exact absurd h1 hk
  · omega
  rcases hw with ⟨h1, h2⟩ | ⟨h1, h2⟩ | ⟨h1, h2⟩ | ⟨h1, h2⟩ | ⟨h1, h2⟩ | ⟨h1, h2⟩ | ⟨h1, h2⟩ | ⟨h1, h2⟩ | ⟨h1, h2⟩ | ⟨h1, h2⟩ | ⟨h1, h2⟩ | ⟨h1, h2⟩ | ⟨h1, h2⟩
  · rw [h1] at hpt
    rw [h1, h2] at hx
    have ep : plO X = 1 := by unfold plO; rw [hx.1, hx.2]; rfl
    rw [ep]
    have eC : dgC X 1 z ↔ (0 ≤ z - 48 ∧ z - 48 < 6) := by unfold dgC; rw [if_pos rfl]; rw [hx.2, if_neg (by decide), if_pos rfl]; omega
    have eY : dgY X 1 z = upM X 56 (4 * X 54 2 + 1) (z - 48) := by unfold dgY; rw [if_pos rfl]
    rw [eC, eY]
    clear eC eY
    refine ⟨fun c => ⟨_, (rdA_00 h1 h2).mpr ⟨c, rfl⟩, ?_⟩, fun c M2 hA => c ((rdA_00 h1 h2).mp hA).1⟩
    have w3 : (upM (upM X 56 (4 * X 54 2 + 1) (z - 48)) 54 3 (X 54 3 + 1)) 54 3 = 2 := by rw [upM_s, hx.1]; rfl
    have w4 : (upM (upM X 56 (4 * X 54 2 + 1) (z - 48)) 54 3 (X 54 3 + 1)) 54 4 = 0 := by rw [upM_n (Or.inr (by decide)), upM_n (Or.inl (by decide)), hx.2]
    have w2 : (upM (upM X 56 (4 * X 54 2 + 1) (z - 48)) 54 3 (X 54 3 + 1)) 54 2 = X 54 2 := by rw [upM_n (Or.inr (by decide)), upM_n (Or.inl (by decide))]
    have w5 : (upM (upM X 56 (4 * X 54 2 + 1) (z - 48)) 54 3 (X 54 3 + 1)) 54 5 = X 54 5 := by rw [upM_n (Or.inr (by decide)), upM_n (Or.inl (by decide))]
    have w56 : ∀ j, j ≠ 4 * M 4 4 + 1 → (upM (upM X 56 (4 * X 54 2 + 1) (z - 48)) 54 3 (X 54 3 + 1)) 56 j = X 56 j := fun j hj => by rw [upM_n (Or.inl (by decide)), upM_n (Or.inr (by omega))]
    have w7 : (upM (upM X 56 (4 * X 54 2 + 1) (z - 48)) 54 3 (X 54 3 + 1)) 56 (4 * M 4 4 + 1) = z - 48 := by rw [upM_n (Or.inl (by decide)), ← hmn, upM_s]
    generalize upM (upM X 56 (4 * X 54 2 + 1) (z - 48)) 54 3 (X 54 3 + 1) = W at *
    have eE : endX W = W := by unfold endX; rw [w3, w4, if_neg (by decide)]
    rw [eE]
    exact h.mid hk (fun q hq => by rw [upM_o hq, upM_o hq]) (by simp [upM]) (by rw [h2]; exact upM_s _ _ _ _) (a := (z - 48)) (b := M 3 4) (g := M 3 6) (by simp [upM]) (by simp [upM]) (by simp [upM]) w2 (by rw [w3, hx.1]; rfl) (by rw [w4, hx.2]) w5 (fun j hj => w56 j (by omega)) ⟨by rw [w56 _ (by omega), h1]; exact hpt.1, w7, by rw [w56 _ (by omega)]; exact hpt.2.2.1, by rw [w56 _ (by omega)]; exact hpt.2.2.2⟩ (fun y => by omega)
  · rw [h1] at hpt
    rw [h1, h2] at hx
    have ep : plO X = 2 := by unfold plO; rw [hx.1, hx.2]; rfl
    rw [ep]
    have eC : dgC X 2 z ↔ (0 ≤ z - 48 ∧ z - 48 < 6) := by unfold dgC; rw [if_neg (by decide), if_pos rfl]; omega
    have eY : dgY X 2 z = upM X 56 (4 * X 54 2 + 2) (z - 48) := by unfold dgY; rw [if_neg (by decide), if_pos rfl]
    rw [eC, eY]
    clear eC eY
    refine ⟨fun c => ⟨_, (rdA_01 h1 h2).mpr ⟨c, rfl⟩, ?_⟩, fun c M2 hA => c ((rdA_01 h1 h2).mp hA).1⟩
    have w3 : (upM (upM X 56 (4 * X 54 2 + 2) (z - 48)) 54 3 (X 54 3 + 1)) 54 3 = 3 := by rw [upM_s, hx.1]; rfl
    have w4 : (upM (upM X 56 (4 * X 54 2 + 2) (z - 48)) 54 3 (X 54 3 + 1)) 54 4 = 0 := by rw [upM_n (Or.inr (by decide)), upM_n (Or.inl (by decide)), hx.2]
    have w2 : (upM (upM X 56 (4 * X 54 2 + 2) (z - 48)) 54 3 (X 54 3 + 1)) 54 2 = X 54 2 := by rw [upM_n (Or.inr (by decide)), upM_n (Or.inl (by decide))]
    have w5 : (upM (upM X 56 (4 * X 54 2 + 2) (z - 48)) 54 3 (X 54 3 + 1)) 54 5 = X 54 5 := by rw [upM_n (Or.inr (by decide)), upM_n (Or.inl (by decide))]
    have w56 : ∀ j, j ≠ 4 * M 4 4 + 2 → (upM (upM X 56 (4 * X 54 2 + 2) (z - 48)) 54 3 (X 54 3 + 1)) 56 j = X 56 j := fun j hj => by rw [upM_n (Or.inl (by decide)), upM_n (Or.inr (by omega))]
    have w7 : (upM (upM X 56 (4 * X 54 2 + 2) (z - 48)) 54 3 (X 54 3 + 1)) 56 (4 * M 4 4 + 2) = z - 48 := by rw [upM_n (Or.inl (by decide)), ← hmn, upM_s]
    generalize upM (upM X 56 (4 * X 54 2 + 2) (z - 48)) 54 3 (X 54 3 + 1) = W at *
    have eE : endX W = W := by unfold endX; rw [w3, w4, if_neg (by decide)]
    rw [eE]
    exact h.mid hk (fun q hq => by rw [upM_o hq, upM_o hq]) (by simp [upM]) (by rw [h2]; exact upM_s _ _ _ _) (a := M 3 3) (b := (z - 48)) (g := M 3 6) (by simp [upM]) (by simp [upM]) (by simp [upM]) w2 (by rw [w3, hx.1]; rfl) (by rw [w4, hx.2]) w5 (fun j hj => w56 j (by omega)) ⟨by rw [w56 _ (by omega), h1]; exact hpt.1, by rw [w56 _ (by omega)]; exact hpt.2.1, w7, by rw [w56 _ (by omega)]; exact hpt.2.2.2⟩ (fun y => by omega)
  · rw [h1] at hpt
    rw [h1, h2] at hx
    have ep : plO X = 3 := by unfold plO; rw [hx.1, hx.2]; rfl
    rw [ep]
    have eC : dgC X 3 z ↔ (z = 43 ∨ z = 45) := by unfold dgC; rw [if_neg (by decide), if_neg (by decide), if_pos rfl]
    have eY : dgY X 3 z = upM X 54 6 (if z = 45 then -1 else 1) := by unfold dgY; rw [if_neg (by decide), if_neg (by decide), if_pos rfl]
    rw [eC, eY]
    clear eC eY
    refine ⟨fun c => ⟨_, (rdA_02 h1 h2).mpr ⟨c, rfl⟩, ?_⟩, fun c M2 hA => c ((rdA_02 h1 h2).mp hA).1⟩
    have w3 : (upM (upM X 54 6 (if z = 45 then -1 else 1)) 54 3 (X 54 3 + 1)) 54 3 = 4 := by rw [upM_s, hx.1]; rfl
    have w4 : (upM (upM X 54 6 (if z = 45 then -1 else 1)) 54 3 (X 54 3 + 1)) 54 4 = 0 := by rw [upM_n (Or.inr (by decide)), upM_n (Or.inr (by decide)), hx.2]
    have w2 : (upM (upM X 54 6 (if z = 45 then -1 else 1)) 54 3 (X 54 3 + 1)) 54 2 = X 54 2 := by rw [upM_n (Or.inr (by decide)), upM_n (Or.inr (by decide))]
    have w5 : (upM (upM X 54 6 (if z = 45 then -1 else 1)) 54 3 (X 54 3 + 1)) 54 5 = X 54 5 := by rw [upM_n (Or.inr (by decide)), upM_n (Or.inr (by decide))]
    have w56 : ∀ j, (upM (upM X 54 6 (if z = 45 then -1 else 1)) 54 3 (X 54 3 + 1)) 56 j = X 56 j := fun j => by rw [upM_n (Or.inl (by decide)), upM_n (Or.inl (by decide))]
    have w6 : (upM (upM X 54 6 (if z = 45 then -1 else 1)) 54 3 (X 54 3 + 1)) 54 6 = if z = 45 then -1 else 1 := by rw [upM_n (Or.inr (by decide)), upM_s]
    generalize upM (upM X 54 6 (if z = 45 then -1 else 1)) 54 3 (X 54 3 + 1) = W at *
    have eE : endX W = W := by unfold endX; rw [w3, w4, if_neg (by decide)]
    rw [eE]
    exact h.mid hk (fun q hq => by rw [upM_o hq, upM_o hq]) (by simp [upM]) (by rw [h2]; exact upM_s _ _ _ _) (a := M 3 3) (b := M 3 4) (g := (if z = 45 then 1 else 0)) (by simp [upM]) (by simp [upM]) (by simp [upM]) w2 (by rw [w3, hx.1]; rfl) (by rw [w4, hx.2]) w5 (fun j _ => w56 j) ⟨by rw [w56, h1]; exact hpt.1, by rw [w56]; exact hpt.2.1, by rw [w56]; exact hpt.2.2.1, by rw [w56]; exact hpt.2.2.2⟩ (fun _ => by rw [w6]; by_cases y : z = 45; rw [if_pos y, if_pos y, if_neg (by decide)]; rw [if_neg y, if_neg y, if_pos rfl])
  · rw [h1] at hpt
    rw [h1, h2] at hx
    have ep : plO X = 4 := by unfold plO; rw [hx.1, hx.2]; rfl
    rw [ep]
    have eC : dgC X 4 z ↔ (0 ≤ z - 48 ∧ z - 48 ≤ 9) := by unfold dgC; rw [if_neg (by decide), if_neg (by decide), if_neg (by decide)]; omega
    have eY : dgY X 4 z = upM X 56 (4 * X 54 2 + 3) (X 54 6 * (z - 48) + 100) := by unfold dgY; rw [if_neg (by decide), if_neg (by decide), if_neg (by decide)]
    rw [eC, eY]
    clear eC eY
    refine ⟨fun c => ⟨_, (rdA_03 h1 h2).mpr ⟨c, rfl⟩, ?_⟩, fun c M2 hA => c ((rdA_03 h1 h2).mp hA).1⟩
    have w3 : (upM (upM X 56 (4 * X 54 2 + 3) (X 54 6 * (z - 48) + 100)) 54 3 (X 54 3 + 1)) 54 3 = 5 := by rw [upM_s, hx.1]; rfl
    have w4 : (upM (upM X 56 (4 * X 54 2 + 3) (X 54 6 * (z - 48) + 100)) 54 3 (X 54 3 + 1)) 54 4 = 0 := by rw [upM_n (Or.inr (by decide)), upM_n (Or.inl (by decide)), hx.2]
    have w2 : (upM (upM X 56 (4 * X 54 2 + 3) (X 54 6 * (z - 48) + 100)) 54 3 (X 54 3 + 1)) 54 2 = X 54 2 := by rw [upM_n (Or.inr (by decide)), upM_n (Or.inl (by decide))]
    have w5 : (upM (upM X 56 (4 * X 54 2 + 3) (X 54 6 * (z - 48) + 100)) 54 3 (X 54 3 + 1)) 54 5 = X 54 5 := by rw [upM_n (Or.inr (by decide)), upM_n (Or.inl (by decide))]
    have w56 : ∀ j, j ≠ 4 * M 4 4 + 3 → (upM (upM X 56 (4 * X 54 2 + 3) (X 54 6 * (z - 48) + 100)) 54 3 (X 54 3 + 1)) 56 j = X 56 j := fun j hj => by rw [upM_n (Or.inl (by decide)), upM_n (Or.inr (by omega))]
    have w7 : (upM (upM X 56 (4 * X 54 2 + 3) (X 54 6 * (z - 48) + 100)) 54 3 (X 54 3 + 1)) 56 (4 * M 4 4 + 3) = X 54 6 * (z - 48) + 100 := by rw [upM_n (Or.inl (by decide)), ← hmn, upM_s]
    generalize upM (upM X 56 (4 * X 54 2 + 3) (X 54 6 * (z - 48) + 100)) 54 3 (X 54 3 + 1) = W at *
    have q3 : upM M 3 5 (if M 3 6 = 0 then z - 48 else -(z - 48)) 3 3 = M 3 3 := by simp [upM]
    have q4 : upM M 3 5 (if M 3 6 = 0 then z - 48 else -(z - 48)) 3 4 = M 3 4 := by simp [upM]
    have q5 : upM M 3 5 (if M 3 6 = 0 then z - 48 else -(z - 48)) 3 5 = (if M 3 6 = 0 then z - 48 else -(z - 48)) := by simp [upM]
    rw [q3, q4, q5]
    have eE : endX W = upM (upM W 54 5 (if W 54 4 = 4 then W 54 2 + 1 else W 54 5)) 54 2 (W 54 2 + 1) := by unfold endX; rw [if_pos (by rw [w3, w4]; rfl)]
    rw [eE, w4, w2, w5]
    have k56 : ∀ j, (upM (upM W 54 5 (if (0 : Int) = 4 then X 54 2 + 1 else X 54 5)) 54 2 (X 54 2 + 1)) 56 j = W 56 j := fun j => by rw [upM_n (Or.inl (by decide)), upM_n (Or.inl (by decide))]
    have hl := RX.last (F := (upM (upM M 3 5 (if M 3 6 = 0 then z - 48 else -(z - 48))) 3 2 4)) (X' := upM (upM W 54 5 (if (0 : Int) = 4 then X 54 2 + 1 else X 54 5)) 54 2 (X 54 2 + 1)) hR h (fun q hq => by rw [upM_o hq, upM_o hq]) (by simp [upM]) (by rw [h1, fml_0]; exact upM_s _ _ _ _) hk (a := M 3 3) (b := M 3 4) (c := (if M 3 6 = 0 then z - 48 else -(z - 48))) (upM_s _ _ _ _) (by rw [upM_n (Or.inr (by decide)), upM_n (Or.inr (by decide)), w3, h1, fml_0]; rfl) (by rw [upM_n (Or.inr (by decide)), upM_n (Or.inr (by decide)), w4, h1]) (by rw [upM_n (Or.inr (by decide)), upM_s, h1]) (fun j hj => by rw [k56, w56 _ (by omega)]) ⟨by rw [k56, w56 _ (by omega), h1]; exact hpt.1, by rw [k56, w56 _ (by omega)]; exact hpt.2.1, by rw [k56, w56 _ (by omega)]; exact hpt.2.2.1, by rw [k56, w7, hsg (by omega), h1, nm_0]; by_cases y : M 3 6 = 0; rw [if_pos y, if_pos y]; omega; rw [if_neg y, if_neg y]; omega⟩
    rw [h1] at hl
    exact hl
  · rw [h1] at hpt
    rw [h1, h2] at hx
    have ep : plO X = 1 := by unfold plO; rw [hx.1, hx.2]; rfl
    rw [ep]
    have eC : dgC X 1 z ↔ (0 ≤ z - 48 ∧ z - 48 < 3) := by unfold dgC; rw [if_pos rfl]; rw [hx.2, if_neg (by decide), if_neg (by decide)]; omega
    have eY : dgY X 1 z = upM X 56 (4 * X 54 2 + 1) (z - 48) := by unfold dgY; rw [if_pos rfl]
    rw [eC, eY]
    clear eC eY
    refine ⟨fun c => ⟨_, (rdA_10 h1 h2).mpr ⟨c, rfl⟩, ?_⟩, fun c M2 hA => c ((rdA_10 h1 h2).mp hA).1⟩
    have w3 : (upM (upM X 56 (4 * X 54 2 + 1) (z - 48)) 54 3 (X 54 3 + 1)) 54 3 = 2 := by rw [upM_s, hx.1]; rfl
    have w4 : (upM (upM X 56 (4 * X 54 2 + 1) (z - 48)) 54 3 (X 54 3 + 1)) 54 4 = 1 := by rw [upM_n (Or.inr (by decide)), upM_n (Or.inl (by decide)), hx.2]
    have w2 : (upM (upM X 56 (4 * X 54 2 + 1) (z - 48)) 54 3 (X 54 3 + 1)) 54 2 = X 54 2 := by rw [upM_n (Or.inr (by decide)), upM_n (Or.inl (by decide))]
    have w5 : (upM (upM X 56 (4 * X 54 2 + 1) (z - 48)) 54 3 (X 54 3 + 1)) 54 5 = X 54 5 := by rw [upM_n (Or.inr (by decide)), upM_n (Or.inl (by decide))]
    have w56 : ∀ j, j ≠ 4 * M 4 4 + 1 → (upM (upM X 56 (4 * X 54 2 + 1) (z - 48)) 54 3 (X 54 3 + 1)) 56 j = X 56 j := fun j hj => by rw [upM_n (Or.inl (by decide)), upM_n (Or.inr (by omega))]
    have w7 : (upM (upM X 56 (4 * X 54 2 + 1) (z - 48)) 54 3 (X 54 3 + 1)) 56 (4 * M 4 4 + 1) = z - 48 := by rw [upM_n (Or.inl (by decide)), ← hmn, upM_s]
    generalize upM (upM X 56 (4 * X 54 2 + 1) (z - 48)) 54 3 (X 54 3 + 1) = W at *
    have eE : endX W = W := by unfold endX; rw [w3, w4, if_neg (by decide)]
    rw [eE]
    exact h.mid hk (fun q hq => by rw [upM_o hq, upM_o hq]) (by simp [upM]) (by rw [h2]; exact upM_s _ _ _ _) (a := (z - 48)) (b := M 3 4) (g := M 3 6) (by simp [upM]) (by simp [upM]) (by simp [upM]) w2 (by rw [w3, hx.1]; rfl) (by rw [w4, hx.2]) w5 (fun j hj => w56 j (by omega)) ⟨by rw [w56 _ (by omega), h1]; exact hpt.1, w7, by rw [w56 _ (by omega)]; exact hpt.2.2.1, by rw [w56 _ (by omega)]; exact hpt.2.2.2⟩ (fun y => by omega)
  · rw [h1] at hpt
    rw [h1, h2] at hx
    have ep : plO X = 2 := by unfold plO; rw [hx.1, hx.2]; rfl
    rw [ep]
    have eC : dgC X 2 z ↔ (0 ≤ z - 48 ∧ z - 48 < 6) := by unfold dgC; rw [if_neg (by decide), if_pos rfl]; omega
    have eY : dgY X 2 z = upM X 56 (4 * X 54 2 + 2) (z - 48) := by unfold dgY; rw [if_neg (by decide), if_pos rfl]
    rw [eC, eY]
    clear eC eY
    refine ⟨fun c => ⟨_, (rdA_11 h1 h2).mpr ⟨c, rfl⟩, ?_⟩, fun c M2 hA => c ((rdA_11 h1 h2).mp hA).1⟩
    have w3 : (upM (upM X 56 (4 * X 54 2 + 2) (z - 48)) 54 3 (X 54 3 + 1)) 54 3 = 3 := by rw [upM_s, hx.1]; rfl
    have w4 : (upM (upM X 56 (4 * X 54 2 + 2) (z - 48)) 54 3 (X 54 3 + 1)) 54 4 = 1 := by rw [upM_n (Or.inr (by decide)), upM_n (Or.inl (by decide)), hx.2]
    have w2 : (upM (upM X 56 (4 * X 54 2 + 2) (z - 48)) 54 3 (X 54 3 + 1)) 54 2 = X 54 2 := by rw [upM_n (Or.inr (by decide)), upM_n (Or.inl (by decide))]
    have w5 : (upM (upM X 56 (4 * X 54 2 + 2) (z - 48)) 54 3 (X 54 3 + 1)) 54 5 = X 54 5 := by rw [upM_n (Or.inr (by decide)), upM_n (Or.inl (by decide))]
    have w56 : ∀ j, j ≠ 4 * M 4 4 + 2 → (upM (upM X 56 (4 * X 54 2 + 2) (z - 48)) 54 3 (X 54 3 + 1)) 56 j = X 56 j := fun j hj => by rw [upM_n (Or.inl (by decide)), upM_n (Or.inr (by omega))]
    have w7 : (upM (upM X 56 (4 * X 54 2 + 2) (z - 48)) 54 3 (X 54 3 + 1)) 56 (4 * M 4 4 + 2) = z - 48 := by rw [upM_n (Or.inl (by decide)), ← hmn, upM_s]
    generalize upM (upM X 56 (4 * X 54 2 + 2) (z - 48)) 54 3 (X 54 3 + 1) = W at *
    have eE : endX W = W := by unfold endX; rw [w3, w4, if_neg (by decide)]
    rw [eE]
    exact h.mid hk (fun q hq => by rw [upM_o hq, upM_o hq]) (by simp [upM]) (by rw [h2]; exact upM_s _ _ _ _) (a := M 3 3) (b := (z - 48)) (g := M 3 6) (by simp [upM]) (by simp [upM]) (by simp [upM]) w2 (by rw [w3, hx.1]; rfl) (by rw [w4, hx.2]) w5 (fun j hj => w56 j (by omega)) ⟨by rw [w56 _ (by omega), h1]; exact hpt.1, by rw [w56 _ (by omega)]; exact hpt.2.1, w7, by rw [w56 _ (by omega)]; exact hpt.2.2.2⟩ (fun y => by omega)
  · rw [h1] at hpt
    rw [h1, h2] at hx
    have ep : plO X = 3 := by unfold plO; rw [hx.1, hx.2]; rfl
    rw [ep]
    have eC : dgC X 3 z ↔ (z = 43 ∨ z = 45) := by unfold dgC; rw [if_neg (by decide), if_neg (by decide), if_pos rfl]
    have eY : dgY X 3 z = upM X 54 6 (if z = 45 then -1 else 1) := by unfold dgY; rw [if_neg (by decide), if_neg (by decide), if_pos rfl]
    rw [eC, eY]
    clear eC eY
    refine ⟨fun c => ⟨_, (rdA_12 h1 h2).mpr ⟨c, rfl⟩, ?_⟩, fun c M2 hA => c ((rdA_12 h1 h2).mp hA).1⟩
    have w3 : (upM (upM X 54 6 (if z = 45 then -1 else 1)) 54 3 (X 54 3 + 1)) 54 3 = 4 := by rw [upM_s, hx.1]; rfl
    have w4 : (upM (upM X 54 6 (if z = 45 then -1 else 1)) 54 3 (X 54 3 + 1)) 54 4 = 1 := by rw [upM_n (Or.inr (by decide)), upM_n (Or.inr (by decide)), hx.2]
    have w2 : (upM (upM X 54 6 (if z = 45 then -1 else 1)) 54 3 (X 54 3 + 1)) 54 2 = X 54 2 := by rw [upM_n (Or.inr (by decide)), upM_n (Or.inr (by decide))]
    have w5 : (upM (upM X 54 6 (if z = 45 then -1 else 1)) 54 3 (X 54 3 + 1)) 54 5 = X 54 5 := by rw [upM_n (Or.inr (by decide)), upM_n (Or.inr (by decide))]
    have w56 : ∀ j, (upM (upM X 54 6 (if z = 45 then -1 else 1)) 54 3 (X 54 3 + 1)) 56 j = X 56 j := fun j => by rw [upM_n (Or.inl (by decide)), upM_n (Or.inl (by decide))]
    have w6 : (upM (upM X 54 6 (if z = 45 then -1 else 1)) 54 3 (X 54 3 + 1)) 54 6 = if z = 45 then -1 else 1 := by rw [upM_n (Or.inr (by decide)), upM_s]
    generalize upM (upM X 54 6 (if z = 45 then -1 else 1)) 54 3 (X 54 3 + 1) = W at *
    have eE : endX W = W := by unfold endX; rw [w3, w4, if_neg (by decide)]
    rw [eE]
    exact h.mid hk (fun q hq => by rw [upM_o hq, upM_o hq]) (by simp [upM]) (by rw [h2]; exact upM_s _ _ _ _) (a := M 3 3) (b := M 3 4) (g := (if z = 45 then 1 else 0)) (by simp [upM]) (by simp [upM]) (by simp [upM]) w2 (by rw [w3, hx.1]; rfl) (by rw [w4, hx.2]) w5 (fun j _ => w56 j) ⟨by rw [w56, h1]; exact hpt.1, by rw [w56]; exact hpt.2.1, by rw [w56]; exact hpt.2.2.1, by rw [w56]; exact hpt.2.2.2⟩ (fun _ => by rw [w6]; by_cases y : z = 45; rw [if_pos y, if_pos y, if_neg (by decide)]; rw [if_neg y, if_neg y, if_pos rfl])
  · rw [h1] at hpt
    rw [h1, h2] at hx
    have ep : plO X = 4 := by unfold plO; rw [hx.1, hx.2]; rfl
    rw [ep]
    have eC : dgC X 4 z ↔ (0 ≤ z - 48 ∧ z - 48 ≤ 9) := by unfold dgC; rw [if_neg (by decide), if_neg (by decide), if_neg (by decide)]; omega
    have eY : dgY X 4 z = upM X 56 (4 * X 54 2 + 3) (X 54 6 * (z - 48) + 100) := by unfold dgY; rw [if_neg (by decide), if_neg (by decide), if_neg (by decide)]
    rw [eC, eY]
    clear eC eY
    refine ⟨fun c => ⟨_, (rdA_13 h1 h2).mpr ⟨c, rfl⟩, ?_⟩, fun c M2 hA => c ((rdA_13 h1 h2).mp hA).1⟩
    have w3 : (upM (upM X 56 (4 * X 54 2 + 3) (X 54 6 * (z - 48) + 100)) 54 3 (X 54 3 + 1)) 54 3 = 5 := by rw [upM_s, hx.1]; rfl
    have w4 : (upM (upM X 56 (4 * X 54 2 + 3) (X 54 6 * (z - 48) + 100)) 54 3 (X 54 3 + 1)) 54 4 = 1 := by rw [upM_n (Or.inr (by decide)), upM_n (Or.inl (by decide)), hx.2]
    have w2 : (upM (upM X 56 (4 * X 54 2 + 3) (X 54 6 * (z - 48) + 100)) 54 3 (X 54 3 + 1)) 54 2 = X 54 2 := by rw [upM_n (Or.inr (by decide)), upM_n (Or.inl (by decide))]
    have w5 : (upM (upM X 56 (4 * X 54 2 + 3) (X 54 6 * (z - 48) + 100)) 54 3 (X 54 3 + 1)) 54 5 = X 54 5 := by rw [upM_n (Or.inr (by decide)), upM_n (Or.inl (by decide))]
    have w56 : ∀ j, j ≠ 4 * M 4 4 + 3 → (upM (upM X 56 (4 * X 54 2 + 3) (X 54 6 * (z - 48) + 100)) 54 3 (X 54 3 + 1)) 56 j = X 56 j := fun j hj => by rw [upM_n (Or.inl (by decide)), upM_n (Or.inr (by omega))]
    have w7 : (upM (upM X 56 (4 * X 54 2 + 3) (X 54 6 * (z - 48) + 100)) 54 3 (X 54 3 + 1)) 56 (4 * M 4 4 + 3) = X 54 6 * (z - 48) + 100 := by rw [upM_n (Or.inl (by decide)), ← hmn, upM_s]
    generalize upM (upM X 56 (4 * X 54 2 + 3) (X 54 6 * (z - 48) + 100)) 54 3 (X 54 3 + 1) = W at *
    have q3 : upM M 3 5 (if M 3 6 = 0 then z - 48 else -(z - 48)) 3 3 = M 3 3 := by simp [upM]
    have q4 : upM M 3 5 (if M 3 6 = 0 then z - 48 else -(z - 48)) 3 4 = M 3 4 := by simp [upM]
    have q5 : upM M 3 5 (if M 3 6 = 0 then z - 48 else -(z - 48)) 3 5 = (if M 3 6 = 0 then z - 48 else -(z - 48)) := by simp [upM]
    rw [q3, q4, q5]
    have eE : endX W = upM (upM W 54 5 (if W 54 4 = 4 then W 54 2 + 1 else W 54 5)) 54 2 (W 54 2 + 1) := by unfold endX; rw [if_pos (by rw [w3, w4]; rfl)]
    rw [eE, w4, w2, w5]
    have k56 : ∀ j, (upM (upM W 54 5 (if (1 : Int) = 4 then X 54 2 + 1 else X 54 5)) 54 2 (X 54 2 + 1)) 56 j = W 56 j := fun j => by rw [upM_n (Or.inl (by decide)), upM_n (Or.inl (by decide))]
    have hl := RX.last (F := (upM (upM M 3 5 (if M 3 6 = 0 then z - 48 else -(z - 48))) 3 2 4)) (X' := upM (upM W 54 5 (if (1 : Int) = 4 then X 54 2 + 1 else X 54 5)) 54 2 (X 54 2 + 1)) hR h (fun q hq => by rw [upM_o hq, upM_o hq]) (by simp [upM]) (by rw [h1, fml_1]; exact upM_s _ _ _ _) hk (a := M 3 3) (b := M 3 4) (c := (if M 3 6 = 0 then z - 48 else -(z - 48))) (upM_s _ _ _ _) (by rw [upM_n (Or.inr (by decide)), upM_n (Or.inr (by decide)), w3, h1, fml_1]; rfl) (by rw [upM_n (Or.inr (by decide)), upM_n (Or.inr (by decide)), w4, h1]) (by rw [upM_n (Or.inr (by decide)), upM_s, h1]) (fun j hj => by rw [k56, w56 _ (by omega)]) ⟨by rw [k56, w56 _ (by omega), h1]; exact hpt.1, by rw [k56, w56 _ (by omega)]; exact hpt.2.1, by rw [k56, w56 _ (by omega)]; exact hpt.2.2.1, by rw [k56, w7, hsg (by omega), h1, nm_1]; by_cases y : M 3 6 = 0; rw [if_pos y, if_pos y]; omega; rw [if_neg y, if_neg y]; omega⟩
    rw [h1] at hl
    exact hl
  · rw [h1] at hpt
    rw [h1, h2] at hx
    have ep : plO X = 1 := by unfold plO; rw [hx.1, hx.2]; rfl
    rw [ep]
    have eC : dgC X 1 z ↔ (0 ≤ z - 48 ∧ z - 48 < 3) := by unfold dgC; rw [if_pos rfl]; rw [hx.2, if_neg (by decide), if_neg (by decide)]; omega
    have eY : dgY X 1 z = upM X 56 (4 * X 54 2 + 1) (z - 48) := by unfold dgY; rw [if_pos rfl]
    rw [eC, eY]
    clear eC eY
    refine ⟨fun c => ⟨_, (rdA_20 h1 h2).mpr ⟨c, rfl⟩, ?_⟩, fun c M2 hA => c ((rdA_20 h1 h2).mp hA).1⟩
    have w3 : (upM (upM X 56 (4 * X 54 2 + 1) (z - 48)) 54 3 (X 54 3 + 1)) 54 3 = 2 := by rw [upM_s, hx.1]; rfl
    have w4 : (upM (upM X 56 (4 * X 54 2 + 1) (z - 48)) 54 3 (X 54 3 + 1)) 54 4 = 2 := by rw [upM_n (Or.inr (by decide)), upM_n (Or.inl (by decide)), hx.2]
    have w2 : (upM (upM X 56 (4 * X 54 2 + 1) (z - 48)) 54 3 (X 54 3 + 1)) 54 2 = X 54 2 := by rw [upM_n (Or.inr (by decide)), upM_n (Or.inl (by decide))]
    have w5 : (upM (upM X 56 (4 * X 54 2 + 1) (z - 48)) 54 3 (X 54 3 + 1)) 54 5 = X 54 5 := by rw [upM_n (Or.inr (by decide)), upM_n (Or.inl (by decide))]
    have w56 : ∀ j, j ≠ 4 * M 4 4 + 1 → (upM (upM X 56 (4 * X 54 2 + 1) (z - 48)) 54 3 (X 54 3 + 1)) 56 j = X 56 j := fun j hj => by rw [upM_n (Or.inl (by decide)), upM_n (Or.inr (by omega))]
    have w7 : (upM (upM X 56 (4 * X 54 2 + 1) (z - 48)) 54 3 (X 54 3 + 1)) 56 (4 * M 4 4 + 1) = z - 48 := by rw [upM_n (Or.inl (by decide)), ← hmn, upM_s]
    generalize upM (upM X 56 (4 * X 54 2 + 1) (z - 48)) 54 3 (X 54 3 + 1) = W at *
    have q3 : upM M 3 3 (z - 48) 3 3 = (z - 48) := by simp [upM]
    have q4 : upM M 3 3 (z - 48) 3 4 = M 3 4 := by simp [upM]
    have q5 : upM M 3 3 (z - 48) 3 5 = M 3 5 := by simp [upM]
    rw [q3, q4, q5]
    have eE : endX W = upM (upM W 54 5 (if W 54 4 = 4 then W 54 2 + 1 else W 54 5)) 54 2 (W 54 2 + 1) := by unfold endX; rw [if_pos (by rw [w3, w4]; rfl)]
    rw [eE, w4, w2, w5]
    have k56 : ∀ j, (upM (upM W 54 5 (if (2 : Int) = 4 then X 54 2 + 1 else X 54 5)) 54 2 (X 54 2 + 1)) 56 j = W 56 j := fun j => by rw [upM_n (Or.inl (by decide)), upM_n (Or.inl (by decide))]
    have hl := RX.last (F := (upM (upM M 3 3 (z - 48)) 3 2 1)) (X' := upM (upM W 54 5 (if (2 : Int) = 4 then X 54 2 + 1 else X 54 5)) 54 2 (X 54 2 + 1)) hR h (fun q hq => by rw [upM_o hq, upM_o hq]) (by simp [upM]) (by rw [h1, fml_2]; exact upM_s _ _ _ _) hk (a := (z - 48)) (b := M 3 4) (c := M 3 5) (upM_s _ _ _ _) (by rw [upM_n (Or.inr (by decide)), upM_n (Or.inr (by decide)), w3, h1, fml_2]; rfl) (by rw [upM_n (Or.inr (by decide)), upM_n (Or.inr (by decide)), w4, h1]) (by rw [upM_n (Or.inr (by decide)), upM_s, h1]) (fun j hj => by rw [k56, w56 _ (by omega)]) ⟨by rw [k56, w56 _ (by omega), h1]; exact hpt.1, by rw [k56, w7], by rw [k56, w56 _ (by omega)]; exact hpt.2.2.1, by rw [k56, w56 _ (by omega), h1]; exact hpt.2.2.2⟩
    rw [h1] at hl
    exact hl
  · rw [h1] at hpt
    rw [h1, h2] at hx
    have ep : plO X = 1 := by unfold plO; rw [hx.1, hx.2]; rfl
    rw [ep]
    have eC : dgC X 1 z ↔ (0 ≤ z - 48 ∧ z - 48 < 3) := by unfold dgC; rw [if_pos rfl]; rw [hx.2, if_neg (by decide), if_neg (by decide)]; omega
    have eY : dgY X 1 z = upM X 56 (4 * X 54 2 + 1) (z - 48) := by unfold dgY; rw [if_pos rfl]
    rw [eC, eY]
    clear eC eY
    refine ⟨fun c => ⟨_, (rdA_30 h1 h2).mpr ⟨c, rfl⟩, ?_⟩, fun c M2 hA => c ((rdA_30 h1 h2).mp hA).1⟩
    have w3 : (upM (upM X 56 (4 * X 54 2 + 1) (z - 48)) 54 3 (X 54 3 + 1)) 54 3 = 2 := by rw [upM_s, hx.1]; rfl
    have w4 : (upM (upM X 56 (4 * X 54 2 + 1) (z - 48)) 54 3 (X 54 3 + 1)) 54 4 = 3 := by rw [upM_n (Or.inr (by decide)), upM_n (Or.inl (by decide)), hx.2]
    have w2 : (upM (upM X 56 (4 * X 54 2 + 1) (z - 48)) 54 3 (X 54 3 + 1)) 54 2 = X 54 2 := by rw [upM_n (Or.inr (by decide)), upM_n (Or.inl (by decide))]
    have w5 : (upM (upM X 56 (4 * X 54 2 + 1) (z - 48)) 54 3 (X 54 3 + 1)) 54 5 = X 54 5 := by rw [upM_n (Or.inr (by decide)), upM_n (Or.inl (by decide))]
    have w56 : ∀ j, j ≠ 4 * M 4 4 + 1 → (upM (upM X 56 (4 * X 54 2 + 1) (z - 48)) 54 3 (X 54 3 + 1)) 56 j = X 56 j := fun j hj => by rw [upM_n (Or.inl (by decide)), upM_n (Or.inr (by omega))]
    have w7 : (upM (upM X 56 (4 * X 54 2 + 1) (z - 48)) 54 3 (X 54 3 + 1)) 56 (4 * M 4 4 + 1) = z - 48 := by rw [upM_n (Or.inl (by decide)), ← hmn, upM_s]
    generalize upM (upM X 56 (4 * X 54 2 + 1) (z - 48)) 54 3 (X 54 3 + 1) = W at *
    have eE : endX W = W := by unfold endX; rw [w3, w4, if_neg (by decide)]
    rw [eE]
    exact h.mid hk (fun q hq => by rw [upM_o hq, upM_o hq]) (by simp [upM]) (by rw [h2]; exact upM_s _ _ _ _) (a := (z - 48)) (b := M 3 4) (g := M 3 6) (by simp [upM]) (by simp [upM]) (by simp [upM]) w2 (by rw [w3, hx.1]; rfl) (by rw [w4, hx.2]) w5 (fun j hj => w56 j (by omega)) ⟨by rw [w56 _ (by omega), h1]; exact hpt.1, w7, by rw [w56 _ (by omega)]; exact hpt.2.2.1, by rw [w56 _ (by omega)]; exact hpt.2.2.2⟩ (fun y => by omega)
  · rw [h1] at hpt
    rw [h1, h2] at hx
    have ep : plO X = 3 := by unfold plO; rw [hx.1, hx.2]; rfl
    rw [ep]
    have eC : dgC X 3 z ↔ (z = 43 ∨ z = 45) := by unfold dgC; rw [if_neg (by decide), if_neg (by decide), if_pos rfl]
    have eY : dgY X 3 z = upM X 54 6 (if z = 45 then -1 else 1) := by unfold dgY; rw [if_neg (by decide), if_neg (by decide), if_pos rfl]
    rw [eC, eY]
    clear eC eY
    refine ⟨fun c => ⟨_, (rdA_31 h1 h2).mpr ⟨c, rfl⟩, ?_⟩, fun c M2 hA => c ((rdA_31 h1 h2).mp hA).1⟩
    have w3 : (upM (upM X 54 6 (if z = 45 then -1 else 1)) 54 3 (X 54 3 + 1)) 54 3 = 3 := by rw [upM_s, hx.1]; rfl
    have w4 : (upM (upM X 54 6 (if z = 45 then -1 else 1)) 54 3 (X 54 3 + 1)) 54 4 = 3 := by rw [upM_n (Or.inr (by decide)), upM_n (Or.inr (by decide)), hx.2]
    have w2 : (upM (upM X 54 6 (if z = 45 then -1 else 1)) 54 3 (X 54 3 + 1)) 54 2 = X 54 2 := by rw [upM_n (Or.inr (by decide)), upM_n (Or.inr (by decide))]
    have w5 : (upM (upM X 54 6 (if z = 45 then -1 else 1)) 54 3 (X 54 3 + 1)) 54 5 = X 54 5 := by rw [upM_n (Or.inr (by decide)), upM_n (Or.inr (by decide))]
    have w56 : ∀ j, (upM (upM X 54 6 (if z = 45 then -1 else 1)) 54 3 (X 54 3 + 1)) 56 j = X 56 j := fun j => by rw [upM_n (Or.inl (by decide)), upM_n (Or.inl (by decide))]
    have w6 : (upM (upM X 54 6 (if z = 45 then -1 else 1)) 54 3 (X 54 3 + 1)) 54 6 = if z = 45 then -1 else 1 := by rw [upM_n (Or.inr (by decide)), upM_s]
    generalize upM (upM X 54 6 (if z = 45 then -1 else 1)) 54 3 (X 54 3 + 1) = W at *
    have eE : endX W = W := by unfold endX; rw [w3, w4, if_neg (by decide)]
    rw [eE]
    exact h.mid hk (fun q hq => by rw [upM_o hq, upM_o hq]) (by simp [upM]) (by rw [h2]; exact upM_s _ _ _ _) (a := M 3 3) (b := M 3 4) (g := (if z = 45 then 1 else 0)) (by simp [upM]) (by simp [upM]) (by simp [upM]) w2 (by rw [w3, hx.1]; rfl) (by rw [w4, hx.2]) w5 (fun j _ => w56 j) ⟨by rw [w56, h1]; exact hpt.1, by rw [w56]; exact hpt.2.1, by rw [w56]; exact hpt.2.2.1, by rw [w56]; exact hpt.2.2.2⟩ (fun _ => by rw [w6]; by_cases y : z = 45; rw [if_pos y, if_pos y, if_neg (by decide)]; rw [if_neg y, if_neg y, if_pos rfl])
  · rw [h1] at hpt
    rw [h1, h2] at hx
    have ep : plO X = 4 := by unfold plO; rw [hx.1, hx.2]; rfl
    rw [ep]
    have eC : dgC X 4 z ↔ (0 ≤ z - 48 ∧ z - 48 ≤ 9) := by unfold dgC; rw [if_neg (by decide), if_neg (by decide), if_neg (by decide)]; omega
    have eY : dgY X 4 z = upM X 56 (4 * X 54 2 + 3) (X 54 6 * (z - 48) + 100) := by unfold dgY; rw [if_neg (by decide), if_neg (by decide), if_neg (by decide)]
    rw [eC, eY]
    clear eC eY
    refine ⟨fun c => ⟨_, (rdA_32 h1 h2).mpr ⟨c, rfl⟩, ?_⟩, fun c M2 hA => c ((rdA_32 h1 h2).mp hA).1⟩
    have w3 : (upM (upM X 56 (4 * X 54 2 + 3) (X 54 6 * (z - 48) + 100)) 54 3 (X 54 3 + 1)) 54 3 = 4 := by rw [upM_s, hx.1]; rfl
    have w4 : (upM (upM X 56 (4 * X 54 2 + 3) (X 54 6 * (z - 48) + 100)) 54 3 (X 54 3 + 1)) 54 4 = 3 := by rw [upM_n (Or.inr (by decide)), upM_n (Or.inl (by decide)), hx.2]
    have w2 : (upM (upM X 56 (4 * X 54 2 + 3) (X 54 6 * (z - 48) + 100)) 54 3 (X 54 3 + 1)) 54 2 = X 54 2 := by rw [upM_n (Or.inr (by decide)), upM_n (Or.inl (by decide))]
    have w5 : (upM (upM X 56 (4 * X 54 2 + 3) (X 54 6 * (z - 48) + 100)) 54 3 (X 54 3 + 1)) 54 5 = X 54 5 := by rw [upM_n (Or.inr (by decide)), upM_n (Or.inl (by decide))]
    have w56 : ∀ j, j ≠ 4 * M 4 4 + 3 → (upM (upM X 56 (4 * X 54 2 + 3) (X 54 6 * (z - 48) + 100)) 54 3 (X 54 3 + 1)) 56 j = X 56 j := fun j hj => by rw [upM_n (Or.inl (by decide)), upM_n (Or.inr (by omega))]
    have w7 : (upM (upM X 56 (4 * X 54 2 + 3) (X 54 6 * (z - 48) + 100)) 54 3 (X 54 3 + 1)) 56 (4 * M 4 4 + 3) = X 54 6 * (z - 48) + 100 := by rw [upM_n (Or.inl (by decide)), ← hmn, upM_s]
    generalize upM (upM X 56 (4 * X 54 2 + 3) (X 54 6 * (z - 48) + 100)) 54 3 (X 54 3 + 1) = W at *
    have q3 : upM M 3 5 (if M 3 6 = 0 then z - 48 else -(z - 48)) 3 3 = M 3 3 := by simp [upM]
    have q4 : upM M 3 5 (if M 3 6 = 0 then z - 48 else -(z - 48)) 3 4 = M 3 4 := by simp [upM]
    have q5 : upM M 3 5 (if M 3 6 = 0 then z - 48 else -(z - 48)) 3 5 = (if M 3 6 = 0 then z - 48 else -(z - 48)) := by simp [upM]
    rw [q3, q4, q5]
    have eE : endX W = upM (upM W 54 5 (if W 54 4 = 4 then W 54 2 + 1 else W 54 5)) 54 2 (W 54 2 + 1) := by unfold endX; rw [if_pos (by rw [w3, w4]; rfl)]
    rw [eE, w4, w2, w5]
    have k56 : ∀ j, (upM (upM W 54 5 (if (3 : Int) = 4 then X 54 2 + 1 else X 54 5)) 54 2 (X 54 2 + 1)) 56 j = W 56 j := fun j => by rw [upM_n (Or.inl (by decide)), upM_n (Or.inl (by decide))]
    have hl := RX.last (F := (upM (upM M 3 5 (if M 3 6 = 0 then z - 48 else -(z - 48))) 3 2 3)) (X' := upM (upM W 54 5 (if (3 : Int) = 4 then X 54 2 + 1 else X 54 5)) 54 2 (X 54 2 + 1)) hR h (fun q hq => by rw [upM_o hq, upM_o hq]) (by simp [upM]) (by rw [h1, fml_3]; exact upM_s _ _ _ _) hk (a := M 3 3) (b := M 3 4) (c := (if M 3 6 = 0 then z - 48 else -(z - 48))) (upM_s _ _ _ _) (by rw [upM_n (Or.inr (by decide)), upM_n (Or.inr (by decide)), w3, h1, fml_3]; rfl) (by rw [upM_n (Or.inr (by decide)), upM_n (Or.inr (by decide)), w4, h1]) (by rw [upM_n (Or.inr (by decide)), upM_s, h1]) (fun j hj => by rw [k56, w56 _ (by omega)]) ⟨by rw [k56, w56 _ (by omega), h1]; exact hpt.1, by rw [k56, w56 _ (by omega)]; exact hpt.2.1, by rw [k56, w56 _ (by omega)]; exact hpt.2.2.1, by rw [k56, w7, hsg (by omega), h1, nm_3]; by_cases y : M 3 6 = 0; rw [if_pos y, if_pos y]; omega; rw [if_neg y, if_neg y]; omega⟩
    rw [h1] at hl
    exact hl
  · rw [h1] at hpt
    rw [h1, h2] at hx
    have ep : plO X = 1 := by unfold plO; rw [hx.1, hx.2]; rfl
    rw [ep]
    have eC : dgC X 1 z ↔ (bllM M ≤ z - 48 ∧ z - 48 < M 4 4) := by unfold dgC; rw [if_pos rfl]; rw [hx.2, if_pos rfl]; omega
    have eY : dgY X 1 z = upM X 56 (4 * X 54 2 + 1) (z - 48) := by unfold dgY; rw [if_pos rfl]
    rw [eC, eY]
    clear eC eY
    refine ⟨fun c => ⟨_, (rdA_40 h1 h2).mpr ⟨c, rfl⟩, ?_⟩, fun c M2 hA => c ((rdA_40 h1 h2).mp hA).1⟩
    have w3 : (upM (upM X 56 (4 * X 54 2 + 1) (z - 48)) 54 3 (X 54 3 + 1)) 54 3 = 2 := by rw [upM_s, hx.1]; rfl
    have w4 : (upM (upM X 56 (4 * X 54 2 + 1) (z - 48)) 54 3 (X 54 3 + 1)) 54 4 = 4 := by rw [upM_n (Or.inr (by decide)), upM_n (Or.inl (by decide)), hx.2]
    have w2 : (upM (upM X 56 (4 * X 54 2 + 1) (z - 48)) 54 3 (X 54 3 + 1)) 54 2 = X 54 2 := by rw [upM_n (Or.inr (by decide)), upM_n (Or.inl (by decide))]
    have w5 : (upM (upM X 56 (4 * X 54 2 + 1) (z - 48)) 54 3 (X 54 3 + 1)) 54 5 = X 54 5 := by rw [upM_n (Or.inr (by decide)), upM_n (Or.inl (by decide))]
    have w56 : ∀ j, j ≠ 4 * M 4 4 + 1 → (upM (upM X 56 (4 * X 54 2 + 1) (z - 48)) 54 3 (X 54 3 + 1)) 56 j = X 56 j := fun j hj => by rw [upM_n (Or.inl (by decide)), upM_n (Or.inr (by omega))]
    have w7 : (upM (upM X 56 (4 * X 54 2 + 1) (z - 48)) 54 3 (X 54 3 + 1)) 56 (4 * M 4 4 + 1) = z - 48 := by rw [upM_n (Or.inl (by decide)), ← hmn, upM_s]
    generalize upM (upM X 56 (4 * X 54 2 + 1) (z - 48)) 54 3 (X 54 3 + 1) = W at *
    have q3 : upM M 3 3 (z - 48) 3 3 = (z - 48) := by simp [upM]
    have q4 : upM M 3 3 (z - 48) 3 4 = M 3 4 := by simp [upM]
    have q5 : upM M 3 3 (z - 48) 3 5 = M 3 5 := by simp [upM]
    rw [q3, q4, q5]
    have eE : endX W = upM (upM W 54 5 (if W 54 4 = 4 then W 54 2 + 1 else W 54 5)) 54 2 (W 54 2 + 1) := by unfold endX; rw [if_pos (by rw [w3, w4]; rfl)]
    rw [eE, w4, w2, w5]
    have k56 : ∀ j, (upM (upM W 54 5 (if (4 : Int) = 4 then X 54 2 + 1 else X 54 5)) 54 2 (X 54 2 + 1)) 56 j = W 56 j := fun j => by rw [upM_n (Or.inl (by decide)), upM_n (Or.inl (by decide))]
    have hl := RX.last (F := (upM (upM M 3 3 (z - 48)) 3 2 1)) (X' := upM (upM W 54 5 (if (4 : Int) = 4 then X 54 2 + 1 else X 54 5)) 54 2 (X 54 2 + 1)) hR h (fun q hq => by rw [upM_o hq, upM_o hq]) (by simp [upM]) (by rw [h1, fml_4]; exact upM_s _ _ _ _) hk (a := (z - 48)) (b := M 3 4) (c := M 3 5) (upM_s _ _ _ _) (by rw [upM_n (Or.inr (by decide)), upM_n (Or.inr (by decide)), w3, h1, fml_4]; rfl) (by rw [upM_n (Or.inr (by decide)), upM_n (Or.inr (by decide)), w4, h1]) (by rw [upM_n (Or.inr (by decide)), upM_s, h1]) (fun j hj => by rw [k56, w56 _ (by omega)]) ⟨by rw [k56, w56 _ (by omega), h1]; exact hpt.1, by rw [k56, w7], by rw [k56, w56 _ (by omega)]; exact hpt.2.2.1, by rw [k56, w56 _ (by omega), h1]; exact hpt.2.2.2⟩
    rw [h1] at hl
    exact hl
def FrI (X X' : Mm) : Prop := (∀ j, j < 2 ∨ 6 < j → X' 54 j = X 54 j) ∧ ∀ q, q ≠ 54 → q ≠ 56 → X' q = X q
theorem FrI.rf {X : Mm} : FrI X X := ⟨fun _ _ => rfl, fun _ _ _ => rfl⟩
theorem FrI.tr {X Y Z : Mm} (h : FrI X Y) (h2 : FrI Y Z) : FrI X Z := ⟨fun j hj => by rw [h2.1 j hj, h.1 j hj], fun q q1 q2 => by rw [h2.2 q q1 q2, h.2 q q1 q2]⟩
theorem FrI.u {X Y : Mm} (h : FrI X Y) {i z : Int} (hi : 2 ≤ i ∧ i ≤ 6) : FrI X (upM Y 54 i z) := ⟨fun j hj => by rw [upM_n (Or.inr (by omega))]; exact h.1 j hj, fun q q1 q2 => by rw [upM_o q1]; exact h.2 q q1 q2⟩
theorem FrI.v {X Y : Mm} (h : FrI X Y) {i z : Int} : FrI X (upM Y 56 i z) := ⟨fun j hj => by rw [upM_n (Or.inl (by decide))]; exact h.1 j hj, fun q q1 q2 => by rw [upM_o q2]; exact h.2 q q1 q2⟩
theorem fri_dgY {X : Mm} {p z : Int} : FrI X (dgY X p z) := by
  unfold dgY
  (repeat' split) <;> first | exact FrI.rf.v | exact FrI.rf.u (by decide)
theorem fri_end {X Y : Mm} (h : FrI X Y) : FrI X (endX Y) := by
  unfold endX
  split
  · exact (h.u (by decide)).u (by decide)
  · exact h
theorem fri_bgn {X : Mm} {kd : Int} : FrI X (bgnX X kd) := (((((FrI.rf.u (by decide)).u (by decide)).v).v).v).v
theorem rx_bgn {M X : Mm} {kd : Int} (hR : RI M) (h : RX M X) (h1 : M 3 1 = -1) (hk : 0 ≤ kd) : RX (bgnM M kd) (bgnX X kd) := by
  have hq : ∀ q, q ≠ 3 → bgnM M kd q = M q := fun q hq => by unfold bgnM; rw [upM_o hq, upM_o hq, upM_o hq, upM_o hq, upM_o hq, upM_o hq]
  have m1 : bgnM M kd 3 1 = kd := by simp [bgnM, upM]
  have m2 : bgnM M kd 3 2 = 0 := by simp [bgnM, upM]
  have m3 : bgnM M kd 3 3 = -1 := by simp [bgnM, upM]
  have m4 : bgnM M kd 3 4 = -1 := by simp [bgnM, upM]
  have x2 : bgnX X kd 54 2 = X 54 2 := by simp [bgnX, upM]
  have x3 : bgnX X kd 54 3 = 1 := by simp [bgnX, upM]
  have x4 : bgnX X kd 54 4 = kd := by simp [bgnX, upM]
  have x5 : bgnX X kd 54 5 = X 54 5 := by simp [bgnX, upM]
  have hmn := h.mn
  have xo : ∀ j, j < 4 * M 4 4 → bgnX X kd 56 j = X 56 j := fun j hj => by unfold bgnX; rw [upM_n (Or.inr (by omega)), upM_n (Or.inr (by omega)), upM_n (Or.inr (by omega)), upM_n (Or.inr (by omega)), upM_n (Or.inl (by decide)), upM_n (Or.inl (by decide))]
  have y0 : bgnX X kd 56 (4 * M 4 4) = kd := by unfold bgnX; rw [← hmn, upM_n (Or.inr (by omega)), upM_n (Or.inr (by omega)), upM_n (Or.inr (by omega)), upM_s]
  have y1 : bgnX X kd 56 (4 * M 4 4 + 1) = -1 := by unfold bgnX; rw [← hmn, upM_n (Or.inr (by omega)), upM_n (Or.inr (by omega)), upM_s]
  have y2 : bgnX X kd 56 (4 * M 4 4 + 2) = -1 := by unfold bgnX; rw [← hmn, upM_n (Or.inr (by omega)), upM_s]
  have y3 : bgnX X kd 56 (4 * M 4 4 + 3) = -1 := by unfold bgnX; rw [← hmn, upM_s]
  generalize bgnM M kd = G at *
  generalize bgnX X kd = Y at *
  have f4 : G 4 = M 4 := hq 4 (by decide)
  have f5 : G 5 = M 5 := hq 5 (by decide)
  apply RX.mk
  case mn => rw [x2, f4]; exact hmn
  case fr => rw [x5, bllM_cg f4 f5]; exact h.fr
  case st =>
    intro j hj
    rw [f4] at hj
    rw [f5, hq 6 (by decide), hq 7 (by decide), hq 8 (by decide), xo _ (by omega), xo _ (by omega), xo _ (by omega), xo _ (by omega)]
    exact h.st j hj
  case h0 => rw [m1]; intro y; omega
  case h1 => rw [m1, m2, x3, x4]; intro _; exact ⟨rfl, rfl⟩
  case pt => rw [m1, f4, m3, m4]; intro _ _; exact ⟨y0, y1, y2, y3⟩
  case sg => rw [m2]; intro y; omega
theorem rx_com {M X : Mm} (h : RX M X) : RX (upM M 3 1 (-1)) (upM X 54 3 0) := by
  have hq : ∀ q, q ≠ 3 → upM M 3 1 (-1) q = M q := fun q hq => upM_o hq
  have m1 : upM M 3 1 (-1) 3 1 = -1 := upM_s _ _ _ _
  have xo : ∀ j, j ≠ 3 → upM X 54 3 0 54 j = X 54 j := fun j hj => upM_n (Or.inr hj)
  have x3 : upM X 54 3 0 54 3 = 0 := upM_s _ _ _ _
  have x56 : upM X 54 3 0 56 = X 56 := upM_o (by decide)
  generalize upM M 3 1 (-1) = G at *
  generalize upM X 54 3 0 = Y at *
  have f4 : G 4 = M 4 := hq 4 (by decide)
  have f5 : G 5 = M 5 := hq 5 (by decide)
  apply RX.mk
  case mn => rw [xo 2 (by decide), f4]; exact h.mn
  case fr => rw [xo 5 (by decide), bllM_cg f4 f5]; exact h.fr
  case st => rw [x56, f4, f5, hq 6 (by decide), hq 7 (by decide), hq 8 (by decide)]; exact h.st
  case h0 => intro _; exact x3
  case h1 => intro y; exact absurd m1 y
  case pt => intro y; exact absurd m1 y
  case sg => rw [m1]; intro y; omega
theorem lg_fm {kd : Int} (h : 0 ≤ kd ∧ kd ≤ 4) : lgO kd = fml kd + 1 := by
  have : kd = 0 ∨ kd = 1 ∨ kd = 2 ∨ kd = 3 ∨ kd = 4 := by omega
  rcases this with rfl | rfl | rfl | rfl | rfl <;> rfl
/-- a letter is read by the reference as by the class -/
theorem k_isGood {M X : Mm} {z : Int} (hR : RI M) (h : RX M X) (hz : 1 ≤ z) (hz2 : z ≤ 126) : Cm mX9_isGood [vR 54, vI z] X (fun r X' => FrI X X' ∧ ((r = some (vI 0) ∧ ∀ M2, ¬ rdA M z M2) ∨ (r = some (vI 1) ∧ ∃ M', rdA M z M' ∧ RX M' X'))) := by
  obtain ⟨n, i1, i2, i3, i4, i5, i6, i7, i8, i9, i10⟩ := hR.rd
  have hmn := h.mn
  have hfr := h.fr
  have hb := bll_bd (M 5) n
  have eb : bllM M = bll (M 5) n := by unfold bllM; rw [i1, Int.toNat_natCast]
  by_cases h1 : M 3 1 = -1
  · have x3 := h.h0 h1
    have n5 := i5 (Or.inl h1)
    have hkr := kdOf_rng z
    refine cm_of (by decide +kernel) (fun _ => trivial) (Nat.le_of_ble_eq_true rfl) ?_
    first | refine ev_aload_n dX9_isGood_0 rfl ?_ | refine ev_aloadX_n dX9_isGood_0 rfl ?_
    refine ev_gI 3 dX9_isGood_1 fX9_74 rfl (by first | rfl | assumption) rfl ?_
    rw [x3]
    refine ev_if_ne (tgt := 13) dX9_isGood_4 (by decide) (by omega) (fun hb4 => ?_) (fun hb4 => ?_)
    · omega
    · first | refine ev_aload_n dX9_isGood_7 rfl ?_ | refine ev_aloadX_n dX9_isGood_7 rfl ?_
      refine ev_iload_n dX9_isGood_8 rfl ?_
      refine ev_callv (ci := 9) (k_isBegun hz hz2 X (by omega) (by omega) (by omega)) dX9_isGood_9 tX9_isBegun.1 kX9_113 tX9_isBegun.2.1 tX9_isBegun.2.2.1 rfl (by first | rfl | assumption) tX9_isBegun.2.2.2 ⟨⟨Nat.le_of_ble_eq_true rfl, Nat.le_of_ble_eq_true rfl⟩, Nat.le_of_ble_eq_true rfl, Nat.le_of_ble_eq_true rfl⟩ rfl (Nat.le_of_ble_eq_true rfl) ?_
      rintro r K' X' P' ⟨rfl, rfl, ⟨v, rfl, hw, hv⟩, hX'⟩
      have hA : ∀ M2, rdA M z M2 ↔ ¬ (kdOf z < 0 ∨ (kdOf z = 4 ∧ M 4 4 ≤ bllM M)) ∧ M2 = bgnM M (kdOf z) := fun M2 => rdA_b h1
      exact ev_ireturn dX9_isGood_12 (okR_z rfl (by first | exact Or.inl rfl | exact Or.inr rfl | assumption)) (rz ⟨by rw [hX']; exact fri_bgn, by rcases hw with e | e; exact Or.inl ⟨by rw [e], fun M2 q => (not_congr hv).mp (by omega) (by have := ((hA M2).mp q).1; omega)⟩; exact Or.inr ⟨by rw [e], _, (hA _).mpr ⟨by have := hv.mp e; omega, rfl⟩, by rw [hX']; exact rx_bgn hR h h1 (by have := hv.mp e; omega)⟩⟩)
  have hx := h.h1 h1
  have h4 := i4 h1
  have hlg := lg_fm (kd := M 3 1) (by omega)
  have hl5 := sl5 (fm (M 3 1)) (fm_lt _)
  have hl' : fml (M 3 1) ≤ 5 := by show ((s_len.getD (fm (M 3 1)) 0 : Nat) : Int) ≤ 5; omega
  have f4' : M 3 2 < fml (M 3 1) → M 3 2 ≤ 3 := by
    intro y
    have : M 3 1 = 0 ∨ M 3 1 = 1 ∨ M 3 1 = 2 ∨ M 3 1 = 3 ∨ M 3 1 = 4 := by omega
    rcases this with q | q | q | q | q
    · rw [q, fml_0] at y; omega
    · rw [q, fml_1] at y; omega
    · rw [q, fml_2] at y; omega
    · rw [q, fml_3] at y; omega
    · rw [q, fml_4] at y; omega
  have u2 : upM X 54 3 0 54 2 = M 4 4 := by rw [upM_n (Or.inr (by decide))]; exact hmn
  refine cm_of (by decide +kernel) (fun _ => trivial) (Nat.le_of_ble_eq_true rfl) ?_
  first | refine ev_aload_n dX9_isGood_0 rfl ?_ | refine ev_aloadX_n dX9_isGood_0 rfl ?_
  refine ev_gI 3 dX9_isGood_1 fX9_74 rfl (by first | rfl | assumption) rfl ?_
  rw [hx.1]
  refine ev_if_ne (tgt := 13) dX9_isGood_4 (by decide) (by omega) (fun hb4 => ?_) (fun hb4 => ?_)
  · first | refine ev_aload_n dX9_isGood_13 rfl ?_ | refine ev_aloadX_n dX9_isGood_13 rfl ?_
    refine ev_gI 3 dX9_isGood_14 fX9_74 rfl (by first | rfl | assumption) rfl ?_
    rw [hx.1]
    first | refine ev_aload_n dX9_isGood_17 rfl ?_ | refine ev_aloadX_n dX9_isGood_17 rfl ?_
    refine ev_gI 4 dX9_isGood_18 fX9_71 rfl (by first | rfl | assumption) rfl ?_
    rw [hx.2]
    refine ev_calls (k_longOf (by omega) X) dX9_isGood_21 tX9_longOf.1 kX9_83 tX9_longOf.2.1 tX9_longOf.2.2 ⟨⟨Nat.le_of_ble_eq_true rfl, Nat.le_of_ble_eq_true rfl⟩, Nat.le_of_ble_eq_true rfl, Nat.le_of_ble_eq_true rfl⟩ rfl (Nat.le_of_ble_eq_true rfl) ?_
    rintro r K' M' P' ⟨rfl, rfl, rfl, hM'⟩
    rw [hM']
    clear hM' M'
    rw [hlg]
    refine ev_icmp_ge (tgt := 33) dX9_isGood_24 (by decide) (by omega) (by omega) (fun hb24 => ?_) (fun hb24 => ?_)
    · first | refine ev_aload_n dX9_isGood_33 rfl ?_ | refine ev_aloadX_n dX9_isGood_33 rfl ?_
      refine ev_iconst dX9_isGood_34 ?_
      refine ev_pI 3 dX9_isGood_35 sX9_74 rfl (by first | rfl | assumption) rfl ?_
      refine ev_iload_n dX9_isGood_38 rfl ?_
      refine ev_bipush dX9_isGood_39 ?_
      refine ev_icmp_ne (tgt := 57) dX9_isGood_41 (by decide) (by omega) (by omega) (fun hb41 => ?_) (fun hb41 => ?_)
      · refine ev_iconst dX9_isGood_57 ?_
        exact ev_ireturn dX9_isGood_58 (okR_z rfl (by first | exact Or.inl rfl | exact Or.inr rfl | assumption)) (rz ⟨FrI.rf.u (by decide), by first | exact Or.inr ⟨rfl, _, (rdA_e h1 (by omega)).mpr ⟨⟨by omega, by omega⟩, rfl⟩, rx_com h⟩ | exact Or.inl ⟨rfl, fun M2 q => by have := ((rdA_e h1 (by omega)).mp q).1; omega⟩⟩)
      · first | refine ev_aload_n dX9_isGood_44 rfl ?_ | refine ev_aloadX_n dX9_isGood_44 rfl ?_
        refine ev_gI 2 dX9_isGood_45 fX9_77 rfl (by first | rfl | assumption) rfl ?_
        rw [u2]
        refine ev_bipush dX9_isGood_48 ?_
        refine ev_icmp_ge (tgt := 57) dX9_isGood_50 (by decide) (by omega) (by omega) (fun hb50 => ?_) (fun hb50 => ?_)
        · refine ev_iconst dX9_isGood_57 ?_
          exact ev_ireturn dX9_isGood_58 (okR_z rfl (by first | exact Or.inl rfl | exact Or.inr rfl | assumption)) (rz ⟨FrI.rf.u (by decide), by first | exact Or.inr ⟨rfl, _, (rdA_e h1 (by omega)).mpr ⟨⟨by omega, by omega⟩, rfl⟩, rx_com h⟩ | exact Or.inl ⟨rfl, fun M2 q => by have := ((rdA_e h1 (by omega)).mp q).1; omega⟩⟩)
        · refine ev_iconst dX9_isGood_53 ?_
          refine ev_goto (tgt := 58) dX9_isGood_54 (by decide) ?_
          exact ev_ireturn dX9_isGood_58 (okR_z rfl (by first | exact Or.inl rfl | exact Or.inr rfl | assumption)) (rz ⟨FrI.rf.u (by decide), by first | exact Or.inr ⟨rfl, _, (rdA_e h1 (by omega)).mpr ⟨⟨by omega, by omega⟩, rfl⟩, rx_com h⟩ | exact Or.inl ⟨rfl, fun M2 q => by have := ((rdA_e h1 (by omega)).mp q).1; omega⟩⟩)
    · have hin := rx_in (z := z) hR h h1 (by omega)
      have n5 := i5 (Or.inr (by omega))
      first | refine ev_aload_n dX9_isGood_27 rfl ?_ | refine ev_aloadX_n dX9_isGood_27 rfl ?_
      refine ev_iload_n dX9_isGood_28 rfl ?_
      refine ev_callv (ci := 9) (k_isInside hz hz2 X (by omega) (by omega) (by omega) (by omega) (by omega)) dX9_isGood_29 tX9_isInside.1 kX9_116 tX9_isInside.2.1 tX9_isInside.2.2.1 rfl (by first | rfl | assumption) tX9_isInside.2.2.2 ⟨⟨Nat.le_of_ble_eq_true rfl, Nat.le_of_ble_eq_true rfl⟩, Nat.le_of_ble_eq_true rfl, Nat.le_of_ble_eq_true rfl⟩ rfl (Nat.le_of_ble_eq_true rfl) ?_
      rintro r K' X' P' ⟨rfl, rfl, hG⟩
      obtain ⟨v, rfl, hv0, hv1⟩ : ∃ v : Int, r = some (vI v) ∧ (v = 0 ∨ v = 1) ∧ (FrI X X' ∧ ((v = 0 ∧ ∀ M2, ¬ rdA M z M2) ∨ (v = 1 ∧ ∃ M', rdA M z M' ∧ RX M' X'))) := by rcases hG with ⟨e, c, e2⟩ | ⟨e, c, e2⟩; exact ⟨0, e, Or.inl rfl, by rw [e2]; exact fri_dgY.u (by decide), Or.inl ⟨rfl, hin.2 c⟩⟩; exact ⟨1, e, Or.inr rfl, by rw [e2]; exact fri_end (fri_dgY.u (by decide)), Or.inr ⟨rfl, by rw [e2]; exact hin.1 c⟩⟩
      exact ev_ireturn dX9_isGood_32 (okR_z rfl (by first | exact Or.inl rfl | exact Or.inr rfl | assumption)) (rz ⟨hv1.1, by rcases hv1.2 with ⟨e, q⟩ | ⟨e, q⟩; exact Or.inl ⟨by rw [e], q⟩; exact Or.inr ⟨by rw [e], q⟩⟩)
  · omega
