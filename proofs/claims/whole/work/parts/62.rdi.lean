/-! ===== the reader: what stands after each letter (written by gen62.py) ===== -/
theorem fml_0 : fml 0 = 4 := rfl
theorem fml_1 : fml 1 = 4 := rfl
theorem fml_2 : fml 2 = 1 := rfl
theorem fml_3 : fml 3 = 3 := rfl
theorem fml_4 : fml 4 = 1 := rfl
theorem bll_n4 {kf : Int → Int} : ∀ (n : Nat) (j : Nat), bll kf n ≤ (j : Int) → j < n → kf j ≠ 4 := by
  intro n
  induction n with
  | zero => intro j _ h; omega
  | succ n ih =>
    intro j h1 h2
    simp only [bll] at h1
    split at h1
    · omega
    · rename_i hn
      by_cases e : j = n
      · subst e; exact hn
      · exact ih j h1 (by omega)
theorem bll_cg {kf kf' : Int → Int} : ∀ n : Nat, (∀ j : Nat, j < n → kf' j = kf j) → bll kf' n = bll kf n := by
  intro n
  induction n with
  | zero => intro _; rfl
  | succ n ih =>
    intro h
    simp only [bll]
    rw [h n (by omega), ih (fun j hj => h j (by omega))]
theorem bll_app (kf : Int → Int) (n : Nat) (kd : Int) : bll (up1 kf n kd) (n + 1) = if kd = 4 then (n : Int) + 1 else bll kf n := by
  simp only [bll]
  rw [up1_s, bll_cg n (fun j hj => up1_n (by omega))]
theorem prOK_app {kf af bf zf : Int → Int} {n : Nat} (h : prOK kf af bf zf n) {kd a b z : Int} (hst : stOK kd a b z ∨ (kd = 4 ∧ bll kf n ≤ a ∧ a < n)) : prOK (up1 kf n kd) (up1 af n a) (up1 bf n b) (up1 zf n z) (n + 1) := by
  intro i hi
  by_cases e : i = n
  · subst e
    rw [up1_s, up1_s, up1_s, up1_s]
    rcases hst with h1 | ⟨h1, h2, h3⟩
    · exact Or.inl h1
    · have hb := bll_bd kf i
      obtain ⟨t, rfl⟩ := Int.eq_ofNat_of_zero_le (show 0 ≤ a by omega)
      refine Or.inr ⟨h1, t, by omega, rfl, fun j j1 j2 => ?_⟩
      rw [up1_n (by omega), up1_n (by omega), up1_n (by omega), up1_n (by omega)]
      rcases h j j2 with q | q
      · exact q
      · exact absurd q.1 (bll_n4 i j (by omega) j2)
  · have hin : i < n := by omega
    rw [up1_n (by omega), up1_n (by omega), up1_n (by omega), up1_n (by omega)]
    rcases h i hin with q | ⟨q1, t, q2, q3, q4⟩
    · exact Or.inl q
    · refine Or.inr ⟨q1, t, q2, q3, fun j j1 j2 => ?_⟩
      rw [up1_n (by omega), up1_n (by omega), up1_n (by omega), up1_n (by omega)]
      exact q4 j j1 j2
def RI (M : Mm) : Prop := (rdI M) ∧ (prOK (M 5) (M 6) (M 7) (M 8) (M 4 4).toNat) ∧ (cBd M 4) ∧ (M 3 1 ≠ -1 → M 3 2 < fml (M 3 1) → 1 ≤ M 3 2 → 0 ≤ M 3 3 ∧ M 3 3 < (if M 3 1 = 0 then 6 else 3)) ∧ ((M 3 1 = 0 ∨ M 3 1 = 1) → 2 ≤ M 3 2 → M 3 2 < fml (M 3 1) → 0 ≤ M 3 4 ∧ M 3 4 < 6) ∧ ((M 3 1 = 2 ∨ M 3 1 = 3 ∨ M 3 1 = 4) → M 3 2 < fml (M 3 1) → M 3 4 = -1) ∧ (M 3 1 = 4 → M 3 2 = 0 → bllM M < M 4 4) ∧ (M 3 1 ≠ -1 → M 3 2 = fml (M 3 1) → 1 ≤ M 4 4)
theorem RI.rd {M : Mm} (h : RI M) : rdI M := h.1
theorem RI.ok {M : Mm} (h : RI M) : prOK (M 5) (M 6) (M 7) (M 8) (M 4 4).toNat := h.2.1
theorem RI.bb {M : Mm} (h : RI M) : cBd M 4 := h.2.2.1
theorem RI.p1 {M : Mm} (h : RI M) : M 3 1 ≠ -1 → M 3 2 < fml (M 3 1) → 1 ≤ M 3 2 → 0 ≤ M 3 3 ∧ M 3 3 < (if M 3 1 = 0 then 6 else 3) := h.2.2.2.1
theorem RI.p2 {M : Mm} (h : RI M) : (M 3 1 = 0 ∨ M 3 1 = 1) → 2 ≤ M 3 2 → M 3 2 < fml (M 3 1) → 0 ≤ M 3 4 ∧ M 3 4 < 6 := h.2.2.2.2.1
theorem RI.p3 {M : Mm} (h : RI M) : (M 3 1 = 2 ∨ M 3 1 = 3 ∨ M 3 1 = 4) → M 3 2 < fml (M 3 1) → M 3 4 = -1 := h.2.2.2.2.2.1
theorem RI.p4 {M : Mm} (h : RI M) : M 3 1 = 4 → M 3 2 = 0 → bllM M < M 4 4 := h.2.2.2.2.2.2.1
theorem RI.p6 {M : Mm} (h : RI M) : M 3 1 ≠ -1 → M 3 2 = fml (M 3 1) → 1 ≤ M 4 4 := h.2.2.2.2.2.2.2
theorem RI.mk {M : Mm} (rd : rdI M) (ok : prOK (M 5) (M 6) (M 7) (M 8) (M 4 4).toNat) (bb : cBd M 4) (p1 : M 3 1 ≠ -1 → M 3 2 < fml (M 3 1) → 1 ≤ M 3 2 → 0 ≤ M 3 3 ∧ M 3 3 < (if M 3 1 = 0 then 6 else 3)) (p2 : (M 3 1 = 0 ∨ M 3 1 = 1) → 2 ≤ M 3 2 → M 3 2 < fml (M 3 1) → 0 ≤ M 3 4 ∧ M 3 4 < 6) (p3 : (M 3 1 = 2 ∨ M 3 1 = 3 ∨ M 3 1 = 4) → M 3 2 < fml (M 3 1) → M 3 4 = -1) (p4 : M 3 1 = 4 → M 3 2 = 0 → bllM M < M 4 4) (p6 : M 3 1 ≠ -1 → M 3 2 = fml (M 3 1) → 1 ≤ M 4 4) : RI M := ⟨rd, ok, bb, p1, p2, p3, p4, p6⟩
theorem bllM_cg {M M' : Mm} (h4 : M' 4 = M 4) (h5 : M' 5 = M 5) : bllM M' = bllM M := by unfold bllM; rw [h4, h5]
/-- a letter within a step -/
theorem RI.mid {M M' : Mm} (h : RI M) (hk : M 3 1 ≠ -1) (hp : M 3 2 + 1 < fml (M 3 1)) (hq : ∀ q, q ≠ 3 → M' q = M q) (m1 : M' 3 1 = M 3 1) (m2 : M' 3 2 = M 3 2 + 1) {a b c g : Int} (e3 : M' 3 3 = a) (e4 : M' 3 4 = b) (e5 : M' 3 5 = c) (e6 : M' 3 6 = g) (b3 : -1000 ≤ a ∧ a ≤ 1000) (b4 : -1000 ≤ b ∧ b ≤ 1000) (b5 : -1000 ≤ c ∧ c ≤ 1000) (b6 : g = 0 ∨ g = 1) (p1 : 0 ≤ a ∧ a < (if M 3 1 = 0 then 6 else 3)) (p2 : (M 3 1 = 0 ∨ M 3 1 = 1) → 1 ≤ M 3 2 → 0 ≤ b ∧ b < 6) (p3 : (M 3 1 = 2 ∨ M 3 1 = 3 ∨ M 3 1 = 4) → b = -1) : RI M' := by
  have f4 : M' 4 = M 4 := hq 4 (by decide)
  have f5 : M' 5 = M 5 := hq 5 (by decide)
  have f6 : M' 6 = M 6 := hq 6 (by decide)
  have f7 : M' 7 = M 7 := hq 7 (by decide)
  have f8 : M' 8 = M 8 := hq 8 (by decide)
  obtain ⟨n, i1, i2, i3, i4, i5, i6, i7, i8, i9, i10⟩ := h.rd
  have j4 := i4 hk
  have j5 := i5 (Or.inr (by omega))
  apply RI.mk
  case rd =>
    refine ⟨n, by rw [f4]; exact i1, i2, by rw [m1]; exact i3, ?_, ?_, by rw [f5, f6]; exact i6, by rw [e3]; exact b3, by rw [e4]; exact b4, by rw [e5]; exact b5, by rw [e6]; exact b6⟩
    · rw [m1, m2]; intro _; omega
    · intro _; exact j5
  case ok => rw [f4, f5, f6, f7, f8]; exact h.ok
  case bb => intro j; rw [f5, f6, f7, f8]; exact h.bb j
  case p1 => rw [m1, m2, e3]; intro _ _ _; exact p1
  case p2 => rw [m1, m2, e4]; intro y1 y2 _; exact p2 y1 (by omega)
  case p3 => rw [m1, m2, e4]; intro y1 _; exact p3 y1
  case p4 => rw [m1, m2]; intro _ y; omega
  case p6 => rw [m1, m2]; intro _ y; omega
/-- the last letter of a step -/
theorem RI.last {M F : Mm} (h : RI M) (hk : M 3 1 ≠ -1) (hp : M 3 2 < fml (M 3 1)) (hq : ∀ q, q ≠ 3 → F q = M q) (m1 : F 3 1 = M 3 1) (m2 : F 3 2 = fml (M 3 1)) {a b c g : Int} (e3 : F 3 3 = a) (e4 : F 3 4 = b) (e5 : F 3 5 = c) (e6 : F 3 6 = g) (b3 : -1000 ≤ a ∧ a ≤ 1000) (b4 : -1000 ≤ b ∧ b ≤ 1000) (b5 : -1000 ≤ c ∧ c ≤ 1000) (b6 : g = 0 ∨ g = 1) (hst : stOK (M 3 1) a b c ∨ (M 3 1 = 4 ∧ bllM M ≤ a ∧ a < M 4 4)) : RI (insM F 4 (M 4 4) (M 3 1) a b c) := by
  have f4 : F 4 = M 4 := hq 4 (by decide)
  have f5 : F 5 = M 5 := hq 5 (by decide)
  have f6 : F 6 = M 6 := hq 6 (by decide)
  have f7 : F 7 = M 7 := hq 7 (by decide)
  have f8 : F 8 = M 8 := hq 8 (by decide)
  obtain ⟨n, i1, i2, i3, i4, i5, i6, i7, i8, i9, i10⟩ := h.rd
  have j4 := i4 hk
  have j5 := i5 (Or.inr hp)
  have hat := ins4_at (M := F) (kd := M 3 1) (a := a) (b := b) (z := c)
  rw [f4, f5, f6, f7, f8] at hat
  obtain ⟨a4, a5, a6, a7, a8⟩ := hat
  have a3 : insM F 4 (M 4 4) (M 3 1) a b c 3 = F 3 := ins4_o (by decide)
  have nn : (M 4 4).toNat = n := by omega
  have hok := h.ok
  rw [nn] at hok
  have hbb := h.bb
  generalize insM F 4 (M 4 4) (M 3 1) a b c = G at *
  rw [i1] at a4 a5 a6 a7 a8
  have hst' : stOK (M 3 1) a b c ∨ (M 3 1 = 4 ∧ bll (M 5) n ≤ a ∧ a < n) := by
    rcases hst with q | ⟨q1, q2, q3⟩
    · exact Or.inl q
    · refine Or.inr ⟨q1, ?_, by omega⟩
      unfold bllM at q2
      rw [nn] at q2
      exact q2
  have bnd : ∀ (f : Int → Int) (v : Int), (-1000 ≤ v ∧ v ≤ 1000) → ∀ j, (-1000 ≤ f j ∧ f j ≤ 1000) → -1000 ≤ up1 f n v j ∧ up1 f n v j ≤ 1000 := by
    intro f v hv j hf
    unfold up1
    split
    · exact hv
    · exact hf
  apply RI.mk
  case rd =>
    refine ⟨n + 1, by rw [a4]; rfl, by omega, by rw [a3, m1]; exact i3, ?_, ?_, ?_, by rw [a3, e3]; exact b3, by rw [a3, e4]; exact b4, by rw [a3, e5]; exact b5, by rw [a3, e6]; exact b6⟩
    · rw [a3, m1, m2]; intro _; omega
    · rw [a3, m1, m2]; intro y; omega
    · intro j j1 j2
      rw [a5, a6]
      have := i6 j j1 j2
      exact ⟨bnd _ _ (by omega) j this.1, bnd _ _ b3 j this.2⟩
  case ok =>
    rw [a4, a5, a6, a7, a8]
    exact prOK_app hok hst'
  case bb =>
    intro j j1 j2
    have := hbb j j1 j2
    simp only [Nat.reduceAdd] at this ⊢
    rw [a5, a6, a7, a8]
    exact ⟨bnd _ _ (by omega) j this.1, bnd _ _ b3 j this.2.1, bnd _ _ b4 j this.2.2.1, bnd _ _ b5 j this.2.2.2⟩
  case p1 => rw [a3, m1, m2]; intro _ y; omega
  case p2 => rw [a3, m1, m2]; intro _ _ y; omega
  case p3 => rw [a3, m1, m2]; intro _ y; omega
  case p4 => rw [a3, m1, m2]; intro y; rw [y, fml_4]; intro y2; omega
  case p6 => rw [a3, a4]; intro _ _; omega
/-- a step begins -/
theorem RI.bgn {M : Mm} {z : Int} (h : RI M) (h1 : M 3 1 = -1) (hc : ¬ (kdOf z < 0 ∨ (kdOf z = 4 ∧ M 4 4 ≤ bllM M))) : RI (bgnM M (kdOf z)) := by
  have hr := kdOf_rng z
  generalize kdOf z = kd at *
  have hq : ∀ q, q ≠ 3 → bgnM M kd q = M q := fun q hq => by unfold bgnM; rw [upM_o hq, upM_o hq, upM_o hq, upM_o hq, upM_o hq, upM_o hq]
  have m1 : bgnM M kd 3 1 = kd := by simp [bgnM, upM]
  have m2 : bgnM M kd 3 2 = 0 := by simp [bgnM, upM]
  have m3 : bgnM M kd 3 3 = -1 := by simp [bgnM, upM]
  have m4 : bgnM M kd 3 4 = -1 := by simp [bgnM, upM]
  have m5 : bgnM M kd 3 5 = 0 := by simp [bgnM, upM]
  have m6 : bgnM M kd 3 6 = 0 := by simp [bgnM, upM]
  generalize bgnM M kd = G at *
  have f4 : G 4 = M 4 := hq 4 (by decide)
  have f5 : G 5 = M 5 := hq 5 (by decide)
  have f6 : G 6 = M 6 := hq 6 (by decide)
  have f7 : G 7 = M 7 := hq 7 (by decide)
  have f8 : G 8 = M 8 := hq 8 (by decide)
  obtain ⟨n, i1, i2, i3, i4, i5, i6, i7, i8, i9, i10⟩ := h.rd
  have j5 := i5 (Or.inl h1)
  have hl := sl5 (fm kd) (fm_lt kd)
  have hl' : 1 ≤ fml kd := by show (1 : Int) ≤ ((s_len.getD (fm kd) 0 : Nat) : Int); omega
  apply RI.mk
  case rd =>
    refine ⟨n, by rw [f4]; exact i1, i2, by rw [m1]; omega, ?_, fun _ => j5, by rw [f5, f6]; exact i6, by rw [m3]; omega, by rw [m4]; omega, by rw [m5]; omega, by rw [m6]; omega⟩
    rw [m1, m2]; intro _; omega
  case ok => rw [f4, f5, f6, f7, f8]; exact h.ok
  case bb => intro j; rw [f5, f6, f7, f8]; exact h.bb j
  case p1 => rw [m2]; intro _ _ y; omega
  case p2 => rw [m2]; intro _ y; omega
  case p3 => rw [m4]; intro _ _; rfl
  case p4 => rw [m1, bllM_cg f4 f5, f4]; intro y _; omega
  case p6 => rw [m1, m2]; intro _ y; omega
/-- a comma -/
theorem RI.com {M : Mm} (h : RI M) (hn : M 4 4 < 6) : RI (upM M 3 1 (-1)) := by
  have hq : ∀ q, q ≠ 3 → upM M 3 1 (-1) q = M q := fun q hq => upM_o hq
  have m1 : upM M 3 1 (-1) 3 1 = -1 := upM_s _ _ _ _
  have mo : ∀ j, j ≠ 1 → upM M 3 1 (-1) 3 j = M 3 j := fun j hj => upM_n (Or.inr hj)
  generalize upM M 3 1 (-1) = G at *
  have f4 : G 4 = M 4 := hq 4 (by decide)
  have f5 : G 5 = M 5 := hq 5 (by decide)
  have f6 : G 6 = M 6 := hq 6 (by decide)
  have f7 : G 7 = M 7 := hq 7 (by decide)
  have f8 : G 8 = M 8 := hq 8 (by decide)
  obtain ⟨n, i1, i2, i3, i4, i5, i6, i7, i8, i9, i10⟩ := h.rd
  apply RI.mk
  case rd =>
    refine ⟨n, by rw [f4]; exact i1, i2, by rw [m1]; omega, by rw [m1]; intro y; omega, fun _ => by omega, by rw [f5, f6]; exact i6, by rw [mo 3 (by decide)]; exact i7, by rw [mo 4 (by decide)]; exact i8, by rw [mo 5 (by decide)]; exact i9, by rw [mo 6 (by decide)]; exact i10⟩
  case ok => rw [f4, f5, f6, f7, f8]; exact h.ok
  case bb => intro j; rw [f5, f6, f7, f8]; exact h.bb j
  case p1 => rw [m1]; intro y; omega
  case p2 => rw [m1]; intro y; omega
  case p3 => rw [m1]; intro y; omega
  case p4 => rw [m1]; intro y; omega
  case p6 => rw [m1]; intro y; omega
/-- where a step stands -/
theorem rd_where {M : Mm} (h : RI M) : M 3 1 = -1 ∨ (M 3 1 ≠ -1 ∧ fml (M 3 1) ≤ M 3 2) ∨ ((M 3 1 = 0 ∧ M 3 2 = 0) ∨ (M 3 1 = 0 ∧ M 3 2 = 1) ∨ (M 3 1 = 0 ∧ M 3 2 = 2) ∨ (M 3 1 = 0 ∧ M 3 2 = 3) ∨ (M 3 1 = 1 ∧ M 3 2 = 0) ∨ (M 3 1 = 1 ∧ M 3 2 = 1) ∨ (M 3 1 = 1 ∧ M 3 2 = 2) ∨ (M 3 1 = 1 ∧ M 3 2 = 3) ∨ (M 3 1 = 2 ∧ M 3 2 = 0) ∨ (M 3 1 = 3 ∧ M 3 2 = 0) ∨ (M 3 1 = 3 ∧ M 3 2 = 1) ∨ (M 3 1 = 3 ∧ M 3 2 = 2) ∨ (M 3 1 = 4 ∧ M 3 2 = 0)) := by
  obtain ⟨n, i1, i2, i3, i4, i5, i6, i7, i8, i9, i10⟩ := h.rd
  by_cases h1 : M 3 1 = -1
  · exact Or.inl h1
  by_cases h2 : fml (M 3 1) ≤ M 3 2
  · exact Or.inr (Or.inl ⟨h1, h2⟩)
  refine Or.inr (Or.inr ?_)
  have h4 := i4 h1
  have hd : M 3 1 = 0 ∨ M 3 1 = 1 ∨ M 3 1 = 2 ∨ M 3 1 = 3 ∨ M 3 1 = 4 := by omega
  rcases hd with q | q | q | q | q
  · rw [q, fml_0] at h2; omega
  · rw [q, fml_1] at h2; omega
  · rw [q, fml_2] at h2; omega
  · rw [q, fml_3] at h2; omega
  · rw [q, fml_4] at h2; omega
theorem RI.step {M M' : Mm} {z : Int} (h : RI M) (hz : 1 ≤ z) (hz2 : z ≤ 126) (hA : rdA M z M') : RI M' := by
  obtain ⟨n, i1, i2, i3, i4, i5, i6, i7, i8, i9, i10⟩ := h.rd
  have hp1 := h.p1
  have hp2 := h.p2
  have hp3 := h.p3
  rcases rd_where h with h1 | ⟨h1, h2⟩ | hw
  · obtain ⟨c, rfl⟩ := (rdA_b h1).mp hA
    exact h.bgn h1 c
  · obtain ⟨c, rfl⟩ := (rdA_e h1 h2).mp hA
    exact h.com c.2
  rcases hw with ⟨h1, h2⟩ | ⟨h1, h2⟩ | ⟨h1, h2⟩ | ⟨h1, h2⟩ | ⟨h1, h2⟩ | ⟨h1, h2⟩ | ⟨h1, h2⟩ | ⟨h1, h2⟩ | ⟨h1, h2⟩ | ⟨h1, h2⟩ | ⟨h1, h2⟩ | ⟨h1, h2⟩ | ⟨h1, h2⟩
  · obtain ⟨c, rfl⟩ := (rdA_00 h1 h2).mp hA
    exact h.mid (by omega) (by rw [h1, h2, fml_0]; decide) (fun q hq => by rw [upM_o hq, upM_o hq]) (by simp [upM]) (by rw [h2]; exact upM_s _ _ _ _) (a := (z - 48)) (b := M 3 4) (c := M 3 5) (g := M 3 6) (by simp [upM]) (by simp [upM]) (by simp [upM]) (by simp [upM]) (by omega) (by omega) (by omega) (by first | exact i10 | (split; exact Or.inr rfl; exact Or.inl rfl)) (by rw [h1]; rw [if_pos rfl]; first | omega | (have := hp1 (by omega) (by rw [h1, h2, fml_0]; decide) (by omega); rw [h1] at this; rw [if_pos rfl] at this; exact this)) (fun _ y => by first | omega | exact hp2 (by omega) (by omega) (by rw [h1, h2, fml_0]; decide)) (fun y => by first | omega | exact hp3 y (by rw [h1, h2, fml_0]; decide))
  · obtain ⟨c, rfl⟩ := (rdA_01 h1 h2).mp hA
    exact h.mid (by omega) (by rw [h1, h2, fml_0]; decide) (fun q hq => by rw [upM_o hq, upM_o hq]) (by simp [upM]) (by rw [h2]; exact upM_s _ _ _ _) (a := M 3 3) (b := (z - 48)) (c := M 3 5) (g := M 3 6) (by simp [upM]) (by simp [upM]) (by simp [upM]) (by simp [upM]) (by omega) (by omega) (by omega) (by first | exact i10 | (split; exact Or.inr rfl; exact Or.inl rfl)) (by rw [h1]; rw [if_pos rfl]; first | omega | (have := hp1 (by omega) (by rw [h1, h2, fml_0]; decide) (by omega); rw [h1] at this; rw [if_pos rfl] at this; exact this)) (fun _ y => by first | omega | exact hp2 (by omega) (by omega) (by rw [h1, h2, fml_0]; decide)) (fun y => by first | omega | exact hp3 y (by rw [h1, h2, fml_0]; decide))
  · obtain ⟨c, rfl⟩ := (rdA_02 h1 h2).mp hA
    exact h.mid (by omega) (by rw [h1, h2, fml_0]; decide) (fun q hq => by rw [upM_o hq, upM_o hq]) (by simp [upM]) (by rw [h2]; exact upM_s _ _ _ _) (a := M 3 3) (b := M 3 4) (c := M 3 5) (g := (if z = 45 then 1 else 0)) (by simp [upM]) (by simp [upM]) (by simp [upM]) (by simp [upM]) (by omega) (by omega) (by omega) (by first | exact i10 | (split; exact Or.inr rfl; exact Or.inl rfl)) (by rw [h1]; rw [if_pos rfl]; first | omega | (have := hp1 (by omega) (by rw [h1, h2, fml_0]; decide) (by omega); rw [h1] at this; rw [if_pos rfl] at this; exact this)) (fun _ y => by first | omega | exact hp2 (by omega) (by omega) (by rw [h1, h2, fml_0]; decide)) (fun y => by first | omega | exact hp3 y (by rw [h1, h2, fml_0]; decide))
  · obtain ⟨c, rfl⟩ := (rdA_03 h1 h2).mp hA
    have w3 : upM M 3 5 (if M 3 6 = 0 then z - 48 else -(z - 48)) 3 3 = M 3 3 := by simp [upM]
    have w4 : upM M 3 5 (if M 3 6 = 0 then z - 48 else -(z - 48)) 3 4 = M 3 4 := by simp [upM]
    have w5 : upM M 3 5 (if M 3 6 = 0 then z - 48 else -(z - 48)) 3 5 = (if M 3 6 = 0 then z - 48 else -(z - 48)) := by simp [upM]
    rw [w3, w4, w5]
    have hl := h.last (F := (upM (upM M 3 5 (if M 3 6 = 0 then z - 48 else -(z - 48))) 3 2 4)) (by omega) (by rw [h1, h2, fml_0]; decide) (fun q hq => by rw [upM_o hq, upM_o hq]) (by simp [upM]) (by rw [h1, fml_0]; exact upM_s _ _ _ _) (a := M 3 3) (b := M 3 4) (c := (if M 3 6 = 0 then z - 48 else -(z - 48))) (g := M 3 6) (by simp [upM]) (by simp [upM]) (by simp [upM]) (by simp [upM]) (by omega) (by omega) (by first | omega | (split <;> omega)) i10 (Or.inl (by
      unfold stOK
      have y1 := hp1 (by omega) (by rw [h1, h2, fml_0]; decide) (by omega)
      rw [h1] at y1
      rw [if_pos rfl] at y1
      have y2 := hp2 (by omega) (by omega) (by rw [h1, h2, fml_0]; decide)
      have y3 : -9 ≤ (if M 3 6 = 0 then z - 48 else -(z - 48)) ∧ (if M 3 6 = 0 then z - 48 else -(z - 48)) ≤ 9 := by split <;> omega
      exact Or.inl ⟨h1, y1, y2, y3⟩))
    rw [h1] at hl
    exact hl
  · obtain ⟨c, rfl⟩ := (rdA_10 h1 h2).mp hA
    exact h.mid (by omega) (by rw [h1, h2, fml_1]; decide) (fun q hq => by rw [upM_o hq, upM_o hq]) (by simp [upM]) (by rw [h2]; exact upM_s _ _ _ _) (a := (z - 48)) (b := M 3 4) (c := M 3 5) (g := M 3 6) (by simp [upM]) (by simp [upM]) (by simp [upM]) (by simp [upM]) (by omega) (by omega) (by omega) (by first | exact i10 | (split; exact Or.inr rfl; exact Or.inl rfl)) (by rw [h1]; rw [if_neg (by decide)]; first | omega | (have := hp1 (by omega) (by rw [h1, h2, fml_1]; decide) (by omega); rw [h1] at this; rw [if_neg (by decide)] at this; exact this)) (fun _ y => by first | omega | exact hp2 (by omega) (by omega) (by rw [h1, h2, fml_1]; decide)) (fun y => by first | omega | exact hp3 y (by rw [h1, h2, fml_1]; decide))
  · obtain ⟨c, rfl⟩ := (rdA_11 h1 h2).mp hA
    exact h.mid (by omega) (by rw [h1, h2, fml_1]; decide) (fun q hq => by rw [upM_o hq, upM_o hq]) (by simp [upM]) (by rw [h2]; exact upM_s _ _ _ _) (a := M 3 3) (b := (z - 48)) (c := M 3 5) (g := M 3 6) (by simp [upM]) (by simp [upM]) (by simp [upM]) (by simp [upM]) (by omega) (by omega) (by omega) (by first | exact i10 | (split; exact Or.inr rfl; exact Or.inl rfl)) (by rw [h1]; rw [if_neg (by decide)]; first | omega | (have := hp1 (by omega) (by rw [h1, h2, fml_1]; decide) (by omega); rw [h1] at this; rw [if_neg (by decide)] at this; exact this)) (fun _ y => by first | omega | exact hp2 (by omega) (by omega) (by rw [h1, h2, fml_1]; decide)) (fun y => by first | omega | exact hp3 y (by rw [h1, h2, fml_1]; decide))
  · obtain ⟨c, rfl⟩ := (rdA_12 h1 h2).mp hA
    exact h.mid (by omega) (by rw [h1, h2, fml_1]; decide) (fun q hq => by rw [upM_o hq, upM_o hq]) (by simp [upM]) (by rw [h2]; exact upM_s _ _ _ _) (a := M 3 3) (b := M 3 4) (c := M 3 5) (g := (if z = 45 then 1 else 0)) (by simp [upM]) (by simp [upM]) (by simp [upM]) (by simp [upM]) (by omega) (by omega) (by omega) (by first | exact i10 | (split; exact Or.inr rfl; exact Or.inl rfl)) (by rw [h1]; rw [if_neg (by decide)]; first | omega | (have := hp1 (by omega) (by rw [h1, h2, fml_1]; decide) (by omega); rw [h1] at this; rw [if_neg (by decide)] at this; exact this)) (fun _ y => by first | omega | exact hp2 (by omega) (by omega) (by rw [h1, h2, fml_1]; decide)) (fun y => by first | omega | exact hp3 y (by rw [h1, h2, fml_1]; decide))
  · obtain ⟨c, rfl⟩ := (rdA_13 h1 h2).mp hA
    have w3 : upM M 3 5 (if M 3 6 = 0 then z - 48 else -(z - 48)) 3 3 = M 3 3 := by simp [upM]
    have w4 : upM M 3 5 (if M 3 6 = 0 then z - 48 else -(z - 48)) 3 4 = M 3 4 := by simp [upM]
    have w5 : upM M 3 5 (if M 3 6 = 0 then z - 48 else -(z - 48)) 3 5 = (if M 3 6 = 0 then z - 48 else -(z - 48)) := by simp [upM]
    rw [w3, w4, w5]
    have hl := h.last (F := (upM (upM M 3 5 (if M 3 6 = 0 then z - 48 else -(z - 48))) 3 2 4)) (by omega) (by rw [h1, h2, fml_1]; decide) (fun q hq => by rw [upM_o hq, upM_o hq]) (by simp [upM]) (by rw [h1, fml_1]; exact upM_s _ _ _ _) (a := M 3 3) (b := M 3 4) (c := (if M 3 6 = 0 then z - 48 else -(z - 48))) (g := M 3 6) (by simp [upM]) (by simp [upM]) (by simp [upM]) (by simp [upM]) (by omega) (by omega) (by first | omega | (split <;> omega)) i10 (Or.inl (by
      unfold stOK
      have y1 := hp1 (by omega) (by rw [h1, h2, fml_1]; decide) (by omega)
      rw [h1] at y1
      rw [if_neg (by decide)] at y1
      have y2 := hp2 (by omega) (by omega) (by rw [h1, h2, fml_1]; decide)
      have y3 : -9 ≤ (if M 3 6 = 0 then z - 48 else -(z - 48)) ∧ (if M 3 6 = 0 then z - 48 else -(z - 48)) ≤ 9 := by split <;> omega
      exact Or.inr (Or.inl ⟨h1, y1, y2, y3⟩)))
    rw [h1] at hl
    exact hl
  · obtain ⟨c, rfl⟩ := (rdA_20 h1 h2).mp hA
    have w3 : upM M 3 3 (z - 48) 3 3 = (z - 48) := by simp [upM]
    have w4 : upM M 3 3 (z - 48) 3 4 = M 3 4 := by simp [upM]
    have w5 : upM M 3 3 (z - 48) 3 5 = M 3 5 := by simp [upM]
    rw [w3, w4, w5]
    have hl := h.last (F := (upM (upM M 3 3 (z - 48)) 3 2 1)) (by omega) (by rw [h1, h2, fml_2]; decide) (fun q hq => by rw [upM_o hq, upM_o hq]) (by simp [upM]) (by rw [h1, fml_2]; exact upM_s _ _ _ _) (a := (z - 48)) (b := M 3 4) (c := M 3 5) (g := M 3 6) (by simp [upM]) (by simp [upM]) (by simp [upM]) (by simp [upM]) (by omega) (by omega) (by first | omega | (split <;> omega)) i10 (Or.inl (by
      unfold stOK
      exact Or.inr (Or.inr (Or.inl ⟨h1, c⟩))))
    rw [h1] at hl
    exact hl
  · obtain ⟨c, rfl⟩ := (rdA_30 h1 h2).mp hA
    exact h.mid (by omega) (by rw [h1, h2, fml_3]; decide) (fun q hq => by rw [upM_o hq, upM_o hq]) (by simp [upM]) (by rw [h2]; exact upM_s _ _ _ _) (a := (z - 48)) (b := M 3 4) (c := M 3 5) (g := M 3 6) (by simp [upM]) (by simp [upM]) (by simp [upM]) (by simp [upM]) (by omega) (by omega) (by omega) (by first | exact i10 | (split; exact Or.inr rfl; exact Or.inl rfl)) (by rw [h1]; rw [if_neg (by decide)]; first | omega | (have := hp1 (by omega) (by rw [h1, h2, fml_3]; decide) (by omega); rw [h1] at this; rw [if_neg (by decide)] at this; exact this)) (fun _ y => by first | omega | exact hp2 (by omega) (by omega) (by rw [h1, h2, fml_3]; decide)) (fun y => by first | omega | exact hp3 y (by rw [h1, h2, fml_3]; decide))
  · obtain ⟨c, rfl⟩ := (rdA_31 h1 h2).mp hA
    exact h.mid (by omega) (by rw [h1, h2, fml_3]; decide) (fun q hq => by rw [upM_o hq, upM_o hq]) (by simp [upM]) (by rw [h2]; exact upM_s _ _ _ _) (a := M 3 3) (b := M 3 4) (c := M 3 5) (g := (if z = 45 then 1 else 0)) (by simp [upM]) (by simp [upM]) (by simp [upM]) (by simp [upM]) (by omega) (by omega) (by omega) (by first | exact i10 | (split; exact Or.inr rfl; exact Or.inl rfl)) (by rw [h1]; rw [if_neg (by decide)]; first | omega | (have := hp1 (by omega) (by rw [h1, h2, fml_3]; decide) (by omega); rw [h1] at this; rw [if_neg (by decide)] at this; exact this)) (fun _ y => by first | omega | exact hp2 (by omega) (by omega) (by rw [h1, h2, fml_3]; decide)) (fun y => by first | omega | exact hp3 y (by rw [h1, h2, fml_3]; decide))
  · obtain ⟨c, rfl⟩ := (rdA_32 h1 h2).mp hA
    have w3 : upM M 3 5 (if M 3 6 = 0 then z - 48 else -(z - 48)) 3 3 = M 3 3 := by simp [upM]
    have w4 : upM M 3 5 (if M 3 6 = 0 then z - 48 else -(z - 48)) 3 4 = M 3 4 := by simp [upM]
    have w5 : upM M 3 5 (if M 3 6 = 0 then z - 48 else -(z - 48)) 3 5 = (if M 3 6 = 0 then z - 48 else -(z - 48)) := by simp [upM]
    rw [w3, w4, w5]
    have hl := h.last (F := (upM (upM M 3 5 (if M 3 6 = 0 then z - 48 else -(z - 48))) 3 2 3)) (by omega) (by rw [h1, h2, fml_3]; decide) (fun q hq => by rw [upM_o hq, upM_o hq]) (by simp [upM]) (by rw [h1, fml_3]; exact upM_s _ _ _ _) (a := M 3 3) (b := M 3 4) (c := (if M 3 6 = 0 then z - 48 else -(z - 48))) (g := M 3 6) (by simp [upM]) (by simp [upM]) (by simp [upM]) (by simp [upM]) (by omega) (by omega) (by first | omega | (split <;> omega)) i10 (Or.inl (by
      unfold stOK
      have y1 := hp1 (by omega) (by rw [h1, h2, fml_3]; decide) (by omega)
      rw [h1] at y1
      rw [if_neg (by decide)] at y1
      have y3 : -9 ≤ (if M 3 6 = 0 then z - 48 else -(z - 48)) ∧ (if M 3 6 = 0 then z - 48 else -(z - 48)) ≤ 9 := by split <;> omega
      exact Or.inr (Or.inr (Or.inr ⟨h1, y1, y3⟩))))
    rw [h1] at hl
    exact hl
  · obtain ⟨c, rfl⟩ := (rdA_40 h1 h2).mp hA
    have w3 : upM M 3 3 (z - 48) 3 3 = (z - 48) := by simp [upM]
    have w4 : upM M 3 3 (z - 48) 3 4 = M 3 4 := by simp [upM]
    have w5 : upM M 3 3 (z - 48) 3 5 = M 3 5 := by simp [upM]
    rw [w3, w4, w5]
    have hl := h.last (F := (upM (upM M 3 3 (z - 48)) 3 2 1)) (by omega) (by rw [h1, h2, fml_4]; decide) (fun q hq => by rw [upM_o hq, upM_o hq]) (by simp [upM]) (by rw [h1, fml_4]; exact upM_s _ _ _ _) (a := (z - 48)) (b := M 3 4) (c := M 3 5) (g := M 3 6) (by simp [upM]) (by simp [upM]) (by simp [upM]) (by simp [upM]) (by omega) (by omega) (by first | omega | (split <;> omega)) i10 (Or.inr ⟨h1, c⟩)
    rw [h1] at hl
    exact hl
/-- a letter leaves all cells but 3 to 8 -/
theorem rdA_fr {M M' : Mm} {z : Int} (h : rdA M z M') : ∀ q, q < 3 ∨ 8 < q → M' q = M q := by
  intro q hq
  have h3 : q ≠ 3 := by omega
  unfold rdA at h
  split at h
  · rw [h.2]
    unfold bgnM
    rw [upM_o h3, upM_o h3, upM_o h3, upM_o h3, upM_o h3, upM_o h3]
  · split at h
    · rw [h.2, upM_o h3]
    · rw [h.2]
      split
      · rw [ins4_o (by omega), upM_o h3, keep_o h3]
      · rw [upM_o h3, keep_o h3]
theorem rdA_uniq {M M1 M2 : Mm} {z : Int} (h : rdA M z M1) (h' : rdA M z M2) : M1 = M2 := by
  unfold rdA at h h'
  split at h
  · rename_i q
    rw [if_pos q] at h'
    rw [h.2, h'.2]
  · rename_i q
    rw [if_neg q] at h'
    split at h
    · rename_i q2
      rw [if_pos q2] at h'
      rw [h.2, h'.2]
    · rename_i q2
      rw [if_neg q2] at h'
      rw [h.2, h'.2]
/-- after k letters, all right -/
def rdC (L : Int → Int) (M0 : Mm) : Nat → Mm → Prop
  | 0, M => M = M0
  | i + 1, M' => ∃ M, rdC L M0 i M ∧ rdA M (L i) M'
theorem rdC_uniq {L : Int → Int} {M0 : Mm} : ∀ (k : Nat) (M1 M2 : Mm), rdC L M0 k M1 → rdC L M0 k M2 → M1 = M2 := by
  intro k
  induction k with
  | zero => intro M1 M2 h1 h2; exact h1.trans h2.symm
  | succ k ih =>
    rintro M1 M2 ⟨N1, a1, a2⟩ ⟨N2, b1, b2⟩
    have := ih N1 N2 a1 b1
    subst this
    exact rdA_uniq a2 b2
theorem rdC_pre {L : Int → Int} {M0 : Mm} {i : Nat} : ∀ (k : Nat) (M : Mm), rdC L M0 k M → i ≤ k → ∃ N, rdC L M0 i N := by
  intro k
  induction k with
  | zero => intro M h hi; have : i = 0 := by omega
            subst this; exact ⟨M, h⟩
  | succ k ih =>
    intro M h hi
    by_cases e : i = k + 1
    · subst e; exact ⟨M, h⟩
    · obtain ⟨N, h1, h2⟩ := h
      exact ih N h1 (by omega)
theorem rdC_next {L : Int → Int} {M0 : Mm} {i k : Nat} {M N : Mm} (h : rdC L M0 k M) (hi : i < k) (hN : rdC L M0 i N) : ∃ N', rdA N (L i) N' ∧ rdC L M0 (i + 1) N' := by
  obtain ⟨N', hN'⟩ := rdC_pre (i := i + 1) k M h (by omega)
  obtain ⟨N2, h1, h2⟩ := id hN'
  have := rdC_uniq i N N2 hN h1
  subst this
  exact ⟨N', h2, hN'⟩
theorem rdC_fr {L : Int → Int} {M0 : Mm} : ∀ (k : Nat) (M : Mm), rdC L M0 k M → ∀ q, q < 3 ∨ 8 < q → M q = M0 q := by
  intro k
  induction k with
  | zero => intro M h q _; rw [h]
  | succ k ih =>
    rintro M ⟨N, h1, h2⟩ q hq
    rw [rdA_fr h2 q hq, ih N h1 q hq]
theorem rdC_RI {L : Int → Int} {M0 : Mm} (h0 : RI M0) : ∀ (k : Nat) (M : Mm), (∀ j : Nat, j < k → 1 ≤ L j ∧ L j ≤ 126) → rdC L M0 k M → RI M := by
  intro k
  induction k with
  | zero => intro M _ h; rw [h]; exact h0
  | succ k ih =>
    rintro M hl ⟨N, h1, h2⟩
    have := hl k (by omega)
    exact (ih N (fun j hj => hl j (by omega)) h1).step this.1 this.2 h2
def rd0 (M : Mm) : Mm := upM (upM M 4 4 0) 3 1 (-1)
theorem rd0_RI {M : Mm} (hb : cBd M 4) (h3 : (-1000 ≤ M 3 3 ∧ M 3 3 ≤ 1000) ∧ (-1000 ≤ M 3 4 ∧ M 3 4 ≤ 1000) ∧ (-1000 ≤ M 3 5 ∧ M 3 5 ≤ 1000) ∧ (M 3 6 = 0 ∨ M 3 6 = 1)) : RI (rd0 M) := by
  have hq : ∀ q, q ≠ 3 → q ≠ 4 → rd0 M q = M q := fun q q1 q2 => by unfold rd0; rw [upM_o q1, upM_o q2]
  have m1 : rd0 M 3 1 = -1 := upM_s _ _ _ _
  have m4 : rd0 M 4 4 = 0 := by unfold rd0; rw [upM_o (by decide), upM_s]
  have mo : ∀ j, j ≠ 1 → rd0 M 3 j = M 3 j := fun j hj => by unfold rd0; rw [upM_n (Or.inr hj), upM_o (by decide)]
  generalize rd0 M = G at *
  have f5 : G 5 = M 5 := hq 5 (by decide) (by decide)
  have f6 : G 6 = M 6 := hq 6 (by decide) (by decide)
  have f7 : G 7 = M 7 := hq 7 (by decide) (by decide)
  have f8 : G 8 = M 8 := hq 8 (by decide) (by decide)
  apply RI.mk
  case rd =>
    refine ⟨0, by rw [m4]; rfl, by omega, by rw [m1]; omega, by rw [m1]; intro y; omega, fun _ => by omega, ?_, by rw [mo 3 (by decide)]; exact h3.1, by rw [mo 4 (by decide)]; exact h3.2.1, by rw [mo 5 (by decide)]; exact h3.2.2.1, by rw [mo 6 (by decide)]; exact h3.2.2.2⟩
    intro j j1 j2
    rw [f5, f6]
    exact ⟨(hb j j1 j2).1, (hb j j1 j2).2.1⟩
  case ok => rw [m4]; intro i hi; exact absurd hi (by simp)
  case bb => intro j; rw [f5, f6, f7, f8]; exact hb j
  case p1 => rw [m1]; intro y; omega
  case p2 => rw [m1]; intro y; omega
  case p3 => rw [m1]; intro y; omega
  case p4 => rw [m1]; intro y; omega
  case p6 => rw [m1]; intro y; omega
