/-! ===== points by number, sets of points, and what bounds tell of them ===== -/
abbrev inP (p : Int) : Prop := 0 ≤ p ∧ p < 4913
def pv (p a : Int) : Int := if a = 0 then p / 289 - 8 else if a = 1 then -(p / 289 - 8) else if a = 2 then p / 17 % 17 - 8 else if a = 3 then -(p / 17 % 17 - 8) else if a = 4 then p % 17 - 8 else -(p % 17 - 8)
theorem lit_cases {a : Int} (h : lit a) : a = 0 ∨ a = 1 ∨ a = 2 ∨ a = 3 ∨ a = 4 ∨ a = 5 := by omega
theorem nx_0 : nx 0 = 1 := by decide
theorem nx_1 : nx 1 = 0 := by decide
theorem nx_2 : nx 2 = 3 := by decide
theorem nx_3 : nx 3 = 2 := by decide
theorem nx_4 : nx 4 = 5 := by decide
theorem nx_5 : nx 5 = 4 := by decide
theorem pv_0 (p : Int) : pv p 0 = p / 289 - 8 := by simp [pv]
theorem pv_1 (p : Int) : pv p 1 = -(p / 289 - 8) := by simp [pv]
theorem pv_2 (p : Int) : pv p 2 = p / 17 % 17 - 8 := by simp [pv]
theorem pv_3 (p : Int) : pv p 3 = -(p / 17 % 17 - 8) := by simp [pv]
theorem pv_4 (p : Int) : pv p 4 = p % 17 - 8 := by simp [pv]
theorem pv_5 (p : Int) : pv p 5 = -(p % 17 - 8) := by simp [pv]
theorem pv_sgn (p : Int) : sgn (pv p) := by
  intro a ha
  rcases lit_cases ha with rfl | rfl | rfl | rfl | rfl | rfl <;> simp only [nx_0, nx_1, nx_2, nx_3, nx_4, nx_5, pv_0, pv_1, pv_2, pv_3, pv_4, pv_5] <;> omega
theorem pv_rng {p : Int} (hp : inP p) (a : Int) : -8 ≤ pv p a ∧ pv p a ≤ 8 := by
  unfold pv
  split
  · omega
  · split
    · omega
    · split
      · omega
      · split
        · omega
        · split <;> omega
/-- the point of three numbers -/
def ptN (x y z : Int) : Int := (x + 8) * 289 + (y + 8) * 17 + z + 8
theorem ptN_ok {x y z : Int} (hx : -8 ≤ x ∧ x ≤ 8) (hy : -8 ≤ y ∧ y ≤ 8) (hz : -8 ≤ z ∧ z ≤ 8) : inP (ptN x y z) ∧ pv (ptN x y z) 0 = x ∧ pv (ptN x y z) 2 = y ∧ pv (ptN x y z) 4 = z := by
  rw [pv_0, pv_2, pv_4]
  unfold ptN
  refine ⟨?_, ?_, ?_, ?_⟩ <;> omega
/-- signed values in the box are those of a point -/
theorem pt_of {s : Int → Int} (hs : sgn s) (hb : ∀ a, lit a → s a ≤ 8) : ∃ p, inP p ∧ ∀ a, lit a → pv p a = s a := by
  have b0 := hb 0 (by omega)
  have b1 := hb 1 (by omega)
  have b2 := hb 2 (by omega)
  have b3 := hb 3 (by omega)
  have b4 := hb 4 (by omega)
  have b5 := hb 5 (by omega)
  have s0 := hs 0 (by omega)
  have s2 := hs 2 (by omega)
  have s4 := hs 4 (by omega)
  rw [nx_0] at s0
  rw [nx_2] at s2
  rw [nx_4] at s4
  obtain ⟨h1, h2, h3, h4⟩ := ptN_ok (x := s 0) (y := s 2) (z := s 4) (by omega) (by omega) (by omega)
  refine ⟨_, h1, fun a ha => ?_⟩
  have g0 := pv_sgn (ptN (s 0) (s 2) (s 4)) 0 (by omega)
  have g2 := pv_sgn (ptN (s 0) (s 2) (s 4)) 2 (by omega)
  have g4 := pv_sgn (ptN (s 0) (s 2) (s 4)) 4 (by omega)
  rw [nx_0] at g0
  rw [nx_2] at g2
  rw [nx_4] at g4
  rcases lit_cases ha with rfl | rfl | rfl | rfl | rfl | rfl <;> omega
theorem pt_eq {p q : Int} (hp : inP p) (hq : inP q) (h : ∀ a, lit a → pv p a = pv q a) : p = q := by
  have h0 := h 0 (by omega)
  have h2 := h 2 (by omega)
  have h4 := h 4 (by omega)
  rw [pv_0, pv_0] at h0
  rw [pv_2, pv_2] at h2
  rw [pv_4, pv_4] at h4
  omega
abbrev PS : Type := Int → Prop
/-- all points by bounds -/
def byB (f : Int → Int) : PS := fun p => inP p ∧ Sat f (pv p)
def dg16 (f : Int → Int) : Prop := ∀ a, lit a → mt f a a ≤ 16
/-- the cell c is a Shape of the points S -/
def Rp (M : Mm) (c : Nat) (S : PS) : Prop := bdd 80000 (M (c + 1)) ∧ ((M c 1 = 1 ∧ ∀ p, ¬ S p) ∨ (M c 1 = 0 ∧ TC (M (c + 1)) ∧ dg16 (M (c + 1)) ∧ ∀ p, S p ↔ byB (M (c + 1)) p))
theorem Rp.e01 {M : Mm} {c : Nat} {S : PS} (h : Rp M c S) : M c 1 = 0 ∨ M c 1 = 1 := by
  rcases h.2 with h | h
  · exact Or.inr h.1
  · exact Or.inl h.1
theorem Rp.inP {M : Mm} {c : Nat} {S : PS} (h : Rp M c S) {p : Int} (hp : S p) : inP p := by
  rcases h.2 with h | h
  · exact absurd hp (h.2 p)
  · exact ((h.2.2.2 p).mp hp).1
/-- closed bounds by points: each is reached by a point -/
theorem tc_pt {f : Int → Int} (hf : TC f) (hd : dg16 f) {a b : Int} (ha : lit a) (hb : lit b) : ∃ p, byB f p ∧ pv p a + pv p b = mt f a b := by
  obtain ⟨s, h1, h2, h3⟩ := oct_att hf ha hb
  obtain ⟨p, q1, q2⟩ := pt_of h1 (fun c hc => by
    have := h2 c c hc hc
    have := hd c hc
    omega)
  refine ⟨p, ⟨q1, fun c d hc hdd => ?_⟩, ?_⟩
  · rw [q2 c hc, q2 d hdd]; exact h2 c d hc hdd
  · rw [q2 a ha, q2 b hb]; exact h3
theorem tc_ne {f : Int → Int} (hf : TC f) (hd : dg16 f) : ∃ p, byB f p := by
  obtain ⟨p, h, -⟩ := tc_pt hf hd (a := 0) (b := 0) (by omega) (by omega)
  exact ⟨p, h⟩
theorem tc_bd {f : Int → Int} (hf : TC f) (hd : dg16 f) : bdd 16 f := by
  intro j h1 h2
  have l1 : lit (j / 6) := by omega
  have l2 : lit (j % 6) := by omega
  obtain ⟨p, ⟨q1, -⟩, q3⟩ := tc_pt hf hd l1 l2
  have e : j / 6 * 6 + j % 6 = j := by omega
  have r1 := pv_rng q1 (j / 6)
  have r2 := pv_rng q1 (j % 6)
  unfold mt at q3
  rw [e] at q3
  omega
theorem Rp.bd {M : Mm} {c : Nat} {S : PS} (h : Rp M c S) (h0 : M c 1 = 0) : bdd 16 (M (c + 1)) := by
  rcases h.2 with h | h
  · omega
  · exact tc_bd h.2.1 h.2.2.1
theorem Rp.ne {M : Mm} {c : Nat} {S : PS} (h : Rp M c S) : M c 1 = 0 ↔ ∃ p, S p := by
  rcases h.2 with h | h
  · refine ⟨fun z => by omega, fun ⟨p, hp⟩ => absurd hp (h.2 p)⟩
  · refine ⟨fun _ => ?_, fun _ => h.1⟩
    obtain ⟨p, hp⟩ := tc_ne h.2.1 h.2.2.1
    exact ⟨p, (h.2.2.2 p).mpr hp⟩
/-- bounds, closed, told by their points -/
theorem tc_le {f g : Int → Int} (hf : TC f) (hd : dg16 f) (h : ∀ p, byB f p → byB g p) {a b : Int} (ha : lit a) (hb : lit b) : mt f a b ≤ mt g a b := by
  obtain ⟨p, q1, q2⟩ := tc_pt hf hd ha hb
  have := (h p q1).2 a b ha hb
  omega
theorem Rp_wth {M : Mm} {c c2 : Nat} {S T : PS} (h : Rp M c S) (h' : Rp M c2 T) : wth M c c2 ↔ ∀ p, S p → T p := by
  unfold wth
  rcases h.2 with q | ⟨q1, q2, q3, q4⟩
  · exact ⟨fun _ p hp => absurd hp (q.2 p), fun _ => Or.inl q.1⟩
  · rcases h'.2 with r | ⟨r1, r2, r3, r4⟩
    · refine ⟨fun z => ?_, fun z => ?_⟩
      · rcases z with z | z
        · omega
        · have := z.2.1; omega
      · obtain ⟨p, hp⟩ := tc_ne q2 q3
        exact absurd (z p ((q4 p).mpr hp)) (r.2 p)
    · refine ⟨fun z p hp => ?_, fun z => Or.inr ⟨q1, r1, fun j j1 j2 => ?_⟩⟩
      · rcases z with z | ⟨-, -, z⟩
        · omega
        · have hp2 := (q4 p).mp hp
          refine (r4 p).mpr ⟨hp2.1, fun a b ha hb => ?_⟩
          have z1 := hp2.2 a b ha hb
          have z2 := z (a * 6 + b) (by omega) (by omega)
          unfold mt at z1 ⊢
          omega
      · have := tc_le q2 q3 (g := M (c2 + 1)) (fun p hp => (r4 p).mp (z p ((q4 p).mpr hp))) (a := j / 6) (b := j % 6) (by omega) (by omega)
        unfold mt at this
        rw [show j / 6 * 6 + j % 6 = j by omega] at this
        exact this
/-- what close makes of a Shape of open bounds -/
theorem close_Rp {M : Mm} {c : Nat} (h0 : M c 1 = 0) (hS : Sym (M (c + 1))) (hz : ∀ a, lit a → mt (M (c + 1)) a (nx a) ≤ 0) (hd : dg16 (M (c + 1))) (hB : bdd 100 (M (c + 1))) : Rp (clM M c) c (byB (M (c + 1))) := by
  obtain ⟨e1, e2, e3⟩ := close_ok hS hz
  have g1 := bdd_mono (cl1_bd hB (by omega) 6 (by omega)).1 (show (100 : Int) * 3 ^ 6 ≤ 80000 by decide)
  have hb2 : bdd 80000 (closeF (M (c + 1))) := hvS_bd (evS_bd g1 6 (by omega)) 6 (by omega)
  unfold clM
  rw [if_pos h0]
  refine ⟨by rw [rwc_at]; exact hb2, ?_⟩
  rw [rwc_at, rwc_ne (show c ≠ c + 1 by omega), rwc_at, up1_s]
  rcases e1 with e | e
  · obtain ⟨t1, t2⟩ := e2 e
    refine Or.inr ⟨e, t1, fun a ha => ?_, fun p => ?_⟩
    · obtain ⟨s, q1, q2, q3⟩ := oct_att t1 ha ha
      have := (t2 s q1).mpr q2 a a ha ha
      have := hd a ha
      omega
    · unfold byB
      rw [t2 (pv p) (pv_sgn p)]
  · exact Or.inl ⟨e, fun p hp => e3 e (pv p) (pv_sgn p) hp.2⟩
