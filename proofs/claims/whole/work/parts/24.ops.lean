/-! ===== what a step does to the points ===== -/
theorem st2_mt {f : Int → Int} {i k z a b : Int} (hi : lit i) (hk : lit k) (ha : lit a) (hb : lit b) : mt (st2 f i k z) a b = if (a = i ∧ b = k) ∨ (a = k ∧ b = i) then z else mt f a b := by
  unfold mt st2 up1
  by_cases h1 : a = k ∧ b = i
  · rw [if_pos (by omega), if_pos (Or.inr h1)]
  · rw [if_neg (by omega)]
    by_cases h2 : a = i ∧ b = k
    · rw [if_pos (by omega), if_pos (Or.inl h2)]
    · rw [if_neg (by omega), if_neg (by omega)]
theorem lsR_mt {f : Int → Int} {q : Int} (hq : lit q) : ∀ k : Nat, k ≤ 6 → ∀ a b, lit a → lit b → mt (lsR q k f) a b = if (a = q ∧ b < k ∧ b ≠ nx q) ∨ (b = q ∧ a < k ∧ a ≠ nx q) then 16 else mt f a b := by
  intro k
  induction k with
  | zero => intro _ a b ha hb; rw [if_neg (by omega)]; rfl
  | succ k ih =>
    intro hk a b ha hb
    have h1 := ih (by omega) a b ha hb
    simp only [lsR]
    by_cases hn : (k : Int) = nx q
    · rw [if_pos hn, h1]
      by_cases hx : (a = q ∧ b < k ∧ b ≠ nx q) ∨ (b = q ∧ a < k ∧ a ≠ nx q)
      · rw [if_pos hx, if_pos (by omega)]
      · rw [if_neg hx, if_neg (by omega)]
    · rw [if_neg hn, st2_mt hq (by omega) ha hb, h1]
      by_cases hy : (a = q ∧ b = k) ∨ (a = k ∧ b = q)
      · rw [if_pos hy, if_pos (by omega)]
      · rw [if_neg hy]
        by_cases hx : (a = q ∧ b < k ∧ b ≠ nx q) ∨ (b = q ∧ a < k ∧ a ≠ nx q)
        · rw [if_pos hx, if_pos (by omega)]
        · rw [if_neg hx, if_neg (by omega)]
theorem nx_half {a : Int} (h : lit a) : nx a / 2 = a / 2 := by
  unfold nx; split <;> omega
theorem half_cases {a x : Int} (h : a / 2 = x) : a = 2 * x ∨ a = 2 * x + 1 := by omega
theorem nx_even (x : Int) : nx (2 * x) = 2 * x + 1 := by unfold nx; rw [if_pos (by omega)]
theorem nx_odd (x : Int) : nx (2 * x + 1) = 2 * x := by unfold nx; rw [if_neg (by omega)]; omega
theorem lose_mt {f : Int → Int} {x : Int} (hx : 0 ≤ x ∧ x < 3) {a b : Int} (ha : lit a) (hb : lit b) : mt (loseF x f) a b = if (a / 2 = x ∨ b / 2 = x) ∧ b ≠ nx a then 16 else mt f a b := by
  unfold loseF
  rw [lsR_mt (by omega) 6 (by omega) a b ha hb, lsR_mt (by omega) 6 (by omega) a b ha hb, nx_even, nx_odd]
  have hna : nx a = if a % 2 = 0 then a + 1 else a - 1 := rfl
  by_cases h1 : (a / 2 = x ∨ b / 2 = x) ∧ b ≠ nx a
  · rw [if_pos h1]
    by_cases h2 : (a = 2 * x + 1 ∧ b < ((6 : Nat) : Int) ∧ b ≠ 2 * x) ∨ (b = 2 * x + 1 ∧ a < ((6 : Nat) : Int) ∧ a ≠ 2 * x)
    · rw [if_pos h2]
    · rw [if_neg h2, if_pos]
      split at hna <;> omega
  · rw [if_neg h1, if_neg, if_neg]
    · split at hna <;> omega
    · split at hna <;> omega
/-- p with its number x made v -/
def wv (p x v : Int) : Int := p + (v - pv p (2 * x)) * (if x = 0 then 289 else if x = 1 then 17 else 1)
theorem wv_ok {p x v : Int} (hp : inP p) (hx : 0 ≤ x ∧ x < 3) (hv : -8 ≤ v ∧ v ≤ 8) : inP (wv p x v) ∧ pv (wv p x v) (2 * x) = v ∧ pv (wv p x v) (2 * x + 1) = -v ∧ ∀ a, lit a → a / 2 ≠ x → pv (wv p x v) a = pv p a := by
  have h3 : x = 0 ∨ x = 1 ∨ x = 2 := by omega
  have key : inP (wv p x v) ∧ pv (wv p x v) (2 * x) = v ∧ ∀ a, lit a → a / 2 ≠ x → pv (wv p x v) a = pv p a := by
    rcases h3 with rfl | rfl | rfl
    · simp only [wv, Int.mul_zero, pv_0, if_true]
      refine ⟨by omega, by omega, fun a ha hn => ?_⟩
      rcases lit_cases ha with rfl | rfl | rfl | rfl | rfl | rfl
      · exact absurd rfl hn
      · exact absurd (by decide) hn
      · rw [pv_2, pv_2]; omega
      · rw [pv_3, pv_3]; omega
      · rw [pv_4, pv_4]; omega
      · rw [pv_5, pv_5]; omega
    · simp only [wv, Int.mul_one, pv_2, if_true]
      rw [if_neg (by decide)]
      refine ⟨by omega, by omega, fun a ha hn => ?_⟩
      rcases lit_cases ha with rfl | rfl | rfl | rfl | rfl | rfl
      · rw [pv_0, pv_0]; omega
      · rw [pv_1, pv_1]; omega
      · exact absurd (by decide) hn
      · exact absurd (by decide) hn
      · rw [pv_4, pv_4]; omega
      · rw [pv_5, pv_5]; omega
    · have e4 : (2 : Int) * 2 = 4 := by decide
      simp only [wv, e4, pv_4]
      rw [if_neg (by decide), if_neg (by decide)]
      refine ⟨by omega, by omega, fun a ha hn => ?_⟩
      rcases lit_cases ha with rfl | rfl | rfl | rfl | rfl | rfl
      · rw [pv_0, pv_0]; omega
      · rw [pv_1, pv_1]; omega
      · rw [pv_2, pv_2]; omega
      · rw [pv_3, pv_3]; omega
      · exact absurd (by decide) hn
      · exact absurd (by decide) hn
  refine ⟨key.1, key.2.1, ?_, key.2.2⟩
  have := pv_sgn (wv p x v) (2 * x) (by omega)
  rw [nx_even, key.2.1] at this
  exact this
/-- a step's doing, as the document tells it: kinds 0 test, 1 set, 2 lose, 3 move -/
def stepS (kd a b z : Int) (S : PS) : PS := fun q =>
  if kd = 0 then S q ∧ pv q a + pv q b ≤ z
  else if kd = 2 then ∃ p v, S p ∧ (-8 ≤ v ∧ v ≤ 8) ∧ q = wv p a v
  else ∃ p, S p ∧ (-8 ≤ (if kd = 1 then pv p b else pv p (2 * a)) + z ∧ (if kd = 1 then pv p b else pv p (2 * a)) + z ≤ 8) ∧ q = wv p a ((if kd = 1 then pv p b else pv p (2 * a)) + z)
theorem lim_ok {f : Int → Int} (hS : Sym f) {i k z : Int} (hi : lit i) (hk : lit k) (s : Int → Int) : Sat (limF f i k z) s ↔ Sat f s ∧ s i + s k ≤ z := by
  constructor
  · intro h
    have h2 := h i k hi hk
    rw [lim_mt hS hi hk hi hk, if_pos (Or.inl ⟨rfl, rfl⟩)] at h2
    refine ⟨fun a b ha hb => ?_, by omega⟩
    have h3 := h a b ha hb
    rw [lim_mt hS hi hk ha hb] at h3
    split at h3 <;> omega
  · rintro ⟨h1, h2⟩ a b ha hb
    rw [lim_mt hS hi hk ha hb]
    have h3 := h1 a b ha hb
    split
    · rename_i hc
      rcases hc with ⟨r1, r2⟩ | ⟨r1, r2⟩ <;> (rw [r1, r2] at h3 ⊢; omega)
    · exact h3
theorem lose_ok {f : Int → Int} (hf : TC f) (hd : dg16 f) {x : Int} (hx : 0 ≤ x ∧ x < 3) (q : Int) : byB (loseF x f) q ↔ ∃ p v, byB f p ∧ (-8 ≤ v ∧ v ≤ 8) ∧ q = wv p x v := by
  constructor
  · rintro ⟨hq, h⟩
    -- the other numbers are good for f
    obtain ⟨fS, fT, fZ, fE, fH⟩ := id hf
    have hg : GoodO f ((List.range 6).map (fun k => ((k : Nat) : Int)) |>.filter (fun a => a / 2 ≠ x)) (pv q) := by
      have mem : ∀ a, a ∈ ((List.range 6).map (fun k => ((k : Nat) : Int)) |>.filter (fun a => a / 2 ≠ x)) ↔ lit a ∧ a / 2 ≠ x := by
        intro a
        simp only [List.mem_filter, List.mem_map, List.mem_range, decide_eq_true_eq]
        constructor
        · rintro ⟨⟨k, hk, rfl⟩, h2⟩; exact ⟨by omega, h2⟩
        · rintro ⟨h1, h2⟩; exact ⟨⟨a.toNat, by omega, by omega⟩, h2⟩
      refine ⟨fun a ha => ?_, fun a b ha hb => ?_⟩
      · obtain ⟨h1, h2⟩ := (mem a).mp ha
        refine ⟨h1, (mem _).mpr ⟨nx_lit h1, by rw [nx_half h1]; exact h2⟩, pv_sgn q a h1⟩
      · obtain ⟨h1, h2⟩ := (mem a).mp ha
        obtain ⟨h3, h4⟩ := (mem b).mp hb
        have := h a b h1 h3
        rw [lose_mt hx h1 h3, if_neg (fun z => by rcases z.1 with z | z; exact h2 z; exact h4 z)] at this
        exact this
    obtain ⟨s, s1, s2, s3⟩ := oct_all hf hg
    obtain ⟨p, p1, p2⟩ := pt_of s1 (fun c hc => by
      have := s2 c c hc hc
      have := hd c hc
      omega)
    have hv := pv_rng hq (2 * x)
    refine ⟨p, pv q (2 * x), ⟨p1, fun a b ha hb => by rw [p2 a ha, p2 b hb]; exact s2 a b ha hb⟩, hv, ?_⟩
    obtain ⟨w1, w2, w3, w4⟩ := wv_ok p1 hx hv
    refine pt_eq hq w1 fun a ha => ?_
    by_cases hax : a / 2 = x
    · rcases half_cases hax with e | e
      · rw [e, w2]
      · rw [e, w3]
        have := pv_sgn q (2 * x) (by omega)
        rw [nx_even] at this
        exact this
    · rw [w4 a ha hax, p2 a ha, s3 a]
      simp only [List.mem_filter, List.mem_map, List.mem_range, decide_eq_true_eq]
      exact ⟨⟨a.toNat, by omega, by omega⟩, hax⟩
  · rintro ⟨p, v, ⟨hp, h⟩, hv, rfl⟩
    obtain ⟨w1, w2, w3, w4⟩ := wv_ok hp hx hv
    refine ⟨w1, fun a b ha hb => ?_⟩
    rw [lose_mt hx ha hb]
    have r1 := pv_rng w1 a
    have r2 := pv_rng w1 b
    by_cases hc : (a / 2 = x ∨ b / 2 = x) ∧ b ≠ nx a
    · rw [if_pos hc]; omega
    · rw [if_neg hc]
      by_cases hb2 : b = nx a
      · rw [hb2, pv_sgn _ a ha, hf.2.2.1 a ha]; omega
      · have n1 : a / 2 ≠ x := fun z => hc ⟨Or.inl z, hb2⟩
        have n2 : b / 2 ≠ x := fun z => hc ⟨Or.inr z, hb2⟩
        rw [w4 a ha n1, w4 b hb n2]
        exact h a b ha hb
/-- the turn, entry by entry -/
def tnx (x a : Int) : Int := if a / 2 = x then nx a else a
theorem tnR_mt {f : Int → Int} (hS : Sym f) {x : Int} (hx : 0 ≤ x ∧ x < 3) : ∀ k : Nat, k ≤ 6 → ∀ a b, lit a → lit b → mt (tnR x k f) a b = if (a / 2 = x ∧ b / 2 ≠ x ∧ b < k) then mt f (nx a) b else if (b / 2 = x ∧ a / 2 ≠ x ∧ a < k) then mt f (nx b) a else mt f a b := by
  intro k
  induction k with
  | zero => intro _ a b ha hb; rw [if_neg (by omega), if_neg (by omega)]; rfl
  | succ k ih =>
    intro hk a b ha hb
    have h1 := ih (by omega)
    have hl : lit (k : Int) := by omega
    simp only [tnR]
    by_cases hn : (k : Int) / 2 = x
    · rw [if_pos hn, h1 a b ha hb]
      repeat' split
      all_goals first | rfl | omega
    · rw [if_neg hn]
      have u1 : mt (tnR x k f) (2 * x) k = mt f (2 * x) k := by rw [h1 _ _ (by omega) hl, if_neg (by omega), if_neg (by omega)]
      have u2 : mt (tnR x k f) (2 * x + 1) k = mt f (2 * x + 1) k := by rw [h1 _ _ (by omega) hl, if_neg (by omega), if_neg (by omega)]
      show mt (st2 (st2 (tnR x k f) (2 * x) k (mt (tnR x k f) (2 * x + 1) k)) (2 * x + 1) k (mt (tnR x k f) (2 * x) k)) a b = _
      rw [u1, u2, st2_mt (by omega) hl ha hb]
      by_cases d1 : (a = 2 * x + 1 ∧ b = k) ∨ (a = k ∧ b = 2 * x + 1)
      · rw [if_pos d1]
        rcases d1 with ⟨r1, r2⟩ | ⟨r1, r2⟩
        · rw [if_pos (by omega), r1, r2, nx_odd]
        · rw [if_neg (by omega), if_pos (by omega), r1, r2, nx_odd]
      · rw [if_neg d1, st2_mt (by omega) hl ha hb]
        by_cases d2 : (a = 2 * x ∧ b = k) ∨ (a = k ∧ b = 2 * x)
        · rw [if_pos d2]
          rcases d2 with ⟨r1, r2⟩ | ⟨r1, r2⟩
          · rw [if_pos (by omega), r1, r2, nx_even]
          · rw [if_neg (by omega), if_pos (by omega), r1, r2, nx_even]
        · rw [if_neg d2, h1 a b ha hb]
          repeat' split
          all_goals first | rfl | omega
theorem turn_mt {f : Int → Int} (hf : TC f) {x : Int} (hx : 0 ≤ x ∧ x < 3) {a b : Int} (ha : lit a) (hb : lit b) : mt (turnF x f) a b = mt f (tnx x a) (tnx x b) := by
  obtain ⟨fS, fT, fZ, fE, fH⟩ := hf
  have l1 : lit (2 * x) := by omega
  have l2 : lit (2 * x + 1) := by omega
  unfold turnF
  have hg : ∀ a b, lit a → lit b → mt (st2 (st2 f (2 * x) (2 * x) (f ((2 * x + 1) * 6 + (2 * x + 1)))) (2 * x + 1) (2 * x + 1) (f ((2 * x) * 6 + 2 * x))) a b = if a = 2 * x + 1 ∧ b = 2 * x + 1 then mt f (2 * x) (2 * x) else if a = 2 * x ∧ b = 2 * x then mt f (2 * x + 1) (2 * x + 1) else mt f a b := by
    intro a b ha hb
    rw [st2_mt l2 l2 ha hb]
    by_cases c1 : a = 2 * x + 1 ∧ b = 2 * x + 1
    · rw [if_pos (Or.inl c1), if_pos c1]
    · rw [if_neg (by omega), if_neg c1, st2_mt l1 l1 ha hb]
      by_cases c2 : a = 2 * x ∧ b = 2 * x
      · rw [if_pos (Or.inl c2), if_pos c2]
      · rw [if_neg (by omega), if_neg c2]
  generalize st2 (st2 f (2 * x) (2 * x) (f ((2 * x + 1) * 6 + (2 * x + 1)))) (2 * x + 1) (2 * x + 1) (f ((2 * x) * 6 + 2 * x)) = g at hg
  have gS : Sym g := by
    intro a b ha hb
    rw [hg a b ha hb, hg b a hb ha]
    have := fS a b ha hb
    repeat' split
    all_goals first | rfl | omega
  rw [tnR_mt gS hx 6 (by omega) a b ha hb]
  have na := nx_half ha
  have nb := nx_half hb
  have c6a : a < ((6 : Nat) : Int) := by omega
  have c6b : b < ((6 : Nat) : Int) := by omega
  by_cases hA : a / 2 = x
  · have tA : tnx x a = nx a := by unfold tnx; rw [if_pos hA]
    by_cases hBx : b / 2 = x
    · have tB : tnx x b = nx b := by unfold tnx; rw [if_pos hBx]
      rw [if_neg (fun z => z.2.1 hBx), if_neg (fun z => z.2.1 hA), tA, tB, hg a b ha hb]
      rcases half_cases hA with e1 | e1 <;> rcases half_cases hBx with e2 | e2 <;> rw [e1, e2] <;> simp only [nx_even, nx_odd]
      · rw [if_neg (by omega)]
        simp
      · rw [if_neg (by omega), if_neg (by omega)]
        exact fS _ _ l1 l2
      · rw [if_neg (by omega), if_neg (by omega)]
        exact fS _ _ l2 l1
      · simp
    · have tB : tnx x b = b := by unfold tnx; rw [if_neg hBx]
      rw [if_pos ⟨hA, hBx, c6b⟩, tA, tB, hg _ _ (nx_lit ha) hb, if_neg (fun z => hBx (by omega)), if_neg (fun z => hBx (by omega))]
  · have tA : tnx x a = a := by unfold tnx; rw [if_neg hA]
    by_cases hBx : b / 2 = x
    · have tB : tnx x b = nx b := by unfold tnx; rw [if_pos hBx]
      rw [if_neg (fun z => hA z.1), if_pos ⟨hBx, hA, c6a⟩, tA, tB, hg _ _ (nx_lit hb) ha, if_neg (fun z => hA (by omega)), if_neg (fun z => hA (by omega))]
      exact fS _ _ (nx_lit hb) ha
    · have tB : tnx x b = b := by unfold tnx; rw [if_neg hBx]
      rw [if_neg (fun z => hA z.1), if_neg (fun z => hBx z.1), tA, tB, hg a b ha hb, if_neg (fun z => hA (by omega)), if_neg (fun z => hA (by omega))]
