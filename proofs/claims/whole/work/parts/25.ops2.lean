/-! ===== move, and each step ===== -/
/-- by how much a signed number moves with x -/
def sgz (x z a : Int) : Int := if a = 2 * x then z else if a = 2 * x + 1 then -z else 0
theorem shR_mt {f : Int → Int} (hS : Sym f) {x z : Int} (hx : 0 ≤ x ∧ x < 3) : ∀ k : Nat, k ≤ 6 → ∀ a b, lit a → lit b → mt (shR x z k f) a b = if (a / 2 = x ∧ b / 2 ≠ x ∧ b < k) ∨ (b / 2 = x ∧ a / 2 ≠ x ∧ a < k) then mt f a b + sgz x z a + sgz x z b else mt f a b := by
  intro k
  induction k with
  | zero => intro _ a b ha hb; rw [if_neg (by omega)]; rfl
  | succ k ih =>
    intro hk a b ha hb
    have h1 := ih (by omega)
    have hl : lit (k : Int) := by omega
    have l1 : lit (2 * x) := by omega
    have l2 : lit (2 * x + 1) := by omega
    simp only [shR]
    by_cases hn : (k : Int) / 2 = x
    · rw [if_pos hn, h1 a b ha hb]
      repeat' split
      all_goals first | rfl | omega
    · rw [if_neg hn]
      have u1 : mt (shR x z k f) (2 * x) k = mt f (2 * x) k := by rw [h1 _ _ l1 hl, if_neg (by omega)]
      have u2 : mt (shR x z k f) (2 * x + 1) k = mt f (2 * x + 1) k := by rw [h1 _ _ l2 hl, if_neg (by omega)]
      have u3 : mt (st2 (shR x z k f) (2 * x) k (mt (shR x z k f) (2 * x) k + z)) (2 * x + 1) k = mt f (2 * x + 1) k := by rw [st2_mt l1 hl l2 hl, if_neg (by omega), u2]
      show mt (st2 (st2 (shR x z k f) (2 * x) k (mt (shR x z k f) (2 * x) k + z)) (2 * x + 1) k (mt (st2 (shR x z k f) (2 * x) k (mt (shR x z k f) (2 * x) k + z)) (2 * x + 1) k - z)) a b = _
      rw [u3, st2_mt l2 hl ha hb, u1]
      have g1 : sgz x z (2 * x) = z := by unfold sgz; rw [if_pos rfl]
      have g2 : sgz x z (2 * x + 1) = -z := by unfold sgz; rw [if_neg (by omega), if_pos rfl]
      have g3 : sgz x z k = 0 := by unfold sgz; rw [if_neg (by omega), if_neg (by omega)]
      have y1 := hS (2 * x) k l1 hl
      have y2 := hS (2 * x + 1) k l2 hl
      by_cases d1 : (a = 2 * x + 1 ∧ b = k) ∨ (a = k ∧ b = 2 * x + 1)
      · rw [if_pos d1, if_pos (by omega)]
        rcases d1 with ⟨r1, r2⟩ | ⟨r1, r2⟩
        · rw [r1, r2, g2, g3]; omega
        · rw [r1, r2, g2, g3]; omega
      · rw [if_neg d1, st2_mt l1 hl ha hb]
        by_cases d2 : (a = 2 * x ∧ b = k) ∨ (a = k ∧ b = 2 * x)
        · rw [if_pos d2, if_pos (by omega)]
          rcases d2 with ⟨r1, r2⟩ | ⟨r1, r2⟩
          · rw [r1, r2, g1, g3]; omega
          · rw [r1, r2, g1, g3]; omega
        · rw [if_neg d2, h1 a b ha hb]
          repeat' split
          all_goals first | rfl | omega
/-- the move, entry by entry -/
theorem shift_mt {f : Int → Int} (hf : TC f) {x z : Int} (hx : 0 ≤ x ∧ x < 3) {a b : Int} (ha : lit a) (hb : lit b) : mt (shiftF x z f) a b = if a = b ∧ a / 2 = x then min (mt f a b + sgz x z a + sgz x z b) 16 else mt f a b + sgz x z a + sgz x z b := by
  obtain ⟨fS, fT, fZ, fE, fH⟩ := hf
  have l1 : lit (2 * x) := by omega
  have l2 : lit (2 * x + 1) := by omega
  have g1 : sgz x z (2 * x) = z := by unfold sgz; rw [if_pos rfl]
  have g2 : sgz x z (2 * x + 1) = -z := by unfold sgz; rw [if_neg (by omega), if_pos rfl]
  have g3 : ∀ c, c / 2 ≠ x → sgz x z c = 0 := by intro c hc; unfold sgz; rw [if_neg (by omega), if_neg (by omega)]
  have hR := shR_mt fS (z := z) hx 6 (by omega)
  unfold shiftF
  generalize shR x z 6 f = g at hR
  have r1 : mt g (2 * x) (2 * x) = mt f (2 * x) (2 * x) := by rw [hR _ _ l1 l1, if_neg (by omega)]
  have r2 : mt g (2 * x + 1) (2 * x + 1) = mt f (2 * x + 1) (2 * x + 1) := by rw [hR _ _ l2 l2, if_neg (by omega)]
  have r3 : mt (shE x z g) (2 * x + 1) (2 * x + 1) = mt f (2 * x + 1) (2 * x + 1) := by
    unfold shE
    rw [st2_mt l1 l1 l2 l2, if_neg (by omega), r2]
  show mt (st2 (shE x z g) (2 * x + 1) (2 * x + 1) (min (mt (shE x z g) (2 * x + 1) (2 * x + 1) - 2 * z) 16)) a b = _
  rw [r3, st2_mt l2 l2 ha hb]
  by_cases c1 : a = 2 * x + 1 ∧ b = 2 * x + 1
  · rw [if_pos (Or.inl c1), if_pos (by omega), c1.1, c1.2, g2]
    omega
  · rw [if_neg (by omega)]
    show mt (st2 g (2 * x) (2 * x) (min (mt g (2 * x) (2 * x) + 2 * z) 16)) a b = _
    rw [r1, st2_mt l1 l1 ha hb]
    by_cases c2 : a = 2 * x ∧ b = 2 * x
    · rw [if_pos (Or.inl c2), if_pos (by omega), c2.1, c2.2, g1]
      omega
    · rw [if_neg (by omega), if_neg (by omega), hR a b ha hb]
      by_cases hA : a / 2 = x
      · by_cases hBx : b / 2 = x
        · rw [if_neg (by omega)]
          rcases half_cases hA with e1 | e1 <;> rcases half_cases hBx with e2 | e2 <;> (first | omega | (rw [e1, e2, g1, g2]; omega))
        · rw [if_pos (by omega)]
      · by_cases hBx : b / 2 = x
        · rw [if_pos (by omega)]
        · rw [if_neg (by omega), g3 a hA, g3 b hBx]; omega
theorem shift_ok {f : Int → Int} (hf : TC f) (hd : dg16 f) {x z : Int} (hx : 0 ≤ x ∧ x < 3) (q : Int) : byB (shiftF x z f) q ↔ ∃ p, byB f p ∧ (-8 ≤ pv p (2 * x) + z ∧ pv p (2 * x) + z ≤ 8) ∧ q = wv p x (pv p (2 * x) + z) := by
  have g1 : sgz x z (2 * x) = z := by unfold sgz; rw [if_pos rfl]
  have g2 : sgz x z (2 * x + 1) = -z := by unfold sgz; rw [if_neg (by omega), if_pos rfl]
  have g3 : ∀ c, c / 2 ≠ x → sgz x z c = 0 := by intro c hc; unfold sgz; rw [if_neg (by omega), if_neg (by omega)]
  have gn : ∀ c, lit c → sgz x z (nx c) = - sgz x z c := by
    intro c hc
    by_cases h : c / 2 = x
    · rcases half_cases h with e | e <;> rw [e]
      · rw [nx_even, g1, g2]
      · rw [nx_odd, g1, g2]; omega
    · rw [g3 c h, g3 _ (by rw [nx_half hc]; exact h)]; omega
  constructor
  · rintro ⟨hq, h⟩
    have h2 : Sat f (fun c => pv q c - sgz x z c) := by
      intro a b ha hb
      have := h a b ha hb
      rw [shift_mt hf hx ha hb] at this
      dsimp only
      split at this <;> omega
    have hs : sgn (fun c => pv q c - sgz x z c) := by
      intro a ha
      dsimp only
      rw [pv_sgn q a ha, gn a ha]; omega
    obtain ⟨p, p1, p2⟩ := pt_of hs (fun c hc => by
      have := h2 c c hc hc
      have := hd c hc
      try dsimp only at *
      omega)
    have e1 := p2 (2 * x) (by omega)
    try dsimp only at e1
    rw [g1] at e1
    have hv := pv_rng hq (2 * x)
    have hv2 : -8 ≤ pv p (2 * x) + z ∧ pv p (2 * x) + z ≤ 8 := by omega
    refine ⟨p, ⟨p1, fun a b ha hb => by rw [p2 a ha, p2 b hb]; exact h2 a b ha hb⟩, hv2, ?_⟩
    obtain ⟨w1, w2, w3, w4⟩ := wv_ok p1 hx hv2
    refine pt_eq hq w1 fun a ha => ?_
    have e3 := p2 a ha
    try dsimp only at e3
    by_cases hax : a / 2 = x
    · rcases half_cases hax with e | e
      · rw [e, w2]; omega
      · rw [e, w3]
        have := pv_sgn q (2 * x) (by omega)
        rw [nx_even] at this
        omega
    · rw [w4 a ha hax, e3, g3 a hax]; omega
  · rintro ⟨p, ⟨hp, h⟩, hv, rfl⟩
    obtain ⟨w1, w2, w3, w4⟩ := wv_ok hp hx hv
    have hw : ∀ a, lit a → pv (wv p x (pv p (2 * x) + z)) a = pv p a + sgz x z a := by
      intro a ha
      by_cases hax : a / 2 = x
      · rcases half_cases hax with e | e
        · rw [e, w2, g1]
        · rw [e, w3, g2]
          have := pv_sgn p (2 * x) (by omega)
          rw [nx_even] at this
          omega
      · rw [w4 a ha hax, g3 a hax]; omega
    refine ⟨w1, fun a b ha hb => ?_⟩
    have h2 := h a b ha hb
    have r1 := pv_rng w1 a
    have r2 := pv_rng w1 b
    rw [shift_mt hf hx ha hb]
    have e1 := hw a ha
    have e2 := hw b hb
    split <;> omega
/-- turned closed bounds are closed, and are those of the turned points -/
theorem tnx_lit {x a : Int} (h : lit a) : lit (tnx x a) := by unfold tnx; split; exact nx_lit h; exact h
theorem tnx_nx {x a : Int} (h : lit a) : tnx x (nx a) = nx (tnx x a) := by
  unfold tnx
  rw [nx_half h]
  split <;> rfl
theorem turn_TC {f : Int → Int} (hf : TC f) {x : Int} (hx : 0 ≤ x ∧ x < 3) : TC (turnF x f) := by
  have hm := fun {a b : Int} (ha : lit a) (hb : lit b) => turn_mt hf hx ha hb
  obtain ⟨fS, fT, fZ, fE, fH⟩ := id hf
  refine ⟨fun a b ha hb => ?_, fun a b c ha hb hc => ?_, fun a ha => ?_, fun a ha => ?_, fun a b ha hb => ?_⟩
  · rw [hm ha hb, hm hb ha]; exact fS _ _ (tnx_lit ha) (tnx_lit hb)
  · rw [hm ha hb, hm ha hc, hm (nx_lit hc) hb, tnx_nx hc]; exact fT _ _ _ (tnx_lit ha) (tnx_lit hb) (tnx_lit hc)
  · rw [hm ha (nx_lit ha), tnx_nx ha]; exact fZ _ (tnx_lit ha)
  · rw [hm ha ha]; exact fE _ (tnx_lit ha)
  · rw [hm ha hb, hm ha ha, hm hb hb]; exact fH _ _ (tnx_lit ha) (tnx_lit hb)
theorem turn_dg {f : Int → Int} (hf : TC f) (hd : dg16 f) {x : Int} (hx : 0 ≤ x ∧ x < 3) : dg16 (turnF x f) := fun a ha => by
  rw [turn_mt hf hx ha ha]; exact hd _ (tnx_lit ha)
theorem tnx_tnx {x a : Int} (h : lit a) : tnx x (tnx x a) = a := by
  unfold tnx
  by_cases hc : a / 2 = x
  · rw [if_pos hc, nx_half h, if_pos hc, nx_nx h]
  · rw [if_neg hc, if_neg hc]
theorem turn_ok {f : Int → Int} (hf : TC f) {x : Int} (hx : 0 ≤ x ∧ x < 3) (q : Int) : byB (turnF x f) q ↔ ∃ p, byB f p ∧ q = wv p x (- pv p (2 * x)) := by
  have vl : ∀ p, inP p → ∀ a, lit a → pv (wv p x (- pv p (2 * x))) a = pv p (tnx x a) := by
    intro p hp a ha
    have r := pv_rng hp (2 * x)
    obtain ⟨w1, w2, w3, w4⟩ := wv_ok (p := p) (x := x) (v := - pv p (2 * x)) hp hx (by omega)
    by_cases hax : a / 2 = x
    · have hn := pv_sgn p (2 * x) (by omega)
      rw [nx_even] at hn
      unfold tnx
      rw [if_pos hax]
      rcases half_cases hax with e | e
      · rw [e, w2, nx_even, hn]
      · rw [e, w3, nx_odd]; omega
    · unfold tnx
      rw [if_neg hax, w4 a ha hax]
  constructor
  · rintro ⟨hq, h⟩
    have r := pv_rng hq (2 * x)
    obtain ⟨w1, w2, w3, w4⟩ := wv_ok (p := q) (x := x) (v := - pv q (2 * x)) hq hx (by omega)
    refine ⟨wv q x (- pv q (2 * x)), ⟨w1, fun a b ha hb => ?_⟩, ?_⟩
    · rw [vl q hq a ha, vl q hq b hb]
      have := h (tnx x a) (tnx x b) (tnx_lit ha) (tnx_lit hb)
      rw [turn_mt hf hx (tnx_lit ha) (tnx_lit hb), tnx_tnx ha, tnx_tnx hb] at this
      exact this
    · have r2 := pv_rng w1 (2 * x)
      obtain ⟨v1, -⟩ := wv_ok (p := wv q x (- pv q (2 * x))) (x := x) (v := - pv (wv q x (- pv q (2 * x))) (2 * x)) w1 hx (by omega)
      refine pt_eq hq v1 fun a ha => ?_
      rw [vl _ w1 a ha, vl q hq _ (tnx_lit ha), tnx_tnx ha]
  · rintro ⟨p, ⟨hp, h⟩, rfl⟩
    have r := pv_rng hp (2 * x)
    obtain ⟨w1, -⟩ := wv_ok (p := p) (x := x) (v := - pv p (2 * x)) hp hx (by omega)
    refine ⟨w1, fun a b ha hb => ?_⟩
    rw [vl p hp a ha, vl p hp b hb, turn_mt hf hx ha hb]
    exact h _ _ (tnx_lit ha) (tnx_lit hb)
