/-! ===== each step on closed bounds, then closed ===== -/
theorem bdd_mt {B : Int} {g : Int → Int} (h : ∀ a b, lit a → lit b → -B ≤ mt g a b ∧ mt g a b ≤ B) : bdd B g := by
  intro j h1 h2
  have := h (j / 6) (j % 6) (by omega) (by omega)
  unfold mt at this
  rw [show j / 6 * 6 + j % 6 = j by omega] at this
  exact this
/-- open bounds that close may be asked of -/
def Opn (g : Int → Int) : Prop := Sym g ∧ (∀ a, lit a → mt g a (nx a) ≤ 0) ∧ dg16 g ∧ bdd 100 g
theorem tc_mtb {f : Int → Int} (hf : TC f) (hd : dg16 f) {a b : Int} (ha : lit a) (hb : lit b) : -16 ≤ mt f a b ∧ mt f a b ≤ 16 := tc_bd hf hd (a * 6 + b) (by omega) (by omega)
theorem opn_tc {f : Int → Int} (hf : TC f) (hd : dg16 f) : Opn f := ⟨hf.1, fun a ha => by rw [hf.2.2.1 a ha]; omega, hd, bdd_mono (tc_bd hf hd) (by omega)⟩
theorem opn_lim {f : Int → Int} (h : Opn f) {i k z : Int} (hi : lit i) (hk : lit k) (hz : -100 ≤ z ∧ z ≤ 100) : Opn (limF f i k z) := by
  obtain ⟨h1, h2, h3, h4⟩ := h
  refine ⟨lim_sym h1 hi hk, fun a ha => ?_, fun a ha => ?_, bdd_lim h4 hz⟩
  · rw [lim_mt h1 hi hk ha (nx_lit ha)]
    have := h2 a ha
    split <;> omega
  · rw [lim_mt h1 hi hk ha ha]
    have := h3 a ha
    split <;> omega
theorem opn_lose {f : Int → Int} (hf : TC f) (hd : dg16 f) {x : Int} (hx : 0 ≤ x ∧ x < 3) : Opn (loseF x f) := by
  have hm := fun {a b : Int} (ha : lit a) (hb : lit b) => lose_mt (f := f) hx ha hb
  refine ⟨fun a b ha hb => ?_, fun a ha => ?_, fun a ha => ?_, lose_bd (bdd_mono (tc_bd hf hd) (by omega)) (by omega)⟩
  · rw [hm ha hb, hm hb ha]
    have e : (b ≠ nx a) ↔ (a ≠ nx b) := by
      constructor
      · intro h z; exact h (by rw [z, nx_nx hb])
      · intro h z; exact h (by rw [z, nx_nx ha])
    have s := hf.1 a b ha hb
    by_cases hc : (a / 2 = x ∨ b / 2 = x) ∧ b ≠ nx a
    · rw [if_pos hc, if_pos ⟨hc.1.symm, e.mp hc.2⟩]
    · rw [if_neg hc, if_neg (fun z => hc ⟨z.1.symm, e.mpr z.2⟩), s]
  · rw [hm ha (nx_lit ha), if_neg (fun z => z.2 rfl), hf.2.2.1 a ha]; omega
  · rw [hm ha ha]
    have := hd a ha
    split <;> omega
theorem opn_shift {f : Int → Int} (hf : TC f) (hd : dg16 f) {x z : Int} (hx : 0 ≤ x ∧ x < 3) (hz : -9 ≤ z ∧ z ≤ 9) : Opn (shiftF x z f) := by
  have hm := fun {a b : Int} (ha : lit a) (hb : lit b) => shift_mt (z := z) hf hx ha hb
  have g0 : ∀ c, (sgz x z c = z ∨ sgz x z c = -z ∨ sgz x z c = 0) := by
    intro c; unfold sgz; split
    · exact Or.inl rfl
    · split
      · exact Or.inr (Or.inl rfl)
      · exact Or.inr (Or.inr rfl)
  have g3 : ∀ c, c / 2 ≠ x → sgz x z c = 0 := by intro c hc; unfold sgz; rw [if_neg (by omega), if_neg (by omega)]
  have g1 : sgz x z (2 * x) = z := by unfold sgz; rw [if_pos rfl]
  have g2 : sgz x z (2 * x + 1) = -z := by unfold sgz; rw [if_neg (by omega), if_pos rfl]
  have gn : ∀ c, lit c → sgz x z (nx c) = - sgz x z c := by
    intro c hc
    by_cases h : c / 2 = x
    · rcases half_cases h with e | e <;> rw [e]
      · rw [nx_even, g1, g2]
      · rw [nx_odd, g1, g2]; omega
    · rw [g3 c h, g3 _ (by rw [nx_half hc]; exact h)]; omega
  refine ⟨fun a b ha hb => ?_, fun a ha => ?_, fun a ha => ?_, bdd_mt fun a b ha hb => ?_⟩
  · rw [hm ha hb, hm hb ha]
    have s := hf.1 a b ha hb
    by_cases hc : a = b ∧ a / 2 = x
    · rw [if_pos hc, if_pos ⟨hc.1.symm, by rw [← hc.1]; exact hc.2⟩]; omega
    · rw [if_neg hc, if_neg (fun q => hc ⟨q.1.symm, by rw [← q.1]; exact q.2⟩)]; omega
  · rw [hm ha (nx_lit ha), if_neg (fun q => nx_ne a q.1.symm), hf.2.2.1 a ha, gn a ha]; omega
  · rw [hm ha ha]
    by_cases hc : a / 2 = x
    · rw [if_pos ⟨rfl, hc⟩]; omega
    · rw [if_neg (fun q => hc q.2), g3 a hc]
      have := hd a ha
      omega
  · rw [hm ha hb]
    have := tc_mtb hf hd ha hb
    have q1 := g0 a
    have q2 := g0 b
    split <;> omega
/-- a step's matrix -/
def opF (kd a b z : Int) (f : Int → Int) : Int → Int := if kd = 0 then limF f a b z else if kd = 1 then assignF a b z f else if kd = 2 then loseF a f else assignF a (2 * a) z f
/-- what a step that is no loop may hold -/
def stOK (kd a b z : Int) : Prop := (kd = 0 ∧ lit a ∧ lit b ∧ -9 ≤ z ∧ z ≤ 9) ∨ (kd = 1 ∧ (0 ≤ a ∧ a < 3) ∧ lit b ∧ -9 ≤ z ∧ z ≤ 9) ∨ (kd = 2 ∧ (0 ≤ a ∧ a < 3)) ∨ (kd = 3 ∧ (0 ≤ a ∧ a < 3) ∧ -9 ≤ z ∧ z ≤ 9)
theorem assign_ok {f : Int → Int} (hf : TC f) (hd : dg16 f) {x q z : Int} (hx : 0 ≤ x ∧ x < 3) (hq : lit q) (hz : -9 ≤ z ∧ z ≤ 9) : Opn (assignF x q z f) ∧ ∀ w, byB (assignF x q z f) w ↔ ∃ p, byB f p ∧ (-8 ≤ pv p q + z ∧ pv p q + z ≤ 8) ∧ w = wv p x (pv p q + z) := by
  by_cases h1 : q = 2 * x + 1
  · have e : assignF x q z f = shiftF x z (turnF x f) := by
      unfold assignF asF
      rw [if_pos h1, if_pos (by omega)]
    have tT := turn_TC hf hx
    have tD := turn_dg hf hd hx
    rw [e]
    refine ⟨opn_shift tT tD hx hz, fun w => ?_⟩
    rw [shift_ok tT tD hx w]
    constructor
    · rintro ⟨p, hp, hv, rfl⟩
      obtain ⟨p', hp', rfl⟩ := (turn_ok hf hx p).mp hp
      have r := pv_rng hp'.1 (2 * x)
      obtain ⟨w1, w2, w3, w4⟩ := wv_ok (p := p') (x := x) (v := - pv p' (2 * x)) hp'.1 hx (by omega)
      have hn := pv_sgn p' (2 * x) (by omega)
      rw [nx_even, ← h1] at hn
      rw [w2] at hv ⊢
      rw [← hn] at hv w1 w4 ⊢
      refine ⟨p', hp', hv, ?_⟩
      obtain ⟨v1, v2, v3, v4⟩ := wv_ok (p := wv p' x (pv p' q)) (x := x) (v := pv p' q + z) w1 hx hv
      obtain ⟨u1, u2, u3, u4⟩ := wv_ok (p := p') (x := x) (v := pv p' q + z) hp'.1 hx hv
      refine pt_eq v1 u1 fun a ha => ?_
      by_cases hax : a / 2 = x
      · rcases half_cases hax with e | e
        · rw [e, v2, u2]
        · rw [e, v3, u3]
      · rw [v4 a ha hax, u4 a ha hax, w4 a ha hax]
    · rintro ⟨p', hp', hv, rfl⟩
      have r := pv_rng hp'.1 (2 * x)
      obtain ⟨w1, w2, w3, w4⟩ := wv_ok (p := p') (x := x) (v := - pv p' (2 * x)) hp'.1 hx (by omega)
      have hn := pv_sgn p' (2 * x) (by omega)
      rw [nx_even, ← h1] at hn
      refine ⟨wv p' x (- pv p' (2 * x)), (turn_ok hf hx _).mpr ⟨p', hp', rfl⟩, ?_, ?_⟩
      · rw [w2, ← hn]; exact hv
      · rw [w2]
        rw [← hn] at w1 w2 w3 w4 ⊢
        obtain ⟨v1, v2, v3, v4⟩ := wv_ok (p := wv p' x (pv p' q)) (x := x) (v := pv p' q + z) w1 hx hv
        obtain ⟨u1, u2, u3, u4⟩ := wv_ok (p := p') (x := x) (v := pv p' q + z) hp'.1 hx hv
        refine pt_eq u1 v1 fun a ha => ?_
        by_cases hax : a / 2 = x
        · rcases half_cases hax with e | e
          · rw [e, v2, u2]
          · rw [e, v3, u3]
        · rw [v4 a ha hax, u4 a ha hax, w4 a ha hax]
  · by_cases h2 : q = 2 * x
    · have e : assignF x q z f = shiftF x z f := by
        unfold assignF asF
        rw [if_neg h1, if_pos (by omega)]
      rw [e]
      refine ⟨opn_shift hf hd hx hz, fun w => ?_⟩
      rw [shift_ok hf hd hx w, h2]
    · have hq2 : q / 2 ≠ x := fun y => by rcases half_cases y with y | y; exact h2 y; exact h1 y
      have e : assignF x q z f = limF (limF (loseF x f) (2 * x) (nx q) z) (2 * x + 1) q (-z) := by
        unfold assignF asF
        rw [if_neg h1, if_neg hq2]
      have l1 : lit (2 * x) := by omega
      have l2 : lit (2 * x + 1) := by omega
      have hn := nx_lit hq
      have o1 := opn_lose hf hd hx
      have o2 := opn_lim o1 (i := 2 * x) (k := nx q) (z := z) l1 hn (by omega)
      have o3 := opn_lim o2 (i := 2 * x + 1) (k := q) (z := -z) l2 hq (by omega)
      rw [e]
      refine ⟨o3, fun w => ?_⟩
      have key : byB (limF (limF (loseF x f) (2 * x) (nx q) z) (2 * x + 1) q (-z)) w ↔ byB (loseF x f) w ∧ pv w (2 * x) = pv w q + z := by
        unfold byB
        rw [lim_ok o2.1 l2 hq, lim_ok o1.1 l1 hn]
        have s1 := pv_sgn w (2 * x) l1
        have s2 := pv_sgn w q hq
        rw [nx_even] at s1
        constructor
        · rintro ⟨y1, ⟨y2, y3⟩, y4⟩; exact ⟨⟨y1, y2⟩, by omega⟩
        · rintro ⟨⟨y1, y2⟩, y3⟩; exact ⟨y1, ⟨y2, by omega⟩, by omega⟩
      rw [key, lose_ok hf hd hx w]
      constructor
      · rintro ⟨⟨p, v, hp, hv, rfl⟩, hE⟩
        obtain ⟨w1, w2, w3, w4⟩ := wv_ok hp.1 hx hv
        rw [w2, w4 q hq hq2] at hE
        exact ⟨p, hp, by rw [← hE]; exact hv, by rw [← hE]⟩
      · rintro ⟨p, hp, hv, rfl⟩
        obtain ⟨w1, w2, w3, w4⟩ := wv_ok hp.1 hx hv
        exact ⟨⟨p, _, hp, hv, rfl⟩, by rw [w2, w4 q hq hq2]⟩
theorem op_ok {f : Int → Int} (hf : TC f) (hd : dg16 f) {kd a b z : Int} (h : stOK kd a b z) {S : PS} (hS : ∀ p, S p ↔ byB f p) : Opn (opF kd a b z f) ∧ ∀ q, byB (opF kd a b z f) q ↔ stepS kd a b z S q := by
  rcases h with ⟨rfl, ha, hb, hz⟩ | ⟨rfl, ha, hb, hz⟩ | ⟨rfl, ha⟩ | ⟨rfl, ha, hz⟩
  · have e : opF 0 a b z f = limF f a b z := by unfold opF; rw [if_pos rfl]
    rw [e]
    refine ⟨opn_lim (opn_tc hf hd) ha hb (by omega), fun q => ?_⟩
    unfold stepS byB
    rw [if_pos rfl, lim_ok hf.1 ha hb, hS q]
    unfold byB
    constructor
    · rintro ⟨h1, h2, h3⟩; exact ⟨⟨h1, h2⟩, h3⟩
    · rintro ⟨⟨h1, h2⟩, h3⟩; exact ⟨h1, h2, h3⟩
  · have e : opF 1 a b z f = assignF a b z f := by unfold opF; rw [if_neg (by decide), if_pos rfl]
    obtain ⟨o1, o2⟩ := assign_ok hf hd ha hb hz
    rw [e]
    refine ⟨o1, fun q => ?_⟩
    rw [o2 q]
    unfold stepS
    rw [if_neg (by decide), if_neg (by decide)]
    simp only [if_true, hS]
  · have e : opF 2 a b z f = loseF a f := by unfold opF; rw [if_neg (by decide), if_neg (by decide), if_pos rfl]
    rw [e]
    refine ⟨opn_lose hf hd ha, fun q => ?_⟩
    rw [lose_ok hf hd ha q]
    unfold stepS
    rw [if_neg (by decide), if_pos rfl]
    simp only [hS]
  · have e : opF 3 a b z f = assignF a (2 * a) z f := by unfold opF; rw [if_neg (by decide), if_neg (by decide), if_neg (by decide)]
    obtain ⟨o1, o2⟩ := assign_ok hf hd ha (q := 2 * a) (by omega) hz
    rw [e]
    refine ⟨o1, fun q => ?_⟩
    rw [o2 q]
    unfold stepS
    rw [if_neg (by decide), if_neg (by decide)]
    have e3 : ¬ ((3 : Int) = 1) := by decide
    simp only [e3, if_false, hS]
