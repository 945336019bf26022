/-! ===== closing: what the six chains, the evening and the halves make ===== -/
def cl1 : Nat → (Int → Int) → (Int → Int)
  | 0, f => f
  | i + 1, f => chS i 6 (cl1 i f)
def evS : Nat → (Int → Int) → (Int → Int)
  | 0, g => g
  | i + 1, g => up1 (evS i g) ((i : Int) * 6 + i) (2 * (evS i g ((i : Int) * 6 + i) / 2))
def em1 : Nat → (Int → Int) → Int
  | 0, _ => 0
  | i + 1, g => if evS i g ((i : Int) * 6 + nx i) < 0 then 1 else em1 i g
def em2 : Nat → (Int → Int) → Int → Int
  | 0, _, e => e
  | i + 1, h, e => if h ((2 * i : Int) * 6 + 2 * i) + h ((2 * i + 1 : Int) * 6 + (2 * i + 1)) < 0 then 1 else em2 i h e
def hvR (i : Int) : Nat → (Int → Int) → (Int → Int)
  | 0, f => f
  | k + 1, f => limF (hvR i k f) i k ((hvR i k f (i * 6 + i) + hvR i k f ((k : Int) * 6 + k)).tdiv 2)
def hvS : Nat → (Int → Int) → (Int → Int)
  | 0, f => f
  | i + 1, f => hvR i i (hvS i f)
def closeF (f : Int → Int) : Int → Int := hvS 6 (evS 6 (cl1 6 f))
def emF (f : Int → Int) : Int := em2 3 (evS 6 (cl1 6 f)) (em1 6 (cl1 6 f))
theorem rwS_mt {b i : Int} {f : Int → Int} (hi : lit i) {a o : Int} (ha : lit a) (ho : lit o) : mt (rwS b i 6 f) a o = if a = i then min (mt f i o) (mt f i b + mt f (nx b) o) else mt f a o := by
  unfold mt rwS
  by_cases h : a = i
  · rw [h, if_pos (by omega), if_pos rfl]
    have e : i * 6 + o - i * 6 = o := by omega
    rw [e]
  · rw [if_neg (by omega), if_neg h]
theorem ch_sat {b : Int} (hb : lit b) {f s : Int → Int} (hs : sgn s) (h : Sat f s) : ∀ i : Nat, i ≤ 6 → Sat (chS b i f) s := by
  intro i
  induction i with
  | zero => intro _; exact h
  | succ i ih =>
    intro hi a o ha ho
    have h1 := ih (by omega)
    show s a + s o ≤ mt (rwS b i 6 (chS b i f)) a o
    rw [rwS_mt (by omega) ha ho]
    split
    · rename_i he
      have q1 := h1 a o ha ho
      have q2 := h1 a b ha hb
      have q3 := h1 (nx b) o (nx_lit hb) ho
      have q4 := hs b hb
      rw [← he]
      omega
    · exact h1 a o ha ho
theorem ch_le {b : Int} (f : Int → Int) : ∀ (i : Nat) (j : Int), chS b i f j ≤ f j := by
  intro i
  induction i with
  | zero => intro j; exact Int.le_refl _
  | succ i ih =>
    intro j
    show rwS b i 6 (chS b i f) j ≤ f j
    have := ih j
    unfold rwS
    split <;> omega
theorem ch_ex0 {b : Int} (hb : lit b) {f : Int → Int} (h0 : 0 ≤ mt f (nx b) b) : ∀ i : Nat, i ≤ 6 → ∀ a o, lit a → lit o → mt (chS b i f) a o = if a < i then min (mt f a o) (mt f a b + mt f (nx b) o) else mt f a o := by
  intro i
  induction i with
  | zero => intro _ a o ha ho; rw [if_neg (by omega)]; rfl
  | succ i ih =>
    intro hi a o ha ho
    have h1 := ih (by omega)
    show mt (rwS b i 6 (chS b i f)) a o = _
    rw [rwS_mt (by omega) ha ho]
    by_cases he : a = i
    · rw [if_pos he, if_pos (by omega), ← he, h1 a o ha ho, if_neg (by omega), h1 a b ha hb, if_neg (by omega), h1 (nx b) o (nx_lit hb) ho]
      split <;> omega
    · rw [if_neg he, h1 a o ha ho]
      by_cases hl : a < i
      · rw [if_pos hl, if_pos (by omega)]
      · rw [if_neg hl, if_neg (by omega)]
theorem ch_ex {b : Int} (hb : lit b) {f : Int → Int} (h0 : 0 ≤ mt f (nx b) b) {a o : Int} (ha : lit a) (ho : lit o) : mt (chS b 6 f) a o = min (mt f a o) (mt f a b + mt f (nx b) o) := by
  rw [ch_ex0 hb h0 6 (by omega) a o ha ho, if_pos (by omega)]
def TRk (f : Int → Int) (k : Int) : Prop := ∀ c, lit c → c < k → ∀ a b, lit a → lit b → mt f a b ≤ mt f a c + mt f (nx c) b
theorem fw_step {f : Int → Int} {k : Int} (hk : lit k) (h0 : 0 ≤ mt f (nx k) k) (h : TRk f k) : TRk (chS k 6 f) (k + 1) := by
  intro c hc hck a b ha hb
  rw [ch_ex hk h0 ha hb, ch_ex hk h0 ha hc, ch_ex hk h0 (nx_lit hc) hb]
  by_cases he : c = k
  · subst he
    omega
  · have hlt : c < k := by omega
    have t1 := h c hc hlt a b ha hb
    have t2 := h c hc hlt a k ha hk
    have t3 := h c hc hlt (nx k) b (nx_lit hk) hb
    have t4 := h c hc hlt (nx k) k (nx_lit hk) hk
    omega
theorem cl1_le (f : Int → Int) (j : Int) : ∀ (n i : Nat), cl1 (i + n) f j ≤ cl1 i f j := by
  intro n
  induction n with
  | zero => intro i; exact Int.le_refl _
  | succ n ih =>
    intro i
    have h1 := ih i
    have h2 := ch_le (b := ((i + n : Nat) : Int)) (cl1 (i + n) f) 6 j
    exact Int.le_trans h2 h1
theorem cl1_sat {f s : Int → Int} (hs : sgn s) (h : Sat f s) : ∀ i : Nat, i ≤ 6 → Sat (cl1 i f) s := by
  intro i
  induction i with
  | zero => intro _; exact h
  | succ i ih => intro hi; exact ch_sat (by omega) hs (ih (by omega)) 6 (by omega)
theorem cl1_nn {f : Int → Int} (hn : ∀ a, lit a → 0 ≤ mt (cl1 6 f) a (nx a)) {i : Nat} (hi : i ≤ 6) {k : Int} (hk : lit k) : 0 ≤ mt (cl1 i f) (nx k) k := by
  have h1 := hn (nx k) (nx_lit hk)
  rw [nx_nx hk] at h1
  have h2 := cl1_le f (nx k * 6 + k) (6 - i) i
  rw [show i + (6 - i) = 6 by omega] at h2
  exact Int.le_trans h1 h2
theorem cl1_TR {f : Int → Int} (hn : ∀ a, lit a → 0 ≤ mt (cl1 6 f) a (nx a)) : TR (cl1 6 f) := by
  have key : ∀ i : Nat, i ≤ 6 → TRk (cl1 i f) i := by
    intro i
    induction i with
    | zero => intro _ c hc hck; omega
    | succ i ih =>
      intro hi
      have h := fw_step (k := (i : Int)) (by omega) (cl1_nn hn (i := i) (by omega) (by omega)) (ih (by omega))
      exact h
  intro a b c ha hb hc
  exact key 6 (by omega) c hc (by omega) a b ha hb
theorem cl1_ge {f h : Int → Int} (hn : ∀ a, lit a → 0 ≤ mt (cl1 6 f) a (nx a)) (hT : TR h) (hle : ∀ a b, lit a → lit b → mt h a b ≤ mt f a b) : ∀ i : Nat, i ≤ 6 → ∀ a b, lit a → lit b → mt h a b ≤ mt (cl1 i f) a b := by
  intro i
  induction i with
  | zero => intro _; exact hle
  | succ i ih =>
    intro hi a b ha hb
    have h1 := ih (by omega)
    have hl : lit (i : Int) := by omega
    show mt h a b ≤ mt (chS i 6 (cl1 i f)) a b
    rw [ch_ex hl (cl1_nn hn (by omega) hl) ha hb]
    have q1 := h1 a b ha hb
    have q2 := h1 a i ha hl
    have q3 := h1 (nx i) b (nx_lit hl) hb
    have q4 := hT a b i ha hb hl
    omega
theorem cl1_sym {f : Int → Int} (hS : Sym f) (hn : ∀ a, lit a → 0 ≤ mt (cl1 6 f) a (nx a)) : Sym (cl1 6 f) := by
  have hT := cl1_TR hn
  have hle := fun j => cl1_le f j 6 0
  obtain ⟨h, hh⟩ : ∃ h : Int → Int, ∀ a b, lit a → lit b → mt h a b = mt (cl1 6 f) b a := by
    refine ⟨fun j => cl1 6 f ((j % 6) * 6 + j / 6), fun a b ha hb => ?_⟩
    show cl1 6 f (((a * 6 + b) % 6) * 6 + (a * 6 + b) / 6) = cl1 6 f (b * 6 + a)
    congr 1
    omega
  have hTh : TR h := by
    intro a b c ha hb hc
    rw [hh a b ha hb, hh a c ha hc, hh (nx c) b (nx_lit hc) hb]
    have := hT b a (nx c) hb ha (nx_lit hc)
    rw [nx_nx hc] at this
    omega
  have hge := cl1_ge hn hTh (fun a b ha hb => by
    rw [hh a b ha hb, hS a b ha hb]
    exact hle _) 6 (by omega)
  intro a b ha hb
  have q1 := hge a b ha hb
  have q2 := hge b a hb ha
  rw [hh a b ha hb] at q1
  rw [hh b a hb ha] at q2
  omega
theorem ev_mt {g : Int → Int} : ∀ i : Nat, i ≤ 6 → ∀ a b, lit a → lit b → mt (evS i g) a b = if a = b ∧ a < i then 2 * (mt g a a / 2) else mt g a b := by
  intro i
  induction i with
  | zero => intro _ a b ha hb; rw [if_neg (by omega)]; rfl
  | succ i ih =>
    intro hi a b ha hb
    have h1 := ih (by omega)
    have hl : lit (i : Int) := by omega
    show up1 (evS i g) ((i : Int) * 6 + i) (2 * (mt (evS i g) i i / 2)) (a * 6 + b) = _
    rw [h1 i i hl hl, if_neg (by omega)]
    unfold up1
    by_cases he : a = i ∧ b = i
    · rw [if_pos (by omega), if_pos (by omega), he.1]
    · rw [if_neg (by omega)]
      show mt (evS i g) a b = _
      rw [h1 a b ha hb]
      by_cases hx : a = b ∧ a < i
      · rw [if_pos hx, if_pos (by omega)]
      · rw [if_neg hx, if_neg (by omega)]
theorem em1_iff {g : Int → Int} : ∀ i : Nat, i ≤ 6 → (em1 i g = 0 ∨ em1 i g = 1) ∧ (em1 i g = 0 ↔ ∀ a, lit a → a < i → 0 ≤ mt g a (nx a)) := by
  intro i
  induction i with
  | zero => intro _; exact ⟨Or.inl rfl, fun _ a h1 h2 => by omega, fun _ => rfl⟩
  | succ i ih =>
    intro hi
    obtain ⟨h1, h2⟩ := ih (by omega)
    have hl : lit (i : Int) := by omega
    have e : evS i g ((i : Int) * 6 + nx i) = mt g i (nx i) := by
      have := ev_mt (g := g) i (by omega) i (nx i) hl (nx_lit hl)
      rw [if_neg (by omega)] at this
      exact this
    simp only [em1, e]
    by_cases hn : mt g i (nx i) < 0
    · rw [if_pos hn]
      refine ⟨Or.inr rfl, fun h => by omega, fun h => ?_⟩
      have := h i hl (by omega)
      omega
    · rw [if_neg hn]
      refine ⟨h1, fun h a ha hai => ?_, fun h => h2.mpr (fun a ha hai => h a ha (by omega))⟩
      by_cases hx : a = i
      · subst hx; omega
      · exact h2.mp h a ha (by omega)
theorem em2_iff {h : Int → Int} {e : Int} (he : e = 0 ∨ e = 1) : ∀ i : Nat, i ≤ 3 → (em2 i h e = 0 ∨ em2 i h e = 1) ∧ (em2 i h e = 0 ↔ e = 0 ∧ ∀ a : Int, 0 ≤ a → a < i → 0 ≤ mt h (2 * a) (2 * a) + mt h (2 * a + 1) (2 * a + 1)) := by
  intro i
  induction i with
  | zero => intro _; exact ⟨he, fun q => ⟨q, fun a h1 h2 => by omega⟩, fun q => q.1⟩
  | succ i ih =>
    intro hi
    obtain ⟨h1, h2⟩ := ih (by omega)
    simp only [em2]
    by_cases hn : h ((2 * i : Int) * 6 + 2 * i) + h ((2 * i + 1 : Int) * 6 + (2 * i + 1)) < 0
    · rw [if_pos hn]
      refine ⟨Or.inr rfl, fun q => by omega, fun q => ?_⟩
      have := q.2 i (by omega) (by omega)
      unfold mt at this
      omega
    · rw [if_neg hn]
      refine ⟨h1, fun q => ⟨(h2.mp q).1, fun a ha hai => ?_⟩, fun q => h2.mpr ⟨q.1, fun a ha hai => q.2 a ha (by omega)⟩⟩
      by_cases hx : a = i
      · subst hx; unfold mt; omega
      · exact (h2.mp q).2 a ha (by omega)
theorem tdiv2 {n : Int} (h : n % 2 = 0) : n.tdiv 2 = n / 2 := by
  obtain ⟨q, rfl⟩ : ∃ q, n = 2 * q := ⟨n / 2, by omega⟩
  rw [Int.mul_tdiv_cancel_left _ (by decide)]
  omega
theorem lim_mt {f : Int → Int} (hS : Sym f) {i k z : Int} (hi : lit i) (hk : lit k) {a b : Int} (ha : lit a) (hb : lit b) : mt (limF f i k z) a b = if (a = i ∧ b = k) ∨ (a = k ∧ b = i) then min (mt f a b) z else mt f a b := by
  have hs := hS i k hi hk
  unfold mt at hs
  unfold limF mt
  by_cases hz : z < f (i * 6 + k)
  · rw [if_pos hz]
    unfold st2 up1
    by_cases h1 : a = k ∧ b = i
    · rw [if_pos (by omega), if_pos (Or.inr h1), h1.1, h1.2]
      omega
    · rw [if_neg (by omega)]
      by_cases h2 : a = i ∧ b = k
      · rw [if_pos (by omega), if_pos (Or.inl h2), h2.1, h2.2]
        omega
      · rw [if_neg (by omega), if_neg (by omega)]
  · rw [if_neg hz]
    by_cases h1 : (a = i ∧ b = k) ∨ (a = k ∧ b = i)
    · rw [if_pos h1]
      rcases h1 with h1 | h1 <;> rw [h1.1, h1.2] <;> omega
    · rw [if_neg h1]
theorem lim_sym {f : Int → Int} (hS : Sym f) {i k z : Int} (hi : lit i) (hk : lit k) : Sym (limF f i k z) := by
  intro a b ha hb
  have := hS a b ha hb
  rw [lim_mt hS hi hk ha hb, lim_mt hS hi hk hb ha]
  by_cases h1 : (a = i ∧ b = k) ∨ (a = k ∧ b = i)
  · rw [if_pos h1, if_pos (by omega)]; omega
  · rw [if_neg h1, if_neg (by omega)]; omega
/-- what the halves make, entry by entry, as far as rows i and k -/
def hvI (g : Int → Int) (i k a b : Int) : Int := if a ≠ b ∧ (max a b < i ∨ (max a b = i ∧ min a b < k)) then min (mt g a b) ((mt g a a + mt g b b) / 2) else mt g a b
theorem hvR_mt {g f : Int → Int} (hE : ∀ a, lit a → mt g a a % 2 = 0) {i : Int} (hi : lit i) (hS : Sym f) (hf : ∀ a b, lit a → lit b → mt f a b = hvI g i 0 a b) : ∀ k : Nat, (k : Int) ≤ i → Sym (hvR i k f) ∧ ∀ a b, lit a → lit b → mt (hvR i k f) a b = hvI g i k a b := by
  intro k
  induction k with
  | zero => intro _; exact ⟨hS, hf⟩
  | succ k ih =>
    intro hk
    obtain ⟨h1, h2⟩ := ih (by omega)
    have hl : lit (k : Int) := by omega
    refine ⟨lim_sym h1 hi hl, fun a b ha hb => ?_⟩
    show mt (limF (hvR i k f) i k ((mt (hvR i k f) i i + mt (hvR i k f) k k).tdiv 2)) a b = _
    have e1 := hE i hi
    have e2 := hE k hl
    rw [lim_mt h1 hi hl ha hb, h2 a b ha hb, h2 i i hi hi, h2 k k hl hl]
    unfold hvI
    rw [if_neg (show ¬ (i ≠ i ∧ _) from fun q => q.1 rfl), if_neg (show ¬ ((k : Int) ≠ k ∧ _) from fun q => q.1 rfl), tdiv2 (by omega)]
    by_cases hx : (a = i ∧ b = k) ∨ (a = k ∧ b = i)
    · rw [if_pos hx]
      rcases hx with ⟨hx1, hx2⟩ | ⟨hx1, hx2⟩
      · subst hx1; subst hx2
        rw [if_neg (by omega), if_pos (by omega)]
      · subst hx1; subst hx2
        rw [if_neg (by omega), if_pos (by omega), Int.add_comm (mt g b b)]
    · rw [if_neg hx]
      by_cases hy : a ≠ b ∧ (max a b < i ∨ (max a b = i ∧ min a b < k))
      · rw [if_pos hy, if_pos (by omega)]
      · rw [if_neg hy, if_neg (by omega)]
theorem hvS_mt {g : Int → Int} (hE : ∀ a, lit a → mt g a a % 2 = 0) (hS : Sym g) : ∀ i : Nat, i ≤ 6 → Sym (hvS i g) ∧ ∀ a b, lit a → lit b → mt (hvS i g) a b = hvI g i 0 a b := by
  intro i
  induction i with
  | zero =>
    intro _
    refine ⟨hS, fun a b ha hb => ?_⟩
    unfold hvI
    rw [if_neg (by omega)]
    rfl
  | succ i ih =>
    intro hi
    obtain ⟨h1, h2⟩ := ih (by omega)
    obtain ⟨q1, q2⟩ := hvR_mt hE (i := (i : Int)) (by omega) h1 h2 i (by omega)
    refine ⟨q1, fun a b ha hb => ?_⟩
    show mt (hvR i i (hvS i g)) a b = _
    rw [q2 a b ha hb]
    unfold hvI
    by_cases hy : a ≠ b ∧ (max a b < (i : Int) ∨ (max a b = (i : Int) ∧ min a b < (i : Int)))
    · rw [if_pos hy, if_pos (by omega)]
    · rw [if_neg hy, if_neg (by omega)]
/-- evened bounds with halves are closed -/
theorem tight {g G F : Int → Int} (hS : Sym g) (hT : TR g) (hZ : ∀ a, lit a → mt g a (nx a) = 0) (hG : ∀ a b, lit a → lit b → mt G a b = if a = b then 2 * (mt g a a / 2) else mt g a b) (hnn : ∀ a, lit a → 0 ≤ mt G a a + mt G (nx a) (nx a)) (hF : ∀ a b, lit a → lit b → mt F a b = if a = b then mt G a a else min (mt G a b) ((mt G a a + mt G b b) / 2)) : TC F := by
  have gd : ∀ a, lit a → mt G a a = 2 * (mt g a a / 2) := fun a ha => by rw [hG a a ha ha, if_pos rfl]
  have go : ∀ a b, lit a → lit b → a ≠ b → mt G a b = mt g a b := fun a b ha hb h => by rw [hG a b ha hb, if_neg h]
  have fd : ∀ a, lit a → mt F a a = mt G a a := fun a ha => by rw [hF a a ha ha, if_pos rfl]
  have fle : ∀ a b, lit a → lit b → mt F a b ≤ mt g a b := by
    intro a b ha hb
    rw [hF a b ha hb]
    by_cases h : a = b
    · subst h; rw [if_pos rfl, gd a ha]; omega
    · rw [if_neg h, go a b ha hb h]; omega
  have fh : ∀ a b, lit a → lit b → 2 * mt F a b ≤ mt G a a + mt G b b := by
    intro a b ha hb
    rw [hF a b ha hb]
    by_cases h : a = b
    · subst h; rw [if_pos rfl]; omega
    · rw [if_neg h]; omega
  refine ⟨fun a b ha hb => ?_, fun a b c ha hb hc => ?_, fun a ha => ?_, fun a ha => ?_, fun a b ha hb => ?_⟩
  · rw [hF a b ha hb, hF b a hb ha]
    by_cases h : a = b
    · subst h; rfl
    · rw [if_neg h, if_neg (fun z => h z.symm), go a b ha hb h, go b a hb ha (fun z => h z.symm), hS a b ha hb, Int.add_comm]
  · have nc := nx_lit hc
    have f1 := fle a b ha hb
    have f2 := fh a b ha hb
    have t0 := hT a b c ha hb hc
    have d1 := gd a ha
    have d2 := gd b hb
    have d3 := gd c hc
    have d4 := gd (nx c) nc
    have nn := hnn c hc
    -- twice a bound by way of c
    have k1 : mt G a a ≤ 2 * mt g a c + mt G (nx c) (nx c) := by
      have q1 := hT a a c ha ha hc
      have q2 := hT (nx c) a (nx c) nc ha nc
      rw [nx_nx hc] at q2
      have q3 := hS c a hc ha
      have q4 := hS (nx c) a nc ha
      omega
    have k2 : mt G b b ≤ 2 * mt g (nx c) b + mt G c c := by
      have q1 := hT b b (nx c) hb hb nc
      rw [nx_nx hc] at q1
      have q2 := hT c b c hc hb hc
      have q3 := hS b (nx c) hb nc
      omega
    rw [hF a c ha hc, hF (nx c) b nc hb]
    by_cases h1 : a = c
    · subst h1
      rw [if_pos rfl]
      by_cases h2 : nx a = b
      · subst h2; rw [if_pos rfl]; have := hZ a ha; omega
      · rw [if_neg h2, go (nx a) b nc hb h2]; omega
    · rw [if_neg h1, go a c ha hc h1]
      by_cases h2 : nx c = b
      · subst h2; rw [if_pos rfl]; omega
      · rw [if_neg h2, go (nx c) b nc hb h2]; omega
  · have na := nx_lit ha
    have hne : a ≠ nx a := fun z => nx_ne a z.symm
    rw [hF a (nx a) ha na, if_neg hne, go a (nx a) ha na hne, hZ a ha]
    have := hnn a ha
    omega
  · rw [fd a ha, gd a ha]; omega
  · rw [fd a ha, fd b hb]; exact fh a b ha hb
theorem close_ok {f : Int → Int} (hS : Sym f) (hz : ∀ a, lit a → mt f a (nx a) ≤ 0) : (emF f = 0 ∨ emF f = 1) ∧ (emF f = 0 → TC (closeF f) ∧ ∀ s, sgn s → (Sat f s ↔ Sat (closeF f) s)) ∧ (emF f = 1 → ∀ s, sgn s → ¬ Sat f s) := by
  obtain ⟨a1, a2⟩ := em1_iff (g := cl1 6 f) 6 (by omega)
  obtain ⟨b1, b2⟩ := em2_iff (h := evS 6 (cl1 6 f)) a1 3 (by omega)
  have hev := ev_mt (g := cl1 6 f) 6 (by omega)
  have hG : ∀ a b, lit a → lit b → mt (evS 6 (cl1 6 f)) a b = if a = b then 2 * (mt (cl1 6 f) a a / 2) else mt (cl1 6 f) a b := by
    intro a b ha hb
    rw [hev a b ha hb]
    by_cases h : a = b
    · rw [if_pos (by omega), if_pos h]
    · rw [if_neg (by omega), if_neg h]
  have evSat : ∀ s, sgn s → Sat f s → Sat (evS 6 (cl1 6 f)) s := by
    intro s hs h a b ha hb
    have h6 := cl1_sat hs h 6 (by omega)
    rw [hG a b ha hb]
    by_cases he : a = b
    · subst he
      rw [if_pos rfl]
      have := h6 a a ha ha
      omega
    · rw [if_neg he]; exact h6 a b ha hb
  refine ⟨b1, fun h0 => ?_, fun h1 s hs hsat => ?_⟩
  · obtain ⟨c1, c2⟩ := b2.mp h0
    have nn := fun a (ha : lit a) => a2.mp c1 a ha (by omega)
    have hSy := cl1_sym hS nn
    have hT := cl1_TR nn
    have hZ : ∀ a, lit a → mt (cl1 6 f) a (nx a) = 0 := by
      intro a ha
      have q1 := nn a ha
      have q2 := hz a ha
      have q3 := cl1_le f (a * 6 + nx a) 6 0
      have q4 : cl1 6 f (a * 6 + nx a) ≤ f (a * 6 + nx a) := q3
      unfold mt at q1 q2 ⊢
      omega
    have hE : ∀ a, lit a → mt (evS 6 (cl1 6 f)) a a % 2 = 0 := fun a ha => by rw [hG a a ha ha, if_pos rfl]; omega
    have hGS : Sym (evS 6 (cl1 6 f)) := by
      intro a b ha hb
      rw [hG a b ha hb, hG b a hb ha]
      by_cases he : a = b
      · subst he; rfl
      · rw [if_neg he, if_neg (fun z => he z.symm)]; exact hSy a b ha hb
    obtain ⟨v1, v2⟩ := hvS_mt hE hGS 6 (by omega)
    have hF : ∀ a b, lit a → lit b → mt (closeF f) a b = if a = b then mt (evS 6 (cl1 6 f)) a a else min (mt (evS 6 (cl1 6 f)) a b) ((mt (evS 6 (cl1 6 f)) a a + mt (evS 6 (cl1 6 f)) b b) / 2) := by
      intro a b ha hb
      show mt (hvS 6 (evS 6 (cl1 6 f))) a b = _
      rw [v2 a b ha hb]
      unfold hvI
      by_cases he : a = b
      · subst he; rw [if_neg (by omega), if_pos rfl]
      · rw [if_pos (by omega), if_neg he]
    have hnn : ∀ a, lit a → 0 ≤ mt (evS 6 (cl1 6 f)) a a + mt (evS 6 (cl1 6 f)) (nx a) (nx a) := by
      intro a ha
      have q := c2 (a / 2) (by omega) (by omega)
      by_cases hp : a % 2 = 0
      · have e1 : 2 * (a / 2) = a := by omega
        have e2 : nx a = a + 1 := by unfold nx; rw [if_pos hp]
        rw [e1] at q
        rw [e2]
        exact q
      · have e1 : 2 * (a / 2) = nx a := by unfold nx; rw [if_neg hp]; omega
        have e2 : nx a + 1 = a := by unfold nx; rw [if_neg hp]; omega
        rw [e1, e2] at q
        omega
    refine ⟨tight hSy hT hZ hG hnn hF, fun s hs => ⟨fun h => ?_, fun h => ?_⟩⟩
    · have hg := evSat s hs h
      intro a b ha hb
      rw [hF a b ha hb]
      by_cases he : a = b
      · subst he; rw [if_pos rfl]; exact hg a a ha ha
      · rw [if_neg he]
        have q1 := hg a b ha hb
        have q2 := hg a a ha ha
        have q3 := hg b b hb hb
        omega
    · intro a b ha hb
      have q1 := h a b ha hb
      have q2 : mt (closeF f) a b ≤ mt (cl1 6 f) a b := by
        rw [hF a b ha hb, hG a b ha hb, hG a a ha ha, if_pos rfl]
        by_cases he : a = b
        · subst he; rw [if_pos rfl]; omega
        · rw [if_neg he, if_neg he]; omega
      have q3 : mt (cl1 6 f) a b ≤ mt f a b := cl1_le f (a * 6 + b) 6 0
      omega
  · have h6 := cl1_sat hs hsat 6 (by omega)
    have hg := evSat s hs hsat
    have : emF f = 0 := by
      refine b2.mpr ⟨a2.mpr fun a ha _ => ?_, fun a q1 q2 => ?_⟩
      · have q := h6 a (nx a) ha (nx_lit ha)
        rw [hs a ha] at q
        omega
      · have l1 : lit (2 * a) := by omega
        have l2 : lit (2 * a + 1) := by omega
        have g1 := hg (2 * a) (2 * a) l1 l1
        have g2 := hg (2 * a + 1) (2 * a + 1) l2 l2
        have g3 := hs (2 * a) l1
        have e : nx (2 * a) = 2 * a + 1 := by unfold nx; rw [if_pos (by omega)]
        rw [e] at g3
        omega
    omega
