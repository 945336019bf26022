/-! ===== the smallest shape round two; bounds of a set; widening ===== -/
def hullS (X : PS) : PS := fun p => inP p ∧ ∀ a b, lit a → lit b → ∃ q, X q ∧ pv p a + pv p b ≤ pv q a + pv q b
def joinS (S T : PS) : PS := hullS (fun p => S p ∨ T p)
theorem hull_by {f : Int → Int} (hf : TC f) (hd : dg16 f) : hullS (byB f) = byB f := by
  funext p
  refine propext ⟨fun h => ⟨h.1, fun a b ha hb => ?_⟩, fun h => ⟨h.1, fun a b _ _ => ⟨p, h, Int.le_refl _⟩⟩⟩
  obtain ⟨q, h1, h2⟩ := h.2 a b ha hb
  have := h1.2 a b ha hb
  omega
theorem hull_0 {X : PS} (h : ∀ p, ¬ X p) (p : Int) : ¬ hullS X p := by
  rintro ⟨-, h2⟩
  obtain ⟨q, hq, -⟩ := h2 0 0 (by omega) (by omega)
  exact h q hq
/-- no points, or all points by closed bounds -/
def Oct (S : PS) : Prop := (∀ p, ¬ S p) ∨ ∃ f, TC f ∧ dg16 f ∧ S = byB f
theorem Rp.oct {M : Mm} {c : Nat} {S : PS} (h : Rp M c S) : Oct S := by
  rcases h.2 with h | ⟨h1, h2, h3, h4⟩
  · exact Or.inl h.2
  · exact Or.inr ⟨_, h2, h3, funext fun p => propext (h4 p)⟩
theorem oct_hull {S : PS} (h : Oct S) : hullS S = S := by
  rcases h with h | ⟨f, h1, h2, rfl⟩
  · funext p
    exact propext ⟨fun q => absurd q (hull_0 h p), fun q => absurd q (h p)⟩
  · exact hull_by h1 h2
theorem join_0r {S T : PS} (hS : Oct S) (hT : ∀ p, ¬ T p) : joinS S T = S := by
  have e : (fun p => S p ∨ T p) = S := funext fun p => propext ⟨fun h => h.elim id (fun z => absurd z (hT p)), Or.inl⟩
  unfold joinS
  rw [e, oct_hull hS]
theorem join_0l {S T : PS} (hT : Oct T) (hS : ∀ p, ¬ S p) : joinS S T = T := by
  have e : (fun p => S p ∨ T p) = T := funext fun p => propext ⟨fun h => h.elim (fun z => absurd z (hS p)) id, Or.inr⟩
  unfold joinS
  rw [e, oct_hull hT]
theorem tc_max {f g h : Int → Int} (hf : TC f) (hg : TC g) (hm : ∀ a b, lit a → lit b → mt h a b = max (mt f a b) (mt g a b)) : TC h := by
  obtain ⟨f1, f2, f3, f4, f5⟩ := hf
  obtain ⟨g1, g2, g3, g4, g5⟩ := hg
  refine ⟨fun a b ha hb => ?_, fun a b c ha hb hc => ?_, fun a ha => ?_, fun a ha => ?_, fun a b ha hb => ?_⟩
  · rw [hm a b ha hb, hm b a hb ha, f1 a b ha hb, g1 a b ha hb]
  · rw [hm a b ha hb, hm a c ha hc, hm _ b (nx_lit hc) hb]
    have q1 := f2 a b c ha hb hc
    have q2 := g2 a b c ha hb hc
    omega
  · rw [hm a _ ha (nx_lit ha), f3 a ha, g3 a ha]; omega
  · rw [hm a a ha ha]
    have q1 := f4 a ha
    have q2 := g4 a ha
    omega
  · rw [hm a b ha hb, hm a a ha ha, hm b b hb hb]
    have q1 := f5 a b ha hb
    have q2 := g5 a b ha hb
    omega
theorem join_by {f g h : Int → Int} (hf : TC f) (hfd : dg16 f) (hg : TC g) (hgd : dg16 g) (hm : ∀ a b, lit a → lit b → mt h a b = max (mt f a b) (mt g a b)) : joinS (byB f) (byB g) = byB h := by
  funext p
  refine propext ⟨fun z => ⟨z.1, fun a b ha hb => ?_⟩, fun z => ⟨z.1, fun a b ha hb => ?_⟩⟩
  · obtain ⟨q, h1, h2⟩ := z.2 a b ha hb
    rw [hm a b ha hb]
    rcases h1 with h1 | h1 <;> (have := h1.2 a b ha hb; omega)
  · have h1 := z.2 a b ha hb
    rw [hm a b ha hb] at h1
    by_cases hc : mt f a b ≤ mt g a b
    · obtain ⟨q, q1, q2⟩ := tc_pt hg hgd ha hb
      exact ⟨q, Or.inr q1, by omega⟩
    · obtain ⟨q, q1, q2⟩ := tc_pt hf hfd ha hb
      exact ⟨q, Or.inl q1, by omega⟩
theorem Rp_join {M : Mm} {c c2 : Nat} {S T : PS} (h : Rp M c S) (h' : Rp M c2 T) (hcc : c ≠ c2) : Rp (jnM M c c2) c (joinS S T) := by
  have oS := h.oct
  have oT := h'.oct
  obtain ⟨b1, h⟩ := h
  obtain ⟨b2, h'⟩ := h'
  rcases h' with r | ⟨r1, r2, r3, r4⟩
  · have e : jnM M c c2 = M := by unfold jnM; rw [if_pos r.1]
    rw [e, join_0r oS r.2]
    exact ⟨b1, h⟩
  · rcases h with q | ⟨q1, q2, q3, q4⟩
    · have e : jnM M c c2 = cpM M c c2 := by unfold jnM; rw [if_neg (by omega), if_pos q.1]
      rw [e, join_0l oT q.2]
      exact Rp_cp ⟨b2, Or.inr ⟨r1, r2, r3, r4⟩⟩
    · have e : jnM M c c2 = rwc M (c + 1) (zipS max (M (c + 1)) (M (c2 + 1)) 36) := by unfold jnM; rw [if_neg (by omega), if_neg (by omega)]
      have hm : ∀ a b, lit a → lit b → mt (zipS max (M (c + 1)) (M (c2 + 1)) 36) a b = max (mt (M (c + 1)) a b) (mt (M (c2 + 1)) a b) := by
        intro a b ha hb
        unfold mt zipS
        rw [if_pos (by omega)]
      have eS : S = byB (M (c + 1)) := funext fun p => propext (q4 p)
      have eT : T = byB (M (c2 + 1)) := funext fun p => propext (r4 p)
      rw [e, eS, eT, join_by q2 q3 r2 r3 hm]
      refine ⟨?_, Or.inr ⟨?_, ?_, ?_, fun p => ?_⟩⟩
      · rw [rwc_at]
        intro j j1 j2
        have y1 := b1 j j1 j2
        have y2 := b2 j j1 j2
        unfold zipS
        rw [if_pos (by omega)]
        omega
      · rw [rwc_ne (by omega)]; exact q1
      · rw [rwc_at]; exact tc_max q2 r2 hm
      · rw [rwc_at]
        intro a ha
        rw [hm a a ha ha]
        have y1 := q3 a ha
        have y2 := r3 a ha
        omega
      · rw [rwc_at]
/-- the numbers of a set: 1 for a point in it -/
noncomputable def ind (S : PS) (p : Int) : Int := @ite _ (S p) (Classical.propDecidable _) 1 0
theorem ind_1 {S : PS} {p : Int} (h : S p) : ind S p = 1 := by unfold ind; rw [if_pos h]
theorem ind_0 {S : PS} {p : Int} (h : ¬ S p) : ind S p = 0 := by unfold ind; rw [if_neg h]
/-- the greatest sum among the first i points that the row u marks -/
def mxA (u : Int → Int) (a b : Int) : Nat → Int
  | 0 => -99
  | i + 1 => if u i = 1 then max (mxA u a b i) (pv i a + pv i b) else mxA u a b i
noncomputable def bnF (S : PS) : Int → Int := fun j => mxA (ind S) (j / 6) (j % 6) 4913
theorem mxA_ge {u : Int → Int} {a b : Int} : ∀ (i : Nat) (p : Int), 0 ≤ p → p < i → u p = 1 → pv p a + pv p b ≤ mxA u a b i := by
  intro i
  induction i with
  | zero => intro p h1 h2; omega
  | succ i ih =>
    intro p h1 h2 hu
    simp only [mxA]
    by_cases hp : p = (i : Int)
    · rw [← hp, if_pos hu]; omega
    · have := ih p h1 (by omega) hu
      split <;> omega
theorem mxA_le {u : Int → Int} {a b m : Int} (hm : -99 ≤ m) : ∀ i : Nat, (∀ p, 0 ≤ p → p < i → u p = 1 → pv p a + pv p b ≤ m) → mxA u a b i ≤ m := by
  intro i
  induction i with
  | zero => intro _; exact hm
  | succ i ih =>
    intro h
    have h1 := ih (fun p q1 q2 => h p q1 (by omega))
    simp only [mxA]
    split
    · rename_i hu
      have := h i (by omega) (by omega) hu
      omega
    · exact h1
/-- closed bounds are the set's own -/
theorem bnF_tc {f : Int → Int} (hf : TC f) (hd : dg16 f) {j : Int} (h1 : 0 ≤ j) (h2 : j < 36) : bnF (byB f) j = f j := by
  have l1 : lit (j / 6) := by omega
  have l2 : lit (j % 6) := by omega
  have e : j / 6 * 6 + j % 6 = j := by omega
  have hb := tc_bd hf hd j h1 h2
  obtain ⟨p, q1, q2⟩ := tc_pt hf hd l1 l2
  have g1 := mxA_ge (u := ind (byB f)) (a := j / 6) (b := j % 6) 4913 p q1.1.1 q1.1.2 (ind_1 q1)
  have g2 := mxA_le (u := ind (byB f)) (a := j / 6) (b := j % 6) (m := f j) (by omega) 4913 (fun p y1 y2 y3 => by
    have hp : byB f p := by
      by_cases hc : byB f p
      · exact hc
      · rw [ind_0 hc] at y3; omega
    have := hp.2 _ _ l1 l2
    unfold mt at this
    rw [e] at this
    exact this)
  unfold mt at q2
  rw [e] at q2
  unfold bnF
  omega
/-- widened bounds -/
noncomputable def wdF (e : Prop) (R : Int → Int) (N : PS) : Int → Int := fun j => @ite _ e (Classical.propDecidable _) (bnF N j) (if R j < bnF N j then 16 else R j)
