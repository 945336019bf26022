/-! ===== octagons of whole numbers: closed bounds are reached ===== -/
abbrev lit (a : Int) : Prop := 0 ≤ a ∧ a < 6
theorem nx_lit {a : Int} (h : lit a) : lit (nx a) := nx_rng h.1 h.2
theorem nx_nx {a : Int} (h : lit a) : nx (nx a) = a := by
  unfold nx; split <;> split <;> omega
theorem nx_ne (a : Int) : nx a ≠ a := by
  unfold nx; split <;> omega
theorem nx_inj {a b : Int} (ha : lit a) (hb : lit b) (h : nx a = nx b) : a = b := by
  rw [← nx_nx ha, ← nx_nx hb, h]
/-- the entry of a pair -/
abbrev mt (f : Int → Int) (a b : Int) : Int := f (a * 6 + b)
def Sym (f : Int → Int) : Prop := ∀ a b, lit a → lit b → mt f a b = mt f b a
def TR (f : Int → Int) : Prop := ∀ a b c, lit a → lit b → lit c → mt f a b ≤ mt f a c + mt f (nx c) b
/-- closed bounds of whole numbers -/
def TC (f : Int → Int) : Prop := Sym f ∧ TR f ∧ (∀ a, lit a → mt f a (nx a) = 0) ∧ (∀ a, lit a → mt f a a % 2 = 0) ∧ ∀ a b, lit a → lit b → 2 * mt f a b ≤ mt f a a + mt f b b
/-- signed values: of a and of its other sign -/
def sgn (s : Int → Int) : Prop := ∀ a, lit a → s (nx a) = - s a
def Sat (f : Int → Int) (s : Int → Int) : Prop := ∀ a b, lit a → lit b → s a + s b ≤ mt f a b
def GoodO (f : Int → Int) (O : List Int) (s : Int → Int) : Prop := (∀ a, a ∈ O → lit a ∧ nx a ∈ O ∧ s (nx a) = - s a) ∧ ∀ a b, a ∈ O → b ∈ O → s a + s b ≤ mt f a b
theorem ex_below (hi : List Int) : ∃ v : Int, ∀ u ∈ hi, v ≤ u := by
  induction hi with
  | nil => exact ⟨0, by simp⟩
  | cons a t ih =>
    obtain ⟨v, h⟩ := ih
    refine ⟨min a v, fun u hu => ?_⟩
    rcases List.mem_cons.mp hu with hu | hu
    · omega
    · have := h u hu; omega
theorem ex_between : ∀ (lo hi : List Int), (∀ l ∈ lo, ∀ u ∈ hi, l ≤ u) → ∃ v, (∀ l ∈ lo, l ≤ v) ∧ ∀ u ∈ hi, v ≤ u := by
  intro lo hi
  induction lo with
  | nil =>
    intro _
    obtain ⟨v, h⟩ := ex_below hi
    exact ⟨v, by simp, h⟩
  | cons a t ih =>
    intro h
    obtain ⟨v, h1, h2⟩ := ih (fun l hl u hu => h l (List.mem_cons_of_mem _ hl) u hu)
    refine ⟨max a v, fun l hl => ?_, fun u hu => ?_⟩
    · rcases List.mem_cons.mp hl with rfl | hl
      · omega
      · have := h1 l hl; omega
    · have := h a List.mem_cons_self u hu
      have := h2 u hu
      omega
/-- one number more: c -/
theorem oct_ext {f : Int → Int} (hf : TC f) {O : List Int} {s : Int → Int} (hO : GoodO f O s) {c : Int} (hc : lit c) (h1 : c ∉ O) (h2 : nx c ∉ O) : ∃ v : Int, GoodO f (c :: nx c :: O) (fun p => if p = c then v else if p = nx c then -v else s p) := by
  obtain ⟨fS, fT, fZ, fE, fH⟩ := hf
  obtain ⟨o1, o2⟩ := hO
  have hn := nx_lit hc
  have hnn := nx_nx hc
  obtain ⟨v, hlo, hhi⟩ := ex_between ((-(mt f (nx c) (nx c) / 2)) :: O.map (fun p => s p - mt f (nx c) p)) ((mt f c c / 2) :: O.map (fun p => mt f c p - s p)) (by
    intro l hl u hu
    have e1 := fE c hc
    have e2 := fE (nx c) hn
    rcases List.mem_cons.mp hl with rfl | hl
    · rcases List.mem_cons.mp hu with rfl | hu
      · have t := fT c (nx c) c hc hn hc
        have z := fZ c hc
        omega
      · obtain ⟨q, hq, rfl⟩ := List.mem_map.mp hu
        have lq := (o1 q hq).1
        have t1 := fT q q c lq lq hc
        have t2 := fT (nx c) q (nx c) hn lq hn
        rw [hnn] at t2
        have t3 := fS q c lq hc
        have g := o2 q q hq hq
        omega
    · obtain ⟨q, hq, rfl⟩ := List.mem_map.mp hl
      have lq := (o1 q hq).1
      rcases List.mem_cons.mp hu with rfl | hu
      · have t1 := fT q q (nx c) lq lq hn
        rw [hnn] at t1
        have t2 := fT c q c hc lq hc
        have t3 := fS q (nx c) lq hn
        have g := o2 q q hq hq
        omega
      · obtain ⟨r, hr, rfl⟩ := List.mem_map.mp hu
        have lr := (o1 r hr).1
        have t1 := fT q r (nx c) lq lr hn
        rw [hnn] at t1
        have t3 := fS q (nx c) lq hn
        have g := o2 q r hq hr
        omega)
  have b1 := hlo _ List.mem_cons_self
  have b2 := hhi _ List.mem_cons_self
  have b3 : ∀ q ∈ O, s q - mt f (nx c) q ≤ v := fun q hq => hlo _ (List.mem_cons_of_mem _ (List.mem_map.mpr ⟨q, hq, rfl⟩))
  have b4 : ∀ q ∈ O, v ≤ mt f c q - s q := fun q hq => hhi _ (List.mem_cons_of_mem _ (List.mem_map.mpr ⟨q, hq, rfl⟩))
  have e1 := fE c hc
  have e2 := fE (nx c) hn
  have hne := nx_ne c
  have sO : ∀ q ∈ O, (fun p => if p = c then v else if p = nx c then -v else s p) q = s q := by
    intro q hq
    have q1 : q ≠ c := fun z => h1 (z ▸ hq)
    have q2 : q ≠ nx c := fun z => h2 (z ▸ hq)
    simp [q1, q2]
  have sc : (fun p => if p = c then v else if p = nx c then -v else s p) c = v := by simp
  have sn : (fun p => if p = c then v else if p = nx c then -v else s p) (nx c) = -v := by simp [hne]
  refine ⟨v, fun a ha => ?_, fun a b ha hb => ?_⟩
  · rcases List.mem_cons.mp ha with ha | ha
    · rw [ha]
      exact ⟨hc, by simp, by rw [sc, sn]⟩
    · rcases List.mem_cons.mp ha with ha | ha
      · rw [ha]
        exact ⟨hn, by rw [hnn]; simp, by rw [hnn, sc, sn]; omega⟩
      · obtain ⟨k1, k2, k3⟩ := o1 a ha
        refine ⟨k1, by simp [k2], ?_⟩
        rw [sO a ha, sO _ k2, k3]
  · have z := fZ c hc
    have zs := fS c (nx c) hc hn
    rcases List.mem_cons.mp ha with ha | ha
    · rw [ha, sc]
      rcases List.mem_cons.mp hb with hb | hb
      · rw [hb, sc]; omega
      · rcases List.mem_cons.mp hb with hb | hb
        · rw [hb, sn]; omega
        · rw [sO b hb]
          have := b4 b hb
          omega
    · rcases List.mem_cons.mp ha with ha | ha
      · rw [ha, sn]
        rcases List.mem_cons.mp hb with hb | hb
        · rw [hb, sc]; omega
        · rcases List.mem_cons.mp hb with hb | hb
          · rw [hb, sn]; omega
          · rw [sO b hb]
            have := b3 b hb
            omega
      · have la := (o1 a ha).1
        rw [sO a ha]
        rcases List.mem_cons.mp hb with hb | hb
        · rw [hb, sc]
          have := b4 a ha
          have := fS a c la hc
          omega
        · rcases List.mem_cons.mp hb with hb | hb
          · rw [hb, sn]
            have := b3 a ha
            have := fS a (nx c) la hn
            omega
          · rw [sO b hb]
            exact o2 a b ha hb
/-- all numbers: from any that are good -/
theorem oct_all {f : Int → Int} (hf : TC f) {O : List Int} {s : Int → Int} (hO : GoodO f O s) : ∃ s' : Int → Int, sgn s' ∧ Sat f s' ∧ ∀ a, a ∈ O → s' a = s a := by
  have key : ∀ (cs : List Int) (O : List Int) (s : Int → Int), (∀ c ∈ cs, lit c) → GoodO f O s → ∃ (O' : List Int) (s' : Int → Int), GoodO f O' s' ∧ (∀ c ∈ cs, c ∈ O') ∧ (∀ a ∈ O, a ∈ O') ∧ ∀ a ∈ O, s' a = s a := by
    intro cs
    induction cs with
    | nil => intro O s _ h; exact ⟨O, s, h, by simp, fun a h => h, fun a _ => rfl⟩
    | cons c cs ih =>
      intro O s hl h
      have hc := hl c List.mem_cons_self
      by_cases hm : c ∈ O
      · obtain ⟨O', s', g1, g2, g3, g4⟩ := ih O s (fun c hc => hl c (List.mem_cons_of_mem _ hc)) h
        refine ⟨O', s', g1, fun q hq => ?_, g3, g4⟩
        rcases List.mem_cons.mp hq with rfl | hq
        · exact g3 _ hm
        · exact g2 q hq
      · have hm2 : nx c ∉ O := fun z => hm (by have := (h.1 _ z).2.1; rwa [nx_nx hc] at this)
        obtain ⟨v, hv⟩ := oct_ext hf h hc hm hm2
        obtain ⟨O', s', g1, g2, g3, g4⟩ := ih _ _ (fun c hc => hl c (List.mem_cons_of_mem _ hc)) hv
        refine ⟨O', s', g1, fun q hq => ?_, fun a ha => g3 a (by simp [ha]), fun a ha => ?_⟩
        · rcases List.mem_cons.mp hq with rfl | hq
          · exact g3 _ List.mem_cons_self
          · exact g2 q hq
        · rw [g4 a (by simp [ha])]
          have q1 : a ≠ c := fun z => hm (z ▸ ha)
          have q2 : a ≠ nx c := fun z => hm2 (z ▸ ha)
          simp [q1, q2]
  obtain ⟨O', s', g1, g2, g3, g4⟩ := key [0, 1, 2, 3, 4, 5] O s (by intro c hc; simp at hc; omega) hO
  have all : ∀ a, lit a → a ∈ O' := by
    intro a ha
    refine g2 a ?_
    have : a = 0 ∨ a = 1 ∨ a = 2 ∨ a = 3 ∨ a = 4 ∨ a = 5 := by omega
    simp; exact this
  exact ⟨s', fun a ha => (g1.1 a (all a ha)).2.2, fun a b ha hb => g1.2 a b (all a ha) (all b hb), g4⟩
/-- each closed bound is reached by whole numbers -/
theorem oct_att {f : Int → Int} (hf : TC f) {a b : Int} (ha : lit a) (hb : lit b) : ∃ s : Int → Int, sgn s ∧ Sat f s ∧ s a + s b = mt f a b := by
  obtain ⟨fS, fT, fZ, fE, fH⟩ := id hf
  have na := nx_lit ha
  have nb := nx_lit hb
  have naa := nx_nx ha
  have nbb := nx_nx hb
  by_cases hab : a = b
  · subst hab
    have hg : GoodO f [a, nx a] (fun p => if p = a then mt f a a / 2 else -(mt f a a / 2)) := by
      have e1 := fE a ha
      have e2 := fE (nx a) na
      have z := fZ a ha
      have z2 := fS a (nx a) ha na
      have t := fT a (nx a) a ha na ha
      have hne := nx_ne a
      refine ⟨fun p hp => ?_, fun p q hp hq => ?_⟩
      · simp only [List.mem_cons, List.not_mem_nil, or_false] at hp
        rcases hp with rfl | rfl
        · exact ⟨ha, by simp, by simp [hne]⟩
        · exact ⟨na, by simp [naa], by simp [naa, hne]⟩
      · simp only [List.mem_cons, List.not_mem_nil, or_false] at hp hq
        rcases hp with rfl | rfl <;> rcases hq with rfl | rfl <;> simp [hne] <;> omega
    obtain ⟨s, h1, h2, h3⟩ := oct_all hf hg
    refine ⟨s, h1, h2, ?_⟩
    rw [h3 a (by simp)]
    have e1 := fE a ha
    simp
    omega
  · by_cases hab2 : b = nx a
    · subst hab2
      obtain ⟨s, h1, h2, -⟩ := oct_all hf (O := []) (s := fun _ => 0) ⟨by simp, by simp⟩
      refine ⟨s, h1, h2, ?_⟩
      rw [h1 a ha, fZ a ha]
      omega
    · have hba2 : a ≠ nx b := fun z => hab2 (by rw [z, nbb])
      have hn2 : nx a ≠ nx b := fun z => hab (nx_inj ha hb z)
      have e1 := fE a ha
      have e2 := fE (nx a) na
      have e3 := fE b hb
      have e4 := fE (nx b) nb
      have h1 := fH a b ha hb
      have h2 := fH (nx a) (nx b) na nb
      have s1 := fS a b ha hb
      have s2 := fS (nx a) (nx b) na nb
      have s3 := fS a (nx b) ha nb
      have s4 := fS (nx a) b na hb
      have za := fZ a ha
      have zb := fZ b hb
      have sza := fS a (nx a) ha na
      have szb := fS b (nx b) hb nb
      have t1 := fT a (nx a) b ha na hb
      have t2 := fT a (nx a) (nx b) ha na nb
      rw [nbb] at t2
      have t3 := fT a a b ha ha hb
      have t4 := fT b b a hb hb ha
      have t5 := fT (nx a) (nx a) (nx b) na na nb
      rw [nbb] at t5
      have t6 := fT (nx b) (nx b) (nx a) nb nb na
      rw [naa] at t6
      obtain ⟨v, hlo, hhi⟩ := ex_between [-(mt f (nx a) (nx a) / 2), mt f a b - mt f b b / 2, (mt f a b - mt f (nx a) b + 1) / 2] [mt f a a / 2, mt f a b + mt f (nx b) (nx b) / 2, (mt f a b + mt f a (nx b)) / 2] (by
        have t7 := fT a a a ha ha ha
        have u1 := fT a b a ha hb ha
        have u2 := fT a b b ha hb hb
        have u3 := fT (nx a) b (nx a) na hb na
        rw [naa] at u3
        have u4 := fT a (nx b) (nx b) ha nb nb
        rw [nbb] at u4
        have u5 := fH a (nx b) ha nb
        have u6 := fH (nx a) b na hb
        intro l hl u hu
        simp only [List.mem_cons, List.not_mem_nil, or_false] at hl hu
        rcases hl with rfl | rfl | rfl <;> rcases hu with rfl | rfl | rfl <;> omega)
      have l1 := hlo _ List.mem_cons_self
      have l2 := hlo (mt f a b - mt f b b / 2) (by simp)
      have l3 := hlo ((mt f a b - mt f (nx a) b + 1) / 2) (by simp)
      have k1 := hhi _ List.mem_cons_self
      have k2 := hhi (mt f a b + mt f (nx b) (nx b) / 2) (by simp)
      have k3 := hhi ((mt f a b + mt f a (nx b)) / 2) (by simp)
      have hna := nx_ne a
      have hnb := nx_ne b
      have x1 : nx b ≠ nx a := fun z => hn2 z.symm
      have x2 : b ≠ a := fun z => hab z.symm
      have x3 : nx b ≠ a := fun z => hba2 z.symm
      obtain ⟨F, va, vna, vb, vnb⟩ : ∃ F : Int → Int, F a = v ∧ F (nx a) = -v ∧ F b = mt f a b - v ∧ F (nx b) = v - mt f a b :=
        ⟨fun p => if p = a then v else if p = nx a then -v else if p = b then mt f a b - v else v - mt f a b, by simp, by simp [hna], by simp [x2, hab2], by simp [x1, x3, hnb]⟩
      have hg : GoodO f [a, nx a, b, nx b] F := by
        refine ⟨fun p hp => ?_, fun p q hp hq => ?_⟩
        · simp only [List.mem_cons, List.not_mem_nil, or_false] at hp
          rcases hp with hp | hp | hp | hp <;> rw [hp]
          · exact ⟨ha, by simp, by rw [va, vna]⟩
          · exact ⟨na, by simp [naa], by rw [naa, va, vna]; omega⟩
          · exact ⟨hb, by simp, by rw [vb, vnb]; omega⟩
          · exact ⟨nb, by simp [nbb], by rw [nbb, vb, vnb]; omega⟩
        · simp only [List.mem_cons, List.not_mem_nil, or_false] at hp hq
          rcases hp with hp | hp | hp | hp <;> rcases hq with hq | hq | hq | hq <;> rw [hp, hq] <;> simp only [va, vna, vb, vnb] <;> omega
      obtain ⟨s, q1, q2, q3⟩ := oct_all hf hg
      refine ⟨s, q1, q2, ?_⟩
      rw [q3 a (by simp), q3 b (by simp), va, vb]
      omega
