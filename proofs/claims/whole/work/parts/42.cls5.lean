/-! ===== SumBounds: put, take, by, image, restore ===== -/
theorem upK_lo {f : Int → Int} {i n j : Int} (h : j ≤ i) : upK f i n j = f j := by unfold upK; rw [if_neg (by omega)]
theorem upK_hi {f : Int → Int} {i n j : Int} (h : i < j) (h2 : j ≤ n) : upK f i n j = f (j - 1) := by unfold upK; rw [if_pos ⟨h, h2⟩]
theorem upF_lo {kf f : Int → Int} {p i n j : Int} (h : j ≤ i) : upF kf f p i n j = f j := by unfold upF; rw [if_neg (by omega)]
theorem upF_hi {kf f : Int → Int} {p i n j : Int} (h : i < j) (h2 : j ≤ n) : upF kf f p i n j = f (j - 1) + bmp kf f p (j - 1) := by unfold upF; rw [if_pos ⟨h, h2⟩]
theorem prOK_ins {kf af bf zf : Int → Int} {n p : Nat} (h : prOK kf af bf zf n) (hp : p ≤ n) {kd a b z : Int} (hst : stOK kd a b z) : prOK (up1 (upK kf p n) p kd) (up1 (upF kf af p p n) p a) (up1 (upK bf p n) p b) (up1 (upK zf p n) p z) (n + 1) := by
  have lo : ∀ (f : Int → Int) (v : Int) (j : Nat), j < p → up1 (upK f p n) p v j = f j := fun f v j hj => by rw [up1_n (by omega), upK_lo (by omega)]
  have hi : ∀ (f : Int → Int) (v : Int) (j : Nat), p < j → j ≤ n → up1 (upK f p n) p v j = f ((j - 1 : Nat) : Int) := fun f v j hj hj2 => by rw [up1_n (by omega), upK_hi (by omega) (by omega)]; congr 1; omega
  have lof : ∀ (v : Int) (j : Nat), j < p → up1 (upF kf af p p n) p v j = af j := fun v j hj => by rw [up1_n (by omega), upF_lo (by omega)]
  have hif : ∀ (v : Int) (j : Nat), p < j → j ≤ n → up1 (upF kf af p p n) p v j = af ((j - 1 : Nat) : Int) + bmp kf af p ((j - 1 : Nat) : Int) := fun v j hj hj2 => by
    rw [up1_n (by omega), upF_hi (by omega) (by omega)]
    have e : (j : Int) - 1 = ((j - 1 : Nat) : Int) := by omega
    rw [e]
  -- a step that isn't a loop
  have st : ∀ j : Nat, j ≤ n → (j < p → stOK (kf j) (af j) (bf j) (zf j)) → (p < j → stOK (kf (j - 1 : Nat)) (af (j - 1 : Nat)) (bf (j - 1 : Nat)) (zf (j - 1 : Nat))) → stOK (up1 (upK kf p n) p kd j) (up1 (upF kf af p p n) p a j) (up1 (upK bf p n) p b j) (up1 (upK zf p n) p z j) := by
    intro j hj h1 h2
    rcases Nat.lt_trichotomy j p with q | q | q
    · rw [lo _ _ _ q, lof _ _ q, lo _ _ _ q, lo _ _ _ q]
      exact h1 q
    · subst q
      rw [up1_s, up1_s, up1_s, up1_s]
      exact hst
    · rw [hi _ _ _ q hj, hif _ _ q hj, hi _ _ _ q hj, hi _ _ _ q hj]
      have h3 := h2 q
      have : bmp kf af p ((j - 1 : Nat) : Int) = 0 := by unfold bmp; rw [if_neg (fun z => (stOK_n4 h3).1 z.1)]
      rw [this, Int.add_zero]
      exact h3
  intro i hi2
  rcases Nat.lt_trichotomy i p with q | q | q
  · rcases h i (by omega) with h1 | ⟨h1, t, h2, h3, h4⟩
    · exact Or.inl (st i (by omega) (fun _ => h1) (fun z => by omega))
    · refine Or.inr ⟨by rw [lo _ _ _ q]; exact h1, t, h2, by rw [lof _ _ q]; exact h3, fun j h5 h6 => st j (by omega) (fun _ => h4 j h5 h6) (fun z => by omega)⟩
  · exact Or.inl (st i (by omega) (fun z => by omega) (fun z => by omega))
  · rcases h (i - 1) (by omega) with h1 | ⟨h1, t, h2, h3, h4⟩
    · exact Or.inl (st i (by omega) (fun z => by omega) (fun _ => h1))
    · have hk : up1 (upK kf p n) p kd i = 4 := by rw [hi _ _ _ q (by omega)]; exact h1
      have ha : up1 (upF kf af p p n) p a i = af ((i - 1 : Nat) : Int) + bmp kf af p ((i - 1 : Nat) : Int) := hif _ _ q (by omega)
      by_cases hpt : p < t
      · have hb : bmp kf af p ((i - 1 : Nat) : Int) = 1 := by unfold bmp; rw [if_pos ⟨h1, by omega⟩]
        refine Or.inr ⟨hk, t + 1, by omega, by rw [ha, hb]; omega, fun j h5 h6 => st j (by omega) (fun z => by omega) (fun z => h4 (j - 1) (by omega) (by omega))⟩
      · have hb : bmp kf af p ((i - 1 : Nat) : Int) = 0 := by unfold bmp; rw [if_neg (by omega)]
        refine Or.inr ⟨hk, t, by omega, by rw [ha, hb]; omega, fun j h5 h6 => st j (by omega) (fun z => h4 j h5 (by omega)) (fun z => h4 (j - 1) (by omega) (by omega))⟩
theorem prOK_rem {kf af bf zf : Int → Int} {n p : Nat} (h : prOK kf af bf zf (n + 1)) (hp : p ≤ n) (hno : ¬ (p + 1 < n + 1 ∧ kf ((p + 1 : Nat) : Int) = 4 ∧ af ((p + 1 : Nat) : Int) = p)) : prOK (dnK kf p n) (dnF kf af p n) (dnK bf p n) (dnK zf p n) n := by
  have lo : ∀ (f : Int → Int) (j : Nat), j < p → dnK f p n j = f j := fun f j hj => by unfold dnK; rw [if_neg (by omega)]
  have hi : ∀ (f : Int → Int) (j : Nat), p ≤ j → j < n → dnK f p n j = f ((j + 1 : Nat) : Int) := fun f j hj hj2 => by unfold dnK; rw [if_pos (by omega)]; rfl
  have lof : ∀ (j : Nat), j < p → dnF kf af p n j = af j := fun j hj => by unfold dnF; rw [if_neg (by omega)]
  have hif : ∀ (j : Nat), p ≤ j → j < n → dnF kf af p n j = af ((j + 1 : Nat) : Int) - bmp kf af p ((j + 1 : Nat) : Int) := fun j hj hj2 => by unfold dnF; rw [if_pos (by omega)]; rfl
  have st : ∀ j : Nat, j < n → (j < p → stOK (kf j) (af j) (bf j) (zf j)) → (p ≤ j → stOK (kf (j + 1 : Nat)) (af (j + 1 : Nat)) (bf (j + 1 : Nat)) (zf (j + 1 : Nat))) → stOK (dnK kf p n j) (dnF kf af p n j) (dnK bf p n j) (dnK zf p n j) := by
    intro j hj h1 h2
    by_cases q : j < p
    · rw [lo _ _ q, lof _ q, lo _ _ q, lo _ _ q]
      exact h1 q
    · have q' : p ≤ j := by omega
      rw [hi _ _ q' hj, hif _ q' hj, hi _ _ q' hj, hi _ _ q' hj]
      have h3 := h2 q'
      have : bmp kf af p ((j + 1 : Nat) : Int) = 0 := by unfold bmp; rw [if_neg (fun z => (stOK_n4 h3).1 z.1)]
      rw [this, Int.sub_zero]
      exact h3
  intro i hi2
  by_cases q : i < p
  · rcases h i (by omega) with h1 | ⟨h1, t, h2, h3, h4⟩
    · exact Or.inl (st i (by omega) (fun _ => h1) (fun z => by omega))
    · exact Or.inr ⟨by rw [lo _ _ q]; exact h1, t, h2, by rw [lof _ q]; exact h3, fun j h5 h6 => st j (by omega) (fun _ => h4 j h5 h6) (fun z => by omega)⟩
  · have q' : p ≤ i := by omega
    rcases h (i + 1) (by omega) with h1 | ⟨h1, t, h2, h3, h4⟩
    · exact Or.inl (st i (by omega) (fun z => by omega) (fun _ => h1))
    · have hk : dnK kf p n i = 4 := by rw [hi _ _ q' hi2]; exact h1
      have ha := hif i q' hi2
      by_cases hpt : p < t
      · have hb : bmp kf af p ((i + 1 : Nat) : Int) = 1 := by unfold bmp; rw [if_pos ⟨h1, by omega⟩]
        refine Or.inr ⟨hk, t - 1, by omega, by rw [ha, hb]; omega, fun j h5 h6 => st j (by omega) (fun z => by omega) (fun z => h4 (j + 1) (by omega) (by omega))⟩
      · have hb : bmp kf af p ((i + 1 : Nat) : Int) = 0 := by unfold bmp; rw [if_neg (by omega)]
        have hti : t < i := by
          rcases Nat.lt_or_ge t i with z | z
          · exact z
          · exfalso
            have e1 : i = p := by omega
            subst e1
            exact hno ⟨by omega, h1, by omega⟩
        refine Or.inr ⟨hk, t, hti, by rw [ha, hb]; omega, fun j h5 h6 => st j (by omega) (fun z => h4 j h5 (by omega)) (fun z => h4 (j + 1) (by omega) (by omega))⟩
theorem prOK_by {kf af bf zf : Int → Int} {n p : Nat} (h : prOK kf af bf zf n) {z : Int} (hz : -9 ≤ z ∧ z ≤ 9) : prOK kf af bf (up1 zf p z) n := by
  have st : ∀ j : Nat, stOK (kf j) (af j) (bf j) (zf j) → stOK (kf j) (af j) (bf j) (up1 zf p z j) := by
    intro j hj
    by_cases e : (j : Int) = p
    · rw [e, up1_s]
      rw [e] at hj
      unfold stOK at hj ⊢
      rcases hj with ⟨h1, h2, h3, h4⟩ | ⟨h1, h2, h3, h4⟩ | ⟨h1, h2⟩ | ⟨h1, h2, h3⟩
      · exact Or.inl ⟨h1, h2, h3, hz.1, hz.2⟩
      · exact Or.inr (Or.inl ⟨h1, h2, h3, hz.1, hz.2⟩)
      · exact Or.inr (Or.inr (Or.inl ⟨h1, h2⟩))
      · exact Or.inr (Or.inr (Or.inr ⟨h1, h2, hz.1, hz.2⟩))
    · rw [up1_n e]; exact hj
  intro i hi
  rcases h i hi with h1 | ⟨h1, t, h2, h3, h4⟩
  · exact Or.inl (st i h1)
  · exact Or.inr ⟨h1, t, h2, h3, fun j h5 h6 => st j (h4 j h5 h6)⟩
/-- the steps alone changed: 9 .. 13 -/
theorem CJ.st {M M' : Mm} {n m : Nat} (hJ : CJ M n) (hf : ∀ q, q < 9 ∨ 13 < q → M' q = M q) (hs : M' 9 4 = m) (hm : m ≤ 6) (ho : prOK (M' 10) (M' 11) (M' 12) (M' 13) m) (hb : cBd M' 9) : CJ M' m := by
  have f : ∀ q, q < 9 ∨ 13 < q → M' q = M q := hf
  apply CJ.mk
  case sz => exact hs
  case n6 => exact hm
  case ok => exact ho
  case b9 => exact hb
  case b4 => intro j; rw [f _ (by decide), f _ (by decide), f _ (by decide), f _ (by decide)]; exact hJ.b4 j
  case b43 => intro j; rw [f _ (by decide), f _ (by decide), f _ (by decide), f _ (by decide)]; exact hJ.b43 j
  case pg0 => rw [f 1 (by decide)]; exact hJ.pg0
  case pg1 => rw [f 1 (by decide)]; exact hJ.pg1
  case pgl => intro j; rw [f 1 (by decide), f 2 (by decide)]; exact hJ.pgl j
  case rd3 => rw [f 3 (by decide)]; exact hJ.rd3
  case rkb => intro j; rw [f 38 (by decide)]; exact hJ.rkb j
  case sn0 => rw [f 40 (by decide)]; exact hJ.sn0
  case sn1 => rw [f 40 (by decide)]; exact hJ.sn1
  case snb => intro j; rw [f 41 (by decide), f 49 (by decide)]; exact hJ.snb j
  case snr => intro j; rw [f 42 (by decide), f 50 (by decide)]; exact hJ.snr j
  case im0 => rw [f 0 (by decide)]; exact hJ.im0
  case im1 => rw [f 0 (by decide), f 43 (by decide), f 44 (by decide), f 45 (by decide), f 46 (by decide), f 47 (by decide), f 48 (by decide)]; exact hJ.im1
  case rdg => rw [f 0 (by decide)]; exact hJ.rdg
  case sc => rw [f 52 (by decide)]; exact hJ.sc
theorem insM_at {M : Mm} {p kd a b z : Int} : insM M 9 p kd a b z 9 4 = M 9 4 + 1 ∧ insM M 9 p kd a b z 10 = up1 (upK (M 10) p (M 9 4)) p kd ∧ insM M 9 p kd a b z 11 = up1 (upF (M 10) (M 11) p p (M 9 4)) p a ∧ insM M 9 p kd a b z 12 = up1 (upK (M 12) p (M 9 4)) p b ∧ insM M 9 p kd a b z 13 = up1 (upK (M 13) p (M 9 4)) p z := by
  unfold insM
  refine ⟨by rw [rwc_at, up1_s], ?_, ?_, ?_, ?_⟩
  · rw [rwc_ne (by decide)]; exact rw4_1 _ 9 _ _ _ _
  · rw [rwc_ne (by decide)]; exact rw4_2 _ 9 _ _ _ _
  · rw [rwc_ne (by decide)]; exact rw4_3 _ 9 _ _ _ _
  · rw [rwc_ne (by decide)]; exact rw4_4 _ 9 _ _ _ _
theorem rw4_o {M : Mm} {c q : Nat} {f1 f2 f3 f4 : Int → Int} (h : q ≤ c ∨ c + 4 < q) : rw4 M c f1 f2 f3 f4 q = M q := by
  unfold rw4
  rw [rwc_ne (by omega), rwc_ne (by omega), rwc_ne (by omega), rwc_ne (by omega)]
theorem insM_o {M : Mm} {p kd a b z : Int} {q : Nat} (h : q < 9 ∨ 13 < q) : insM M 9 p kd a b z q = M q := by
  unfold insM
  rw [rwc_ne (by omega), rw4_o (by omega)]
theorem remM_at {M : Mm} {p : Int} : remM M 9 p 9 4 = M 9 4 - 1 ∧ remM M 9 p 10 = dnK (M 10) p (M 9 4 - 1) ∧ remM M 9 p 11 = dnF (M 10) (M 11) p (M 9 4 - 1) ∧ remM M 9 p 12 = dnK (M 12) p (M 9 4 - 1) ∧ remM M 9 p 13 = dnK (M 13) p (M 9 4 - 1) := by
  unfold remM
  refine ⟨?_, ?_, ?_, ?_, ?_⟩
  · rw [rw4_o (by omega), rwc_at, up1_s]
  · exact rw4_1 _ 9 _ _ _ _
  · exact rw4_2 _ 9 _ _ _ _
  · exact rw4_3 _ 9 _ _ _ _
  · exact rw4_4 _ 9 _ _ _ _
theorem remM_o {M : Mm} {p : Int} {q : Nat} (h : q < 9 ∨ 13 < q) : remM M 9 p q = M q := by
  unfold remM
  rw [rw4_o (by omega), rwc_ne (by omega)]
def putB (kd b : Int) : Int := if kd < 2 then b else -1
def putZ (kd z : Int) : Int := if kd = 2 then 0 else z
theorem put_st {kd a b z : Int} (h : putP kd a b z) : stOK kd a (putB kd b) (putZ kd z) := by
  obtain ⟨h1, h2, h3, h4⟩ := h
  have : kd = 0 ∨ kd = 1 ∨ kd = 2 ∨ kd = 3 := by omega
  unfold stOK putB putZ
  rcases this with rfl | rfl | rfl | rfl
  · left; simp at *; omega
  · right; left; simp at *; omega
  · right; right; left; simp at *; omega
  · right; right; right; simp at *; omega
theorem CJ.ins {M : Mm} {n p : Nat} (hJ : CJ M n) (hn : n ≤ 5) (hp : p ≤ n) {kd a b z : Int} (hst : stOK kd a b z) (hab : (-1 ≤ b ∧ b < 6) ∧ (-9 ≤ z ∧ z ≤ 9)) : CJ (insM M 9 p kd a b z) (n + 1) := by
  have hs := hJ.sz
  obtain ⟨e0, e1, e2, e3, e4⟩ := insM_at (M := M) (p := p) (kd := kd) (a := a) (b := b) (z := z)
  refine hJ.st (fun q hq => insM_o hq) (by rw [e0, hs]; rfl) (by omega) ?_ ?_
  · rw [e1, e2, e3, e4, hs]
    exact prOK_ins hJ.ok hp hst
  · intro j hj0 hj1
    simp only [Nat.reduceAdd]
    rw [e1, e2, e3, e4, hs]
    have hbj := hJ.b9 j hj0 hj1
    simp only [Nat.reduceAdd] at hbj
    have hk4 : -10 ≤ kd ∧ kd ≤ 10 ∧ -10 ≤ a ∧ a ≤ 10 := by unfold stOK at hst; omega
    by_cases q1 : j = p
    · rw [q1, up1_s, up1_s, up1_s, up1_s]; omega
    · rw [up1_n q1, up1_n q1, up1_n q1, up1_n q1]
      by_cases q2 : (p : Int) < j ∧ j ≤ n
      · rw [upK_hi q2.1 q2.2, upF_hi q2.1 q2.2, upK_hi q2.1 q2.2, upK_hi q2.1 q2.2]
        have hbq := hJ.b9 (j - 1) (by omega) (by omega)
        simp only [Nat.reduceAdd] at hbq
        have hf : -10 ≤ M 11 (j - 1) ∧ M 11 (j - 1) ≤ 10 := by
          have e : j - 1 = (((j - 1).toNat : Nat) : Int) := by omega
          rw [e]
          rcases hJ.ok (j - 1).toNat (by omega) with h1 | ⟨h1, t, h2, h3, h4⟩
          · unfold stOK at h1; omega
          · rw [h3]; omega
        have hbm : 0 ≤ bmp (M 10) (M 11) p (j - 1) ∧ bmp (M 10) (M 11) p (j - 1) ≤ 1 := by unfold bmp; split <;> omega
        omega
      · have eK : ∀ f : Int → Int, upK f p n j = f j := fun f => by unfold upK; rw [if_neg q2]
        have eF : upF (M 10) (M 11) p p n j = M 11 j := by unfold upF; rw [if_neg q2]
        rw [eK, eK, eK, eF]
        exact hbj
theorem CJ.rem {M : Mm} {n p : Nat} (hJ : CJ M (n + 1)) (hp : p ≤ n) (hno : ¬ ((p : Int) + 1 < M 9 4 ∧ M 10 ((p : Int) + 1) = 4 ∧ M 11 ((p : Int) + 1) = p)) : CJ (remM M 9 p) n := by
  have hs := hJ.sz
  have hn := hJ.n6
  obtain ⟨e0, e1, e2, e3, e4⟩ := remM_at (M := M) (p := p)
  have hs1 : M 9 4 - 1 = n := by omega
  refine hJ.st (fun q hq => remM_o hq) (by rw [e0, hs1]) (by omega) ?_ ?_
  · rw [e1, e2, e3, e4, hs1]
    exact prOK_rem hJ.ok hp (fun z => hno ⟨by omega, z.2.1, z.2.2⟩)
  · intro j hj0 hj1
    simp only [Nat.reduceAdd]
    rw [e1, e2, e3, e4, hs1]
    have hbj := hJ.b9 j hj0 hj1
    simp only [Nat.reduceAdd] at hbj
    by_cases q2 : (p : Int) ≤ j ∧ j < n
    · have eK : ∀ f : Int → Int, dnK f p n j = f (j + 1) := fun f => by unfold dnK; rw [if_pos q2]
      have eF : dnF (M 10) (M 11) p n j = M 11 (j + 1) - bmp (M 10) (M 11) p (j + 1) := by unfold dnF; rw [if_pos q2]
      rw [eK, eK, eK, eF]
      have hbq := hJ.b9 (j + 1) (by omega) (by omega)
      simp only [Nat.reduceAdd] at hbq
      have hf : -10 ≤ M 11 (j + 1) ∧ M 11 (j + 1) ≤ 10 := by
        have e : j + 1 = (((j + 1).toNat : Nat) : Int) := by omega
        rw [e]
        rcases hJ.ok (j + 1).toNat (by omega) with h1 | ⟨h1, t, h2, h3, h4⟩
        · unfold stOK at h1; omega
        · rw [h3]; omega
      have hbm : 0 ≤ bmp (M 10) (M 11) p (j + 1) ∧ bmp (M 10) (M 11) p (j + 1) ≤ 1 := by unfold bmp; split <;> omega
      omega
    · have eK : ∀ f : Int → Int, dnK f p n j = f j := fun f => by unfold dnK; rw [if_neg q2]
      have eF : dnF (M 10) (M 11) p n j = M 11 j := by unfold dnF; rw [if_neg q2]
      rw [eK, eK, eK, eF]
      exact hbj
theorem CJ.by {M : Mm} {n p : Nat} (hJ : CJ M n) {z : Int} (hz : -9 ≤ z ∧ z ≤ 9) : CJ (upM M 13 p z) n := by
  have e : upM M 13 p z = rwc M 13 (up1 (M 13) p z) := upM_rw _ _ _ _
  rw [e]
  refine hJ.st (fun q hq => rwc_ne (by omega)) (by rw [rwc_ne (by decide)]; exact hJ.sz) hJ.n6 ?_ ?_
  · rw [rwc_ne (by decide), rwc_ne (by decide), rwc_ne (by decide), rwc_at]
    exact prOK_by hJ.ok hz
  · intro j hj0 hj1
    simp only [Nat.reduceAdd]
    rw [rwc_ne (by decide), rwc_ne (by decide), rwc_ne (by decide), rwc_at]
    have hbj := hJ.b9 j hj0 hj1
    simp only [Nat.reduceAdd] at hbj
    refine ⟨hbj.1, hbj.2.1, hbj.2.2.1, ?_⟩
    by_cases q : j = p
    · rw [q, up1_s]; omega
    · rw [up1_n q]; exact hbj.2.2.2
