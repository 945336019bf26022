/-! ===== the cells, once all is made (printed by gen10.py) ===== -/
def KK : List Kd := [.inl 8, .inl 1, .inr (.inl 36), .inl 3, .inl 7, .inr (.inl 6), .inr (.inl 6), .inr (.inl 6), .inr (.inl 6), .inl 7, .inr (.inl 6), .inr (.inl 6), .inr (.inl 6), .inr (.inl 6), .inl 4, .inr (.inr 7), .inr (.inl 7), .inl 6, .inr (.inl 36), .inl 6, .inr (.inl 36), .inl 6, .inr (.inl 36), .inl 6, .inr (.inl 36), .inl 6, .inr (.inl 36), .inl 6, .inr (.inl 36), .inl 6, .inr (.inl 36), .inl 6, .inr (.inl 36), .inl 6, .inr (.inl 36), .inl 6, .inr (.inl 36), .inl 2, .inr (.inl 15), .inr (.inl 5), .inl 5, .inr (.inl 6), .inr (.inl 6), .inl 7, .inr (.inl 6), .inr (.inl 6), .inr (.inl 6), .inr (.inl 6), .inl 5, .inr (.inl 6), .inr (.inl 6), .inl 0, .inl 6, .inr (.inl 36), .inl 9, .inr (.inl 36), .inr (.inl 24), .inr (.inl 24), .inr (.inl 49130), .inr (.inl 29478), .inr (.inl 36), .inr (.inl 36), .inr (.inl 36), .inr (.inl 7), .inr (.inl 15), .inr (.inl 18), .inr (.inl 24), .inr (.inl 18)]
def PPt : List (List (Option Nat)) := [[some 1, some 3, some 9, some 14, some 37, some 40, some 43, some 48, some 51, some 52], [some 2], [], [some 4], [some 5, some 6, some 7, some 8], [], [], [], [], [some 10, some 11, some 12, some 13], [], [], [], [], [some 15, some 16, some 17, some 19, some 21], [some 23, some 25, some 27, some 29, some 31, some 33, some 35], [], [some 18], [], [some 20], [], [some 22], [], [some 24], [], [some 26], [], [some 28], [], [some 30], [], [some 32], [], [some 34], [], [some 36], [], [some 38, some 39], [], [], [some 41, some 42], [], [], [some 44, some 45, some 46, some 47], [], [], [], [], [some 49, some 50], [], [], [], [some 53], [], [some 55, none, none, none, none, none, none, some 56, none, none, some 57, none, some 58, some 59, some 60, some 61, some 62, none, some 63, some 64, none, some 65, none, none, none, none, some 66, some 67], [], [], [], [], [], [], [], [], [], [], [], [], []]
def PP : Pm := fun c i => (PPt.getD c []).getD i.toNat none
/-- a Shape at c: its bounds at c + 1 -/
def isSh (c : Nat) : Prop := KK[c]? = some (.inl 6) ∧ KK[c + 1]? = some (.inr (.inl 36)) ∧ PP c 0 = some (c + 1)
abbrev Pz : Type := Option V → Mm → Prop
def Cm (d : Md) (A : List V) (M : Mm) (Φ : Pz) : Prop := Cl d A KK M PP (fun r K M' P => K = KK ∧ P = PP ∧ Φ r M')
/-- the end of a frame in the main phase -/
def Rz (d : Md) (Φ : Pz) : Ps := fun r K M P k n => (K = KK ∧ P = PP ∧ Φ r M) ∧ k ≤ (dR d).cells ∧ n ≤ (dR d).slots
theorem cm_of {d : Md} {A : List V} {M : Mm} {Φ : Pz} (hy : plainFor (dy d) = true) (hX : ∀ g, dX d g) (hlen : (ent A).length ≤ dn d) (h : Ev d 0 (pad (dn d) (ent A)) [] KK M PP 0 0 (Rz d Φ)) : Cm d A M Φ := cl_of hy hX hlen h
theorem rz {d : Md} {Φ : Pz} {r : Option V} {M : Mm} {k n : Nat} (h : Φ r M) (hk : k ≤ (dR d).cells := by decide) (hn : n ≤ (dR d).slots := by decide) : Rz d Φ r KK M PP k n := ⟨⟨rfl, rfl, h⟩, hk, hn⟩
theorem cm_mono {d : Md} {A : List V} {M : Mm} {Φ Φ' : Pz} (h : Cm d A M Φ) (hi : ∀ r M', Φ r M' → Φ' r M') : Cm d A M Φ' := by
  intro l g
  have h1 := h l g
  intro p e ha hc hk s m args below hf hfit hP hK
  obtain ⟨t, o, a1, a2, a3, ⟨⟨r, K, M', P, q1, ⟨q2, q3, q4⟩, q5⟩, qF⟩, a5⟩ := h1 p e ha hc hk s m args below hf hfit hP hK
  exact ⟨t, o, a1, a2, a3, ⟨⟨r, K, M', P, q1, ⟨q2, q3, hi r M' q4⟩, q5⟩, qF⟩, a5⟩
theorem okR_z {d : Md} {z : Int} (h : dr d = some .boolean) (hz : z = 0 ∨ z = 1) : okR d z := ⟨.boolean, h, by rcases hz with rfl | rfl <;> rfl⟩
