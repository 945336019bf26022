/-! ===== memory: fields, arrays, what lies outside ===== -/
def upM (M : Mm) (c : Nat) (i z : Int) : Mm := fun c' i' => if c' = c ∧ i' = i then z else M c' i'
def upP (P : Pm) (c : Nat) (i : Int) (r : Option Nat) : Pm := fun c' i' => if c' = c ∧ i' = i then r else P c' i'
theorem upM_s (M : Mm) (c : Nat) (i z : Int) : upM M c i z c i = z := by simp [upM]
theorem upM_n {M : Mm} {c c' : Nat} {i i' z : Int} (h : c' ≠ c ∨ i' ≠ i) : upM M c i z c' i' = M c' i' := by
  unfold upM
  rw [if_neg]
  rintro ⟨h1, h2⟩
  rcases h with h | h
  · exact h h1
  · exact h h2
theorem upP_s (P : Pm) (c : Nat) (i : Int) (r : Option Nat) : upP P c i r c i = r := by simp [upP]
theorem upP_n {P : Pm} {c c' : Nat} {i i' : Int} {r : Option Nat} (h : c' ≠ c ∨ i' ≠ i) : upP P c i r c' i' = P c' i' := by
  unfold upP
  rw [if_neg]
  rintro ⟨h1, h2⟩
  rcases h with h | h
  · exact h h1
  · exact h h2
/-- the class ci by its tables -/
def clsOK (ci : Nat) (C : String) (T : u_T) : Prop := vwCl[ci]? = some (C, T, nFd ci) ∧ (∀ w ∈ u_ws C T (nFd ci), w ∈ WSg) ∧ (∀ k, k < nFd ci → parseFieldDescriptor (T k).2.2.1 = some (tyC ci k)) ∧ ∀ a, a < nFd ci → ∀ b, b < nFd ci → a ≠ b → (T a).2.1 ≠ (T b).2.1
def fldOK (own : String) (idx ci k : Nat) : Prop := ∃ (C : String) (T : u_T), clsOK ci C T ∧ k < nFd ci ∧ (Cond.fieldLink own idx (T k).1 (T k).2.1 (T k).2.2.1 ∈ WSg ∨ ∃ host, Cond.fieldLinkNest own idx (T k).1 (T k).2.1 (T k).2.2.1 host ∈ WSn)
/-- the field may be set by any method; or it is final, and its own constructor sets it -/
def fldSet (own : String) (idx ci k : Nat) : Prop := ∃ (C : String) (T : u_T), clsOK ci C T ∧ k < nFd ci ∧ (T k).2.2.2 = false ∧ (Cond.fieldLink own idx (T k).1 (T k).2.1 (T k).2.2.1 ∈ WSg ∨ ∃ host, Cond.fieldLinkNest own idx (T k).1 (T k).2.1 (T k).2.2.1 host ∈ WSn)
def fldFin (own : String) (idx ci k : Nat) : Prop := ∃ (C : String) (T : u_T), clsOK ci C T ∧ k < nFd ci ∧ (T k).2.2.2 = true ∧ (T k).1 = own ∧ Cond.fieldLink own idx (T k).1 (T k).2.1 (T k).2.2.1 ∈ WSg
def fkd : FieldType → Nat
  | .int => 0
  | .boolean => 0
  | .long => 1
  | .array _ => 2
  | .object _ => 2
  | _ => 3
theorem fld_at {n k : Nat} (h : k < n) (f : Nat → Value) : ((List.range n).map f)[k]? = some (f k) := by
  rw [List.getElem?_map, List.getElem?_range h]
  rfl
theorem fld_set {n k : Nat} (h : k < n) (f f' : Nat → Value) (hf : ∀ j, j ≠ k → f' j = f j) : ((List.range n).map f).set k (f' k) = (List.range n).map f' := by
  refine List.ext_getElem? fun q => ?_
  by_cases hq : k = q
  · subst hq
    rw [List.getElem?_set_self (by simpa using h), fld_at h]
  · rw [List.getElem?_set_ne hq]
    by_cases hl : q < n
    · rw [fld_at hl, fld_at hl, hf q (fun z => hq z.symm)]
    · rw [List.getElem?_eq_none_iff.mpr (by simpa using hl), List.getElem?_eq_none_iff.mpr (by simpa using hl)]
theorem i_idx {i : Int} {n : Nat} (h0 : 0 ≤ i) (h1 : i < n) (hn : n ≤ 2147483647) : vp_in (Int32.ofInt i) n ∧ (Int32.ofInt i).toNatClampNeg = i.toNat ∧ ¬ Int32.ofInt i < 0 := by
  have hr : inR i := by omega
  have e : Int32.ofInt i = nI i.toNat := by
    rw [← Int32.toInt_inj, i_to hr, nI_toInt (by omega)]
    omega
  rw [e]
  exact ⟨vp_in_nI (by omega) (by omega), nI_clamp (by omega), nI_pos (by omega)⟩
section Rules2
variable {d : Md} {pc : Nat} {L : Lo} {S : List V} {K : List Kd} {M : Mm} {P : Pm} {k n : Nat} {Φ : Ps}
theorem ev_getAny {idx ci f c : Nat} {v : V} (hd : decode (dc d) pc = .ok (.getfield idx, 3)) (hf : fldOK (dy d).cls idx ci f) (hK : K[c]? = some (.inl ci)) (hv : ∀ g : Gv, fvl (gb g) (tyC ci f) (M c f) (P c f) = cv g v) (kk : Ev d (pc + 3) L (v :: S) K M P k n Φ) : Ev d pc L (vR c :: S) K M P k n Φ := by
  intro p l e s m args below meth cd g Q F E X R H locs ls hH hS hl
  obtain ⟨C, T, ⟨hc, hin, hty, hnm⟩, hk, hlk⟩ := hf
  have he := wl_at (g := g) (M := M) (P := P) hK
  have hv2 : ((List.range (nFd ci)).map (fun j => fvl (gb g) (tyC ci j) (M c j) (P c j)))[f]? = some (cv g v) := by
    rw [fld_at hk, hv]
  rcases hlk with hlk | ⟨host, hlk⟩
  · exact va_get F.1 F.2.1 F.2.2.2.2.2.1 hin F.2.2.2.2.1 E.1 hH.2 c he hc f hk (F.2.2.2.2.2.1 _ hlk) (fun _ h => h) hv2 hd (kk p l e s m args below meth cd g Q F E X R H locs ls hH hS hl)
  · exact va_getN F.1 F.2.1 F.2.2.2.2.2.1 hin F.2.2.2.2.1 E.1 hH.2 c he hc f hk (wsn_use E.2.2.2.2 hlk) (fun _ h => h) hv2 hd (kk p l e s m args below meth cd g Q F E X R H locs ls hH hS hl)
theorem ev_getI {idx ci f c : Nat} (hd : decode (dc d) pc = .ok (.getfield idx, 3)) (hf : fldOK (dy d).cls idx ci f) (ht : fkd (tyC ci f) = 0) (hK : K[c]? = some (.inl ci)) (kk : Ev d (pc + 3) L (vI (M c f) :: S) K M P k n Φ) : Ev d pc L (vR c :: S) K M P k n Φ := by
  refine ev_getAny hd hf hK (fun g => ?_) kk
  generalize tyC ci f = ty at ht
  cases ty <;> first | rfl | cases ht
theorem ev_getJ {idx ci f c : Nat} (hd : decode (dc d) pc = .ok (.getfield idx, 3)) (hf : fldOK (dy d).cls idx ci f) (ht : fkd (tyC ci f) = 1) (hK : K[c]? = some (.inl ci)) (kk : Ev d (pc + 3) L (vL (M c f) :: S) K M P k n Φ) : Ev d pc L (vR c :: S) K M P k n Φ := by
  refine ev_getAny hd hf hK (fun g => ?_) kk
  generalize tyC ci f = ty at ht
  cases ty <;> first | rfl | cases ht
theorem ev_getR {idx ci f c x : Nat} (hd : decode (dc d) pc = .ok (.getfield idx, 3)) (hf : fldOK (dy d).cls idx ci f) (ht : fkd (tyC ci f) = 2) (hK : K[c]? = some (.inl ci)) (hP : P c f = some x) (kk : Ev d (pc + 3) L (vR x :: S) K M P k n Φ) : Ev d pc L (vR c :: S) K M P k n Φ := by
  refine ev_getAny hd hf hK (fun g => ?_) kk
  rw [hP]
  generalize tyC ci f = ty at ht
  cases ty <;> first | rfl | cases ht
theorem fvl_def {b : Nat} {ty : FieldType} (h : fkd ty ≠ 3) : fvl b ty 0 none = defaultValue ty := by
  cases ty <;> first | rfl | exact absurd rfl h
/-- a field is set: the picture behind it -/
theorem put_HR {g : Gv} {ci f c : Nat} {M' : Mm} {P' : Pm} {H H1 : Heap} {v : Value} (hK : K[c]? = some (.inl ci)) (hk : f < nFd ci) (hM : ∀ q i, q ≠ c → M' q i = M q i) (hP : ∀ q i, q ≠ c → P' q i = P q i) (hj : ∀ j : Nat, j ≠ f → M' c j = M c j ∧ P' c j = P c j) (hv : fvl (gb g) (tyC ci f) (M' c f) (P' c f) = v) (z : H1.size = H.size) (hH : HR g K M P H) (h1 : va_P (gD g) vwCl ((wl g K M P).set c (gb g + c, .inr (ci, ((List.range (nFd ci)).map (fun j => fvl (gb g) (tyC ci j) (M c j) (P c j))).set f v))) H1) : HR g K M' P' H1 := by
  refine ⟨by rw [z]; exact hH.1, ?_⟩
  have e : (Sum.inr (ci, ((List.range (nFd ci)).map (fun j => fvl (gb g) (tyC ci j) (M c j) (P c j))).set f v) : va_E) = kE g M' P' c (.inl ci) := by
    show _ = Sum.inr (ci, (List.range (nFd ci)).map (fun j => fvl (gb g) (tyC ci j) (M' c j) (P' c j)))
    rw [← hv, fld_set hk (fun j => fvl (gb g) (tyC ci j) (M c j) (P c j)) (fun j => fvl (gb g) (tyC ci j) (M' c j) (P' c j)) (fun j hj' => by rw [(hj j hj').1, (hj j hj').2])]
  rw [e, wl_set hK hM hP] at h1
  exact h1
theorem ev_putAny {idx ci f c : Nat} {v : V} {M' : Mm} {P' : Pm} (hd : decode (dc d) pc = .ok (.putfield idx, 3)) (hf : fldSet (dy d).cls idx ci f) (hK : K[c]? = some (.inl ci)) (hM : ∀ q i, q ≠ c → M' q i = M q i) (hP : ∀ q i, q ≠ c → P' q i = P q i) (hj : ∀ j : Nat, j ≠ f → M' c j = M c j ∧ P' c j = P c j) (hv : ∀ g : Gv, fvl (gb g) (tyC ci f) (M' c f) (P' c f) = cv g v) (hn : ∀ g : Gv, narrow (tyC ci f) (cv g v) = cv g v) (hfit : ∀ g : Gv, fits (tyC ci f) (cv g v) = true) (kk : Ev d (pc + 3) L S K M' P' k n Φ) : Ev d pc L (v :: vR c :: S) K M P k n Φ := by
  intro p l e s m args below meth cd g Q F E X R H locs ls hH hS hl
  obtain ⟨C, T, ⟨hc, hin, hty, hnm⟩, hk, hfin, hlk⟩ := hf
  have he := wl_at (g := g) (M := M) (P := P) hK
  have hts := F.2.2.2.2.2.1
  have hD := wl_D g K M P
  have hap := va_apart (own := (dy d).cls) hts hin (tyC ci) hty hnm E.1 hc
  obtain ⟨r, h1, cell, q1, q2, q3, q4⟩ := hH.2 c _ he
  have hr : r = (C, T, nFd ci) := Option.some.inj (h1.symm.trans hc)
  subst hr
  obtain ⟨hSl, hfc, kC, hkC, hkind⟩ := E.1.1 ci _ hc
  obtain ⟨cf, kf, fi, fd, hi, hsl⟩ := hSl f hk
  have hlay := hts _ (hin _ (u_in_lay hk))
  unfold u_lay at hlay
  rw [if_neg (by rw [hfin]; decide)] at hlay
  have hst := (u_facts hfc hkC (u_lays hts hin hk) hi).1
  have h6 := u_store hfc hkC hkind hlay hi (hty f hk) (hn g) (hfit g)
  have fin : ∀ H' : Heap, H'[gb g + c]? = some (cell.setSlot fd.slot (cv g v)) → H'.size = H.size → (∀ q, q ≠ gb g + c → H'[q]? = H[q]?) → W p l e (dR d) s m args below meth cd H' (locs ++ [⟨gb g + c, fd.slot⟩]) k n Q (F0 m (pc + 3) ls (S.map (cv g))) := by
    intro H' e1 e2 e3
    refine kk p l e s m args below meth cd g Q F E X R H' _ ls (put_HR hK hk hM hP hj (hv g) e2 hH ?_) (hS.put e2 e3 (hD.2 c _ he)) hl
    rw [hsl] at e1
    refine hH.2.set hD he ⟨_, hc, t_OB.to (V := updV (vp_V ((List.range (nFd ci)).map (fun j => fvl (gb g) (tyC ci j) (M c j) (P c j)))) f (cv g v)) ⟨_, e1, q2, q3, t_set q4 hap hk _⟩ (fun j _ => vp_updV_set (by simpa using hk) _ j)⟩ e3
  rcases hlk with hlk | ⟨host, hlk⟩
  · exact W.putK F.1 F.2.1 (f := fd) ⟨F.2.2.2.2.1, hts _ hlk, ⟨_, _, _, hi⟩, hst⟩ (by rw [q2]; exact h6) q1 q3 (by rw [hsl]; exact k2_hasslot (q4 f hk)) rfl rfl hd fin
  · exact va_WputK F.1 F.2.1 (f := fd) F.2.2.2.2.1 (wsn_use E.2.2.2.2 hlk) hi hst (by rw [q2]; exact h6) q1 q3 (by rw [hsl]; exact k2_hasslot (q4 f hk)) rfl rfl hd fin
theorem ev_putI {idx ci f c : Nat} {z : Int} (hd : decode (dc d) pc = .ok (.putfield idx, 3)) (hf : fldSet (dy d).cls idx ci f) (ht : tyC ci f = .int) (hK : K[c]? = some (.inl ci)) (kk : Ev d (pc + 3) L S K (upM M c f z) P k n Φ) : Ev d pc L (vI z :: vR c :: S) K M P k n Φ := by
  refine ev_putAny hd hf hK (fun q i h => upM_n (Or.inl h)) (fun _ _ _ => rfl) (fun j hj => ⟨upM_n (Or.inr (by omega)), rfl⟩) (fun g => ?_) (fun g => ?_) (fun g => ?_) kk
  · rw [ht, upM_s]; rfl
  · rw [ht]; rfl
  · rw [ht]; rfl
theorem ev_putZ {idx ci f c : Nat} {z : Int} (hd : decode (dc d) pc = .ok (.putfield idx, 3)) (hf : fldSet (dy d).cls idx ci f) (ht : tyC ci f = .boolean) (hz : z = 0 ∨ z = 1) (hK : K[c]? = some (.inl ci)) (kk : Ev d (pc + 3) L S K (upM M c f z) P k n Φ) : Ev d pc L (vI z :: vR c :: S) K M P k n Φ := by
  refine ev_putAny hd hf hK (fun q i h => upM_n (Or.inl h)) (fun _ _ _ => rfl) (fun j hj => ⟨upM_n (Or.inr (by omega)), rfl⟩) (fun g => ?_) (fun g => ?_) (fun g => ?_) kk
  · rw [ht, upM_s]; rfl
  · rw [ht]; rcases hz with rfl | rfl <;> rfl
  · rw [ht]; rcases hz with rfl | rfl <;> rfl
theorem ev_putJ {idx ci f c : Nat} {z : Int} (hd : decode (dc d) pc = .ok (.putfield idx, 3)) (hf : fldSet (dy d).cls idx ci f) (ht : tyC ci f = .long) (hK : K[c]? = some (.inl ci)) (kk : Ev d (pc + 3) L S K (upM M c f z) P k n Φ) : Ev d pc L (vL z :: vR c :: S) K M P k n Φ := by
  refine ev_putAny hd hf hK (fun q i h => upM_n (Or.inl h)) (fun _ _ _ => rfl) (fun j hj => ⟨upM_n (Or.inr (by omega)), rfl⟩) (fun g => ?_) (fun g => ?_) (fun g => ?_) kk
  · rw [ht, upM_s]; rfl
  · rw [ht]; rfl
  · rw [ht]; rfl
theorem ev_putF {idx ci f c x : Nat} (hd : decode (dc d) pc = .ok (.putfield idx, 3)) (hf : fldFin (dy d).cls idx ci f) (hin2 : (dy d).name = "<init>") (ht : fkd (tyC ci f) = 2) (hK : K[c]? = some (.inl ci)) (kk : Ev d (pc + 3) L S K M (upP P c f (some x)) k n Φ) : Ev d pc L (vR x :: vR c :: S) K M P k n Φ := by
  intro p l e s m args below meth cd g Q F E X R H locs ls hH hS hl
  obtain ⟨C, T, ⟨hc, hin, hty, hnm⟩, hk, hfin, hdecl, hlk⟩ := hf
  have he := wl_at (g := g) (M := M) (P := P) hK
  have hts := F.2.2.2.2.2.1
  have hD := wl_D g K M P
  have hap := va_apart (own := (dy d).cls) hts hin (tyC ci) hty hnm E.1 hc
  obtain ⟨r, h1, cell, q1, q2, q3, q4⟩ := hH.2 c _ he
  have hr : r = (C, T, nFd ci) := Option.some.inj (h1.symm.trans hc)
  subst hr
  obtain ⟨hSl, hfc, kC, hkC, hkind⟩ := E.1.1 ci _ hc
  obtain ⟨cf, kf, fi, fd, hi, hsl⟩ := hSl f hk
  have hlay := hts _ (hin _ (u_in_lay hk))
  unfold u_lay at hlay
  rw [if_pos hfin] at hlay
  have hst := (u_facts hfc hkC (u_lays hts hin hk) hi).1
  have hcf : m.cls = cf := by
    obtain ⟨_, _, c', _, _, _, -, -, hf', -, -, -, hown2, -⟩ := Cond.laysFinal_spec hlay
    have e1 : c' = cf := by have := hi.symm.trans hf'; simp at this; exact this.1.symm
    rw [hdecl] at hown2
    rw [← e1]; exact Option.some.inj (F.2.2.2.2.1.symm.trans hown2)
  have hn : narrow (tyC ci f) (.ref (gb g + x)) = .ref (gb g + x) := by
    generalize tyC ci f = ty at ht
    cases ty <;> first | rfl | cases ht
  have hfit : fits (tyC ci f) (.ref (gb g + x)) = true := by
    generalize tyC ci f = ty at ht
    cases ty <;> first | rfl | cases ht
  have h6 := u_fits hfc hkC hkind (Or.inr hlay) hi (hty f hk) hn hfit
  refine W.putFinK F.1 F.2.1 F.2.2.2.2.1 (hts _ hlk) hi hst hcf (F.2.2.2.2.2.2.2.trans hin2) (by rw [q2]; exact h6) q1 q3 (by rw [hsl]; exact k2_hasslot (q4 f hk)) rfl rfl hd fun H' e1 e2 e3 => ?_
  refine kk p l e s m args below meth cd g Q F E X R H' _ ls (put_HR (v := .ref (gb g + x)) hK hk (fun _ _ _ => rfl) (fun q i h => upP_n (Or.inl h)) (fun j hj => ⟨rfl, upP_n (Or.inr (by omega))⟩) ?_ e2 hH ?_) (hS.put e2 e3 (hD.2 c _ he)) hl
  · rw [upP_s]
    generalize tyC ci f = ty at ht
    cases ty <;> first | rfl | cases ht
  rw [hsl] at e1
  refine hH.2.set hD he ⟨_, hc, t_OB.to (V := updV (vp_V ((List.range (nFd ci)).map (fun j => fvl (gb g) (tyC ci j) (M c j) (P c j)))) f (.ref (gb g + x))) ⟨_, e1, q2, q3, t_set q4 hap hk _⟩ (fun j _ => vp_updV_set (by simpa using hk) _ j)⟩ e3
theorem ev_iaload {c N : Nat} {i : Int} (hd : decode (dc d) pc = .ok (.iaload, 1)) (hK : K[c]? = some (.inr (.inl N))) (h0 : 0 ≤ i) (h1 : i < N) (hN : N ≤ 2147483647) (kk : Ev d (pc + 1) L (vI (M c i) :: S) K M P k n Φ) : Ev d pc L (vI i :: vR c :: S) K M P k n Φ := by
  intro p l e s m args below meth cd g Q F E X R H locs ls hH hS hl
  obtain ⟨a1, a2, -⟩ := i_idx h0 h1 hN
  refine va_iald F.1 F.2.1 E.1 hH.2 c 0 (wl_at hK) rfl a1 hd ?_
  rw [a2, Int.toNat_of_nonneg h0]
  exact kk p l e s m args below meth cd g Q F E X R H locs ls hH hS hl
theorem ev_iastore {c N : Nat} {i z : Int} (hd : decode (dc d) pc = .ok (.iastore, 1)) (hK : K[c]? = some (.inr (.inl N))) (h0 : 0 ≤ i) (h1 : i < N) (hN : N ≤ 2147483647) (kk : Ev d (pc + 1) L S K (upM M c i z) P k n Φ) : Ev d pc L (vI z :: vI i :: vR c :: S) K M P k n Φ := by
  intro p l e s m args below meth cd g Q F E X R H locs ls hH hS hl
  obtain ⟨a1, a2, -⟩ := i_idx h0 h1 hN
  have ha := wl_at (g := g) (M := M) (P := P) hK
  have hD := wl_D g K M P
  refine W.iast F.1 F.2.1 (hH.2 c _ ha) ((E.1.2 0 _ rfl).1 N (fun j => .int (Int32.ofInt (M c j)))) (fun q => by cases q) (by show ¬ (_ ∨ (arrV _ _ _).slots.size ≤ _); rw [arrV_size]; exact a1) rfl rfl hd fun H1 e1 z1 oq => ?_
  refine kk p l e s m args below meth cd g Q F E X R H1 _ ls ⟨by rw [z1]; exact hH.1, ?_⟩ (hS.put z1 oq (hD.2 c _ ha)) hl
  have h2 := hH.2.set (e := kE g (upM M c i z) P c (.inr (.inl N))) hD ha (by
    show H1[gb g + c]? = some (vp_cell _ _)
    rw [e1]
    rw [a2]
    show some (Cell.setSlot (vp_cell (gI g) (N, Sum.inl (fun j => Int32.ofInt (M c j)))) _ _) = some (vp_cell (gI g) (N, Sum.inl (fun j => Int32.ofInt (upM M c i z c j))))
    rw [vp_cell_i, vp_cell_i, arrV_store]
    congr 2
    funext j
    by_cases hj : j = i.toNat
    · subst hj
      simp [updV, upM, Int.toNat_of_nonneg h0]
    · have hj2 : (j : Int) ≠ i := by omega
      simp [updV, upM, hj, hj2]) oq
  rw [wl_set hK (fun q i h => upM_n (Or.inl h)) (fun _ _ _ => rfl)] at h2
  exact h2
theorem ev_alen {c N : Nat} (hd : decode (dc d) pc = .ok (.arraylength, 1)) (hK : K[c]? = some (.inr (.inl N))) (kk : Ev d (pc + 1) L (vI N :: S) K M P k n Φ) : Ev d pc L (vR c :: S) K M P k n Φ := by
  intro p l e s m args below meth cd g Q F E X R H locs ls hH hS hl
  exact va_alen F.1 F.2.1 E.1 hH.2 c 0 (wl_at hK) (ty := .int) rfl (v := Int32.ofInt N) (by rw [Int32.ofInt_eq_ofNat]) hd (kk p l e s m args below meth cd g Q F E X R H locs ls hH hS hl)
theorem ev_aaload {c N x : Nat} {i : Int} (hd : decode (dc d) pc = .ok (.aaload, 1)) (hK : K[c]? = some (.inr (.inr N))) (h0 : 0 ≤ i) (h1 : i < N) (hN : N ≤ 2147483647) (hP : P c i = some x) (kk : Ev d (pc + 1) L (vR x :: S) K M P k n Φ) : Ev d pc L (vI i :: vR c :: S) K M P k n Φ := by
  intro p l e s m args below meth cd g Q F E X R H locs ls hH hS hl
  obtain ⟨a1, a2, -⟩ := i_idx h0 h1 hN
  refine va_aldq F.1 F.2.1 E.1 hH.2 c 1 (wl_at hK) rfl a1 hd ?_
  rw [a2, Int.toNat_of_nonneg h0, hP]
  exact kk p l e s m args below meth cd g Q F E X R H locs ls hH hS hl
/-- the script -/
theorem ev_slen {N : Nat} (hN : ∀ g, dX d g → gL g = N) (hd : decode (dc d) pc = .ok (.arraylength, 1)) (kk : Ev d (pc + 1) L (vI N :: S) K M P k n Φ) : Ev d pc L (vX 0 :: S) K M P k n Φ := by
  intro p l e s m args below meth cd g Q F E X R H locs ls hH hS hl
  obtain ⟨a0, a1, adK, adV, e0, e1, e2, e3, h1, h2, -⟩ := E.2.2.1
  show W p l e (dR d) s m args below meth cd H locs k n Q (F0 m pc ls (va_rf (gx g 0) :: S.map (cv g)))
  rw [e0]
  refine va_slen F.1 F.2.1 h1 (Nat.lt_of_lt_of_le h2 E.2.1) (Nat.not_le.mpr h2) hS hd ?_
  have := kk p l e s m args below meth cd g Q F E X R H locs ls hH hS hl
  simp only [List.map_cons, cv] at this
  rw [Int32.ofInt_eq_ofNat, ← hN g X] at this
  exact this
theorem ev_sald {N : Nat} {xs : Nat → Int32} {i : Int} (hN : ∀ g, dX d g → gL g = N ∧ gs g = xs) (hd : decode (dc d) pc = .ok (.iaload, 1)) (h0 : 0 ≤ i) (h1 : i < N) (hN2 : N ≤ 2147483647) (kk : Ev d (pc + 1) L (vI (xs i.toNat).toInt :: S) K M P k n Φ) : Ev d pc L (vI i :: vX 0 :: S) K M P k n Φ := by
  intro p l e s m args below meth cd g Q F E X R H locs ls hH hS hl
  obtain ⟨a0, a1, adK, adV, e0, e1, e2, e3, h3, h2, -⟩ := E.2.2.1
  obtain ⟨b1, b2, -⟩ := i_idx h0 h1 hN2
  show W p l e (dR d) s m args below meth cd H locs k n Q (F0 m pc ls (cv g (vI i) :: va_rf (gx g 0) :: S.map (cv g)))
  rw [e0]
  obtain ⟨x1, x2⟩ := hN g X
  rw [x1] at h3
  refine va_sld F.1 F.2.1 h3 (Nat.lt_of_lt_of_le h2 E.2.1) (Nat.not_le.mpr h2) hS b1 hd ?_
  rw [b2, x2]
  have := kk p l e s m args below meth cd g Q F E X R H locs ls hH hS hl
  simp only [List.map_cons, cv, i_back] at this
  exact this
/-- Seen.COULD -/
def s_could : List Int := [27, 14, 20, 16]
theorem ev_gcould {idx : Nat} (hd : decode (dc d) pc = .ok (.getstatic idx, 3)) (hw : Cond.fieldLink (dy d).cls idx RX5 "COULD" "[I" ∈ WSg ∨ ∃ host, Cond.fieldLinkNest (dy d).cls idx RX5 "COULD" "[I" host ∈ WSn) (kk : Ev d (pc + 3) L (vX 1 :: S) K M P k n Φ) : Ev d pc L S K M P k n Φ := by
  intro p l e s m args below meth cd g Q F E X R H locs ls hH hS hl
  obtain ⟨a0, a1, adK, adV, e0, e1, e2, e3, h1, h2, h3, h4, -⟩ := E.2.2.1
  have := kk p l e s m args below meth cd g Q F E X R H locs ls hH hS hl
  simp only [List.map_cons, cv, e1, va_rf] at this
  rcases hw with hw | ⟨host, hw⟩
  · exact va_gets F.1 F.2.1 h3 hS F.2.2.2.2.1 (F.2.2.2.2.2.1 _ hw) (fun _ h => h) hd this
  · exact va_getsN F.1 F.2.1 h3 hS F.2.2.2.2.1 (wsn_use E.2.2.2.2 hw) (fun _ h => h) hd this
theorem could_at : ∀ j, j < 4 → Value.int (([27, 14, 20, 16] : List Int32).getD j 0) = Value.int (Int32.ofInt (s_could.getD j 0)) := by decide
theorem ev_cald {i : Int} (hd : decode (dc d) pc = .ok (.iaload, 1)) (h0 : 0 ≤ i) (h1 : i < 4) (kk : Ev d (pc + 1) L (vI (s_could.getD i.toNat 0) :: S) K M P k n Φ) : Ev d pc L (vI i :: vX 1 :: S) K M P k n Φ := by
  intro p l e s m args below meth cd g Q F E X R H locs ls hH hS hl
  obtain ⟨a0, a1, adK, adV, e0, e1, e2, e3, h3, h2, h5, h4, -⟩ := E.2.2.1
  obtain ⟨b1, b2, -⟩ := i_idx (n := 4) h0 h1 (by omega)
  show W p l e (dR d) s m args below meth cd H locs k n Q (F0 m pc ls (cv g (vI i) :: va_rf (gx g 1) :: S.map (cv g)))
  rw [e1]
  have := kk p l e s m args below meth cd g Q F E X R H locs ls hH hS hl
  exact va_ti F.1 F.2.1 h4 hS b1 (by rw [b2]; exact could_at _ (by omega)) hd this
end Rules2
