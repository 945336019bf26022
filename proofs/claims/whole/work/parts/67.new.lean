/-! ===== making: arrays, objects, Object.<init>, a place of an array of Shapes ===== -/
theorem w_arrI : Cond.arrayClass .int ∈ WSg := wsg_in 116 (by decide +kernel) (by decide +kernel)
theorem w_oin : Cond.instanceMethod Lib.objectInit ∈ WSg := wsg_in 97 (by decide +kernel) (by decide +kernel)
theorem w_oco : Cond.code Lib.objectInit ⟨#[0xb1]⟩ 1 none ∈ WSg := wsg_in 98 (by decide +kernel) (by decide +kernel)
/-- what is not made yet stands empty -/
def fresh (K : List Kd) (M : Mm) (P : Pm) : Prop := (∀ c i, K.length ≤ c → M c i = 0 ∧ P c i = none) ∧ ∀ c i, 30 ≤ i → P c i = none
theorem fresh.app {K : List Kd} {M : Mm} {P : Pm} (h : fresh K M P) (kd : Kd) : fresh (K ++ [kd]) M P := ⟨fun c i hc => h.1 c i (by simp at hc; omega), h.2⟩
theorem fresh.up {K : List Kd} {M : Mm} {P : Pm} (h : fresh K M P) {c : Nat} {i : Int} {x : Option Nat} (hc : c < K.length) (hi : i < 30) : fresh K M (upP P c i x) := ⟨fun c' i' hc' => ⟨(h.1 c' i' hc').1, by rw [upP_n (Or.inl (by omega))]; exact (h.1 c' i' hc').2⟩, fun c' i' hi' => by rw [upP_n (Or.inr (by omega))]; exact h.2 c' i' hi'⟩
section RulesN
variable {d : Md} {pc : Nat} {L : Lo} {S : List V} {K : List Kd} {M : Mm} {P : Pm} {k n : Nat} {Φ : Ps}
theorem hr_push {g : Gv} {kd : Kd} {H H1 : Heap} (hH : HR g K M P H) (z1 : H1.size = gb g + K.length + 1) (o1 : ∀ q : Nat, q < gb g + K.length → H1[q]? = H[q]?) (e1 : va_at (gD g) vwCl (gb g + K.length, kE g M P K.length kd) H1) : HR g (K ++ [kd]) M P H1 := by
  refine ⟨by rw [z1, List.length_append]; rfl, ?_⟩
  have hk : ∀ (j : Nat) (x : Nat × va_E), (wl g K M P)[j]? = some x → H1[x.1]? = H[x.1]? := fun j x hx => o1 x.1 (by have := (hH.2 j x hx).lt; rw [hH.1] at this; exact this)
  have h1 : va_P (gD g) vwCl (wl g K M P ++ [(gb g + K.length, kE g M P K.length kd)]) H1 := (hH.2.kept hk).app (fun j x hx => by
    have hz : j < 1 := (List.getElem?_eq_some_iff.mp hx).1
    rw [show j = 0 by omega] at hx
    cases hx
    exact e1)
  rw [wl_push (M' := M) (P' := P) (fun _ _ _ => rfl) (fun _ _ _ => rfl)] at h1
  exact h1
theorem hs_push {g : Gv} {s : State} {H H1 : Heap} {locs : List Loc} (hH : HR g K M P H) (hS : va_S (eA (gb g)) s.heap H locs) (z1 : H1.size = gb g + K.length + 1) (o1 : ∀ q : Nat, q < gb g + K.length → H1[q]? = H[q]?) : va_S (eA (gb g)) s.heap H1 locs := by
  have hz := hH.1
  refine ⟨Nat.le_trans hS.1 (by omega), fun x h1 h2 => (o1 x ?_).trans (hS.2.1 x h1 h2), hS.2.2⟩
  have := Nat.lt_of_lt_of_le h1 hS.1
  omega
theorem ev_newI {N : Nat} (hd : decode (dc d) pc = .ok (.newarray .int, 2)) (hN : N ≤ 100000) (hf : fresh K M P) (hk : k + 1 ≤ (dR d).cells) (hn : n + N ≤ (dR d).slots) (kk : Ev d (pc + 2) L (vR K.length :: S) (K ++ [.inr (.inl N)]) M P (k + 1) (n + N) Φ) : Ev d pc L (vI (N : Int) :: S) K M P k n Φ := by
  intro p l e s m args below meth cd g Q F E X R H locs ls hH hS hl
  have e0 : Int32.ofInt (N : Int) = nI N := by
    rw [← Int32.toInt_inj, i_to (by omega), nI_toInt (by omega)]
  refine va_newaK (atype := .int) (N := N) F.1 F.2.1 (F.2.2.2.2.2.1 _ w_arrI) rfl hd rfl (by rw [e0]; exact nI_pos (by omega)) (by rw [e0]; exact nI_clamp (by omega)) (by show N * 4 ≤ _; omega) hk hn hH.1 (fun H1 cA e1 z1 o1 hAr hNm => ?_)
  have hcA : cA = gI g := Option.some.inj (hNm.symm.trans (E.1.2 0 _ rfl).2)
  subst hcA
  have hz := hf.1 K.length
  refine kk p l e s m args below meth cd g Q F E X R H1 locs ls (hr_push hH z1 o1 ?_) (hs_push hH hS z1 o1) hl
  show H1[gb g + K.length]? = some (vp_cell (gI g) (N, .inl (fun i => Int32.ofInt (M K.length i))))
  rw [e1, vp_cell_i]
  congr 2
  funext j
  rw [(hz j (Nat.le_refl _)).1]
  rfl
theorem ev_newO {idx ci : Nat} {C : String} {T : u_T} (hd : decode (dc d) pc = .ok (.new idx, 3)) (hc : clsOK ci C T) (hcl : Cond.classLink (dy d).cls idx C ∈ WSg) (hinst : Cond.instantiable C (nFd ci) ∈ WSg) (hini : Cond.initialized C ∈ WSg) (hty : ∀ f, f < nFd ci → fkd (tyC ci f) ≠ 3) (hf : fresh K M P) (hk : k + 1 ≤ (dR d).cells) (hn : n + nFd ci ≤ (dR d).slots) (kk : Ev d (pc + 3) L (vR K.length :: S) (K ++ [.inl ci]) M P (k + 1) (n + nFd ci) Φ) : Ev d pc L S K M P k n Φ := by
  intro p l e s m args below meth cd g Q F E X R H locs ls hH hS hl
  obtain ⟨hc0, hin, hpa, hnm⟩ := hc
  have hts := F.2.2.2.2.2.1
  have hKn := E.1.1 ci _ hc0
  refine W.newcK F.1 F.2.1 F.2.2.2.2.1 (hts _ hcl) (hts _ hinst) (hts _ hini) rfl hd hk hn hKn.2.1 hH.1 fun H1 kC hkC e1 z1 o1 => ?_
  refine kk p l e s m args below meth cd g Q F E X R H1 locs ls (hr_push hH z1 o1 ?_) (hs_push hH hS z1 o1) hl
  refine ⟨_, hc0, (u_born (tyC ci) hts hin hKn hkC e1 hpa).to (fun j hj => ?_)⟩
  show defaultValue (tyC ci j) = ((List.range (nFd ci)).map (fun f => fvl (gb g) (tyC ci f) (M K.length f) (P K.length f))).getD j .null
  rw [List.getD_eq_getElem?_getD, fld_at hj]
  show defaultValue (tyC ci j) = fvl (gb g) (tyC ci j) (M K.length j) (P K.length j)
  rw [(hf.1 K.length j (Nat.le_refl _)).1, (hf.1 K.length j (Nat.le_refl _)).2, fvl_def (hty j hj)]
theorem ev_newS {idx : Nat} {N : Nat} (hd : decode (dc d) pc = .ok (.anewarray idx, 3)) (hcl : Cond.classLink (dy d).cls idx RX6 ∈ WSg) (hN : N ≤ 100000) (hf : fresh K M P) (hk : k + 1 ≤ (dR d).cells) (hn : n + N ≤ (dR d).slots) (kk : Ev d (pc + 3) L (vR K.length :: S) (K ++ [.inr (.inr N)]) M P (k + 1) (n + N) Φ) : Ev d pc L (vI (N : Int) :: S) K M P k n Φ := by
  intro p l e s m args below meth cd g Q F E X R H locs ls hH hS hl
  have e0 : Int32.ofInt (N : Int) = nI N := by
    rw [← Int32.toInt_inj, i_to (by omega), nI_toInt (by omega)]
  have hts := F.2.2.2.2.2.1
  have ec : (nI N).toNatClampNeg = N := nI_clamp (by omega)
  show W p l e (dR d) s m args below meth cd H locs k n Q (F0 m pc ls (.int (Int32.ofInt (N : Int)) :: S.map (cv g)))
  rw [e0]
  refine W.anew F.1 F.2.1 F.2.2.2.2.1 (hts _ hcl) (va_AO.use E.2.2.2.1) rfl hd rfl (nI_pos (by omega)) (by rw [ec]; omega) hk (by rw [ec]; exact hn) fun cA kA comp f1 f2 f3 f4 => ?_
  rw [ec]
  generalize hH1 : H.push ({ cls := cA, slots := Array.replicate N .null, vm := .none } : Cell) = H1
  have hz := hH.1
  have z1 : H1.size = gb g + K.length + 1 := by rw [← hH1, Array.size_push, hz]
  have e1 : H1[gb g + K.length]? = some (arrV cA N (fun _ => .null)) := by rw [← hH1, ← hz, Array.getElem?_push_size, ← arrV_new]
  have o1 : ∀ q : Nat, q < gb g + K.length → H1[q]? = H[q]? := fun q hq => by rw [← hH1, Array.getElem?_push, if_neg (by rw [hz]; exact Nat.ne_of_lt hq)]
  obtain ⟨kA', comp', g1, g2, g3, g4⟩ := (E.1.2 1 _ rfl).2
  have hcA : cA = gS g := Option.some.inj (f1.symm.trans g4)
  subst hcA
  have hs0 : (F0 m (pc + 3) ls (.ref H.size :: S.map (cv g))) = F0 m (pc + 3) ls ((vR K.length :: S).map (cv g)) := by rw [hz]; rfl
  have fin := kk p l e s m args below meth cd g Q F E X R H1 locs ls (hr_push hH z1 o1 (by
    show H1[gb g + K.length]? = some (vp_cell (gS g) (N, .inr (.inr (.inr (.inr (fun i => (P K.length i).map (fun d => gb g + d)))))))
    rw [e1, vp_cell_q]
    congr 2
    funext j
    rw [(hf.1 K.length j (Nat.le_refl _)).2]
    rfl)) (hs_push hH hS z1 o1) hl
  rw [← hs0] at fin
  exact fin
theorem ev_objI {idx c : Nat} (hd : decode (dc d) pc = .ok (.invokespecial idx, 3)) (hlk : Cond.methodLink (dy d).cls idx Lib.objectInit ∈ WSg) (hfr : 1 ≤ (dR d).frames) (hlo : 20 ≤ (dR d).locals) (hc : (S.map ct).sum ≤ 8) (kk : Ev d (pc + 3) L S K M P k n Φ) : Ev d pc L (vR c :: S) K M P k n Φ := by
  intro p l e s m args below meth cd g Q F E X R H locs ls hH hS hl
  have hts := F.2.2.2.2.2.1
  exact W.objInit F.1 F.2.1 F.2.2.2.2.1 (hts _ hlk) (hts _ w_oin) (hts _ w_oco) rfl (by rw [F.2.2.2.1]; exact hl.1) rfl hd hfr (Nat.le_trans (Nat.add_le_add_right (lv_room (ct_sum g S hc)) 12) hlo) (kk p l e s m args below meth cd g Q F E X R H locs ls hH hS hl)
theorem ev_aast {c x N : Nat} {i : Int} (hd : decode (dc d) pc = .ok (.aastore, 1)) (hK : K[c]? = some (.inr (.inr N))) (hx : K[x]? = some (.inl 6)) (h0 : 0 ≤ i) (h1 : i < N) (hN : N ≤ 2147483647) (kk : Ev d (pc + 1) L S K M (upP P c i (some x)) k n Φ) : Ev d pc L (vR x :: vI i :: vR c :: S) K M P k n Φ := by
  intro p l e s m args below meth cd g Q F E X R H locs ls hH hS hl
  obtain ⟨a1, a2, -⟩ := i_idx h0 h1 hN
  have ha := wl_at (g := g) (M := M) (P := P) hK
  have hv := wl_at (g := g) (M := M) (P := P) hx
  have hD := wl_D g K M P
  have hlt : i.toNat < N := by omega
  have b0 : ¬ Int32.ofInt i < 0 := fun q => a1 (Or.inl q)
  obtain ⟨r', hr', cellV, g1, g2, g3, -⟩ := hH.2 x _ hv
  have hcls := (E.1.1 6 _ rfl).2
  obtain ⟨kA, comp, k1, k2, k3, -⟩ := (E.1.2 1 _ rfl).2
  have hcomp : comp = (gD g).1 6 := Option.some.inj (k3.symm.trans hcls.1)
  subst hcomp
  obtain ⟨kC, hkC, -⟩ := hcls.2
  refine W.aast F.1 F.2.1 (hH.2 c _ ha) (fun q h => by cases h) (fun h => by cases h) k1 k2 rfl hkC ⟨b0, by show _ < (arrV _ _ _).slots.size; rw [arrV_size, a2]; exact hlt⟩ g1 (fun q h => by rw [g3] at h; cases h) (by rw [g2]; exact hkC) (by rw [g2]; exact va_assign hcls) rfl rfl hd fun H1 e1 z1 oq => ?_
  refine kk p l e s m args below meth cd g Q F E X R H1 _ ls ⟨by rw [z1]; exact hH.1, ?_⟩ (hS.put z1 oq (hD.2 c _ ha)) hl
  have h2 := hH.2.set (e := kE g M (upP P c i (some x)) c (.inr (.inr N))) hD ha (by
    show H1[gb g + c]? = some (vp_cell _ _)
    rw [e1]
    rw [a2]
    show some (Cell.setSlot (vp_cell (gS g) (N, .inr (.inr (.inr (.inr (fun j => (P c j).map (fun d => gb g + d))))))) _ _) = some (vp_cell (gS g) (N, .inr (.inr (.inr (.inr (fun j => (upP P c i (some x) c j).map (fun d => gb g + d)))))))
    rw [vp_cell_q, vp_cell_q, arrV_store]
    congr 2
    funext j
    by_cases hj : j = i.toNat
    · subst hj
      simp [updV, upP, Int.toNat_of_nonneg h0, va_rf]
    · have hj2 : (j : Int) ≠ i := by omega
      simp [updV, upP, hj, hj2]) oq
  rw [wl_set hK (fun _ _ _ => rfl) (fun q i h => upP_n (Or.inl h))] at h2
  exact h2
end RulesN
