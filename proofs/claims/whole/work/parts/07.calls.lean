/-! ===== contracts of methods, and calls ===== -/
abbrev Pq : Type := Option V → List Kd → Mm → Pm → Prop
def Qm (g : Gv) (Ψ : Pq) : Array Value → State → Outcome → State → Prop := fun _ st o t => (∃ (r : Option V) (K : List Kd) (M : Mm) (P : Pm), o = .returned (r.map (cv g)) ∧ Ψ r K M P ∧ HR g K M P t.heap) ∧ va_F (eA (gb g)) st t
def Cl (d : Md) (A : List V) (K : List Kd) (M : Mm) (P : Pm) (Ψ : Pq) : Prop := ∀ (l : Launch) (g : Gv), Met l (dy d) (wsM d) (dR d) (va_Pc (A.map (cv g)) (fun U => En g U ∧ HR g K M P U.heap)) (Qm g Ψ) (dR d).cells (dR d).slots (eA (gb g))
def ent : List V → Lo
  | [] => []
  | v :: A => if ct v = 2 then some v :: none :: ent A else some v :: ent A
def pad (n : Nat) (L : Lo) : Lo := L ++ List.replicate (n - L.length) none
theorem lvs_none (g : Gv) (i k : Nat) : lvs g i (List.replicate k none) = [] := by
  induction k generalizing i with
  | zero => rfl
  | succ k ih => rw [List.replicate_succ]; exact ih (i + 1)
theorem lvs_ent (g : Gv) (k : Nat) : ∀ (A : List V) (i : Nat), lvs g i (ent A ++ List.replicate k none) = lv_args i (A.map (cv g)) := by
  intro A
  induction A with
  | nil => intro i; exact lvs_none g i k
  | cons v A ih =>
    intro i
    by_cases h : ct v = 2
    · simp only [ent, h, if_true, List.cons_append, lvs, List.map_cons, lv_args, ct_cv, ih]
    · simp only [ent, h, if_false, List.cons_append, lvs, List.map_cons, lv_args, ct_cv, ih]
theorem ent_len (g : Gv) (A : List V) : (lg_sl (A.map (cv g))).length = (ent A).length := by
  induction A with
  | nil => rfl
  | cons v A ih =>
    by_cases h : ct v = 2
    · simp only [lg_sl, List.map_cons, List.flatMap_cons, ct_cv, h, if_true, ent] at ih ⊢
      simp [ih]
    · simp only [lg_sl, List.map_cons, List.flatMap_cons, ct_cv, h, if_false, ent] at ih ⊢
      simp [ih]
theorem ofWF {l : Launch} {y : MethodName} {ws ws' : List Cond} {rm : Room} {Pc : Array Value → State → Prop} {Qc : Array Value → State → Outcome → State → Prop} {mc ms : Nat} {free : Addr → Prop} {cc : ByteArray} {maxL : Nat} {ret : Option FieldType}
    (hy : plainFor y = true) (hw : ws = Cond.code y cc maxL ret :: ws')
    (body : ∀ p e s m args below meth c s₁, BodyLoose p l y (headSpec ws rm) cc maxL ret e s m args below meth c s₁ → c.maxLocals = maxL → Pc args s →
      W p l e (headSpec ws rm).room s m args below meth c s.heap [] 0 0 (MQ below Qc args s mc ms free) (entryFrame m args maxL)) : Met l y ws rm Pc Qc mc ms free := by
  refine MetFree.of_bodySF (code := cc) (maxLocals := maxL) (ret := ret) hy ?_ ?_
  · intro args s m h hn
    obtain ⟨meth, c, h1, h2, h3, h4, h5, h6, -, -⟩ := Cond.code_spec hn (atoms_spec (ws := ws) h _ (by rw [hw]; exact List.mem_cons_self))
    exact ⟨meth, c, h1, h2, h3, h4, h5, h6⟩
  · intro p e s m args below meth c s₁ B hml hP _
    have hh0 : s₁.heap = s.heap := by rw [B.state]; rfl
    obtain ⟨t, a1, o, b1, b2, b3⟩ := body p e s m args below meth c s₁ B hml hP s₁ hh0 (Stand.of_body B)
    exact ⟨t, o, a1, b1, b2, ⟨b3.1, b3.2⟩⟩
theorem cl_of {d : Md} {A : List V} {K : List Kd} {M : Mm} {P : Pm} {Ψ : Pq} (hy : plainFor (dy d) = true) (hX : ∀ g, dX d g) (hlen : (ent A).length ≤ dn d) (h : Ev d 0 (pad (dn d) (ent A)) [] K M P 0 0 (fun r K' M' P' k n => Ψ r K' M' P' ∧ k ≤ (dR d).cells ∧ n ≤ (dR d).slots)) : Cl d A K M P Ψ := by
  intro l g
  refine ofWF (cc := dc d) (maxL := dn d) (ret := dr d) hy rfl ?_
  intro p e s m args below meth c s₁ B hml hv
  obtain ⟨rfl, hE, hH⟩ := hv
  have hts := atoms_spec (ws := wsM d) B.pre
  have F : Fr d p s m (A.map (cv g)).toArray meth c := ⟨B.exec, B.bytes, B.returns, hml, findClass_of_methodNamed B.named, fun w hw => hts w (List.mem_cons_of_mem _ hw), B.notSynchronized, (name_of_methodNamed B.named B.method).1⟩
  have hl := lv_entry (A.map (cv g)) (n := dn d) (by rw [ent_len]; exact hlen)
  rw [lg_entry_eq]
  generalize (lg_sl (A.map (cv g)) ++ List.replicate (dn d - (lg_sl (A.map (cv g))).length) Slot.unset).toArray = ls at hl ⊢
  refine h p l e s m _ below meth c g _ F hE (hX g) ?_ s.heap [] ls hH va_S.rf (by unfold lh pad; rw [lvs_ent]; exact hl)
  intro H locs ls pc K M P k n hH hS
  have hlk := F.2.2.2.2.2.2.1
  refine ⟨fun z ⟨hΨ, hk, hn⟩ ⟨ty, h1, h2⟩ hd => ?_, fun z ⟨hΨ, hk, hn⟩ h1 hd => ?_, fun x ⟨hΨ, hk, hn⟩ h1 hd => ?_, fun ⟨hΨ, hk, hn⟩ h1 hd => ?_⟩
  · refine W.widen hk hn ?_
    exact W.zret F.1 F.2.1 (F.2.2.1.trans h1) h2 (fun t ht hW => ⟨⟨some (vI z), K, M, P, rfl, hΨ, by rw [ht]; exact hH⟩, hS.F ht⟩) hS.2.2 hd hlk
  · refine W.widen hk hn ?_
    exact W.lret F.1 F.2.1 (F.2.2.1.trans h1) (fun t ht hW => ⟨⟨some (vL z), K, M, P, rfl, hΨ, by rw [ht]; exact hH⟩, hS.F ht⟩) hS.2.2 hd hlk
  · refine W.widen hk hn ?_
    refine W.aret F.1 F.2.1 (F.2.2.1.trans h1) (Or.inl ⟨_, rfl⟩) ?_ (fun t ht hW => ⟨⟨some (vX x), K, M, P, rfl, hΨ, by rw [ht]; exact hH⟩, hS.F ht⟩) hS.2.2 hd hlk
    show va_rf (gx g x) = _ ∨ ∃ a, va_rf (gx g x) = _
    cases gx g x with
    | none => exact Or.inl rfl
    | some a => exact Or.inr ⟨a, rfl⟩
  · refine W.widen hk hn ?_
    exact W.vret F.1 F.2.1 (F.2.2.1.trans h1) (fun t ht hW => ⟨⟨none, K, M, P, rfl, hΨ, by rw [ht]; exact hH⟩, hS.F ht⟩) hS.2.2 hd hlk
theorem En.call {g : Gv} {U : State} {f : JFrame} {mk : MethodId} {a : Array Value} (h : En g U) : En g (U.calling f mk a) := by
  obtain ⟨h1, h2, ⟨a0, a1, adK, adV, e0, e1, e2, e3, g1, g2, g3, g4, g5, g6, g7, g8⟩, h4, h5⟩ := h
  refine ⟨va_K.moved (u := U) (U := U.calling f mk a) (Vm.Alike.refl U.vm) h1, h2, ⟨a0, a1, adK, adV, e0, e1, e2, e3, ?_, g2, ?_, ?_, ?_, ?_, ?_, fun i hi => vk_R.same (u := U) rfl (g8 i hi)⟩, va_AO.moved (u := U) (U := U.calling f mk a) (Vm.Alike.refl U.vm) h4, fun w hw => ?_⟩
  · exact va_X.moved (u := U) (U := U.calling f mk a) (Vm.Alike.refl U.vm) g1
  · exact va_Z.moved (u := U) (U := U.calling f mk a) (Vm.Alike.refl U.vm) g3
  · exact va_T.moved (u := U) (U := U.calling f mk a) (Vm.Alike.refl U.vm) g4
  · exact va_Z.moved (u := U) (U := U.calling f mk a) (Vm.Alike.refl U.vm) g5
  · exact va_Z.moved (u := U) (U := U.calling f mk a) (Vm.Alike.refl U.vm) g6
  · exact vk_S.moved (u := U) (U := U.calling f mk a) (Vm.Alike.refl U.vm) g7
  · have h1 := h5 w hw
    have h2 := (List.mem_filter.mp hw).2
    cases w <;> first | exact va_Nw.same (u := U) rfl rfl h1 | (simp [isNest] at h2)
def mdOK (d : Md) : Prop := cdW d ∈ WSg ∧ Cond.initialized (dy d).cls ∈ WSg ∧ (dy d).cls ≠ "java/lang/invoke/MethodHandle" ∧ (dy d).cls ≠ "java/lang/invoke/VarHandle"
def lkM (own : String) (idx : Nat) (d : Md) : Prop := Cond.methodLink own idx (dy d) ∈ WSg ∨ ∃ host, Cond.methodLinkNest own idx (dy d) host ∈ WSn
/-- room for a call -/
def rmOK (d d' : Md) (k n : Nat) : Prop := ((dR d').frames + 1 ≤ (dR d).frames ∧ 8 + (dn d' + 11) + (dR d').locals ≤ (dR d).locals) ∧ k + (dR d').cells ≤ (dR d).cells ∧ n + (dR d').slots ≤ (dR d).slots
abbrev pcOK (d' : Md) (n : Nat) : Prop := (parseMethodDescriptor (dy d').desc).map (fun q => q.parameters.length) = some n
section Rules3
variable {d d' : Md} {pc : Nat} {L : Lo} {S : List V} {K : List Kd} {M : Mm} {P : Pm} {k n : Nat} {Φ : Ps} {Ψ : Pq} {A rest : List V}
theorem ct_sum (g : Gv) (rest : List V) (h : (rest.map ct).sum ≤ 8) : ((rest.map (cv g)).map fun v => v.category).sum ≤ 8 := by
  rw [List.map_map]
  have : (fun v => v.category) ∘ cv g = ct := funext fun v => ct_cv g v
  rw [this]
  exact h
theorem ev_after {p : Program} {l : Launch} {e : Env} {s : State} {m : MethodId} {args : Array Value} {below : List Frame} {meth : Method} {cd : Code} {g : Gv} {Q : State → Prop} {H : Heap} {locs : List Loc} {ls : Array Slot} {st0 : List Value} {a : Array Value} {mc ms : Nat}
    (F : Fr d p s m args meth cd) (E : En g s) (X : dX d g) (R : ROK d p l e s m args below meth cd g Q Φ) (hS : va_S (eA (gb g)) s.heap H locs) (hl : lh g (dn d) L ls)
    (hr : va_Run p l e (dR d) s m args below meth cd H locs k n mc ms (F0 m pc ls st0) (rest.map (cv g)) (Qm g Ψ a) (eA (gb g)))
    (kk : ∀ r K' M' P', Ψ r K' M' P' → Ev d (pc + 3) L (r.toList ++ rest) K' M' P' (k + mc) (n + ms) Φ) : W p l e (dR d) s m args below meth cd H locs k n Q (F0 m pc ls st0) := by
  intro T hT X0
  obtain ⟨v, st₀, t, T', L', h0, X', hL, e1, e2, ⟨⟨r, K', M', P', hv, hΨ, hH'⟩, hz, hk⟩, st⟩ := hr T hT X0
  cases hv
  rw [h0] at hz hk
  obtain ⟨t2, a1, b1⟩ := kk r K' M' P' hΨ p l e s m args below meth cd g Q F E X R T'.heap (locs ++ L') ls (by rw [e1]; exact hH')
    ⟨Nat.le_trans hS.1 (by rw [e1]; exact hz), fun q h1 h2 => by rw [e1, hk q (Nat.lt_of_lt_of_le h1 hS.1) h2]; exact hS.2.1 q h1 h2, fun q hq => by
      rcases List.mem_append.mp hq with h | h
      · exact hS.2.2 q h
      · exact hL q h⟩ hl T' rfl X'
  refine ⟨t2, st t2 ?_, b1⟩
  have es : (r.map (cv g)).toList ++ rest.map (cv g) = (r.toList ++ rest).map (cv g) := by cases r <;> rfl
  rw [es]
  exact a1
theorem pre_S {s : State} {g : Gv} {H : Heap} {locs : List Loc} (E : En g s) (hS : va_S (eA (gb g)) s.heap H locs) (hH : HR g K M P H) : PreS s H (va_Pc (A.map (cv g)) (fun U => En g U ∧ HR g K M P U.heap)) (A.map (cv g)) :=
  ⟨fun a U f mk q => ⟨q.1, q.2.1.call, q.2.2⟩, fun U hU hW => ⟨rfl, E.to hW hS hU, by rw [hU]; exact hH⟩⟩
theorem ev_calls {idx : Nat} (hcl : Cl d' A K M P Ψ) (hd : decode (dc d) pc = .ok (.invokestatic idx, 3)) (hm : mdOK d') (hlk : lkM (dy d).cls idx d') (hst : Cond.static (dy d') ∈ WSg) (hpc : pcOK d' A.length) (hrm : rmOK d d' k n) (hS0 : S = A.reverse ++ rest) (hc : (rest.map ct).sum ≤ 8)
    (kk : ∀ r K' M' P', Ψ r K' M' P' → Ev d (pc + 3) L (r.toList ++ rest) K' M' P' (k + (dR d').cells) (n + (dR d').slots) Φ) : Ev d pc L S K M P k n Φ := by
  intro p l e s m args below meth cd g Q F E X R H locs ls hH hS hl
  have hts := F.2.2.2.2.2.1
  subst hS0
  refine ev_after (a := (A.map (cv g)).toArray) F E X R hS hl ?_ kk
  have hsz : (F0 m pc ls ((A.reverse ++ rest).map (cv g))).locals.size = dn d := hl.1
  have hs2 : (F0 m pc ls ((A.reverse ++ rest).map (cv g))).stack = (A.map (cv g)).reverse ++ rest.map (cv g) := by simp
  rcases hlk with hlk | ⟨host, hlk⟩
  · exact va_runS (nL := dn d) (n := A.length) (Ts := WSg) ⟨F.1, F.2.1, F.2.2.2.1, F.2.2.2.2.1, hts⟩ (hcl l g) ⟨callB_of A.length hts (wsM_good hm.1) rfl rfl rfl (hts _ hm.2.1) (hts _ hlk) ⟨hm.2.2.1, hm.2.2.2, hpc⟩ hrm.1, hts _ hst⟩ (pre_S E hS hH) rfl (by simp) hsz hs2 (lv_room (ct_sum g rest hc)) hd hrm.2
  · exact va_runSN (nL := dn d) (n := A.length) (Ts := WSg) ⟨F.1, F.2.1, F.2.2.2.1, F.2.2.2.2.1, hts⟩ (hcl l g) ⟨va_cnB A.length hts (wsM_good hm.1) rfl rfl rfl (va_Nw.of rfl (wsn_use (args := args) E.2.2.2.2 hlk)) (hts _ hm.2.1) ⟨hm.2.2.1, hm.2.2.2, hpc⟩ hrm.1, hts _ hst, trivial⟩ (pre_S E hS hH) rfl (by simp) hsz hs2 (lv_room (ct_sum g rest hc)) hd hrm.2
theorem ev_callv {idx c ci : Nat} {C : String} {T : u_T} (hcl : Cl d' (vR c :: A) K M P Ψ) (hd : decode (dc d) pc = .ok (.invokevirtual idx, 3)) (hm : mdOK d') (hlk : lkM (dy d).cls idx d') (hin : Cond.instanceMethod (dy d') ∈ WSg) (hsel : Cond.selects C (dy d') (dy d') ∈ WSg) (hcl2 : vwCl[ci]? = some (C, T, nFd ci)) (hK : K[c]? = some (.inl ci)) (hpc : pcOK d' A.length) (hrm : rmOK d d' k n) (hS0 : S = A.reverse ++ vR c :: rest) (hc : (rest.map ct).sum ≤ 8)
    (kk : ∀ r K' M' P', Ψ r K' M' P' → Ev d (pc + 3) L (r.toList ++ rest) K' M' P' (k + (dR d').cells) (n + (dR d').slots) Φ) : Ev d pc L S K M P k n Φ := by
  intro p l e s m args below meth cd g Q F E X R H locs ls hH hS hl
  have hts := F.2.2.2.2.2.1
  subst hS0
  refine ev_after (a := ((vR c :: A).map (cv g)).toArray) F E X R hS hl ?_ kk
  have hsz : (F0 m pc ls ((A.reverse ++ vR c :: rest).map (cv g))).locals.size = dn d := hl.1
  have hs2 : (F0 m pc ls ((A.reverse ++ vR c :: rest).map (cv g))).stack = (A.map (cv g)).reverse ++ .ref (gb g + c) :: rest.map (cv g) := by simp [cv]
  have hp : PreV s H C (gb g + c) (va_Pc ((vR c :: A).map (cv g)) (fun U => En g U ∧ HR g K M P U.heap)) (A.map (cv g)) := ⟨(pre_S (A := vR c :: A) E hS hH).1, va_recv E.1 hH.2 hcl2 (wl_at hK), (pre_S (A := vR c :: A) E hS hH).2⟩
  rcases hlk with hlk | ⟨host, hlk⟩
  · exact va_runV (nL := dn d) (n := A.length) (Ts := WSg) ⟨F.1, F.2.1, F.2.2.2.1, F.2.2.2.2.1, hts⟩ (hcl l g) ⟨callB_of A.length hts (wsM_good hm.1) rfl rfl rfl (hts _ hm.2.1) (hts _ hlk) ⟨hm.2.2.1, hm.2.2.2, hpc⟩ hrm.1, hts _ hin, hts _ hsel⟩ hp rfl (by simp) hsz hs2 (lv_room (ct_sum g rest hc)) hd hrm.2
  · exact va_runVN (nL := dn d) (n := A.length) (Ts := WSg) ⟨F.1, F.2.1, F.2.2.2.1, F.2.2.2.2.1, hts⟩ (hcl l g) ⟨va_cnB A.length hts (wsM_good hm.1) rfl rfl rfl (va_Nw.of rfl (wsn_use (args := args) E.2.2.2.2 hlk)) (hts _ hm.2.1) ⟨hm.2.2.1, hm.2.2.2, hpc⟩ hrm.1, hts _ hin, hts _ hsel⟩ hp rfl (by simp) hsz hs2 (lv_room (ct_sum g rest hc)) hd hrm.2
/-- a call on one of the six texts -/
theorem ev_callX {idx i : Nat} (hi : i < 6) (hcl : Cl d' (vX (2 + i) :: A) K M P Ψ) (hd : decode (dc d) pc = .ok (.invokevirtual idx, 3)) (hm : mdOK d') (hlk : Cond.methodLink (dy d).cls idx (dy d') ∈ WSg) (hin : Cond.instanceMethod (dy d') ∈ WSg) (hsel : Cond.selects "java/lang/String" (dy d') (dy d') ∈ WSg) (hpc : pcOK d' A.length) (hrm : rmOK d d' k n) (hS0 : S = A.reverse ++ vX (2 + i) :: rest) (hc : (rest.map ct).sum ≤ 8)
    (kk : ∀ r K' M' P', Ψ r K' M' P' → Ev d (pc + 3) L (r.toList ++ rest) K' M' P' (k + (dR d').cells) (n + (dR d').slots) Φ) : Ev d pc L S K M P k n Φ := by
  intro p l e s m args below meth cd g Q F E X R H locs ls hH hS hl
  have hts := F.2.2.2.2.2.1
  subst hS0
  obtain ⟨a0, a1, adK, adV, e0, e1, e2, e3, g1, g2, g3, g4, g5, g6, g7, g8⟩ := E.2.2.1
  refine ev_after (a := (Value.ref (adK i) :: A.map (cv g)).toArray) F E X R hS hl ?_ kk
  have hsz : (F0 m pc ls ((A.reverse ++ vX (2 + i) :: rest).map (cv g))).locals.size = dn d := hl.1
  have hs2 : (F0 m pc ls ((A.reverse ++ vX (2 + i) :: rest).map (cv g))).stack = (A.map (cv g)).reverse ++ .ref (adK i) :: rest.map (cv g) := by simp [cv, e2 i hi, va_rf]
  have h0 : (vX (2 + i) :: A).map (cv g) = .ref (adK i) :: A.map (cv g) := by simp [cv, e2 i hi, va_rf]
  have hp0 := pre_S (A := vX (2 + i) :: A) E hS hH
  have hcl' := hcl l g
  rw [h0] at hp0 hcl'
  have hp : PreV s H "java/lang/String" (adK i) (va_Pc (.ref (adK i) :: A.map (cv g)) (fun U => En g U ∧ HR g K M P U.heap)) (A.map (cv g)) := ⟨hp0.1, vk_recv g7 hi hS, hp0.2⟩
  exact va_runV (nL := dn d) (n := A.length) (Ts := WSg) ⟨F.1, F.2.1, F.2.2.2.1, F.2.2.2.2.1, hts⟩ hcl' ⟨callB_of A.length hts (wsM_good hm.1) rfl rfl rfl (hts _ hm.2.1) (hts _ hlk) ⟨hm.2.2.1, hm.2.2.2, hpc⟩ hrm.1, hts _ hin, hts _ hsel⟩ hp rfl (by simp) hsz hs2 (lv_room (ct_sum g rest hc)) hd hrm.2
theorem ev_calli {idx c : Nat} (hcl : Cl d' (vR c :: A) K M P Ψ) (hd : decode (dc d) pc = .ok (.invokespecial idx, 3)) (hm : mdOK d') (hr0 : dr d' = none) (hnm : (dy d').name = "<init>") (hlk : lkM (dy d).cls idx d') (hin : Cond.instanceMethod (dy d') ∈ WSg) (hpc : pcOK d' A.length) (hrm : rmOK d d' k n) (hS0 : S = A.reverse ++ vR c :: rest) (hc : (rest.map ct).sum ≤ 8)
    (kk : ∀ r K' M' P', Ψ r K' M' P' → Ev d (pc + 3) L (r.toList ++ rest) K' M' P' (k + (dR d').cells) (n + (dR d').slots) Φ) : Ev d pc L S K M P k n Φ := by
  intro p l e s m args below meth cd g Q F E X R H locs ls hH hS hl
  have hts := F.2.2.2.2.2.1
  subst hS0
  refine ev_after (a := ((vR c :: A).map (cv g)).toArray) F E X R hS hl ?_ kk
  have hsz : (F0 m pc ls ((A.reverse ++ vR c :: rest).map (cv g))).locals.size = dn d := hl.1
  have hs2 : (F0 m pc ls ((A.reverse ++ vR c :: rest).map (cv g))).stack = (A.map (cv g)).reverse ++ .ref (gb g + c) :: rest.map (cv g) := by simp [cv]
  have hp := pre_S (A := vR c :: A) E hS hH
  have hw : wsM d' = Cond.code (dy d') (dc d') (dn d') none :: WSg := by rw [← hr0]
  rcases hlk with hlk | ⟨host, hlk⟩
  · exact va_runI (nL := dn d) (n := A.length) (Ts := WSg) ⟨F.1, F.2.1, F.2.2.2.1, F.2.2.2.2.1, hts⟩ (hcl l g) ⟨callB_of A.length hts (wsM_good hm.1) hw rfl rfl (hts _ hm.2.1) (hts _ hlk) ⟨hm.2.2.1, hm.2.2.2, hpc⟩ hrm.1, hnm, hts _ hin⟩ hp rfl (by simp) hsz hs2 (lv_room (ct_sum g rest hc)) hd hrm.2
  · exact va_runIN (nL := dn d) (n := A.length) (Ts := WSg) ⟨F.1, F.2.1, F.2.2.2.1, F.2.2.2.2.1, hts⟩ (hcl l g) ⟨va_cnB A.length hts (wsM_good hm.1) hw rfl rfl (va_Nw.of rfl (wsn_use (args := args) E.2.2.2.2 hlk)) (hts _ hm.2.1) ⟨hm.2.2.1, hm.2.2.2, hpc⟩ hrm.1, hnm, hts _ hin⟩ hp rfl (by simp) hsz hs2 (lv_room (ct_sum g rest hc)) hd hrm.2
end Rules3
