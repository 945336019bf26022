/-! ===== the bridge: abstract values, memory, and the judgement Ev over the kit's W ===== -/
abbrev V : Type := Int ⊕ (Int ⊕ (Nat ⊕ Nat))
abbrev vI (z : Int) : V := .inl z
abbrev vL (z : Int) : V := .inr (.inl z)
abbrev vR (c : Nat) : V := .inr (.inr (.inl c))
abbrev vX (k : Nat) : V := .inr (.inr (.inr k))
/-- cells: an object of class ci; an int array; an array of Shapes -/
abbrev Kd : Type := Nat ⊕ (Nat ⊕ Nat)
abbrev Mm : Type := Nat → Int → Int
abbrev Pm : Type := Nat → Int → Option Nat
/-- the environment: classes and slots, int[] and Shape[], first own address, externals, the script -/
abbrev Gv : Type := va_G × ClassId × ClassId × Nat × (Nat → Option Nat) × Nat × (Nat → Int32)
abbrev gD (g : Gv) : va_G := g.1
abbrev gI (g : Gv) : ClassId := g.2.1
abbrev gS (g : Gv) : ClassId := g.2.2.1
abbrev gb (g : Gv) : Nat := g.2.2.2.1
abbrev gx (g : Gv) : Nat → Option Nat := g.2.2.2.2.1
abbrev gL (g : Gv) : Nat := g.2.2.2.2.2.1
abbrev gs (g : Gv) : Nat → Int32 := g.2.2.2.2.2.2
abbrev inR (z : Int) : Prop := -2147483648 ≤ z ∧ z ≤ 2147483647
def cv (g : Gv) : V → Value
  | .inl z => .int (Int32.ofInt z)
  | .inr (.inl z) => .long (Int64.ofInt z)
  | .inr (.inr (.inl c)) => .ref (gb g + c)
  | .inr (.inr (.inr k)) => va_rf (gx g k)
def ct : V → Nat
  | .inr (.inl _) => 2
  | _ => 1
theorem ct_cv (g : Gv) (v : V) : (cv g v).category = ct v := by
  match v with
  | .inl z => rfl
  | .inr (.inl z) => rfl
  | .inr (.inr (.inl c)) => rfl
  | .inr (.inr (.inr k)) =>
    show (va_rf (gx g k)).category = 1
    cases gx g k <;> rfl
abbrev vwCl : List vw_C := [(RX0, TX0, 1), (RX1, TX1, 2), (RX2, TX2, 2), (RX3, TX3, 7), (RX4, TX4, 6), (RX5, TX5, 3), (RX6, TX6, 2), (RX7, TX7, 5), (RX8, TX8, 12), (RX9, TX9, 29)]
def tyC : Nat → Nat → FieldType
  | 0 => tyX0
  | 1 => tyX1
  | 2 => tyX2
  | 3 => tyX3
  | 4 => tyX4
  | 5 => tyX5
  | 6 => tyX6
  | 7 => tyX7
  | 8 => tyX8
  | _ => tyX9
def nFd : Nat → Nat
  | 0 => 1
  | 1 => 2
  | 2 => 2
  | 3 => 7
  | 4 => 6
  | 5 => 3
  | 6 => 2
  | 7 => 5
  | 8 => 12
  | _ => 29
def fvl (b : Nat) (ty : FieldType) (z : Int) (r : Option Nat) : Value := match ty with
  | .int => .int (Int32.ofInt z)
  | .boolean => .int (Int32.ofInt z)
  | .long => .long (Int64.ofInt z)
  | _ => va_rf (r.map (fun d => b + d))
def kE (g : Gv) (M : Mm) (P : Pm) (c : Nat) : Kd → va_E
  | .inl ci => .inr (ci, (List.range (nFd ci)).map (fun k => fvl (gb g) (tyC ci k) (M c k) (P c k)))
  | .inr (.inl n) => .inl (gI g, n, .inl (fun i => Int32.ofInt (M c i)))
  | .inr (.inr n) => .inl (gS g, n, .inr (.inr (.inr (.inr (fun i => (P c i).map (fun d => gb g + d))))))
def wl (g : Gv) (K : List Kd) (M : Mm) (P : Pm) : va_W := (List.range K.length).map (fun c => (gb g + c, kE g M P c (K.getD c (.inl 0))))
theorem wl_at {g : Gv} {K : List Kd} {M : Mm} {P : Pm} {c : Nat} {kd : Kd} (h : K[c]? = some kd) : (wl g K M P)[c]? = some (gb g + c, kE g M P c kd) := by
  obtain ⟨hl, he⟩ := List.getElem?_eq_some_iff.mp h
  unfold wl
  rw [List.getElem?_map, List.getElem?_range hl]
  show some (gb g + c, kE g M P c (K.getD c (Sum.inl 0))) = _
  rw [List.getD_eq_getElem?_getD, h]
  rfl
theorem wl_len (g : Gv) (K : List Kd) (M : Mm) (P : Pm) : (wl g K M P).length = K.length := by unfold wl; simp
theorem wl_none {g : Gv} {K : List Kd} {M : Mm} {P : Pm} {c : Nat} (h : K[c]? = none) : (wl g K M P)[c]? = none := by
  rw [List.getElem?_eq_none_iff, wl_len]
  exact List.getElem?_eq_none_iff.mp h
theorem kE_cg {g : Gv} {M M' : Mm} {P P' : Pm} {c : Nat} (kd : Kd) (h : ∀ i, M' c i = M c i) (h2 : ∀ i, P' c i = P c i) : kE g M' P' c kd = kE g M P c kd := by
  match kd with
  | .inl ci => simp only [kE, h, h2]
  | .inr (.inl n) => simp only [kE, h]
  | .inr (.inr n) => simp only [kE, h2]
theorem wl_set {g : Gv} {K : List Kd} {M M' : Mm} {P P' : Pm} {c : Nat} {kd : Kd} (h : K[c]? = some kd) (hM : ∀ q i, q ≠ c → M' q i = M q i) (hP : ∀ q i, q ≠ c → P' q i = P q i) : (wl g K M P).set c (gb g + c, kE g M' P' c kd) = wl g K M' P' := by
  refine List.ext_getElem? fun q => ?_
  by_cases hq : c = q
  · subst hq
    obtain ⟨hl, -⟩ := List.getElem?_eq_some_iff.mp h
    rw [List.getElem?_set_self (by rw [wl_len]; exact hl), wl_at h]
  · rw [List.getElem?_set_ne hq]
    cases hk : K[q]? with
    | none => rw [wl_none hk, wl_none hk]
    | some kd' => rw [wl_at hk, wl_at hk, kE_cg kd' (fun i => hM q i (fun z => hq z.symm)) (fun i => hP q i (fun z => hq z.symm))]
theorem wl_push {g : Gv} {K : List Kd} {M M' : Mm} {P P' : Pm} {kd : Kd} (hM : ∀ q i, q ≠ K.length → M' q i = M q i) (hP : ∀ q i, q ≠ K.length → P' q i = P q i) : wl g K M P ++ [(gb g + K.length, kE g M' P' K.length kd)] = wl g (K ++ [kd]) M' P' := by
  refine List.ext_getElem? fun q => ?_
  rcases Nat.lt_trichotomy q K.length with hq | hq | hq
  · rw [List.getElem?_append_left (by rw [wl_len]; exact hq)]
    have h1 : (K ++ [kd])[q]? = K[q]? := List.getElem?_append_left hq
    cases hk : K[q]? with
    | none => exact absurd (List.getElem?_eq_none_iff.mp hk) (by omega)
    | some kd' => rw [wl_at hk, wl_at (h1.trans hk), kE_cg kd' (fun i => hM q i (by omega)) (fun i => hP q i (by omega))]
  · subst hq
    rw [List.getElem?_append_right (by rw [wl_len]; exact Nat.le_refl _), wl_len, Nat.sub_self, wl_at (kd := kd) (by simp)]
    rfl
  · rw [List.getElem?_eq_none_iff.mpr (by simp [wl_len]; omega), wl_none (List.getElem?_eq_none_iff.mpr (by simp; omega))]
def eA (b : Nat) : Nat → Prop := fun q => b ≤ q
theorem wl_D (g : Gv) (K : List Kd) (M : Mm) (P : Pm) : va_D (eA (gb g)) (wl g K M P) := by
  have key : ∀ (i : Nat) (p : Nat × va_E), (wl g K M P)[i]? = some p → p.1 = gb g + i := by
    intro i p hp
    cases hk : K[i]? with
    | none => rw [wl_none hk] at hp; cases hp
    | some kd => rw [wl_at hk] at hp; cases hp; rfl
  refine ⟨fun i j p q hp hq he => ?_, fun k q hq => ?_⟩
  · have h1 := key i p hp
    have h2 := key j q hq
    omega
  · show gb g ≤ q.1
    rw [key k q hq]
    exact Nat.le_add_right _ _
def HR (g : Gv) (K : List Kd) (M : Mm) (P : Pm) (H : Heap) : Prop := H.size = gb g + K.length ∧ va_P (gD g) vwCl (wl g K M P) H
/-- what lies outside: the script, Seen.COULD, statics of the JDK, the six texts of Reader -/
def s_len : List Nat := [5, 4, 4, 1, 3, 1]
def s_byt : List (List Int32) := [[116, 115, 102, 97, 119], [120, 120, 43, 100], [110, 120, 43, 100], [110], [110, 43, 100], [107]]
def s_tx : List String := ["tsfaw", "xx+d", "nx+d", "n", "n+d", "k"]
def s_ix : List Nat := [80, 93, 95, 97, 99, 101]
def XT (g : Gv) (U : State) (H : Heap) : Prop := ∃ (a0 a1 : Nat) (adK adV : Nat → Nat), gx g 0 = some a0 ∧ gx g 1 = some a1 ∧ (∀ i, i < 6 → gx g (2 + i) = some (adK i)) ∧ (∀ i, i < 6 → gx g (8 + i) = some (adV i)) ∧
  va_X a0 (gL g) (gs g) U H ∧ a0 < gb g ∧ va_Z RX5 "COULD" "[I" (.ref a1) (eA (gb g)) U H ∧ va_T .int a1 4 (fun j => .int (([27, 14, 20, 16] : List Int32).getD j 0)) (eA (gb g)) U H ∧
  va_Z "java/lang/String" "COMPACT_STRINGS" "Z" (.int 1) (eA (gb g)) U H ∧ va_Z "jdk/internal/util/Preconditions" "SIOOBE_FORMATTER" "Ljava/util/function/BiFunction;" (va_rf (gx g 14)) (eA (gb g)) U H ∧
  vk_S 6 s_len s_byt adK adV (eA (gb g)) U H ∧ ∀ i, i < 6 → vk_R RX3 (s_ix.getD i 0) (s_tx.getD i "") (adK i) U
theorem XT.to {g : Gv} {s U : State} {H : Heap} (hW : s.WarmedH U.vm) (h : XT g s s.heap) (hb : gb g ≤ s.heap.size) (hq : ∀ q : Nat, q < gb g → H[q]? = s.heap[q]?) (hH : U.heap = H) : XT g U U.heap := by
  subst hH
  obtain ⟨a0, a1, adK, adV, e0, e1, e2, e3, h1, h2, h3, h4, h5, h6, h7, h8⟩ := h
  have hk : ∀ a : Nat, a < s.heap.size → ¬ eA (gb g) a → U.heap[a]? = s.heap[a]? := fun a _ h => hq a (Nat.not_le.mp h)
  refine ⟨a0, a1, adK, adV, e0, e1, e2, e3, (h1.kept (hq a0 h2)).moved hW.alike, h2, (h3.kept hk).moved hW.alike, (h4.kept hk).moved hW.alike, (h5.kept hk).moved hW.alike, (h6.kept hk).moved hW.alike, (h7.kept hk).moved hW.alike, fun i hi => (h8 i hi).warm hW⟩
def isNest : Cond → Bool
  | .fieldLinkNest _ _ _ _ _ _ => true
  | .methodLinkNest _ _ _ _ => true
  | _ => false
def WSn : List Cond := lw_tbl.filter isNest
theorem wsn_in {w : Cond} (i : Nat) (h : lw_tbl[i]? = some w) (hg : isNest w = true) : w ∈ WSn := List.mem_filter.mpr ⟨List.mem_of_getElem? h, hg⟩
theorem wsn_warm {s U : State} (hW : s.WarmedH U.vm) (h : ∀ w ∈ WSn, va_Nw w s) : ∀ w ∈ WSn, va_Nw w U := by
  intro w hw
  have h1 := h w hw
  have h2 := (List.mem_filter.mp hw).2
  cases w <;> first | exact va_Nw.warmF hW h1 | exact va_Nw.warmM hW h1 | (simp [isNest] at h2)
theorem wsn_use {s : State} {args : Array Value} (h : ∀ w ∈ WSn, va_Nw w s) {w : Cond} (hw : w ∈ WSn) : w.before args s = true := by
  have h1 := h w hw
  have h2 := (List.mem_filter.mp hw).2
  cases w <;> first | exact va_Nw.use rfl h1 | (simp [isNest] at h2)
def En (g : Gv) (s : State) : Prop := va_K (gD g) vwCl [(gI g, .int), (gS g, .object RX6)] s ∧ gb g ≤ s.heap.size ∧ XT g s s.heap ∧ va_AO RX6 s ∧ ∀ w ∈ WSn, va_Nw w s
theorem En.to {g : Gv} {s U : State} {H : Heap} {locs : List Loc} (hW : s.WarmedH U.vm) (h : En g s) (hS : va_S (eA (gb g)) s.heap H locs) (hH : U.heap = H) : En g U := by
  obtain ⟨h1, h2, h3, h4, h5⟩ := h
  refine ⟨va_K.moved hW.alike h1, by rw [hH]; exact Nat.le_trans h2 hS.1, XT.to (H := H) hW h3 h2 (fun q hq => hS.2.1 q (Nat.lt_of_lt_of_le hq h2) (Nat.not_le.mpr hq)) hH, h4.moved hW.alike, wsn_warm hW h5⟩
/-- methods: name, code, locals, answer, room -/
abbrev Md : Type := MethodName × ByteArray × Nat × Option FieldType × Room × (Gv → Prop)
abbrev dy (d : Md) : MethodName := d.1
abbrev dc (d : Md) : ByteArray := d.2.1
abbrev dn (d : Md) : Nat := d.2.2.1
abbrev dr (d : Md) : Option FieldType := d.2.2.2.1
abbrev dR (d : Md) : Room := d.2.2.2.2.1
abbrev dX (d : Md) : Gv → Prop := d.2.2.2.2.2
def WSg : List Cond := lw_tbl.filter goodWord
theorem wsg_in {w : Cond} (i : Nat) (h : lw_tbl[i]? = some w) (hg : goodWord w = true) : w ∈ WSg := List.mem_filter.mpr ⟨List.mem_of_getElem? h, hg⟩
theorem wsg_good {w : Cond} (h : w ∈ WSg) : (w.onTables && w.keeps) = true ∨ ∃ ty, w = .arrayClass ty := good_of_word (List.mem_filter.mp h).2
abbrev cdW (d : Md) : Cond := .code (dy d) (dc d) (dn d) (dr d)
abbrev wsM (d : Md) : List Cond := cdW d :: WSg
theorem wsM_good {d : Md} (h : cdW d ∈ WSg) : GoodIn WSg (wsM d) := by
  intro w hw
  rcases List.mem_cons.mp hw with rfl | hw
  · exact ⟨h, wsg_good h⟩
  · exact ⟨hw, wsg_good hw⟩
def Fr (d : Md) (p : Program) (s : State) (m : MethodId) (args : Array Value) (meth : Method) (c : Code) : Prop :=
  p.tables.exec = Jvm.exec ∧ c.code = dc d ∧ meth.sig.returnType = dr d ∧ c.maxLocals = dn d ∧ s.vm.findClass (dy d).cls = some m.cls ∧ (∀ w ∈ WSg, w.before args s = true) ∧ meth.locks = false ∧ meth.name = (dy d).name
/-- locals: a list by places -/
abbrev Lo : Type := List (Option V)
def lvs (g : Gv) : Nat → Lo → List (Nat × Value)
  | _, [] => []
  | i, none :: t => lvs g (i + 1) t
  | i, some v :: t => (i, cv g v) :: lvs g (i + 1) t
theorem lvs_mem {g : Gv} : ∀ (L : Lo) (i : Nat) (q : Nat × Value), q ∈ lvs g i L ↔ ∃ (j : Nat) (v : V), L[j]? = some (some v) ∧ q = (i + j, cv g v) := by
  intro L
  induction L with
  | nil => intro i q; simp [lvs]
  | cons a t ih =>
    intro i q
    cases a with
    | none =>
      simp only [lvs, ih]
      constructor
      · rintro ⟨j, v, h1, h2⟩
        exact ⟨j + 1, v, by simpa using h1, by rw [h2]; congr 1; omega⟩
      · rintro ⟨j, v, h1, h2⟩
        cases j with
        | zero => simp at h1
        | succ j => exact ⟨j, v, by simpa using h1, by rw [h2]; congr 1; omega⟩
    | some w =>
      simp only [lvs, List.mem_cons, ih]
      constructor
      · rintro (h | ⟨j, v, h1, h2⟩)
        · exact ⟨0, w, rfl, by rw [h]; rfl⟩
        · exact ⟨j + 1, v, by simpa using h1, by rw [h2]; congr 1; omega⟩
      · rintro ⟨j, v, h1, h2⟩
        cases j with
        | zero =>
          simp at h1
          subst h1
          exact Or.inl h2
        | succ j => exact Or.inr ⟨j, v, by simpa using h1, by rw [h2]; congr 1; omega⟩
abbrev lh (g : Gv) (n : Nat) (L : Lo) (ls : Array Slot) : Prop := lv_has ls n (lvs g 0 L)
theorem lh_at {g : Gv} {n : Nat} {L : Lo} {ls : Array Slot} (h : lh g n L ls) {i : Nat} {v : V} (hi : L[i]? = some (some v)) : ls[i]? = some (.val (cv g v)) :=
  h.2.2 (i, cv g v) ((lvs_mem L 0 _).mpr ⟨i, v, hi, by rw [Nat.zero_add]⟩)
theorem lh_sub {g : Gv} {n : Nat} {L L' : Lo} {ls : Array Slot} (h : lh g n L ls) (hs : ∀ (i : Nat) (v : V), L'[i]? = some (some v) → L[i]? = some (some v)) : lh g n L' ls := by
  refine ⟨h.1, h.2.1, fun q hq => ?_⟩
  obtain ⟨j, v, h1, h2⟩ := (lvs_mem L' 0 q).mp hq
  refine h.2.2 q ((lvs_mem L 0 q).mpr ⟨j, v, hs j v h1, h2⟩)
def lclr : Nat → Lo → Lo
  | 0, L => L
  | k + 1, L => match L[k]? with
    | some (some (.inr (.inl _))) => L.set k none
    | _ => L
def lset (i : Nat) (v : V) (L : Lo) : Lo := (lclr i L).set i (some v)
def lset2 (i : Nat) (v : V) (L : Lo) : Lo := ((lclr i L).set i (some v)).set (i + 1) none
theorem lclr_get {i j : Nat} {L : Lo} {v : V} (h : (lclr i L)[j]? = some (some v)) : L[j]? = some (some v) ∧ ¬ (j + 1 = i ∧ ct v = 2) := by
  cases i with
  | zero => exact ⟨h, by omega⟩
  | succ k =>
    simp only [lclr] at h
    split at h
    · rename_i z hz
      by_cases hj : k = j
      · subst hj
        have hlt := (List.getElem?_eq_some_iff.mp hz).1
        rw [List.getElem?_set_self hlt] at h
        cases h
      · rw [List.getElem?_set_ne hj] at h
        exact ⟨h, by omega⟩
    · rename_i hn
      refine ⟨h, fun ⟨h1, h2⟩ => ?_⟩
      have hj : j = k := by omega
      subst hj
      match v, h2 with
      | .inr (.inl z), _ => exact hn z h
theorem lset_mem {g : Gv} {i : Nat} {v : V} {L : Lo} {q : Nat × Value} (hq : q ∈ lvs g 0 (lset i v L)) : q ∈ ((i, cv g v) :: (lvs g 0 L).filter (fun q => !(q.1 == i) && !(q.1 + 1 == i && q.2.category == 2)) : List (Nat × Value)) := by
  obtain ⟨j, w, h1, rfl⟩ := (lvs_mem _ 0 q).mp hq
  rw [Nat.zero_add]
  by_cases hj : i = j
  · subst hj
    have hlt : i < (lclr i L).length := by
      have := (List.getElem?_eq_some_iff.mp h1).1
      simpa [lset] using this
    unfold lset at h1
    rw [List.getElem?_set_self hlt] at h1
    cases h1
    exact List.mem_cons_self
  · unfold lset at h1
    rw [List.getElem?_set_ne hj] at h1
    obtain ⟨h2, h3⟩ := lclr_get h1
    refine List.mem_cons_of_mem _ (List.mem_filter.mpr ⟨(lvs_mem L 0 _).mpr ⟨j, w, h2, by rw [Nat.zero_add]⟩, ?_⟩)
    simp only [ct_cv, Bool.and_eq_true, Bool.not_eq_true', beq_eq_false_iff_ne, ne_eq, Bool.and_eq_false_iff]
    refine ⟨fun z => hj z.symm, ?_⟩
    by_cases hz : j + 1 = i
    · exact Or.inr fun z => h3 ⟨hz, z⟩
    · exact Or.inl hz
theorem lset2_mem {g : Gv} {i : Nat} {v : V} {L : Lo} {q : Nat × Value} (hq : q ∈ lvs g 0 (lset2 i v L)) : q ∈ ((i, cv g v) :: (lvs g 0 L).filter (fun q => !(q.1 == i) && (!(q.1 == i + 1) && !(q.1 + 1 == i && q.2.category == 2))) : List (Nat × Value)) := by
  obtain ⟨j, w, h1, rfl⟩ := (lvs_mem _ 0 q).mp hq
  rw [Nat.zero_add]
  unfold lset2 at h1
  by_cases hj2 : i + 1 = j
  · subst hj2
    have hlt := (List.getElem?_eq_some_iff.mp h1).1
    rw [List.getElem?_set_self (by simpa using hlt)] at h1
    cases h1
  · rw [List.getElem?_set_ne hj2] at h1
    by_cases hj : i = j
    · subst hj
      have hlt : i < (lclr i L).length := by
        have := (List.getElem?_eq_some_iff.mp h1).1
        simpa using this
      rw [List.getElem?_set_self hlt] at h1
      cases h1
      exact List.mem_cons_self
    · rw [List.getElem?_set_ne hj] at h1
      obtain ⟨h2, h3⟩ := lclr_get h1
      refine List.mem_cons_of_mem _ (List.mem_filter.mpr ⟨(lvs_mem L 0 _).mpr ⟨j, w, h2, by rw [Nat.zero_add]⟩, ?_⟩)
      simp only [ct_cv, Bool.and_eq_true, Bool.not_eq_true', beq_eq_false_iff_ne, ne_eq, Bool.and_eq_false_iff]
      refine ⟨fun z => hj z.symm, fun z => hj2 z.symm, ?_⟩
      by_cases hz : j + 1 = i
      · exact Or.inr fun z => h3 ⟨hz, z⟩
      · exact Or.inl hz
/-- what a frame's end gives: the answer, memory, cells and slots made -/
abbrev Ps : Type := Option V → List Kd → Mm → Pm → Nat → Nat → Prop
def okR (d : Md) (z : Int) : Prop := ∃ ty, dr d = some ty ∧ narrow ty (.int (Int32.ofInt z)) = .int (Int32.ofInt z)
def ROK (d : Md) (p : Program) (l : Launch) (e : Env) (s : State) (m : MethodId) (args : Array Value) (below : List Frame) (meth : Method) (c : Code) (g : Gv) (Q : State → Prop) (Φ : Ps) : Prop :=
  ∀ (H : Heap) (locs : List Loc) (ls : Array Slot) (pc : Nat) (K : List Kd) (M : Mm) (P : Pm) (k n : Nat), HR g K M P H → va_S (eA (gb g)) s.heap H locs →
    (∀ z : Int, Φ (some (vI z)) K M P k n → okR d z → decode (dc d) pc = .ok (.ireturn, 1) → W p l e (dR d) s m args below meth c H locs k n Q (F0 m pc ls [cv g (vI z)])) ∧
    (∀ z : Int, Φ (some (vL z)) K M P k n → dr d = some .long → decode (dc d) pc = .ok (.lreturn, 1) → W p l e (dR d) s m args below meth c H locs k n Q (F0 m pc ls [cv g (vL z)])) ∧
    (∀ x : Nat, Φ (some (vX x)) K M P k n → dr d = some (.object "java/lang/String") → decode (dc d) pc = .ok (.areturn, 1) → W p l e (dR d) s m args below meth c H locs k n Q (F0 m pc ls [cv g (vX x)])) ∧
    (Φ none K M P k n → dr d = none → decode (dc d) pc = .ok (.return_, 1) → W p l e (dR d) s m args below meth c H locs k n Q (F0 m pc ls []))
def Ev (d : Md) (pc : Nat) (L : Lo) (S : List V) (K : List Kd) (M : Mm) (P : Pm) (k n : Nat) (Φ : Ps) : Prop :=
  ∀ (p : Program) (l : Launch) (e : Env) (s : State) (m : MethodId) (args : Array Value) (below : List Frame) (meth : Method) (c : Code) (g : Gv) (Q : State → Prop), Fr d p s m args meth c → En g s → dX d g → ROK d p l e s m args below meth c g Q Φ →
    ∀ (H : Heap) (locs : List Loc) (ls : Array Slot), HR g K M P H → va_S (eA (gb g)) s.heap H locs → lh g (dn d) L ls → W p l e (dR d) s m args below meth c H locs k n Q (F0 m pc ls (S.map (cv g)))
