/-! ===== numbers: Int32 and Int64 by Int ===== -/
theorem i_to {z : Int} (h : inR z) : (Int32.ofInt z).toInt = z := Int32.toInt_ofInt_of_le (by omega) (by omega)
theorem i_back (x : Int32) : Int32.ofInt x.toInt = x := Int32.ofInt_toInt x
theorem i_rng (x : Int32) : inR x.toInt := by
  have h1 := Int32.le_toInt x
  have h2 := Int32.toInt_lt x
  constructor <;> omega
abbrev inL (z : Int) : Prop := -9223372036854775808 ≤ z ∧ z ≤ 9223372036854775807
theorem l_to {z : Int} (h : inL z) : (Int64.ofInt z).toInt = z := Int64.toInt_ofInt_of_le (by omega) (by omega)
theorem l_back (x : Int64) : Int64.ofInt x.toInt = x := Int64.ofInt_toInt x
theorem l_rng (x : Int64) : inL x.toInt := by
  have h1 := Int64.le_toInt x
  have h2 := Int64.toInt_lt x
  constructor <;> omega
theorem i_lt {x y : Int} (hx : inR x) (hy : inR y) : Int32.ofInt x < Int32.ofInt y ↔ x < y := by rw [Int32.lt_iff_toInt_lt, i_to hx, i_to hy]
theorem i_le {x y : Int} (hx : inR x) (hy : inR y) : Int32.ofInt x ≤ Int32.ofInt y ↔ x ≤ y := by rw [Int32.le_iff_toInt_le, i_to hx, i_to hy]
theorem i_eq {x y : Int} (hx : inR x) (hy : inR y) : Int32.ofInt x = Int32.ofInt y ↔ x = y := by rw [← Int32.toInt_inj, i_to hx, i_to hy]
theorem l_lt {x y : Int} (hx : inL x) (hy : inL y) : Int64.ofInt x < Int64.ofInt y ↔ x < y := by rw [Int64.lt_iff_toInt_lt, l_to hx, l_to hy]
theorem l_eq {x y : Int} (hx : inL x) (hy : inL y) : Int64.ofInt x = Int64.ofInt y ↔ x = y := by rw [← Int64.toInt_inj, l_to hx, l_to hy]
theorem i_add (x y : Int) : Int32.ofInt x + Int32.ofInt y = Int32.ofInt (x + y) := (Int32.ofInt_add x y).symm
theorem i_sub (x y : Int) : Int32.ofInt x - Int32.ofInt y = Int32.ofInt (x - y) := (Int32.ofInt_sub x y).symm
theorem i_mul (x y : Int) : Int32.ofInt x * Int32.ofInt y = Int32.ofInt (x * y) := (Int32.ofInt_mul x y).symm
theorem i_neg (x : Int) : -Int32.ofInt x = Int32.ofInt (-x) := (Int32.ofInt_neg x).symm
theorem l_add (x y : Int) : Int64.ofInt x + Int64.ofInt y = Int64.ofInt (x + y) := (Int64.ofInt_add x y).symm
theorem l_sub (x y : Int) : Int64.ofInt x - Int64.ofInt y = Int64.ofInt (x - y) := (Int64.ofInt_sub x y).symm
theorem l_mul (x y : Int) : Int64.ofInt x * Int64.ofInt y = Int64.ofInt (x * y) := (Int64.ofInt_mul x y).symm
theorem tdiv_rng {x y : Int} (hx : inR x) (hy : y ≠ 0) (hy1 : y ≠ -1) : inR (x.tdiv y) := by
  have h := Int.natAbs_tdiv x y
  have h2 : (x.natAbs / y.natAbs) ≤ x.natAbs := Nat.div_le_self _ _
  have h4 : (x.tdiv y).natAbs ≤ x.natAbs := by rw [h]; exact h2
  by_cases hm : x = -2147483648
  · by_cases h7 : y = 1
    · subst h7
      rw [Int.tdiv_one]
      exact hx
    · have h3 : 2 ≤ y.natAbs := by omega
      have h5 : x.natAbs / y.natAbs ≤ 2147483648 / 2 := by
        subst hm
        exact Nat.div_le_div_left h3 (by omega)
      have h6 : (x.tdiv y).natAbs ≤ 2147483648 / 2 := by rw [h]; exact h5
      omega
  · omega
theorem i_div {x y : Int} (hx : inR x) (hy : inR y) (h0 : y ≠ 0) (h1 : y ≠ -1) : Int32.ofInt x / Int32.ofInt y = Int32.ofInt (x.tdiv y) := by
  rw [← Int32.toInt_inj, Int32.toInt_div, i_to hx, i_to hy, i_to (tdiv_rng hx h0 h1)]
  have h := tdiv_rng hx h0 h1
  exact Int.bmod_eq_of_le (by omega) (by omega)
theorem i_rem {x y : Int} (hx : inR x) (hy : inR y) (h0 : y ≠ 0) (h1 : y ≠ -1) : Int32.ofInt x - Int32.ofInt x / Int32.ofInt y * Int32.ofInt y = Int32.ofInt (x.tmod y) := by
  rw [i_div hx hy h0 h1, i_mul, i_sub]
  congr 1
  have := Int.tmod_add_mul_tdiv x y
  rw [Int.mul_comm] at this
  omega
theorem tdivL_rng {x y : Int} (hx : 0 ≤ x) (hx2 : inL x) (hy : 0 < y) : inL (x.tdiv y) ∧ 0 ≤ x.tdiv y := by
  rw [Int.tdiv_eq_ediv_of_nonneg hx]
  have h1 := Int.ediv_nonneg hx (Int.le_of_lt hy)
  have h2 := Int.ediv_le_self y hx
  omega
theorem l_div {x y : Int} (h0 : 0 ≤ x) (hx : inL x) (hy : inL y) (h1 : 0 < y) : Int64.ofInt x / Int64.ofInt y = Int64.ofInt (x.tdiv y) := by
  have h := (tdivL_rng h0 hx h1).1
  rw [← Int64.toInt_inj, Int64.toInt_div, l_to hx, l_to hy, l_to h]
  exact Int.bmod_eq_of_le (by omega) (by omega)
theorem l_rem {x y : Int} (h0 : 0 ≤ x) (hx : inL x) (hy : inL y) (h1 : 0 < y) : Int64.ofInt x - Int64.ofInt x / Int64.ofInt y * Int64.ofInt y = Int64.ofInt (x.tmod y) := by
  rw [l_div h0 hx hy h1, l_mul, l_sub]
  congr 1
  have := Int.tmod_add_mul_tdiv x y
  rw [Int.mul_comm] at this
  omega
theorem i_l {z : Int} (h : inR z) : (Int32.ofInt z).toInt64 = Int64.ofInt z := by
  rw [← Int64.toInt_inj, Int32.toInt_toInt64, i_to h, l_to (by omega)]
theorem l_i (z : Int) : (Int64.ofInt z).toInt32 = Int32.ofInt z := by
  rw [← Int32.toInt_inj, Int64.toInt_toInt32, Int64.toInt_ofInt, Int32.toInt_ofInt]
  exact Int.bmod_bmod_of_dvd (by decide)
def andI (x y : Int) : Int := (Int32.ofInt x &&& Int32.ofInt y).toInt
def xorI (x y : Int) : Int := (Int32.ofInt x ^^^ Int32.ofInt y).toInt
def shrI (x y : Int) : Int := (Int32.ofInt x >>> (Int32.ofInt y &&& 31)).toInt
def shlI (x y : Int) : Int := (Int32.ofInt x <<< (Int32.ofInt y &&& 31)).toInt
def andL (x y : Int) : Int := (Int64.ofInt x &&& Int64.ofInt y).toInt
def shlL (x y : Int) : Int := (Int64.ofInt x <<< ((Int32.ofInt y).toInt64 &&& 63)).toInt
def cmpL (x y : Int) : Int := if x < y then -1 else if x = y then 0 else 1
/-! ===== one row an instruction ===== -/
section Rules1
variable {d : Md} {pc : Nat} {L : Lo} {S : List V} {K : List Kd} {M : Mm} {P : Pm} {k n : Nat} {Φ : Ps}

theorem ev_iconst {i : Int} (hd : decode (dc d) pc = .ok (.iconst i, 1)) (kk : Ev d (pc + 1) L (vI i :: S) K M P k n Φ) : Ev d pc L S K M P k n Φ := by
  intro p l e s m args below meth c g Q F E X R H locs ls hH hS hl
  exact lv_iconst F.1 F.2.1 hd rfl (kk p l e s m args below meth c g Q F E X R H locs ls hH hS hl)

theorem ev_bipush {i : Int} (hd : decode (dc d) pc = .ok (.bipush i, 2)) (kk : Ev d (pc + 2) L (vI i :: S) K M P k n Φ) (hv : (Int8.ofInt i).toInt32 = Int32.ofInt i := by decide) : Ev d pc L S K M P k n Φ := by
  intro p l e s m args below meth c g Q F E X R H locs ls hH hS hl
  exact lv_bipush F.1 F.2.1 hd hv (kk p l e s m args below meth c g Q F E X R H locs ls hH hS hl)

theorem ev_sipush {i : Int} (hd : decode (dc d) pc = .ok (.sipush i, 3)) (kk : Ev d (pc + 3) L (vI i :: S) K M P k n Φ) (hv : (Int16.ofInt i).toInt32 = Int32.ofInt i := by decide) : Ev d pc L S K M P k n Φ := by
  intro p l e s m args below meth c g Q F E X R H locs ls hH hS hl
  exact lv_sipush F.1 F.2.1 hd hv (kk p l e s m args below meth c g Q F E X R H locs ls hH hS hl)

theorem ev_lconst {i : Fin 2} {z : Int} (hd : decode (dc d) pc = .ok (.lconst i, 1)) (kk : Ev d (pc + 1) L (vL z :: S) K M P k n Φ) (hv : Int64.ofNat (i : Nat) = Int64.ofInt z := by decide) : Ev d pc L S K M P k n Φ := by
  intro p l e s m args below meth c g Q F E X R H locs ls hH hS hl
  exact lv_lconst F.1 F.2.1 hd hv (kk p l e s m args below meth c g Q F E X R H locs ls hH hS hl)

theorem ev_ldc {i : Nat} {v : Int32} {z : Int} (hd : decode (dc d) pc = .ok (.ldc i, 2)) (hw : Cond.constant (dy d).cls i v ∈ WSg) (hv : v = Int32.ofInt z) (kk : Ev d (pc + 2) L (vI z :: S) K M P k n Φ) : Ev d pc L S K M P k n Φ := by
  intro p l e s m args below meth c g Q F E X R H locs ls hH hS hl
  subst hv
  exact lv_ldc F.1 F.2.1 F.2.2.2.2.1 (F.2.2.2.2.2.1 _ hw) hd (kk p l e s m args below meth c g Q F E X R H locs ls hH hS hl)

theorem ev_ldcw {i : Nat} {v : Int32} {z : Int} (hd : decode (dc d) pc = .ok (.ldc_w i, 3)) (hw : Cond.constant (dy d).cls i v ∈ WSg) (hv : v = Int32.ofInt z) (kk : Ev d (pc + 3) L (vI z :: S) K M P k n Φ) : Ev d pc L S K M P k n Φ := by
  intro p l e s m args below meth c g Q F E X R H locs ls hH hS hl
  subst hv
  exact lv_ldcw F.1 F.2.1 F.2.2.2.2.1 (F.2.2.2.2.2.1 _ hw) hd (kk p l e s m args below meth c g Q F E X R H locs ls hH hS hl)

theorem ev_ldc2 {i : Nat} {v : Int64} {z : Int} (hd : decode (dc d) pc = .ok (.ldc2_w i, 3)) (hw : Cond.constantLong (dy d).cls i v ∈ WSg) (hv : v = Int64.ofInt z) (kk : Ev d (pc + 3) L (vL z :: S) K M P k n Φ) : Ev d pc L S K M P k n Φ := by
  intro p l e s m args below meth c g Q F E X R H locs ls hH hS hl
  subst hv
  exact lv_ldc2 F.1 F.2.1 F.2.2.2.2.1 (F.2.2.2.2.2.1 _ hw) hd (kk p l e s m args below meth c g Q F E X R H locs ls hH hS hl)

theorem ev_iload_n {j : Fin 4} {z : Int} (hd : decode (dc d) pc = .ok (.iload_n j, 1)) (hi : L[(j : Nat)]? = some (some (vI z))) (kk : Ev d (pc + 1) L (vI z :: S) K M P k n Φ) : Ev d pc L S K M P k n Φ := by
  intro p l e s m args below meth c g Q F E X R H locs ls hH hS hl
  exact lv_iload_n F.1 F.2.1 hd rfl (lh_at hl hi) (kk p l e s m args below meth c g Q F E X R H locs ls hH hS hl)

theorem ev_iload {j : Nat} {z : Int} (hd : decode (dc d) pc = .ok (.iload j, 2)) (hi : L[j]? = some (some (vI z))) (kk : Ev d (pc + 2) L (vI z :: S) K M P k n Φ) : Ev d pc L S K M P k n Φ := by
  intro p l e s m args below meth c g Q F E X R H locs ls hH hS hl
  exact lv_iload F.1 F.2.1 hd (lh_at hl hi) (kk p l e s m args below meth c g Q F E X R H locs ls hH hS hl)

theorem ev_lload_n {j : Fin 4} {z : Int} (hd : decode (dc d) pc = .ok (.lload_n j, 1)) (hi : L[(j : Nat)]? = some (some (vL z))) (kk : Ev d (pc + 1) L (vL z :: S) K M P k n Φ) : Ev d pc L S K M P k n Φ := by
  intro p l e s m args below meth c g Q F E X R H locs ls hH hS hl
  exact lv_lload_n F.1 F.2.1 hd rfl (lh_at hl hi) (kk p l e s m args below meth c g Q F E X R H locs ls hH hS hl)

theorem ev_lload {j : Nat} {z : Int} (hd : decode (dc d) pc = .ok (.lload j, 2)) (hi : L[j]? = some (some (vL z))) (kk : Ev d (pc + 2) L (vL z :: S) K M P k n Φ) : Ev d pc L S K M P k n Φ := by
  intro p l e s m args below meth c g Q F E X R H locs ls hH hS hl
  exact lv_lload F.1 F.2.1 hd (lh_at hl hi) (kk p l e s m args below meth c g Q F E X R H locs ls hH hS hl)

theorem ev_aload_n {j : Fin 4} {x : Nat} (hd : decode (dc d) pc = .ok (.aload_n j, 1)) (hi : L[(j : Nat)]? = some (some (vR x))) (kk : Ev d (pc + 1) L (vR x :: S) K M P k n Φ) : Ev d pc L S K M P k n Φ := by
  intro p l e s m args below meth c g Q F E X R H locs ls hH hS hl
  exact lv_aload_n F.1 F.2.1 hd rfl (lh_at hl hi) (kk p l e s m args below meth c g Q F E X R H locs ls hH hS hl)

theorem ev_aload {j : Nat} {x : Nat} (hd : decode (dc d) pc = .ok (.aload j, 2)) (hi : L[j]? = some (some (vR x))) (kk : Ev d (pc + 2) L (vR x :: S) K M P k n Φ) : Ev d pc L S K M P k n Φ := by
  intro p l e s m args below meth c g Q F E X R H locs ls hH hS hl
  exact lv_aload F.1 F.2.1 hd (lh_at hl hi) (kk p l e s m args below meth c g Q F E X R H locs ls hH hS hl)

theorem ev_aloadX_n {j : Fin 4} {x : Nat} (hd : decode (dc d) pc = .ok (.aload_n j, 1)) (hi : L[(j : Nat)]? = some (some (vX x))) (kk : Ev d (pc + 1) L (vX x :: S) K M P k n Φ) : Ev d pc L S K M P k n Φ := by
  intro p l e s m args below meth c g Q F E X R H locs ls hH hS hl
  have h1 := lh_at hl hi
  have h2 := kk p l e s m args below meth c g Q F E X R H locs ls hH hS hl
  simp only [List.map_cons, cv] at h1 h2
  cases hg : gx g x with
  | none => rw [hg] at h1 h2; exact lv_aload_nN F.1 F.2.1 hd rfl h1 h2
  | some a => rw [hg] at h1 h2; exact lv_aload_n F.1 F.2.1 hd rfl h1 h2

theorem ev_aloadX {j : Nat} {x : Nat} (hd : decode (dc d) pc = .ok (.aload j, 2)) (hi : L[j]? = some (some (vX x))) (kk : Ev d (pc + 2) L (vX x :: S) K M P k n Φ) : Ev d pc L S K M P k n Φ := by
  intro p l e s m args below meth c g Q F E X R H locs ls hH hS hl
  have h1 := lh_at hl hi
  have h2 := kk p l e s m args below meth c g Q F E X R H locs ls hH hS hl
  simp only [List.map_cons, cv] at h1 h2
  cases hg : gx g x with
  | none => rw [hg] at h1 h2; exact lv_aloadN F.1 F.2.1 hd h1 h2
  | some a => rw [hg] at h1 h2; exact lv_aload F.1 F.2.1 hd h1 h2

theorem ev_istore_n {j : Fin 4} {z : Int} (hd : decode (dc d) pc = .ok (.istore_n j, 1)) (hn : (j : Nat) < dn d) (kk : Ev d (pc + 1) (lset (j : Nat) (vI z) L) S K M P k n Φ) : Ev d pc L (vI z :: S) K M P k n Φ := by
  intro p l e s m args below meth c g Q F E X R H locs ls hH hS hl
  exact lv_istore_n F.1 F.2.1 hd rfl hl hn rfl (fun ls' h' => (kk p l e s m args below meth c g Q F E X R H locs ls' hH hS ⟨h'.1, h'.2.1, fun q hq => h'.2.2 q (lset_mem hq)⟩))

theorem ev_istore {j : Nat} {z : Int} (hd : decode (dc d) pc = .ok (.istore j, 2)) (hn : j < dn d) (kk : Ev d (pc + 2) (lset j (vI z) L) S K M P k n Φ) : Ev d pc L (vI z :: S) K M P k n Φ := by
  intro p l e s m args below meth c g Q F E X R H locs ls hH hS hl
  exact lv_istore F.1 F.2.1 hd hl hn rfl (fun ls' h' => (kk p l e s m args below meth c g Q F E X R H locs ls' hH hS ⟨h'.1, h'.2.1, fun q hq => h'.2.2 q (lset_mem hq)⟩))

theorem ev_astore_n {j : Fin 4} {x : Nat} (hd : decode (dc d) pc = .ok (.astore_n j, 1)) (hn : (j : Nat) < dn d) (kk : Ev d (pc + 1) (lset (j : Nat) (vR x) L) S K M P k n Φ) : Ev d pc L (vR x :: S) K M P k n Φ := by
  intro p l e s m args below meth c g Q F E X R H locs ls hH hS hl
  exact lv_astore_n F.1 F.2.1 hd rfl hl hn rfl (fun ls' h' => (kk p l e s m args below meth c g Q F E X R H locs ls' hH hS ⟨h'.1, h'.2.1, fun q hq => h'.2.2 q (lset_mem hq)⟩))

theorem ev_astore {j : Nat} {x : Nat} (hd : decode (dc d) pc = .ok (.astore j, 2)) (hn : j < dn d) (kk : Ev d (pc + 2) (lset j (vR x) L) S K M P k n Φ) : Ev d pc L (vR x :: S) K M P k n Φ := by
  intro p l e s m args below meth c g Q F E X R H locs ls hH hS hl
  exact lv_astore F.1 F.2.1 hd hl hn rfl (fun ls' h' => (kk p l e s m args below meth c g Q F E X R H locs ls' hH hS ⟨h'.1, h'.2.1, fun q hq => h'.2.2 q (lset_mem hq)⟩))

theorem ev_lstore_n {j : Fin 4} {z : Int} (hd : decode (dc d) pc = .ok (.lstore_n j, 1)) (hn : (j : Nat) + 1 < dn d) (kk : Ev d (pc + 1) (lset2 (j : Nat) (vL z) L) S K M P k n Φ) : Ev d pc L (vL z :: S) K M P k n Φ := by
  intro p l e s m args below meth c g Q F E X R H locs ls hH hS hl
  exact lv_lstore_n F.1 F.2.1 hd rfl hl hn rfl (fun ls' h' => (kk p l e s m args below meth c g Q F E X R H locs ls' hH hS ⟨h'.1, h'.2.1, fun q hq => h'.2.2 q (lset2_mem hq)⟩))

theorem ev_lstore {j : Nat} {z : Int} (hd : decode (dc d) pc = .ok (.lstore j, 2)) (hn : j + 1 < dn d) (kk : Ev d (pc + 2) (lset2 j (vL z) L) S K M P k n Φ) : Ev d pc L (vL z :: S) K M P k n Φ := by
  intro p l e s m args below meth c g Q F E X R H locs ls hH hS hl
  exact lv_lstore F.1 F.2.1 hd hl hn rfl (fun ls' h' => (kk p l e s m args below meth c g Q F E X R H locs ls' hH hS ⟨h'.1, h'.2.1, fun q hq => h'.2.2 q (lset2_mem hq)⟩))

theorem ev_astoreX {j : Nat} {x : Nat} (hd : decode (dc d) pc = .ok (.astore_n ⟨j % 4, by omega⟩, 1)) (hj : j < 4) (hn : j < dn d) (kk : Ev d (pc + 1) (lset j (vX x) L) S K M P k n Φ) : Ev d pc L (vX x :: S) K M P k n Φ := by
  intro p l e s m args below meth c g Q F E X R H locs ls hH hS hl
  have hj' : ((⟨j % 4, by omega⟩ : Fin 4) : Nat) = j := Nat.mod_eq_of_lt hj
  show W p l e (dR d) s m args below meth c H locs k n Q (F0 m pc ls (va_rf (gx g x) :: S.map (cv g)))
  cases hg : gx g x with
  | none => exact lv_astore_nN F.1 F.2.1 hd hj' hl hn rfl (fun ls' h' => (kk p l e s m args below meth c g Q F E X R H locs ls' hH hS ⟨h'.1, h'.2.1, fun q hq => h'.2.2 q (by have := lset_mem hq; simpa only [cv, hg, va_rf] using this)⟩))
  | some a => exact lv_astore_n F.1 F.2.1 hd hj' hl hn rfl (fun ls' h' => (kk p l e s m args below meth c g Q F E X R H locs ls' hH hS ⟨h'.1, h'.2.1, fun q hq => h'.2.2 q (by have := lset_mem hq; simpa only [cv, hg, va_rf] using this)⟩))

theorem lvs_idx {g : Gv} {L : Lo} {i : Nat} {v : V} (h : L[i]? = some (some v)) : ∃ k : Nat, (lvs g 0 L)[k]? = some (i, cv g v) := by
  have := (lvs_mem (g := g) L 0 (i, cv g v)).mpr ⟨i, v, h, by rw [Nat.zero_add]⟩
  exact List.mem_iff_getElem?.mp this

theorem ev_iinc {j : Nat} {i z : Int} (hd : decode (dc d) pc = .ok (.iinc j i, 3)) (hi : L[j]? = some (some (vI z))) (hn : j < dn d) (kk : Ev d (pc + 3) (lset j (vI (z + i)) L) S K M P k n Φ) : Ev d pc L S K M P k n Φ := by
  intro p l e s m args below meth c g Q F E X R H locs ls hH hS hl
  obtain ⟨q, hq⟩ := lvs_idx (g := g) hi
  exact lv_iinc F.1 F.2.1 hd hl hq (i_add z i) hn rfl (fun ls' h' => (kk p l e s m args below meth c g Q F E X R H locs ls' hH hS ⟨h'.1, h'.2.1, fun q hq => h'.2.2 q (lset_mem hq)⟩))

theorem ev_iincW {j : Nat} {i z : Int} (hd : decode (dc d) pc = .ok (.iinc j i, 6)) (hi : L[j]? = some (some (vI z))) (hn : j < dn d) (kk : Ev d (pc + 6) (lset j (vI (z + i)) L) S K M P k n Φ) : Ev d pc L S K M P k n Φ := by
  intro p l e s m args below meth c g Q F E X R H locs ls hH hS hl
  obtain ⟨q, hq⟩ := lvs_idx (g := g) hi
  exact lv_iincW F.1 F.2.1 hd hl hq (i_add z i) hn rfl (fun ls' h' => (kk p l e s m args below meth c g Q F E X R H locs ls' hH hS ⟨h'.1, h'.2.1, fun q hq => h'.2.2 q (lset_mem hq)⟩))

theorem ev_iadd {x y : Int} (hd : decode (dc d) pc = .ok (.iadd, 1)) (kk : Ev d (pc + 1) L (vI (x + y) :: S) K M P k n Φ) : Ev d pc L (vI y :: vI x :: S) K M P k n Φ := by
  intro p l e s m args below meth c g Q F E X R H locs ls hH hS hl
  refine lv_iadd F.1 F.2.1 hd ?_
  rw [i_add]
  exact kk p l e s m args below meth c g Q F E X R H locs ls hH hS hl

theorem ev_isub {x y : Int} (hd : decode (dc d) pc = .ok (.isub, 1)) (kk : Ev d (pc + 1) L (vI (x - y) :: S) K M P k n Φ) : Ev d pc L (vI y :: vI x :: S) K M P k n Φ := by
  intro p l e s m args below meth c g Q F E X R H locs ls hH hS hl
  refine lv_isub F.1 F.2.1 hd ?_
  rw [i_sub]
  exact kk p l e s m args below meth c g Q F E X R H locs ls hH hS hl

theorem ev_imul {x y : Int} (hd : decode (dc d) pc = .ok (.imul, 1)) (kk : Ev d (pc + 1) L (vI (x * y) :: S) K M P k n Φ) : Ev d pc L (vI y :: vI x :: S) K M P k n Φ := by
  intro p l e s m args below meth c g Q F E X R H locs ls hH hS hl
  refine lv_imul F.1 F.2.1 hd ?_
  rw [i_mul]
  exact kk p l e s m args below meth c g Q F E X R H locs ls hH hS hl

theorem ev_ladd {x y : Int} (hd : decode (dc d) pc = .ok (.ladd, 1)) (kk : Ev d (pc + 1) L (vL (x + y) :: S) K M P k n Φ) : Ev d pc L (vL y :: vL x :: S) K M P k n Φ := by
  intro p l e s m args below meth c g Q F E X R H locs ls hH hS hl
  refine lv_ladd F.1 F.2.1 hd ?_
  rw [l_add]
  exact kk p l e s m args below meth c g Q F E X R H locs ls hH hS hl

theorem ev_lsub {x y : Int} (hd : decode (dc d) pc = .ok (.lsub, 1)) (kk : Ev d (pc + 1) L (vL (x - y) :: S) K M P k n Φ) : Ev d pc L (vL y :: vL x :: S) K M P k n Φ := by
  intro p l e s m args below meth c g Q F E X R H locs ls hH hS hl
  refine lv_lsub F.1 F.2.1 hd ?_
  rw [l_sub]
  exact kk p l e s m args below meth c g Q F E X R H locs ls hH hS hl

theorem ev_lmul {x y : Int} (hd : decode (dc d) pc = .ok (.lmul, 1)) (kk : Ev d (pc + 1) L (vL (x * y) :: S) K M P k n Φ) : Ev d pc L (vL y :: vL x :: S) K M P k n Φ := by
  intro p l e s m args below meth c g Q F E X R H locs ls hH hS hl
  refine lv_lmul F.1 F.2.1 hd ?_
  rw [l_mul]
  exact kk p l e s m args below meth c g Q F E X R H locs ls hH hS hl

theorem ev_ineg {x : Int} (hd : decode (dc d) pc = .ok (.ineg, 1)) (kk : Ev d (pc + 1) L (vI (-x) :: S) K M P k n Φ) : Ev d pc L (vI x :: S) K M P k n Φ := by
  intro p l e s m args below meth c g Q F E X R H locs ls hH hS hl
  refine lv_ineg F.1 F.2.1 hd ?_
  rw [i_neg]
  exact kk p l e s m args below meth c g Q F E X R H locs ls hH hS hl

theorem ev_idiv {x y : Int} (hd : decode (dc d) pc = .ok (.idiv, 1)) (hx : inR x) (hy : inR y) (h0 : y ≠ 0) (h1 : y ≠ -1) (kk : Ev d (pc + 1) L (vI (x.tdiv y) :: S) K M P k n Φ) : Ev d pc L (vI y :: vI x :: S) K M P k n Φ := by
  intro p l e s m args below meth c g Q F E X R H locs ls hH hS hl
  refine lv_idiv F.1 F.2.1 hd (fun z => h0 ((i_eq hy (by omega)).mp z)) ?_
  rw [i_div hx hy h0 h1]
  exact kk p l e s m args below meth c g Q F E X R H locs ls hH hS hl

theorem ev_irem {x y : Int} (hd : decode (dc d) pc = .ok (.irem, 1)) (hx : inR x) (hy : inR y) (h0 : y ≠ 0) (h1 : y ≠ -1) (kk : Ev d (pc + 1) L (vI (x.tmod y) :: S) K M P k n Φ) : Ev d pc L (vI y :: vI x :: S) K M P k n Φ := by
  intro p l e s m args below meth c g Q F E X R H locs ls hH hS hl
  refine lv_irem F.1 F.2.1 hd (fun z => h0 ((i_eq hy (by omega)).mp z)) ?_
  rw [i_rem hx hy h0 h1]
  exact kk p l e s m args below meth c g Q F E X R H locs ls hH hS hl

theorem ev_ldiv {x y : Int} (hd : decode (dc d) pc = .ok (.ldiv, 1)) (hx0 : 0 ≤ x) (hx : inL x) (hy : inL y) (h1 : 0 < y) (kk : Ev d (pc + 1) L (vL (x.tdiv y) :: S) K M P k n Φ) : Ev d pc L (vL y :: vL x :: S) K M P k n Φ := by
  intro p l e s m args below meth c g Q F E X R H locs ls hH hS hl
  refine lv_ldiv F.1 F.2.1 hd (fun z => (Int.ne_of_gt h1) ((l_eq hy (by omega)).mp z)) ?_
  rw [l_div hx0 hx hy h1]
  exact kk p l e s m args below meth c g Q F E X R H locs ls hH hS hl

theorem ev_lrem {x y : Int} (hd : decode (dc d) pc = .ok (.lrem, 1)) (hx0 : 0 ≤ x) (hx : inL x) (hy : inL y) (h1 : 0 < y) (kk : Ev d (pc + 1) L (vL (x.tmod y) :: S) K M P k n Φ) : Ev d pc L (vL y :: vL x :: S) K M P k n Φ := by
  intro p l e s m args below meth c g Q F E X R H locs ls hH hS hl
  refine lv_lrem F.1 F.2.1 hd (fun z => (Int.ne_of_gt h1) ((l_eq hy (by omega)).mp z)) ?_
  rw [l_rem hx0 hx hy h1]
  exact kk p l e s m args below meth c g Q F E X R H locs ls hH hS hl

theorem ev_iand {x y : Int} (hd : decode (dc d) pc = .ok (.iand, 1)) (kk : Ev d (pc + 1) L (vI (andI x y) :: S) K M P k n Φ) : Ev d pc L (vI y :: vI x :: S) K M P k n Φ := by
  intro p l e s m args below meth c g Q F E X R H locs ls hH hS hl
  refine lv_iand F.1 F.2.1 hd ?_
  have h := kk p l e s m args below meth c g Q F E X R H locs ls hH hS hl
  simp only [List.map_cons, cv, andI, i_back] at h
  exact h

theorem ev_ixor {x y : Int} (hd : decode (dc d) pc = .ok (.ixor, 1)) (kk : Ev d (pc + 1) L (vI (xorI x y) :: S) K M P k n Φ) : Ev d pc L (vI y :: vI x :: S) K M P k n Φ := by
  intro p l e s m args below meth c g Q F E X R H locs ls hH hS hl
  refine lv_ixor F.1 F.2.1 hd ?_
  have h := kk p l e s m args below meth c g Q F E X R H locs ls hH hS hl
  simp only [List.map_cons, cv, xorI, i_back] at h
  exact h

theorem ev_ishr {x y : Int} (hd : decode (dc d) pc = .ok (.ishr, 1)) (kk : Ev d (pc + 1) L (vI (shrI x y) :: S) K M P k n Φ) : Ev d pc L (vI y :: vI x :: S) K M P k n Φ := by
  intro p l e s m args below meth c g Q F E X R H locs ls hH hS hl
  refine lv_ishr F.1 F.2.1 hd ?_
  have h := kk p l e s m args below meth c g Q F E X R H locs ls hH hS hl
  simp only [List.map_cons, cv, shrI, i_back] at h
  exact h

theorem ev_ishl {x y : Int} (hd : decode (dc d) pc = .ok (.ishl, 1)) (kk : Ev d (pc + 1) L (vI (shlI x y) :: S) K M P k n Φ) : Ev d pc L (vI y :: vI x :: S) K M P k n Φ := by
  intro p l e s m args below meth c g Q F E X R H locs ls hH hS hl
  refine lv_ishl F.1 F.2.1 hd ?_
  have h := kk p l e s m args below meth c g Q F E X R H locs ls hH hS hl
  simp only [List.map_cons, cv, shlI, i_back] at h
  exact h

theorem ev_land {x y : Int} (hd : decode (dc d) pc = .ok (.land, 1)) (kk : Ev d (pc + 1) L (vL (andL x y) :: S) K M P k n Φ) : Ev d pc L (vL y :: vL x :: S) K M P k n Φ := by
  intro p l e s m args below meth c g Q F E X R H locs ls hH hS hl
  refine lv_land F.1 F.2.1 hd ?_
  have h := kk p l e s m args below meth c g Q F E X R H locs ls hH hS hl
  simp only [List.map_cons, cv, andL, l_back] at h
  exact h

theorem ev_lshl {x y : Int} (hd : decode (dc d) pc = .ok (.lshl, 1)) (kk : Ev d (pc + 1) L (vL (shlL x y) :: S) K M P k n Φ) : Ev d pc L (vI y :: vL x :: S) K M P k n Φ := by
  intro p l e s m args below meth c g Q F E X R H locs ls hH hS hl
  refine lv_lshl F.1 F.2.1 hd rfl ?_
  have h := kk p l e s m args below meth c g Q F E X R H locs ls hH hS hl
  simp only [List.map_cons, cv, shlL, l_back] at h
  exact h

theorem ev_i2l {x : Int} (hd : decode (dc d) pc = .ok (.i2l, 1)) (hx : inR x) (kk : Ev d (pc + 1) L (vL x :: S) K M P k n Φ) : Ev d pc L (vI x :: S) K M P k n Φ := by
  intro p l e s m args below meth c g Q F E X R H locs ls hH hS hl
  exact lv_i2l F.1 F.2.1 hd (i_l hx) (kk p l e s m args below meth c g Q F E X R H locs ls hH hS hl)

theorem ev_l2i {x : Int} (hd : decode (dc d) pc = .ok (.l2i, 1)) (kk : Ev d (pc + 1) L (vI x :: S) K M P k n Φ) : Ev d pc L (vL x :: S) K M P k n Φ := by
  intro p l e s m args below meth c g Q F E X R H locs ls hH hS hl
  exact lv_l2i F.1 F.2.1 hd (l_i x) (kk p l e s m args below meth c g Q F E X R H locs ls hH hS hl)

theorem ev_i2c {x : Int} (hd : decode (dc d) pc = .ok (.i2c, 1)) (hx : 0 ≤ x) (hx2 : x < 65536) (kk : Ev d (pc + 1) L (vI x :: S) K M P k n Φ) : Ev d pc L (vI x :: S) K M P k n Φ := by
  intro p l e s m args below meth c g Q F E X R H locs ls hH hS hl
  have hz : ((Int32.ofInt x).toUInt32 % 65536).toInt32 = Int32.ofInt x := by
    have h1 : Int32.ofInt x = nI x.toNat := by
      rw [nI, ← Int32.toInt_inj, i_to (by omega)]
      have := nI_toInt (n := x.toNat) (by omega)
      rw [nI] at this
      rw [this]; omega
    rw [h1, pk_char, pk_tn (by omega), Nat.mod_eq_of_lt (by omega)]
  exact lv_i2c F.1 F.2.1 hd hz (kk p l e s m args below meth c g Q F E X R H locs ls hH hS hl)

theorem ev_lcmp {x y : Int} (hd : decode (dc d) pc = .ok (.lcmp, 1)) (hx : inL x) (hy : inL y) (kk : Ev d (pc + 1) L (vI (cmpL x y) :: S) K M P k n Φ) : Ev d pc L (vL y :: vL x :: S) K M P k n Φ := by
  intro p l e s m args below meth c g Q F E X R H locs ls hH hS hl
  refine W.lcmp F.1 F.2.1 hd ?_
  have h := kk p l e s m args below meth c g Q F E X R H locs ls hH hS hl
  have hz : lg_cmp (Int64.ofInt x) (Int64.ofInt y) = Int32.ofInt (cmpL x y) := by
    simp only [lg_cmp, cmpL, l_lt hx hy, l_lt hy hx, l_eq hx hy, l_eq hy hx]
    split <;> (try split) <;> (try split) <;> first | rfl | omega
  rw [hz]
  exact h

theorem ev_dup {v : V} (hd : decode (dc d) pc = .ok (.dup, 1)) (kk : Ev d (pc + 1) L (v :: v :: S) K M P k n Φ) (hv : ct v = 1 := by rfl) : Ev d pc L (v :: S) K M P k n Φ := by
  intro p l e s m args below meth c g Q F E X R H locs ls hH hS hl
  exact lv_dup F.1 F.2.1 hd (by rw [ct_cv]; exact hv) (kk p l e s m args below meth c g Q F E X R H locs ls hH hS hl)

theorem ev_pop {v : V} (hd : decode (dc d) pc = .ok (.pop, 1)) (kk : Ev d (pc + 1) L S K M P k n Φ) (hv : ct v = 1 := by rfl) : Ev d pc L (v :: S) K M P k n Φ := by
  intro p l e s m args below meth c g Q F E X R H locs ls hH hS hl
  exact lv_pop F.1 F.2.1 hd (by rw [ct_cv]; exact hv) (kk p l e s m args below meth c g Q F E X R H locs ls hH hS hl)

theorem ev_dup2 {v u : V} (hd : decode (dc d) pc = .ok (.dup2, 1)) (kk : Ev d (pc + 1) L (v :: u :: v :: u :: S) K M P k n Φ) (hv : ct v = 1 := by rfl) (hu : ct u = 1 := by rfl) : Ev d pc L (v :: u :: S) K M P k n Φ := by
  intro p l e s m args below meth c g Q F E X R H locs ls hH hS hl
  exact lv_dup2_11 F.1 F.2.1 hd (by rw [ct_cv]; exact hv) (by rw [ct_cv]; exact hu) (kk p l e s m args below meth c g Q F E X R H locs ls hH hS hl)

theorem ev_dup_x1 {v u : V} (hd : decode (dc d) pc = .ok (.dup_x1, 1)) (kk : Ev d (pc + 1) L (v :: u :: v :: S) K M P k n Φ) (hv : ct v = 1 := by rfl) (hu : ct u = 1 := by rfl) : Ev d pc L (v :: u :: S) K M P k n Φ := by
  intro p l e s m args below meth c g Q F E X R H locs ls hH hS hl
  exact lv_dup_x1 F.1 F.2.1 hd (by rw [ct_cv]; exact hv) (by rw [ct_cv]; exact hu) (kk p l e s m args below meth c g Q F E X R H locs ls hH hS hl)

theorem ev_goto {off : Int} {tgt : Nat} (hd : decode (dc d) pc = .ok (.goto off, 3)) (ht : (pc : Int) + off = (tgt : Int)) (kk : Ev d tgt L S K M P k n Φ) : Ev d pc L S K M P k n Φ := by
  intro p l e s m args below meth c g Q F E X R H locs ls hH hS hl
  exact lv_goto F.1 F.2.1 hd ht (kk p l e s m args below meth c g Q F E X R H locs ls hH hS hl)

theorem ev_icmp_eq {x y : Int} {off : Int} {tgt : Nat} (hd : decode (dc d) pc = .ok (.if_icmp .eq off, 3)) (ht : (pc : Int) + off = (tgt : Int)) (hx : inR x) (hy : inR y) (kt : x = y → Ev d tgt L S K M P k n Φ) (kf : x ≠ y → Ev d (pc + 3) L S K M P k n Φ) : Ev d pc L (vI y :: vI x :: S) K M P k n Φ := by
  intro p l e s m args below meth c g Q F E X R H locs ls hH hS hl
  exact lv_icmp_eq F.1 F.2.1 hd ht (fun h => kt ((i_eq hx hy).mp h) p l e s m args below meth c g Q F E X R H locs ls hH hS hl) (fun h => kf (by have h2 : ¬ (x = y) := fun z => h ((i_eq hx hy).mpr z); omega) p l e s m args below meth c g Q F E X R H locs ls hH hS hl)

theorem ev_icmp_lt {x y : Int} {off : Int} {tgt : Nat} (hd : decode (dc d) pc = .ok (.if_icmp .lt off, 3)) (ht : (pc : Int) + off = (tgt : Int)) (hx : inR x) (hy : inR y) (kt : x < y → Ev d tgt L S K M P k n Φ) (kf : y ≤ x → Ev d (pc + 3) L S K M P k n Φ) : Ev d pc L (vI y :: vI x :: S) K M P k n Φ := by
  intro p l e s m args below meth c g Q F E X R H locs ls hH hS hl
  exact lv_icmp_lt F.1 F.2.1 hd ht (fun h => kt ((i_lt hx hy).mp h) p l e s m args below meth c g Q F E X R H locs ls hH hS hl) (fun h => kf (by have h2 : ¬ (x < y) := fun z => h ((i_lt hx hy).mpr z); omega) p l e s m args below meth c g Q F E X R H locs ls hH hS hl)

theorem ev_icmp_ge {x y : Int} {off : Int} {tgt : Nat} (hd : decode (dc d) pc = .ok (.if_icmp .ge off, 3)) (ht : (pc : Int) + off = (tgt : Int)) (hx : inR x) (hy : inR y) (kt : y ≤ x → Ev d tgt L S K M P k n Φ) (kf : x < y → Ev d (pc + 3) L S K M P k n Φ) : Ev d pc L (vI y :: vI x :: S) K M P k n Φ := by
  intro p l e s m args below meth c g Q F E X R H locs ls hH hS hl
  exact lv_icmp_ge F.1 F.2.1 hd ht (fun h => kt ((i_le hy hx).mp h) p l e s m args below meth c g Q F E X R H locs ls hH hS hl) (fun h => kf (by have h2 : ¬ (y ≤ x) := fun z => h ((i_le hy hx).mpr z); omega) p l e s m args below meth c g Q F E X R H locs ls hH hS hl)

theorem ev_icmp_gt {x y : Int} {off : Int} {tgt : Nat} (hd : decode (dc d) pc = .ok (.if_icmp .gt off, 3)) (ht : (pc : Int) + off = (tgt : Int)) (hx : inR x) (hy : inR y) (kt : y < x → Ev d tgt L S K M P k n Φ) (kf : x ≤ y → Ev d (pc + 3) L S K M P k n Φ) : Ev d pc L (vI y :: vI x :: S) K M P k n Φ := by
  intro p l e s m args below meth c g Q F E X R H locs ls hH hS hl
  exact lv_icmp_gt F.1 F.2.1 hd ht (fun h => kt ((i_lt hy hx).mp h) p l e s m args below meth c g Q F E X R H locs ls hH hS hl) (fun h => kf (by have h2 : ¬ (y < x) := fun z => h ((i_lt hy hx).mpr z); omega) p l e s m args below meth c g Q F E X R H locs ls hH hS hl)

theorem ev_icmp_le {x y : Int} {off : Int} {tgt : Nat} (hd : decode (dc d) pc = .ok (.if_icmp .le off, 3)) (ht : (pc : Int) + off = (tgt : Int)) (hx : inR x) (hy : inR y) (kt : x ≤ y → Ev d tgt L S K M P k n Φ) (kf : y < x → Ev d (pc + 3) L S K M P k n Φ) : Ev d pc L (vI y :: vI x :: S) K M P k n Φ := by
  intro p l e s m args below meth c g Q F E X R H locs ls hH hS hl
  exact lv_icmp_le F.1 F.2.1 hd ht (fun h => kt ((i_le hx hy).mp h) p l e s m args below meth c g Q F E X R H locs ls hH hS hl) (fun h => kf (by have h2 : ¬ (x ≤ y) := fun z => h ((i_le hx hy).mpr z); omega) p l e s m args below meth c g Q F E X R H locs ls hH hS hl)

theorem ev_icmp_ne {x y : Int} {off : Int} {tgt : Nat} (hd : decode (dc d) pc = .ok (.if_icmp .ne off, 3)) (ht : (pc : Int) + off = (tgt : Int)) (hx : inR x) (hy : inR y) (kt : x ≠ y → Ev d tgt L S K M P k n Φ) (kf : x = y → Ev d (pc + 3) L S K M P k n Φ) : Ev d pc L (vI y :: vI x :: S) K M P k n Φ := by
  intro p l e s m args below meth c g Q F E X R H locs ls hH hS hl
  exact lv_icmp_ne F.1 F.2.1 hd ht (fun h => kt (fun z => h ((i_eq hx hy).mpr z)) p l e s m args below meth c g Q F E X R H locs ls hH hS hl) (fun h => kf ((i_eq hx hy).mp h) p l e s m args below meth c g Q F E X R H locs ls hH hS hl)

theorem ev_if_eq {x : Int} {off : Int} {tgt : Nat} (hd : decode (dc d) pc = .ok (.ifCond .eq off, 3)) (ht : (pc : Int) + off = (tgt : Int)) (hx : inR x) (kt : x = 0 → Ev d tgt L S K M P k n Φ) (kf : x ≠ 0 → Ev d (pc + 3) L S K M P k n Φ) : Ev d pc L (vI x :: S) K M P k n Φ := by
  intro p l e s m args below meth c g Q F E X R H locs ls hH hS hl
  have hy : inR 0 := by omega
  exact lv_if_eq F.1 F.2.1 hd ht (fun h => kt ((i_eq hx hy).mp h) p l e s m args below meth c g Q F E X R H locs ls hH hS hl) (fun h => kf (by have h2 : ¬ (x = 0) := fun z => h ((i_eq hx hy).mpr z); omega) p l e s m args below meth c g Q F E X R H locs ls hH hS hl)

theorem ev_if_lt {x : Int} {off : Int} {tgt : Nat} (hd : decode (dc d) pc = .ok (.ifCond .lt off, 3)) (ht : (pc : Int) + off = (tgt : Int)) (hx : inR x) (kt : x < 0 → Ev d tgt L S K M P k n Φ) (kf : 0 ≤ x → Ev d (pc + 3) L S K M P k n Φ) : Ev d pc L (vI x :: S) K M P k n Φ := by
  intro p l e s m args below meth c g Q F E X R H locs ls hH hS hl
  have hy : inR 0 := by omega
  exact lv_if_lt F.1 F.2.1 hd ht (fun h => kt ((i_lt hx hy).mp h) p l e s m args below meth c g Q F E X R H locs ls hH hS hl) (fun h => kf (by have h2 : ¬ (x < 0) := fun z => h ((i_lt hx hy).mpr z); omega) p l e s m args below meth c g Q F E X R H locs ls hH hS hl)

theorem ev_if_ge {x : Int} {off : Int} {tgt : Nat} (hd : decode (dc d) pc = .ok (.ifCond .ge off, 3)) (ht : (pc : Int) + off = (tgt : Int)) (hx : inR x) (kt : 0 ≤ x → Ev d tgt L S K M P k n Φ) (kf : x < 0 → Ev d (pc + 3) L S K M P k n Φ) : Ev d pc L (vI x :: S) K M P k n Φ := by
  intro p l e s m args below meth c g Q F E X R H locs ls hH hS hl
  have hy : inR 0 := by omega
  exact lv_if_ge F.1 F.2.1 hd ht (fun h => kt ((i_le hy hx).mp h) p l e s m args below meth c g Q F E X R H locs ls hH hS hl) (fun h => kf (by have h2 : ¬ (0 ≤ x) := fun z => h ((i_le hy hx).mpr z); omega) p l e s m args below meth c g Q F E X R H locs ls hH hS hl)

theorem ev_if_gt {x : Int} {off : Int} {tgt : Nat} (hd : decode (dc d) pc = .ok (.ifCond .gt off, 3)) (ht : (pc : Int) + off = (tgt : Int)) (hx : inR x) (kt : 0 < x → Ev d tgt L S K M P k n Φ) (kf : x ≤ 0 → Ev d (pc + 3) L S K M P k n Φ) : Ev d pc L (vI x :: S) K M P k n Φ := by
  intro p l e s m args below meth c g Q F E X R H locs ls hH hS hl
  have hy : inR 0 := by omega
  exact lv_if_gt F.1 F.2.1 hd ht (fun h => kt ((i_lt hy hx).mp h) p l e s m args below meth c g Q F E X R H locs ls hH hS hl) (fun h => kf (by have h2 : ¬ (0 < x) := fun z => h ((i_lt hy hx).mpr z); omega) p l e s m args below meth c g Q F E X R H locs ls hH hS hl)

theorem ev_if_le {x : Int} {off : Int} {tgt : Nat} (hd : decode (dc d) pc = .ok (.ifCond .le off, 3)) (ht : (pc : Int) + off = (tgt : Int)) (hx : inR x) (kt : x ≤ 0 → Ev d tgt L S K M P k n Φ) (kf : 0 < x → Ev d (pc + 3) L S K M P k n Φ) : Ev d pc L (vI x :: S) K M P k n Φ := by
  intro p l e s m args below meth c g Q F E X R H locs ls hH hS hl
  have hy : inR 0 := by omega
  exact lv_if_le F.1 F.2.1 hd ht (fun h => kt ((i_le hx hy).mp h) p l e s m args below meth c g Q F E X R H locs ls hH hS hl) (fun h => kf (by have h2 : ¬ (x ≤ 0) := fun z => h ((i_le hx hy).mpr z); omega) p l e s m args below meth c g Q F E X R H locs ls hH hS hl)

theorem ev_if_ne {x : Int} {off : Int} {tgt : Nat} (hd : decode (dc d) pc = .ok (.ifCond .ne off, 3)) (ht : (pc : Int) + off = (tgt : Int)) (hx : inR x) (kt : x ≠ 0 → Ev d tgt L S K M P k n Φ) (kf : x = 0 → Ev d (pc + 3) L S K M P k n Φ) : Ev d pc L (vI x :: S) K M P k n Φ := by
  intro p l e s m args below meth c g Q F E X R H locs ls hH hS hl
  have hy : inR 0 := by omega
  exact lv_if_ne F.1 F.2.1 hd ht (fun h => kt (fun z => h ((i_eq hx hy).mpr z)) p l e s m args below meth c g Q F E X R H locs ls hH hS hl) (fun h => kf ((i_eq hx hy).mp h) p l e s m args below meth c g Q F E X R H locs ls hH hS hl)

theorem ev_tableIn {dflt lo hi off x : Int} {offs : Array Int} {len tgt : Nat} (hd : decode (dc d) pc = .ok (.tableswitch dflt lo hi offs, len)) (hx : inR x) (h1 : lo ≤ x) (h2 : x ≤ hi) (ho : offs[(x - lo).toNat]? = some off) (ht : (pc : Int) + off = (tgt : Int)) (kk : Ev d tgt L S K M P k n Φ) : Ev d pc L (vI x :: S) K M P k n Φ := by
  intro p l e s m args below meth c g Q F E X R H locs ls hH hS hl
  exact lv_tableIn F.1 F.2.1 hd (by rw [i_to hx]; omega) (by rw [i_to hx]; omega) (by rw [i_to hx]; exact ho) ht (kk p l e s m args below meth c g Q F E X R H locs ls hH hS hl)

theorem ev_tableOut {dflt lo hi x : Int} {offs : Array Int} {len tgt : Nat} (hd : decode (dc d) pc = .ok (.tableswitch dflt lo hi offs, len)) (hx : inR x) (h1 : x < lo ∨ hi < x) (ht : (pc : Int) + dflt = (tgt : Int)) (kk : Ev d tgt L S K M P k n Φ) : Ev d pc L (vI x :: S) K M P k n Φ := by
  intro p l e s m args below meth c g Q F E X R H locs ls hH hS hl
  exact lv_tableOut F.1 F.2.1 hd (by rw [i_to hx]; exact h1) ht (kk p l e s m args below meth c g Q F E X R H locs ls hH hS hl)

theorem ev_lookup {dflt off x : Int} {ps : Array (Int × Int)} {len tgt : Nat} (hd : decode (dc d) pc = .ok (.lookupswitch dflt ps, len)) (hp : (ps.toList.zip (ps.toList.drop 1)).all (fun (a, next) => a.1 < next.1) = true) (hx : inR x) (ho : Op.lookupswitch.offset ps.toList dflt x = off) (ht : (pc : Int) + off = (tgt : Int)) (kk : Ev d tgt L S K M P k n Φ) : Ev d pc L (vI x :: S) K M P k n Φ := by
  intro p l e s m args below meth c g Q F E X R H locs ls hH hS hl
  exact lv_lookup F.1 F.2.1 hd hp (by rw [i_to hx]; exact ho) ht (kk p l e s m args below meth c g Q F E X R H locs ls hH hS hl)

theorem ev_loc {L' : Lo} (hs : ∀ (i : Nat) (v : V), L'[i]? = some (some v) → L[i]? = some (some v)) (kk : Ev d pc L' S K M P k n Φ) : Ev d pc L S K M P k n Φ := by
  intro p l e s m args below meth c g Q F E X R H locs ls hH hS hl
  exact kk p l e s m args below meth c g Q F E X R H locs ls hH hS (lh_sub hl hs)

theorem ev_ireturn {z : Int} (hd : decode (dc d) pc = .ok (.ireturn, 1)) (hz : okR d z) (hp : Φ (some (vI z)) K M P k n) : Ev d pc L [vI z] K M P k n Φ := by
  intro p l e s m args below meth c g Q F E X R H locs ls hH hS hl
  exact (R H locs ls pc K M P k n hH hS).1 z hp hz hd

theorem ev_lreturn {z : Int} (hd : decode (dc d) pc = .ok (.lreturn, 1)) (hz : dr d = some .long) (hp : Φ (some (vL z)) K M P k n) : Ev d pc L [vL z] K M P k n Φ := by
  intro p l e s m args below meth c g Q F E X R H locs ls hH hS hl
  exact (R H locs ls pc K M P k n hH hS).2.1 z hp hz hd

theorem ev_areturn {x : Nat} (hd : decode (dc d) pc = .ok (.areturn, 1)) (hz : dr d = some (.object "java/lang/String")) (hp : Φ (some (vX x)) K M P k n) : Ev d pc L [vX x] K M P k n Φ := by
  intro p l e s m args below meth c g Q F E X R H locs ls hH hS hl
  exact (R H locs ls pc K M P k n hH hS).2.2.1 x hp hz hd

theorem ev_return (hd : decode (dc d) pc = .ok (.return_, 1)) (hz : dr d = none) (hp : Φ none K M P k n) : Ev d pc L [] K M P k n Φ := by
  intro p l e s m args below meth c g Q F E X R H locs ls hH hS hl
  exact (R H locs ls pc K M P k n hH hS).2.2.2 hp hz hd

end Rules1
