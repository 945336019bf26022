/-! ===== the constructors (written by gen68.py) ===== -/
def Z0 : Mm := fun _ _ => 0
def P00 : Pm := fun _ _ => none
theorem fresh_0 (K : List Kd) : fresh K Z0 P00 := ⟨fun _ _ _ => ⟨rfl, rfl⟩, fun _ _ _ => rfl⟩
theorem get_app {K : List Kd} {c : Nat} {v kd : Kd} (h : K[c]? = some v) : (K ++ [kd])[c]? = some v := by
  rw [List.getElem?_append_left (List.getElem?_eq_some_iff.mp h).1]; exact h
theorem upM_Z0 (c : Nat) (i : Int) : upM Z0 c i 0 = Z0 := by
  funext q j
  unfold upM Z0
  split <;> rfl
theorem n_X0_init {K : List Kd} {P : Pm} {c : Nat} (hK : K[c]? = some (.inl 0)) (hf : fresh K Z0 P) : Cl mX0_init [vR c] K Z0 P (fun r K' M' P' => r = none ∧ K' = K ∧ M' = Z0 ∧ P' = P) := by
  have hcl : c < K.length := (List.getElem?_eq_some_iff.mp hK).1
  refine cl_of (by decide +kernel) (fun _ => trivial) (Nat.le_of_ble_eq_true rfl) ?_
  first | refine ev_aload_n dX0_init_0 rfl ?_ | refine ev_aloadX_n dX0_init_0 rfl ?_
  refine ev_objI dX0_init_1 (wsg_in 259 (by decide +kernel) (by decide +kernel)) (Nat.le_of_ble_eq_true rfl) (Nat.le_of_ble_eq_true rfl) (Nat.le_of_ble_eq_true rfl) ?_
  exact ev_return dX0_init_4 rfl ⟨⟨rfl, rfl, rfl, rfl⟩, Nat.le_of_ble_eq_true rfl, Nat.le_of_ble_eq_true rfl⟩
theorem n_X1_init {K : List Kd} {P : Pm} {c : Nat} (hK : K[c]? = some (.inl 1)) (hf : fresh K Z0 P) : Cl mX1_init [vR c] K Z0 P (fun r K' M' P' => r = none ∧ K' = (K ++ ([.inr (.inl 36)] : List Kd)) ∧ M' = Z0 ∧ P' = (upP P c 0 (some (K).length))) := by
  have hcl : c < K.length := (List.getElem?_eq_some_iff.mp hK).1
  refine cl_of (by decide +kernel) (fun _ => trivial) (Nat.le_of_ble_eq_true rfl) ?_
  first | refine ev_aload_n dX1_init_0 rfl ?_ | refine ev_aloadX_n dX1_init_0 rfl ?_
  refine ev_objI dX1_init_1 (wsg_in 104 (by decide +kernel) (by decide +kernel)) (Nat.le_of_ble_eq_true rfl) (Nat.le_of_ble_eq_true rfl) (Nat.le_of_ble_eq_true rfl) ?_
  first | refine ev_aload_n dX1_init_4 rfl ?_ | refine ev_aloadX_n dX1_init_4 rfl ?_
  refine ev_bipush dX1_init_5 ?_
  refine ev_newI (N := 36) dX1_init_7 (by decide) (by repeat (first | assumption | refine fresh.up ?_ (by first | assumption | (simp only [List.length_append, List.length_cons, List.length_nil]; omega)) (by decide) | refine fresh.app ?_ _)) (Nat.le_of_ble_eq_true rfl) (Nat.le_of_ble_eq_true rfl) ?_
  refine ev_putF dX1_init_9 sX1_9 rfl rfl (by repeat (first | exact hK | apply get_app)) ?_
  exact ev_return dX1_init_12 rfl ⟨⟨rfl, rfl, rfl, rfl⟩, Nat.le_of_ble_eq_true rfl, Nat.le_of_ble_eq_true rfl⟩
theorem n_X2_init {K : List Kd} {P : Pm} {c : Nat} (hK : K[c]? = some (.inl 2)) (hf : fresh K Z0 P) : Cl mX2_init [vR c] K Z0 P (fun r K' M' P' => r = none ∧ K' = ((K ++ ([.inr (.inl 15)] : List Kd)) ++ ([.inr (.inl 5)] : List Kd)) ∧ M' = Z0 ∧ P' = (upP (upP P c 0 (some (K).length)) c 1 (some ((K ++ ([.inr (.inl 15)] : List Kd))).length))) := by
  have hcl : c < K.length := (List.getElem?_eq_some_iff.mp hK).1
  refine cl_of (by decide +kernel) (fun _ => trivial) (Nat.le_of_ble_eq_true rfl) ?_
  first | refine ev_aload_n dX2_init_0 rfl ?_ | refine ev_aloadX_n dX2_init_0 rfl ?_
  refine ev_objI dX2_init_1 (wsg_in 228 (by decide +kernel) (by decide +kernel)) (Nat.le_of_ble_eq_true rfl) (Nat.le_of_ble_eq_true rfl) (Nat.le_of_ble_eq_true rfl) ?_
  first | refine ev_aload_n dX2_init_4 rfl ?_ | refine ev_aloadX_n dX2_init_4 rfl ?_
  refine ev_bipush dX2_init_5 ?_
  refine ev_newI (N := 15) dX2_init_7 (by decide) (by repeat (first | assumption | refine fresh.up ?_ (by first | assumption | (simp only [List.length_append, List.length_cons, List.length_nil]; omega)) (by decide) | refine fresh.app ?_ _)) (Nat.le_of_ble_eq_true rfl) (Nat.le_of_ble_eq_true rfl) ?_
  refine ev_putF dX2_init_9 sX2_9 rfl rfl (by repeat (first | exact hK | apply get_app)) ?_
  first | refine ev_aload_n dX2_init_12 rfl ?_ | refine ev_aloadX_n dX2_init_12 rfl ?_
  refine ev_iconst dX2_init_13 ?_
  refine ev_newI (N := 5) dX2_init_14 (by decide) (by repeat (first | assumption | refine fresh.up ?_ (by first | assumption | (simp only [List.length_append, List.length_cons, List.length_nil]; omega)) (by decide) | refine fresh.app ?_ _)) (Nat.le_of_ble_eq_true rfl) (Nat.le_of_ble_eq_true rfl) ?_
  refine ev_putF dX2_init_16 sX2_15 rfl rfl (by repeat (first | exact hK | apply get_app)) ?_
  exact ev_return dX2_init_19 rfl ⟨⟨rfl, rfl, rfl, rfl⟩, Nat.le_of_ble_eq_true rfl, Nat.le_of_ble_eq_true rfl⟩
theorem n_X5_init {K : List Kd} {P : Pm} {c : Nat} (hK : K[c]? = some (.inl 5)) (hf : fresh K Z0 P) : Cl mX5_init [vR c] K Z0 P (fun r K' M' P' => r = none ∧ K' = ((K ++ ([.inr (.inl 6)] : List Kd)) ++ ([.inr (.inl 6)] : List Kd)) ∧ M' = Z0 ∧ P' = (upP (upP P c 0 (some (K).length)) c 1 (some ((K ++ ([.inr (.inl 6)] : List Kd))).length))) := by
  have hcl : c < K.length := (List.getElem?_eq_some_iff.mp hK).1
  refine cl_of (by decide +kernel) (fun _ => trivial) (Nat.le_of_ble_eq_true rfl) ?_
  first | refine ev_aload_n dX5_init_0 rfl ?_ | refine ev_aloadX_n dX5_init_0 rfl ?_
  refine ev_objI dX5_init_1 (wsg_in 242 (by decide +kernel) (by decide +kernel)) (Nat.le_of_ble_eq_true rfl) (Nat.le_of_ble_eq_true rfl) (Nat.le_of_ble_eq_true rfl) ?_
  first | refine ev_aload_n dX5_init_4 rfl ?_ | refine ev_aloadX_n dX5_init_4 rfl ?_
  refine ev_bipush dX5_init_5 ?_
  refine ev_newI (N := 6) dX5_init_7 (by decide) (by repeat (first | assumption | refine fresh.up ?_ (by first | assumption | (simp only [List.length_append, List.length_cons, List.length_nil]; omega)) (by decide) | refine fresh.app ?_ _)) (Nat.le_of_ble_eq_true rfl) (Nat.le_of_ble_eq_true rfl) ?_
  refine ev_putF dX5_init_9 sX5_9 rfl rfl (by repeat (first | exact hK | apply get_app)) ?_
  first | refine ev_aload_n dX5_init_12 rfl ?_ | refine ev_aloadX_n dX5_init_12 rfl ?_
  refine ev_bipush dX5_init_13 ?_
  refine ev_newI (N := 6) dX5_init_15 (by decide) (by repeat (first | assumption | refine fresh.up ?_ (by first | assumption | (simp only [List.length_append, List.length_cons, List.length_nil]; omega)) (by decide) | refine fresh.app ?_ _)) (Nat.le_of_ble_eq_true rfl) (Nat.le_of_ble_eq_true rfl) ?_
  refine ev_putF dX5_init_17 sX5_15 rfl rfl (by repeat (first | exact hK | apply get_app)) ?_
  exact ev_return dX5_init_20 rfl ⟨⟨rfl, rfl, rfl, rfl⟩, Nat.le_of_ble_eq_true rfl, Nat.le_of_ble_eq_true rfl⟩
theorem n_X6_init {K : List Kd} {P : Pm} {c : Nat} (hK : K[c]? = some (.inl 6)) (hf : fresh K Z0 P) : Cl mX6_init [vR c] K Z0 P (fun r K' M' P' => r = none ∧ K' = (K ++ ([.inr (.inl 36)] : List Kd)) ∧ M' = Z0 ∧ P' = (upP P c 0 (some (K).length))) := by
  have hcl : c < K.length := (List.getElem?_eq_some_iff.mp hK).1
  refine cl_of (by decide +kernel) (fun _ => trivial) (Nat.le_of_ble_eq_true rfl) ?_
  first | refine ev_aload_n dX6_init_0 rfl ?_ | refine ev_aloadX_n dX6_init_0 rfl ?_
  refine ev_objI dX6_init_1 (wsg_in 192 (by decide +kernel) (by decide +kernel)) (Nat.le_of_ble_eq_true rfl) (Nat.le_of_ble_eq_true rfl) (Nat.le_of_ble_eq_true rfl) ?_
  first | refine ev_aload_n dX6_init_4 rfl ?_ | refine ev_aloadX_n dX6_init_4 rfl ?_
  refine ev_bipush dX6_init_5 ?_
  refine ev_newI (N := 36) dX6_init_7 (by decide) (by repeat (first | assumption | refine fresh.up ?_ (by first | assumption | (simp only [List.length_append, List.length_cons, List.length_nil]; omega)) (by decide) | refine fresh.app ?_ _)) (Nat.le_of_ble_eq_true rfl) (Nat.le_of_ble_eq_true rfl) ?_
  refine ev_putF dX6_init_9 sX6_9 rfl rfl (by repeat (first | exact hK | apply get_app)) ?_
  exact ev_return dX6_init_12 rfl ⟨⟨rfl, rfl, rfl, rfl⟩, Nat.le_of_ble_eq_true rfl, Nat.le_of_ble_eq_true rfl⟩
theorem n_X7_init {K : List Kd} {P : Pm} {c : Nat} (hK : K[c]? = some (.inl 7)) (hf : fresh K Z0 P) : Cl mX7_init [vR c] K Z0 P (fun r K' M' P' => r = none ∧ K' = ((((K ++ ([.inr (.inl 6)] : List Kd)) ++ ([.inr (.inl 6)] : List Kd)) ++ ([.inr (.inl 6)] : List Kd)) ++ ([.inr (.inl 6)] : List Kd)) ∧ M' = Z0 ∧ P' = (upP (upP (upP (upP P c 0 (some (K).length)) c 1 (some ((K ++ ([.inr (.inl 6)] : List Kd))).length)) c 2 (some (((K ++ ([.inr (.inl 6)] : List Kd)) ++ ([.inr (.inl 6)] : List Kd))).length)) c 3 (some ((((K ++ ([.inr (.inl 6)] : List Kd)) ++ ([.inr (.inl 6)] : List Kd)) ++ ([.inr (.inl 6)] : List Kd))).length))) := by
  have hcl : c < K.length := (List.getElem?_eq_some_iff.mp hK).1
  refine cl_of (by decide +kernel) (fun _ => trivial) (Nat.le_of_ble_eq_true rfl) ?_
  first | refine ev_aload_n dX7_init_0 rfl ?_ | refine ev_aloadX_n dX7_init_0 rfl ?_
  refine ev_objI dX7_init_1 (wsg_in 128 (by decide +kernel) (by decide +kernel)) (Nat.le_of_ble_eq_true rfl) (Nat.le_of_ble_eq_true rfl) (Nat.le_of_ble_eq_true rfl) ?_
  first | refine ev_aload_n dX7_init_4 rfl ?_ | refine ev_aloadX_n dX7_init_4 rfl ?_
  refine ev_bipush dX7_init_5 ?_
  refine ev_newI (N := 6) dX7_init_7 (by decide) (by repeat (first | assumption | refine fresh.up ?_ (by first | assumption | (simp only [List.length_append, List.length_cons, List.length_nil]; omega)) (by decide) | refine fresh.app ?_ _)) (Nat.le_of_ble_eq_true rfl) (Nat.le_of_ble_eq_true rfl) ?_
  refine ev_putF dX7_init_9 sX7_9 rfl rfl (by repeat (first | exact hK | apply get_app)) ?_
  first | refine ev_aload_n dX7_init_12 rfl ?_ | refine ev_aloadX_n dX7_init_12 rfl ?_
  refine ev_bipush dX7_init_13 ?_
  refine ev_newI (N := 6) dX7_init_15 (by decide) (by repeat (first | assumption | refine fresh.up ?_ (by first | assumption | (simp only [List.length_append, List.length_cons, List.length_nil]; omega)) (by decide) | refine fresh.app ?_ _)) (Nat.le_of_ble_eq_true rfl) (Nat.le_of_ble_eq_true rfl) ?_
  refine ev_putF dX7_init_17 sX7_15 rfl rfl (by repeat (first | exact hK | apply get_app)) ?_
  first | refine ev_aload_n dX7_init_20 rfl ?_ | refine ev_aloadX_n dX7_init_20 rfl ?_
  refine ev_bipush dX7_init_21 ?_
  refine ev_newI (N := 6) dX7_init_23 (by decide) (by repeat (first | assumption | refine fresh.up ?_ (by first | assumption | (simp only [List.length_append, List.length_cons, List.length_nil]; omega)) (by decide) | refine fresh.app ?_ _)) (Nat.le_of_ble_eq_true rfl) (Nat.le_of_ble_eq_true rfl) ?_
  refine ev_putF dX7_init_25 sX7_18 rfl rfl (by repeat (first | exact hK | apply get_app)) ?_
  first | refine ev_aload_n dX7_init_28 rfl ?_ | refine ev_aloadX_n dX7_init_28 rfl ?_
  refine ev_bipush dX7_init_29 ?_
  refine ev_newI (N := 6) dX7_init_31 (by decide) (by repeat (first | assumption | refine fresh.up ?_ (by first | assumption | (simp only [List.length_append, List.length_cons, List.length_nil]; omega)) (by decide) | refine fresh.app ?_ _)) (Nat.le_of_ble_eq_true rfl) (Nat.le_of_ble_eq_true rfl) ?_
  refine ev_putF dX7_init_33 sX7_21 rfl rfl (by repeat (first | exact hK | apply get_app)) ?_
  exact ev_return dX7_init_36 rfl ⟨⟨rfl, rfl, rfl, rfl⟩, Nat.le_of_ble_eq_true rfl, Nat.le_of_ble_eq_true rfl⟩
theorem n_X3_init {P : Pm} (hf : fresh [.inl 8, .inl 1, .inr (.inl 36), .inl 3] Z0 P) : Cl mX3_init [vR 3] [.inl 8, .inl 1, .inr (.inl 36), .inl 3] Z0 P (fun r K' M' P' => r = none ∧ K' = [.inl 8, .inl 1, .inr (.inl 36), .inl 3, .inl 7, .inr (.inl 6), .inr (.inl 6), .inr (.inl 6), .inr (.inl 6)] ∧ M' = Z0 ∧ P' = (upP (upP (upP (upP (upP P 4 0 (some 5)) 4 1 (some 6)) 4 2 (some 7)) 4 3 (some 8)) 3 0 (some 4))) := by
  refine cl_of (by decide +kernel) (fun _ => trivial) (Nat.le_of_ble_eq_true rfl) ?_
  first | refine ev_aload_n dX3_init_0 rfl ?_ | refine ev_aloadX_n dX3_init_0 rfl ?_
  refine ev_objI dX3_init_1 (wsg_in 122 (by decide +kernel) (by decide +kernel)) (Nat.le_of_ble_eq_true rfl) (Nat.le_of_ble_eq_true rfl) (Nat.le_of_ble_eq_true rfl) ?_
  first | refine ev_aload_n dX3_init_4 rfl ?_ | refine ev_aloadX_n dX3_init_4 rfl ?_
  refine ev_newO (ci := 7) dX3_init_5 cls7 (wsg_in 123 (by decide +kernel) (by decide +kernel)) (wsg_in 124 (by decide +kernel) (by decide +kernel)) (wsg_in 75 (by decide +kernel) (by decide +kernel)) (by decide) (by repeat (first | exact fresh_0 _ | assumption | refine fresh.up ?_ (by decide) (by decide) | refine fresh.app ?_ _)) (Nat.le_of_ble_eq_true rfl) (Nat.le_of_ble_eq_true rfl) ?_
  refine ev_dup dX3_init_8 ?_
  refine ev_calli (n_X7_init rfl (by repeat (first | exact fresh_0 _ | assumption | refine fresh.up ?_ (by decide) (by decide) | refine fresh.app ?_ _))) dX3_init_9 tX7_init.1 tX7_init.2.2.1 tX7_init.2.2.2.1 kX3_11 tX7_init.2.1 tX7_init.2.2.2.2 ⟨⟨Nat.le_of_ble_eq_true rfl, Nat.le_of_ble_eq_true rfl⟩, Nat.le_of_ble_eq_true rfl, Nat.le_of_ble_eq_true rfl⟩ rfl (Nat.le_of_ble_eq_true rfl) ?_
  rintro r K' M' P' ⟨rfl, rfl, rfl, rfl⟩
  refine ev_putF dX3_init_12 sX3_12 rfl rfl rfl ?_
  exact ev_return dX3_init_15 rfl ⟨⟨rfl, rfl, rfl, rfl⟩, Nat.le_of_ble_eq_true rfl, Nat.le_of_ble_eq_true rfl⟩
theorem n_X4_init {P : Pm} (hf : fresh [.inl 8, .inl 1, .inr (.inl 36), .inl 3, .inl 7, .inr (.inl 6), .inr (.inl 6), .inr (.inl 6), .inr (.inl 6), .inl 7, .inr (.inl 6), .inr (.inl 6), .inr (.inl 6), .inr (.inl 6), .inl 4] Z0 P) : Cl mX4_init [vR 14] [.inl 8, .inl 1, .inr (.inl 36), .inl 3, .inl 7, .inr (.inl 6), .inr (.inl 6), .inr (.inl 6), .inr (.inl 6), .inl 7, .inr (.inl 6), .inr (.inl 6), .inr (.inl 6), .inr (.inl 6), .inl 4] Z0 P (fun r K' M' P' => r = none ∧ K' = [.inl 8, .inl 1, .inr (.inl 36), .inl 3, .inl 7, .inr (.inl 6), .inr (.inl 6), .inr (.inl 6), .inr (.inl 6), .inl 7, .inr (.inl 6), .inr (.inl 6), .inr (.inl 6), .inr (.inl 6), .inl 4, .inr (.inr 7), .inr (.inl 7), .inl 6, .inr (.inl 36), .inl 6, .inr (.inl 36), .inl 6, .inr (.inl 36), .inl 6, .inr (.inl 36), .inl 6, .inr (.inl 36), .inl 6, .inr (.inl 36), .inl 6, .inr (.inl 36), .inl 6, .inr (.inl 36), .inl 6, .inr (.inl 36), .inl 6, .inr (.inl 36)] ∧ M' = Z0 ∧ P' = (upP (upP (upP (upP (upP (upP (upP (upP (upP (upP (upP (upP (upP (upP (upP (upP (upP (upP (upP (upP (upP (upP P 14 0 (some 15)) 14 1 (some 16)) 17 0 (some 18)) 14 2 (some 17)) 19 0 (some 20)) 14 3 (some 19)) 21 0 (some 22)) 14 4 (some 21)) 23 0 (some 24)) 15 0 (some 23)) 25 0 (some 26)) 15 1 (some 25)) 27 0 (some 28)) 15 2 (some 27)) 29 0 (some 30)) 15 3 (some 29)) 31 0 (some 32)) 15 4 (some 31)) 33 0 (some 34)) 15 5 (some 33)) 35 0 (some 36)) 15 6 (some 35))) := by
  refine cl_of (by decide +kernel) (fun _ => trivial) (Nat.le_of_ble_eq_true rfl) ?_
  first | refine ev_aload_n dX4_init_0 rfl ?_ | refine ev_aloadX_n dX4_init_0 rfl ?_
  refine ev_objI dX4_init_1 (wsg_in 185 (by decide +kernel) (by decide +kernel)) (Nat.le_of_ble_eq_true rfl) (Nat.le_of_ble_eq_true rfl) (Nat.le_of_ble_eq_true rfl) ?_
  first | refine ev_aload_n dX4_init_4 rfl ?_ | refine ev_aloadX_n dX4_init_4 rfl ?_
  refine ev_bipush dX4_init_5 ?_
  refine ev_newS (N := 7) dX4_init_7 (wsg_in 186 (by decide +kernel) (by decide +kernel)) (by decide) (by repeat (first | exact fresh_0 _ | assumption | refine fresh.up ?_ (by decide) (by decide) | refine fresh.app ?_ _)) (Nat.le_of_ble_eq_true rfl) (Nat.le_of_ble_eq_true rfl) ?_
  refine ev_putF dX4_init_10 sX4_11 rfl rfl rfl ?_
  first | refine ev_aload_n dX4_init_13 rfl ?_ | refine ev_aloadX_n dX4_init_13 rfl ?_
  refine ev_bipush dX4_init_14 ?_
  refine ev_newI (N := 7) dX4_init_16 (by decide) (by repeat (first | exact fresh_0 _ | assumption | refine fresh.up ?_ (by decide) (by decide) | refine fresh.app ?_ _)) (Nat.le_of_ble_eq_true rfl) (Nat.le_of_ble_eq_true rfl) ?_
  refine ev_putF dX4_init_18 sX4_17 rfl rfl rfl ?_
  first | refine ev_aload_n dX4_init_21 rfl ?_ | refine ev_aloadX_n dX4_init_21 rfl ?_
  refine ev_newO (ci := 6) dX4_init_22 cls6 (wsg_in 186 (by decide +kernel) (by decide +kernel)) (wsg_in 188 (by decide +kernel) (by decide +kernel)) (wsg_in 77 (by decide +kernel) (by decide +kernel)) (by decide) (by repeat (first | exact fresh_0 _ | assumption | refine fresh.up ?_ (by decide) (by decide) | refine fresh.app ?_ _)) (Nat.le_of_ble_eq_true rfl) (Nat.le_of_ble_eq_true rfl) ?_
  refine ev_dup dX4_init_25 ?_
  refine ev_calli (n_X6_init rfl (by repeat (first | exact fresh_0 _ | assumption | refine fresh.up ?_ (by decide) (by decide) | refine fresh.app ?_ _))) dX4_init_26 tX6_init.1 tX6_init.2.2.1 tX6_init.2.2.2.1 kX4_21 tX6_init.2.1 tX6_init.2.2.2.2 ⟨⟨Nat.le_of_ble_eq_true rfl, Nat.le_of_ble_eq_true rfl⟩, Nat.le_of_ble_eq_true rfl, Nat.le_of_ble_eq_true rfl⟩ rfl (Nat.le_of_ble_eq_true rfl) ?_
  rintro r K' M' P' ⟨rfl, rfl, rfl, rfl⟩
  refine ev_putF dX4_init_29 sX4_22 rfl rfl rfl ?_
  first | refine ev_aload_n dX4_init_32 rfl ?_ | refine ev_aloadX_n dX4_init_32 rfl ?_
  refine ev_newO (ci := 6) dX4_init_33 cls6 (wsg_in 186 (by decide +kernel) (by decide +kernel)) (wsg_in 188 (by decide +kernel) (by decide +kernel)) (wsg_in 77 (by decide +kernel) (by decide +kernel)) (by decide) (by repeat (first | exact fresh_0 _ | assumption | refine fresh.up ?_ (by decide) (by decide) | refine fresh.app ?_ _)) (Nat.le_of_ble_eq_true rfl) (Nat.le_of_ble_eq_true rfl) ?_
  refine ev_dup dX4_init_36 ?_
  refine ev_calli (n_X6_init rfl (by repeat (first | exact fresh_0 _ | assumption | refine fresh.up ?_ (by decide) (by decide) | refine fresh.app ?_ _))) dX4_init_37 tX6_init.1 tX6_init.2.2.1 tX6_init.2.2.2.1 kX4_21 tX6_init.2.1 tX6_init.2.2.2.2 ⟨⟨Nat.le_of_ble_eq_true rfl, Nat.le_of_ble_eq_true rfl⟩, Nat.le_of_ble_eq_true rfl, Nat.le_of_ble_eq_true rfl⟩ rfl (Nat.le_of_ble_eq_true rfl) ?_
  rintro r K' M' P' ⟨rfl, rfl, rfl, rfl⟩
  refine ev_putF dX4_init_40 sX4_26 rfl rfl rfl ?_
  first | refine ev_aload_n dX4_init_43 rfl ?_ | refine ev_aloadX_n dX4_init_43 rfl ?_
  refine ev_newO (ci := 6) dX4_init_44 cls6 (wsg_in 186 (by decide +kernel) (by decide +kernel)) (wsg_in 188 (by decide +kernel) (by decide +kernel)) (wsg_in 77 (by decide +kernel) (by decide +kernel)) (by decide) (by repeat (first | exact fresh_0 _ | assumption | refine fresh.up ?_ (by decide) (by decide) | refine fresh.app ?_ _)) (Nat.le_of_ble_eq_true rfl) (Nat.le_of_ble_eq_true rfl) ?_
  refine ev_dup dX4_init_47 ?_
  refine ev_calli (n_X6_init rfl (by repeat (first | exact fresh_0 _ | assumption | refine fresh.up ?_ (by decide) (by decide) | refine fresh.app ?_ _))) dX4_init_48 tX6_init.1 tX6_init.2.2.1 tX6_init.2.2.2.1 kX4_21 tX6_init.2.1 tX6_init.2.2.2.2 ⟨⟨Nat.le_of_ble_eq_true rfl, Nat.le_of_ble_eq_true rfl⟩, Nat.le_of_ble_eq_true rfl, Nat.le_of_ble_eq_true rfl⟩ rfl (Nat.le_of_ble_eq_true rfl) ?_
  rintro r K' M' P' ⟨rfl, rfl, rfl, rfl⟩
  refine ev_putF dX4_init_51 sX4_29 rfl rfl rfl ?_
  refine ev_iconst dX4_init_54 ?_
  refine ev_istore_n dX4_init_55 (by decide) ?_
  refine ev_iload_n dX4_init_56 rfl ?_
  refine ev_bipush dX4_init_57 ?_
  refine ev_icmp_gt (tgt := 81) dX4_init_59 (by decide) (by omega) (by omega) (fun h => ?_) (fun h => ?_)
  · exact absurd h (by decide)
  first | refine ev_aload_n dX4_init_62 rfl ?_ | refine ev_aloadX_n dX4_init_62 rfl ?_
  refine ev_getR dX4_init_63 fX4_11 rfl rfl rfl ?_
  refine ev_iload_n dX4_init_66 rfl ?_
  refine ev_newO (ci := 6) dX4_init_67 cls6 (wsg_in 186 (by decide +kernel) (by decide +kernel)) (wsg_in 188 (by decide +kernel) (by decide +kernel)) (wsg_in 77 (by decide +kernel) (by decide +kernel)) (by decide) (by repeat (first | exact fresh_0 _ | assumption | refine fresh.up ?_ (by decide) (by decide) | refine fresh.app ?_ _)) (Nat.le_of_ble_eq_true rfl) (Nat.le_of_ble_eq_true rfl) ?_
  refine ev_dup dX4_init_70 ?_
  refine ev_calli (n_X6_init rfl (by repeat (first | exact fresh_0 _ | assumption | refine fresh.up ?_ (by decide) (by decide) | refine fresh.app ?_ _))) dX4_init_71 tX6_init.1 tX6_init.2.2.1 tX6_init.2.2.2.1 kX4_21 tX6_init.2.1 tX6_init.2.2.2.2 ⟨⟨Nat.le_of_ble_eq_true rfl, Nat.le_of_ble_eq_true rfl⟩, Nat.le_of_ble_eq_true rfl, Nat.le_of_ble_eq_true rfl⟩ rfl (Nat.le_of_ble_eq_true rfl) ?_
  rintro r K' M' P' ⟨rfl, rfl, rfl, rfl⟩
  refine ev_aast (N := 7) dX4_init_74 rfl rfl (by decide) (by decide) (by decide) ?_
  refine ev_iinc dX4_init_75 rfl (by decide) ?_
  refine ev_goto (tgt := 56) dX4_init_78 (by decide) ?_
  refine ev_iload_n dX4_init_56 rfl ?_
  refine ev_bipush dX4_init_57 ?_
  refine ev_icmp_gt (tgt := 81) dX4_init_59 (by decide) (by omega) (by omega) (fun h => ?_) (fun h => ?_)
  · exact absurd h (by decide)
  first | refine ev_aload_n dX4_init_62 rfl ?_ | refine ev_aloadX_n dX4_init_62 rfl ?_
  refine ev_getR dX4_init_63 fX4_11 rfl rfl rfl ?_
  refine ev_iload_n dX4_init_66 rfl ?_
  refine ev_newO (ci := 6) dX4_init_67 cls6 (wsg_in 186 (by decide +kernel) (by decide +kernel)) (wsg_in 188 (by decide +kernel) (by decide +kernel)) (wsg_in 77 (by decide +kernel) (by decide +kernel)) (by decide) (by repeat (first | exact fresh_0 _ | assumption | refine fresh.up ?_ (by decide) (by decide) | refine fresh.app ?_ _)) (Nat.le_of_ble_eq_true rfl) (Nat.le_of_ble_eq_true rfl) ?_
  refine ev_dup dX4_init_70 ?_
  refine ev_calli (n_X6_init rfl (by repeat (first | exact fresh_0 _ | assumption | refine fresh.up ?_ (by decide) (by decide) | refine fresh.app ?_ _))) dX4_init_71 tX6_init.1 tX6_init.2.2.1 tX6_init.2.2.2.1 kX4_21 tX6_init.2.1 tX6_init.2.2.2.2 ⟨⟨Nat.le_of_ble_eq_true rfl, Nat.le_of_ble_eq_true rfl⟩, Nat.le_of_ble_eq_true rfl, Nat.le_of_ble_eq_true rfl⟩ rfl (Nat.le_of_ble_eq_true rfl) ?_
  rintro r K' M' P' ⟨rfl, rfl, rfl, rfl⟩
  refine ev_aast (N := 7) dX4_init_74 rfl rfl (by decide) (by decide) (by decide) ?_
  refine ev_iinc dX4_init_75 rfl (by decide) ?_
  refine ev_goto (tgt := 56) dX4_init_78 (by decide) ?_
  refine ev_iload_n dX4_init_56 rfl ?_
  refine ev_bipush dX4_init_57 ?_
  refine ev_icmp_gt (tgt := 81) dX4_init_59 (by decide) (by omega) (by omega) (fun h => ?_) (fun h => ?_)
  · exact absurd h (by decide)
  first | refine ev_aload_n dX4_init_62 rfl ?_ | refine ev_aloadX_n dX4_init_62 rfl ?_
  refine ev_getR dX4_init_63 fX4_11 rfl rfl rfl ?_
  refine ev_iload_n dX4_init_66 rfl ?_
  refine ev_newO (ci := 6) dX4_init_67 cls6 (wsg_in 186 (by decide +kernel) (by decide +kernel)) (wsg_in 188 (by decide +kernel) (by decide +kernel)) (wsg_in 77 (by decide +kernel) (by decide +kernel)) (by decide) (by repeat (first | exact fresh_0 _ | assumption | refine fresh.up ?_ (by decide) (by decide) | refine fresh.app ?_ _)) (Nat.le_of_ble_eq_true rfl) (Nat.le_of_ble_eq_true rfl) ?_
  refine ev_dup dX4_init_70 ?_
  refine ev_calli (n_X6_init rfl (by repeat (first | exact fresh_0 _ | assumption | refine fresh.up ?_ (by decide) (by decide) | refine fresh.app ?_ _))) dX4_init_71 tX6_init.1 tX6_init.2.2.1 tX6_init.2.2.2.1 kX4_21 tX6_init.2.1 tX6_init.2.2.2.2 ⟨⟨Nat.le_of_ble_eq_true rfl, Nat.le_of_ble_eq_true rfl⟩, Nat.le_of_ble_eq_true rfl, Nat.le_of_ble_eq_true rfl⟩ rfl (Nat.le_of_ble_eq_true rfl) ?_
  rintro r K' M' P' ⟨rfl, rfl, rfl, rfl⟩
  refine ev_aast (N := 7) dX4_init_74 rfl rfl (by decide) (by decide) (by decide) ?_
  refine ev_iinc dX4_init_75 rfl (by decide) ?_
  refine ev_goto (tgt := 56) dX4_init_78 (by decide) ?_
  refine ev_iload_n dX4_init_56 rfl ?_
  refine ev_bipush dX4_init_57 ?_
  refine ev_icmp_gt (tgt := 81) dX4_init_59 (by decide) (by omega) (by omega) (fun h => ?_) (fun h => ?_)
  · exact absurd h (by decide)
  first | refine ev_aload_n dX4_init_62 rfl ?_ | refine ev_aloadX_n dX4_init_62 rfl ?_
  refine ev_getR dX4_init_63 fX4_11 rfl rfl rfl ?_
  refine ev_iload_n dX4_init_66 rfl ?_
  refine ev_newO (ci := 6) dX4_init_67 cls6 (wsg_in 186 (by decide +kernel) (by decide +kernel)) (wsg_in 188 (by decide +kernel) (by decide +kernel)) (wsg_in 77 (by decide +kernel) (by decide +kernel)) (by decide) (by repeat (first | exact fresh_0 _ | assumption | refine fresh.up ?_ (by decide) (by decide) | refine fresh.app ?_ _)) (Nat.le_of_ble_eq_true rfl) (Nat.le_of_ble_eq_true rfl) ?_
  refine ev_dup dX4_init_70 ?_
  refine ev_calli (n_X6_init rfl (by repeat (first | exact fresh_0 _ | assumption | refine fresh.up ?_ (by decide) (by decide) | refine fresh.app ?_ _))) dX4_init_71 tX6_init.1 tX6_init.2.2.1 tX6_init.2.2.2.1 kX4_21 tX6_init.2.1 tX6_init.2.2.2.2 ⟨⟨Nat.le_of_ble_eq_true rfl, Nat.le_of_ble_eq_true rfl⟩, Nat.le_of_ble_eq_true rfl, Nat.le_of_ble_eq_true rfl⟩ rfl (Nat.le_of_ble_eq_true rfl) ?_
  rintro r K' M' P' ⟨rfl, rfl, rfl, rfl⟩
  refine ev_aast (N := 7) dX4_init_74 rfl rfl (by decide) (by decide) (by decide) ?_
  refine ev_iinc dX4_init_75 rfl (by decide) ?_
  refine ev_goto (tgt := 56) dX4_init_78 (by decide) ?_
  refine ev_iload_n dX4_init_56 rfl ?_
  refine ev_bipush dX4_init_57 ?_
  refine ev_icmp_gt (tgt := 81) dX4_init_59 (by decide) (by omega) (by omega) (fun h => ?_) (fun h => ?_)
  · exact absurd h (by decide)
  first | refine ev_aload_n dX4_init_62 rfl ?_ | refine ev_aloadX_n dX4_init_62 rfl ?_
  refine ev_getR dX4_init_63 fX4_11 rfl rfl rfl ?_
  refine ev_iload_n dX4_init_66 rfl ?_
  refine ev_newO (ci := 6) dX4_init_67 cls6 (wsg_in 186 (by decide +kernel) (by decide +kernel)) (wsg_in 188 (by decide +kernel) (by decide +kernel)) (wsg_in 77 (by decide +kernel) (by decide +kernel)) (by decide) (by repeat (first | exact fresh_0 _ | assumption | refine fresh.up ?_ (by decide) (by decide) | refine fresh.app ?_ _)) (Nat.le_of_ble_eq_true rfl) (Nat.le_of_ble_eq_true rfl) ?_
  refine ev_dup dX4_init_70 ?_
  refine ev_calli (n_X6_init rfl (by repeat (first | exact fresh_0 _ | assumption | refine fresh.up ?_ (by decide) (by decide) | refine fresh.app ?_ _))) dX4_init_71 tX6_init.1 tX6_init.2.2.1 tX6_init.2.2.2.1 kX4_21 tX6_init.2.1 tX6_init.2.2.2.2 ⟨⟨Nat.le_of_ble_eq_true rfl, Nat.le_of_ble_eq_true rfl⟩, Nat.le_of_ble_eq_true rfl, Nat.le_of_ble_eq_true rfl⟩ rfl (Nat.le_of_ble_eq_true rfl) ?_
  rintro r K' M' P' ⟨rfl, rfl, rfl, rfl⟩
  refine ev_aast (N := 7) dX4_init_74 rfl rfl (by decide) (by decide) (by decide) ?_
  refine ev_iinc dX4_init_75 rfl (by decide) ?_
  refine ev_goto (tgt := 56) dX4_init_78 (by decide) ?_
  refine ev_iload_n dX4_init_56 rfl ?_
  refine ev_bipush dX4_init_57 ?_
  refine ev_icmp_gt (tgt := 81) dX4_init_59 (by decide) (by omega) (by omega) (fun h => ?_) (fun h => ?_)
  · exact absurd h (by decide)
  first | refine ev_aload_n dX4_init_62 rfl ?_ | refine ev_aloadX_n dX4_init_62 rfl ?_
  refine ev_getR dX4_init_63 fX4_11 rfl rfl rfl ?_
  refine ev_iload_n dX4_init_66 rfl ?_
  refine ev_newO (ci := 6) dX4_init_67 cls6 (wsg_in 186 (by decide +kernel) (by decide +kernel)) (wsg_in 188 (by decide +kernel) (by decide +kernel)) (wsg_in 77 (by decide +kernel) (by decide +kernel)) (by decide) (by repeat (first | exact fresh_0 _ | assumption | refine fresh.up ?_ (by decide) (by decide) | refine fresh.app ?_ _)) (Nat.le_of_ble_eq_true rfl) (Nat.le_of_ble_eq_true rfl) ?_
  refine ev_dup dX4_init_70 ?_
  refine ev_calli (n_X6_init rfl (by repeat (first | exact fresh_0 _ | assumption | refine fresh.up ?_ (by decide) (by decide) | refine fresh.app ?_ _))) dX4_init_71 tX6_init.1 tX6_init.2.2.1 tX6_init.2.2.2.1 kX4_21 tX6_init.2.1 tX6_init.2.2.2.2 ⟨⟨Nat.le_of_ble_eq_true rfl, Nat.le_of_ble_eq_true rfl⟩, Nat.le_of_ble_eq_true rfl, Nat.le_of_ble_eq_true rfl⟩ rfl (Nat.le_of_ble_eq_true rfl) ?_
  rintro r K' M' P' ⟨rfl, rfl, rfl, rfl⟩
  refine ev_aast (N := 7) dX4_init_74 rfl rfl (by decide) (by decide) (by decide) ?_
  refine ev_iinc dX4_init_75 rfl (by decide) ?_
  refine ev_goto (tgt := 56) dX4_init_78 (by decide) ?_
  refine ev_iload_n dX4_init_56 rfl ?_
  refine ev_bipush dX4_init_57 ?_
  refine ev_icmp_gt (tgt := 81) dX4_init_59 (by decide) (by omega) (by omega) (fun h => ?_) (fun h => ?_)
  · exact absurd h (by decide)
  first | refine ev_aload_n dX4_init_62 rfl ?_ | refine ev_aloadX_n dX4_init_62 rfl ?_
  refine ev_getR dX4_init_63 fX4_11 rfl rfl rfl ?_
  refine ev_iload_n dX4_init_66 rfl ?_
  refine ev_newO (ci := 6) dX4_init_67 cls6 (wsg_in 186 (by decide +kernel) (by decide +kernel)) (wsg_in 188 (by decide +kernel) (by decide +kernel)) (wsg_in 77 (by decide +kernel) (by decide +kernel)) (by decide) (by repeat (first | exact fresh_0 _ | assumption | refine fresh.up ?_ (by decide) (by decide) | refine fresh.app ?_ _)) (Nat.le_of_ble_eq_true rfl) (Nat.le_of_ble_eq_true rfl) ?_
  refine ev_dup dX4_init_70 ?_
  refine ev_calli (n_X6_init rfl (by repeat (first | exact fresh_0 _ | assumption | refine fresh.up ?_ (by decide) (by decide) | refine fresh.app ?_ _))) dX4_init_71 tX6_init.1 tX6_init.2.2.1 tX6_init.2.2.2.1 kX4_21 tX6_init.2.1 tX6_init.2.2.2.2 ⟨⟨Nat.le_of_ble_eq_true rfl, Nat.le_of_ble_eq_true rfl⟩, Nat.le_of_ble_eq_true rfl, Nat.le_of_ble_eq_true rfl⟩ rfl (Nat.le_of_ble_eq_true rfl) ?_
  rintro r K' M' P' ⟨rfl, rfl, rfl, rfl⟩
  refine ev_aast (N := 7) dX4_init_74 rfl rfl (by decide) (by decide) (by decide) ?_
  refine ev_iinc dX4_init_75 rfl (by decide) ?_
  refine ev_goto (tgt := 56) dX4_init_78 (by decide) ?_
  refine ev_iload_n dX4_init_56 rfl ?_
  refine ev_bipush dX4_init_57 ?_
  refine ev_icmp_gt (tgt := 81) dX4_init_59 (by decide) (by omega) (by omega) (fun h => ?_) (fun h => ?_)
  · exact ev_return dX4_init_81 rfl ⟨⟨rfl, rfl, rfl, rfl⟩, Nat.le_of_ble_eq_true rfl, Nat.le_of_ble_eq_true rfl⟩
  · exact absurd h (by decide)
def PC : Pm := (upP (upP (upP (upP (upP (upP (upP (upP (upP (upP (upP (upP (upP (upP (upP (upP (upP (upP (upP (upP (upP (upP (upP (upP (upP (upP (upP (upP (upP (upP (upP (upP (upP (upP (upP (upP (upP (upP (upP (upP (upP (upP (upP (upP (upP (upP (upP (upP (upP (upP (upP (upP (upP P00 1 0 (some 2)) 0 0 (some 1)) 4 0 (some 5)) 4 1 (some 6)) 4 2 (some 7)) 4 3 (some 8)) 3 0 (some 4)) 0 1 (some 3)) 9 0 (some 10)) 9 1 (some 11)) 9 2 (some 12)) 9 3 (some 13)) 0 2 (some 9)) 14 0 (some 15)) 14 1 (some 16)) 17 0 (some 18)) 14 2 (some 17)) 19 0 (some 20)) 14 3 (some 19)) 21 0 (some 22)) 14 4 (some 21)) 23 0 (some 24)) 15 0 (some 23)) 25 0 (some 26)) 15 1 (some 25)) 27 0 (some 28)) 15 2 (some 27)) 29 0 (some 30)) 15 3 (some 29)) 31 0 (some 32)) 15 4 (some 31)) 33 0 (some 34)) 15 5 (some 33)) 35 0 (some 36)) 15 6 (some 35)) 0 3 (some 14)) 37 0 (some 38)) 37 1 (some 39)) 0 4 (some 37)) 40 0 (some 41)) 40 1 (some 42)) 0 5 (some 40)) 43 0 (some 44)) 43 1 (some 45)) 43 2 (some 46)) 43 3 (some 47)) 0 6 (some 43)) 48 0 (some 49)) 48 1 (some 50)) 0 7 (some 48)) 0 8 (some 51)) 52 0 (some 53)) 0 9 (some 52))
theorem n_X8_init : Cl mX8_init [vR 0] [.inl 8] Z0 P00 (fun r K' M' P' => r = none ∧ K' = [.inl 8, .inl 1, .inr (.inl 36), .inl 3, .inl 7, .inr (.inl 6), .inr (.inl 6), .inr (.inl 6), .inr (.inl 6), .inl 7, .inr (.inl 6), .inr (.inl 6), .inr (.inl 6), .inr (.inl 6), .inl 4, .inr (.inr 7), .inr (.inl 7), .inl 6, .inr (.inl 36), .inl 6, .inr (.inl 36), .inl 6, .inr (.inl 36), .inl 6, .inr (.inl 36), .inl 6, .inr (.inl 36), .inl 6, .inr (.inl 36), .inl 6, .inr (.inl 36), .inl 6, .inr (.inl 36), .inl 6, .inr (.inl 36), .inl 6, .inr (.inl 36), .inl 2, .inr (.inl 15), .inr (.inl 5), .inl 5, .inr (.inl 6), .inr (.inl 6), .inl 7, .inr (.inl 6), .inr (.inl 6), .inr (.inl 6), .inr (.inl 6), .inl 5, .inr (.inl 6), .inr (.inl 6), .inl 0, .inl 6, .inr (.inl 36)] ∧ M' = Z0 ∧ P' = PC) := by
  refine cl_of (by decide +kernel) (fun _ => trivial) (Nat.le_of_ble_eq_true rfl) ?_
  first | refine ev_aload_n dX8_init_0 rfl ?_ | refine ev_aloadX_n dX8_init_0 rfl ?_
  refine ev_objI dX8_init_1 (wsg_in 96 (by decide +kernel) (by decide +kernel)) (Nat.le_of_ble_eq_true rfl) (Nat.le_of_ble_eq_true rfl) (Nat.le_of_ble_eq_true rfl) ?_
  first | refine ev_aload_n dX8_init_4 rfl ?_ | refine ev_aloadX_n dX8_init_4 rfl ?_
  refine ev_newO (ci := 1) dX8_init_5 cls1 (wsg_in 99 (by decide +kernel) (by decide +kernel)) (wsg_in 100 (by decide +kernel) (by decide +kernel)) (wsg_in 73 (by decide +kernel) (by decide +kernel)) (by decide) (by repeat (first | exact fresh_0 _ | assumption | refine fresh.up ?_ (by decide) (by decide) | refine fresh.app ?_ _)) (Nat.le_of_ble_eq_true rfl) (Nat.le_of_ble_eq_true rfl) ?_
  refine ev_dup dX8_init_8 ?_
  refine ev_calli (n_X1_init rfl (by repeat (first | exact fresh_0 _ | assumption | refine fresh.up ?_ (by decide) (by decide) | refine fresh.app ?_ _))) dX8_init_9 tX1_init.1 tX1_init.2.2.1 tX1_init.2.2.2.1 kX8_9 tX1_init.2.1 tX1_init.2.2.2.2 ⟨⟨Nat.le_of_ble_eq_true rfl, Nat.le_of_ble_eq_true rfl⟩, Nat.le_of_ble_eq_true rfl, Nat.le_of_ble_eq_true rfl⟩ rfl (Nat.le_of_ble_eq_true rfl) ?_
  rintro r K' M' P' ⟨rfl, rfl, rfl, rfl⟩
  refine ev_putF dX8_init_12 sX8_10 rfl rfl rfl ?_
  first | refine ev_aload_n dX8_init_15 rfl ?_ | refine ev_aloadX_n dX8_init_15 rfl ?_
  refine ev_newO (ci := 3) dX8_init_16 cls3 (wsg_in 117 (by decide +kernel) (by decide +kernel)) (wsg_in 118 (by decide +kernel) (by decide +kernel)) (wsg_in 74 (by decide +kernel) (by decide +kernel)) (by decide) (by repeat (first | exact fresh_0 _ | assumption | refine fresh.up ?_ (by decide) (by decide) | refine fresh.app ?_ _)) (Nat.le_of_ble_eq_true rfl) (Nat.le_of_ble_eq_true rfl) ?_
  refine ev_dup dX8_init_19 ?_
  refine ev_calli (n_X3_init (by repeat (first | exact fresh_0 _ | assumption | refine fresh.up ?_ (by decide) (by decide) | refine fresh.app ?_ _))) dX8_init_20 tX3_init.1 tX3_init.2.2.1 tX3_init.2.2.2.1 kX8_18 tX3_init.2.1 tX3_init.2.2.2.2 ⟨⟨Nat.le_of_ble_eq_true rfl, Nat.le_of_ble_eq_true rfl⟩, Nat.le_of_ble_eq_true rfl, Nat.le_of_ble_eq_true rfl⟩ rfl (Nat.le_of_ble_eq_true rfl) ?_
  rintro r K' M' P' ⟨rfl, rfl, rfl, rfl⟩
  refine ev_putF dX8_init_23 sX8_19 rfl rfl rfl ?_
  first | refine ev_aload_n dX8_init_26 rfl ?_ | refine ev_aloadX_n dX8_init_26 rfl ?_
  refine ev_newO (ci := 7) dX8_init_27 cls7 (wsg_in 178 (by decide +kernel) (by decide +kernel)) (wsg_in 124 (by decide +kernel) (by decide +kernel)) (wsg_in 75 (by decide +kernel) (by decide +kernel)) (by decide) (by repeat (first | exact fresh_0 _ | assumption | refine fresh.up ?_ (by decide) (by decide) | refine fresh.app ?_ _)) (Nat.le_of_ble_eq_true rfl) (Nat.le_of_ble_eq_true rfl) ?_
  refine ev_dup dX8_init_30 ?_
  refine ev_calli (n_X7_init rfl (by repeat (first | exact fresh_0 _ | assumption | refine fresh.up ?_ (by decide) (by decide) | refine fresh.app ?_ _))) dX8_init_31 tX7_init.1 tX7_init.2.2.1 tX7_init.2.2.2.1 kX8_25 tX7_init.2.1 tX7_init.2.2.2.2 ⟨⟨Nat.le_of_ble_eq_true rfl, Nat.le_of_ble_eq_true rfl⟩, Nat.le_of_ble_eq_true rfl, Nat.le_of_ble_eq_true rfl⟩ rfl (Nat.le_of_ble_eq_true rfl) ?_
  rintro r K' M' P' ⟨rfl, rfl, rfl, rfl⟩
  refine ev_putF dX8_init_34 sX8_26 rfl rfl rfl ?_
  first | refine ev_aload_n dX8_init_37 rfl ?_ | refine ev_aloadX_n dX8_init_37 rfl ?_
  refine ev_newO (ci := 4) dX8_init_38 cls4 (wsg_in 180 (by decide +kernel) (by decide +kernel)) (wsg_in 181 (by decide +kernel) (by decide +kernel)) (wsg_in 76 (by decide +kernel) (by decide +kernel)) (by decide) (by repeat (first | exact fresh_0 _ | assumption | refine fresh.up ?_ (by decide) (by decide) | refine fresh.app ?_ _)) (Nat.le_of_ble_eq_true rfl) (Nat.le_of_ble_eq_true rfl) ?_
  refine ev_dup dX8_init_41 ?_
  refine ev_calli (n_X4_init (by repeat (first | exact fresh_0 _ | assumption | refine fresh.up ?_ (by decide) (by decide) | refine fresh.app ?_ _))) dX8_init_42 tX4_init.1 tX4_init.2.2.1 tX4_init.2.2.2.1 kX8_32 tX4_init.2.1 tX4_init.2.2.2.2 ⟨⟨Nat.le_of_ble_eq_true rfl, Nat.le_of_ble_eq_true rfl⟩, Nat.le_of_ble_eq_true rfl, Nat.le_of_ble_eq_true rfl⟩ rfl (Nat.le_of_ble_eq_true rfl) ?_
  rintro r K' M' P' ⟨rfl, rfl, rfl, rfl⟩
  refine ev_putF dX8_init_45 sX8_33 rfl rfl rfl ?_
  first | refine ev_aload_n dX8_init_48 rfl ?_ | refine ev_aloadX_n dX8_init_48 rfl ?_
  refine ev_newO (ci := 2) dX8_init_49 cls2 (wsg_in 223 (by decide +kernel) (by decide +kernel)) (wsg_in 224 (by decide +kernel) (by decide +kernel)) (wsg_in 78 (by decide +kernel) (by decide +kernel)) (by decide) (by repeat (first | exact fresh_0 _ | assumption | refine fresh.up ?_ (by decide) (by decide) | refine fresh.app ?_ _)) (Nat.le_of_ble_eq_true rfl) (Nat.le_of_ble_eq_true rfl) ?_
  refine ev_dup dX8_init_52 ?_
  refine ev_calli (n_X2_init rfl (by repeat (first | exact fresh_0 _ | assumption | refine fresh.up ?_ (by decide) (by decide) | refine fresh.app ?_ _))) dX8_init_53 tX2_init.1 tX2_init.2.2.1 tX2_init.2.2.2.1 kX8_39 tX2_init.2.1 tX2_init.2.2.2.2 ⟨⟨Nat.le_of_ble_eq_true rfl, Nat.le_of_ble_eq_true rfl⟩, Nat.le_of_ble_eq_true rfl, Nat.le_of_ble_eq_true rfl⟩ rfl (Nat.le_of_ble_eq_true rfl) ?_
  rintro r K' M' P' ⟨rfl, rfl, rfl, rfl⟩
  refine ev_putF dX8_init_56 sX8_40 rfl rfl rfl ?_
  first | refine ev_aload_n dX8_init_59 rfl ?_ | refine ev_aloadX_n dX8_init_59 rfl ?_
  refine ev_newO (ci := 5) dX8_init_60 cls5 (wsg_in 237 (by decide +kernel) (by decide +kernel)) (wsg_in 238 (by decide +kernel) (by decide +kernel)) (wsg_in 79 (by decide +kernel) (by decide +kernel)) (by decide) (by repeat (first | exact fresh_0 _ | assumption | refine fresh.up ?_ (by decide) (by decide) | refine fresh.app ?_ _)) (Nat.le_of_ble_eq_true rfl) (Nat.le_of_ble_eq_true rfl) ?_
  refine ev_dup dX8_init_63 ?_
  refine ev_calli (n_X5_init rfl (by repeat (first | exact fresh_0 _ | assumption | refine fresh.up ?_ (by decide) (by decide) | refine fresh.app ?_ _))) dX8_init_64 tX5_init.1 tX5_init.2.2.1 tX5_init.2.2.2.1 kX8_46 tX5_init.2.1 tX5_init.2.2.2.2 ⟨⟨Nat.le_of_ble_eq_true rfl, Nat.le_of_ble_eq_true rfl⟩, Nat.le_of_ble_eq_true rfl, Nat.le_of_ble_eq_true rfl⟩ rfl (Nat.le_of_ble_eq_true rfl) ?_
  rintro r K' M' P' ⟨rfl, rfl, rfl, rfl⟩
  refine ev_putF dX8_init_67 sX8_47 rfl rfl rfl ?_
  first | refine ev_aload_n dX8_init_70 rfl ?_ | refine ev_aloadX_n dX8_init_70 rfl ?_
  refine ev_newO (ci := 7) dX8_init_71 cls7 (wsg_in 178 (by decide +kernel) (by decide +kernel)) (wsg_in 124 (by decide +kernel) (by decide +kernel)) (wsg_in 75 (by decide +kernel) (by decide +kernel)) (by decide) (by repeat (first | exact fresh_0 _ | assumption | refine fresh.up ?_ (by decide) (by decide) | refine fresh.app ?_ _)) (Nat.le_of_ble_eq_true rfl) (Nat.le_of_ble_eq_true rfl) ?_
  refine ev_dup dX8_init_74 ?_
  refine ev_calli (n_X7_init rfl (by repeat (first | exact fresh_0 _ | assumption | refine fresh.up ?_ (by decide) (by decide) | refine fresh.app ?_ _))) dX8_init_75 tX7_init.1 tX7_init.2.2.1 tX7_init.2.2.2.1 kX8_25 tX7_init.2.1 tX7_init.2.2.2.2 ⟨⟨Nat.le_of_ble_eq_true rfl, Nat.le_of_ble_eq_true rfl⟩, Nat.le_of_ble_eq_true rfl, Nat.le_of_ble_eq_true rfl⟩ rfl (Nat.le_of_ble_eq_true rfl) ?_
  rintro r K' M' P' ⟨rfl, rfl, rfl, rfl⟩
  refine ev_putF dX8_init_78 sX8_51 rfl rfl rfl ?_
  first | refine ev_aload_n dX8_init_81 rfl ?_ | refine ev_aloadX_n dX8_init_81 rfl ?_
  refine ev_newO (ci := 5) dX8_init_82 cls5 (wsg_in 237 (by decide +kernel) (by decide +kernel)) (wsg_in 238 (by decide +kernel) (by decide +kernel)) (wsg_in 79 (by decide +kernel) (by decide +kernel)) (by decide) (by repeat (first | exact fresh_0 _ | assumption | refine fresh.up ?_ (by decide) (by decide) | refine fresh.app ?_ _)) (Nat.le_of_ble_eq_true rfl) (Nat.le_of_ble_eq_true rfl) ?_
  refine ev_dup dX8_init_85 ?_
  refine ev_calli (n_X5_init rfl (by repeat (first | exact fresh_0 _ | assumption | refine fresh.up ?_ (by decide) (by decide) | refine fresh.app ?_ _))) dX8_init_86 tX5_init.1 tX5_init.2.2.1 tX5_init.2.2.2.1 kX8_46 tX5_init.2.1 tX5_init.2.2.2.2 ⟨⟨Nat.le_of_ble_eq_true rfl, Nat.le_of_ble_eq_true rfl⟩, Nat.le_of_ble_eq_true rfl, Nat.le_of_ble_eq_true rfl⟩ rfl (Nat.le_of_ble_eq_true rfl) ?_
  rintro r K' M' P' ⟨rfl, rfl, rfl, rfl⟩
  refine ev_putF dX8_init_89 sX8_54 rfl rfl rfl ?_
  first | refine ev_aload_n dX8_init_92 rfl ?_ | refine ev_aloadX_n dX8_init_92 rfl ?_
  refine ev_newO (ci := 0) dX8_init_93 cls0 (wsg_in 254 (by decide +kernel) (by decide +kernel)) (wsg_in 255 (by decide +kernel) (by decide +kernel)) (wsg_in 80 (by decide +kernel) (by decide +kernel)) (by decide) (by repeat (first | exact fresh_0 _ | assumption | refine fresh.up ?_ (by decide) (by decide) | refine fresh.app ?_ _)) (Nat.le_of_ble_eq_true rfl) (Nat.le_of_ble_eq_true rfl) ?_
  refine ev_dup dX8_init_96 ?_
  refine ev_calli (n_X0_init rfl (by repeat (first | exact fresh_0 _ | assumption | refine fresh.up ?_ (by decide) (by decide) | refine fresh.app ?_ _))) dX8_init_97 tX0_init.1 tX0_init.2.2.1 tX0_init.2.2.2.1 kX8_59 tX0_init.2.1 tX0_init.2.2.2.2 ⟨⟨Nat.le_of_ble_eq_true rfl, Nat.le_of_ble_eq_true rfl⟩, Nat.le_of_ble_eq_true rfl, Nat.le_of_ble_eq_true rfl⟩ rfl (Nat.le_of_ble_eq_true rfl) ?_
  rintro r K' M' P' ⟨rfl, rfl, rfl, rfl⟩
  refine ev_putF dX8_init_100 sX8_60 rfl rfl rfl ?_
  first | refine ev_aload_n dX8_init_103 rfl ?_ | refine ev_aloadX_n dX8_init_103 rfl ?_
  refine ev_newO (ci := 6) dX8_init_104 cls6 (wsg_in 265 (by decide +kernel) (by decide +kernel)) (wsg_in 188 (by decide +kernel) (by decide +kernel)) (wsg_in 77 (by decide +kernel) (by decide +kernel)) (by decide) (by repeat (first | exact fresh_0 _ | assumption | refine fresh.up ?_ (by decide) (by decide) | refine fresh.app ?_ _)) (Nat.le_of_ble_eq_true rfl) (Nat.le_of_ble_eq_true rfl) ?_
  refine ev_dup dX8_init_107 ?_
  refine ev_calli (n_X6_init rfl (by repeat (first | exact fresh_0 _ | assumption | refine fresh.up ?_ (by decide) (by decide) | refine fresh.app ?_ _))) dX8_init_108 tX6_init.1 tX6_init.2.2.1 tX6_init.2.2.2.1 kX8_66 tX6_init.2.1 tX6_init.2.2.2.2 ⟨⟨Nat.le_of_ble_eq_true rfl, Nat.le_of_ble_eq_true rfl⟩, Nat.le_of_ble_eq_true rfl, Nat.le_of_ble_eq_true rfl⟩ rfl (Nat.le_of_ble_eq_true rfl) ?_
  rintro r K' M' P' ⟨rfl, rfl, rfl, rfl⟩
  refine ev_putF dX8_init_111 sX8_67 rfl rfl rfl ?_
  first | refine ev_aload_n dX8_init_114 rfl ?_ | refine ev_aloadX_n dX8_init_114 rfl ?_
  refine ev_iconst dX8_init_115 ?_
  refine ev_pZ 10 dX8_init_116 sX8_71 rfl (by first | exact Or.inl rfl | exact Or.inr rfl | assumption) (by first | rfl | assumption) rfl ?_
  rw [upM_Z0]
  first | refine ev_aload_n dX8_init_119 rfl ?_ | refine ev_aloadX_n dX8_init_119 rfl ?_
  refine ev_iconst dX8_init_120 ?_
  refine ev_pI 11 dX8_init_121 sX8_75 rfl (by first | rfl | assumption) rfl ?_
  rw [upM_Z0]
  exact ev_return dX8_init_124 rfl ⟨⟨rfl, rfl, rfl, rfl⟩, Nat.le_of_ble_eq_true rfl, Nat.le_of_ble_eq_true rfl⟩
theorem fresh_PC : fresh [.inl 8, .inl 1, .inr (.inl 36), .inl 3, .inl 7, .inr (.inl 6), .inr (.inl 6), .inr (.inl 6), .inr (.inl 6), .inl 7, .inr (.inl 6), .inr (.inl 6), .inr (.inl 6), .inr (.inl 6), .inl 4, .inr (.inr 7), .inr (.inl 7), .inl 6, .inr (.inl 36), .inl 6, .inr (.inl 36), .inl 6, .inr (.inl 36), .inl 6, .inr (.inl 36), .inl 6, .inr (.inl 36), .inl 6, .inr (.inl 36), .inl 6, .inr (.inl 36), .inl 6, .inr (.inl 36), .inl 6, .inr (.inl 36), .inl 6, .inr (.inl 36), .inl 2, .inr (.inl 15), .inr (.inl 5), .inl 5, .inr (.inl 6), .inr (.inl 6), .inl 7, .inr (.inl 6), .inr (.inl 6), .inr (.inl 6), .inr (.inl 6), .inl 5, .inr (.inl 6), .inr (.inl 6), .inl 0, .inl 6, .inr (.inl 36)] Z0 PC := by
  unfold PC
  repeat (first | exact fresh_0 _ | refine fresh.up ?_ (by decide) (by decide))
theorem fresh_PCk {K : List Kd} (h : 54 ≤ K.length) : fresh K Z0 PC := ⟨fun c i hc => fresh_PC.1 c i (by show 54 ≤ c; omega), fresh_PC.2⟩
def PX : Pm := (upP (upP (upP (upP (upP (upP (upP (upP (upP (upP (upP (upP (upP PC 54 0 (some 55)) 54 7 (some 56)) 54 10 (some 57)) 54 12 (some 58)) 54 13 (some 59)) 54 14 (some 60)) 54 15 (some 61)) 54 16 (some 62)) 54 18 (some 63)) 54 19 (some 64)) 54 21 (some 65)) 54 26 (some 66)) 54 27 (some 67))
theorem PP_dec : ∀ c : Fin 68, ∀ i : Fin 30, PX c.val ((i.val : Nat) : Int) = PP c.val ((i.val : Nat) : Int) := by decide +kernel
theorem PPt_len : PPt.length = 68 ∧ ∀ c : Fin 68, (PPt.getD c.val []).length ≤ 30 := by decide +kernel
theorem fresh_PX : fresh KK Z0 PX := by
  unfold PX
  repeat (first | exact fresh_PCk (by decide) | refine fresh.up ?_ (by decide) (by decide))
theorem PX_PP (c : Nat) (i : Nat) : PX c (i : Int) = PP c (i : Int) := by
  by_cases hc : c < 68
  · by_cases hi : i < 30
    · exact PP_dec ⟨c, hc⟩ ⟨i, hi⟩
    · rw [fresh_PX.2 c i (by omega)]
      have := PPt_len.2 ⟨c, hc⟩
      unfold PP
      rw [Int.toNat_natCast, List.getD_eq_getElem?_getD (l := PPt.getD c []), List.getElem?_eq_none_iff.mpr (by simp only at this; omega)]
      rfl
  · rw [(fresh_PX.1 c i (by show 68 ≤ c; omega)).2]
    unfold PP
    rw [List.getD_eq_getElem?_getD (l := PPt), List.getElem?_eq_none_iff.mpr (by rw [PPt_len.1]; omega)]
    rfl
theorem hr_P {g : Gv} {K : List Kd} {M : Mm} {P P' : Pm} {H : Heap} (h : HR g K M P H) (e : ∀ (c : Nat) (i : Nat), P c (i : Int) = P' c (i : Int)) : HR g K M P' H := by
  have ew : wl g K M P = wl g K M P' := by
    unfold wl
    congr 1
    funext c
    congr 1
    generalize K.getD c (.inl 0) = kd
    match kd with
    | .inl ci =>
      simp only [kE]
      congr 2
      refine List.map_congr_left fun f _ => ?_
      rw [e c f]
    | .inr (.inl n) => rfl
    | .inr (.inr n) =>
      have e2 : (fun i : Nat => (P c (i : Int)).map (fun d => gb g + d)) = (fun i : Nat => (P' c (i : Int)).map (fun d => gb g + d)) := funext fun i => by rw [e c i]
      simp only [kE]
      rw [e2]
  exact ⟨h.1, by rw [← ew]; exact h.2⟩
theorem ev_P {d : Md} {pc : Nat} {L : Lo} {S : List V} {K : List Kd} {M : Mm} {P P' : Pm} {k n : Nat} {Φ : Ps} (e : ∀ (c : Nat) (i : Nat), P c (i : Int) = P' c (i : Int)) (kk : Ev d pc L S K M P' k n Φ) : Ev d pc L S K M P k n Φ := by
  intro p l e' s m args below meth cd g Q F E X R H locs ls hH hS hl
  exact kk p l e' s m args below meth cd g Q F E X R H locs ls (hr_P hH e) hS hl
/-- memory as it stands when all is made -/
def sgT (i : Nat) : Int → Int := fun j => if 0 ≤ j ∧ j < i then pv (j / 6) (j % 6) else 0
def MI : Mm := rwc (rwc (upM Z0 54 23 (-1)) 64 (fillS (-1) (Z0 64) 15)) 59 (sgT 29478)
theorem n_X9_init : Cl mX9_init [vR 54] [.inl 8, .inl 1, .inr (.inl 36), .inl 3, .inl 7, .inr (.inl 6), .inr (.inl 6), .inr (.inl 6), .inr (.inl 6), .inl 7, .inr (.inl 6), .inr (.inl 6), .inr (.inl 6), .inr (.inl 6), .inl 4, .inr (.inr 7), .inr (.inl 7), .inl 6, .inr (.inl 36), .inl 6, .inr (.inl 36), .inl 6, .inr (.inl 36), .inl 6, .inr (.inl 36), .inl 6, .inr (.inl 36), .inl 6, .inr (.inl 36), .inl 6, .inr (.inl 36), .inl 6, .inr (.inl 36), .inl 6, .inr (.inl 36), .inl 6, .inr (.inl 36), .inl 2, .inr (.inl 15), .inr (.inl 5), .inl 5, .inr (.inl 6), .inr (.inl 6), .inl 7, .inr (.inl 6), .inr (.inl 6), .inr (.inl 6), .inr (.inl 6), .inl 5, .inr (.inl 6), .inr (.inl 6), .inl 0, .inl 6, .inr (.inl 36), .inl 9] Z0 PC (fun r K' M' P' => r = none ∧ K' = KK ∧ M' = MI ∧ P' = PP) := by
  refine cl_of (by decide +kernel) (fun _ => trivial) (Nat.le_of_ble_eq_true rfl) ?_
  first | refine ev_aload_n dX9_init_0 rfl ?_ | refine ev_aloadX_n dX9_init_0 rfl ?_
  refine ev_objI dX9_init_1 (wsg_in 837 (by decide +kernel) (by decide +kernel)) (Nat.le_of_ble_eq_true rfl) (Nat.le_of_ble_eq_true rfl) (Nat.le_of_ble_eq_true rfl) ?_
  first | refine ev_aload_n dX9_init_4 rfl ?_ | refine ev_aloadX_n dX9_init_4 rfl ?_
  refine ev_bipush dX9_init_5 ?_
  refine ev_newI (N := 36) dX9_init_7 (by decide) (by repeat (first | exact fresh_0 _ | exact fresh_PCk (by decide) | assumption | refine fresh.up ?_ (by decide) (by decide) | refine fresh.app ?_ _)) (Nat.le_of_ble_eq_true rfl) (Nat.le_of_ble_eq_true rfl) ?_
  refine ev_putF dX9_init_9 sX9_7 rfl rfl rfl ?_
  first | refine ev_aload_n dX9_init_12 rfl ?_ | refine ev_aloadX_n dX9_init_12 rfl ?_
  refine ev_bipush dX9_init_13 ?_
  refine ev_newI (N := 24) dX9_init_15 (by decide) (by repeat (first | exact fresh_0 _ | exact fresh_PCk (by decide) | assumption | refine fresh.up ?_ (by decide) (by decide) | refine fresh.app ?_ _)) (Nat.le_of_ble_eq_true rfl) (Nat.le_of_ble_eq_true rfl) ?_
  refine ev_putF dX9_init_17 sX9_13 rfl rfl rfl ?_
  first | refine ev_aload_n dX9_init_20 rfl ?_ | refine ev_aloadX_n dX9_init_20 rfl ?_
  refine ev_bipush dX9_init_21 ?_
  refine ev_newI (N := 24) dX9_init_23 (by decide) (by repeat (first | exact fresh_0 _ | exact fresh_PCk (by decide) | assumption | refine fresh.up ?_ (by decide) (by decide) | refine fresh.app ?_ _)) (Nat.le_of_ble_eq_true rfl) (Nat.le_of_ble_eq_true rfl) ?_
  refine ev_putF dX9_init_25 sX9_16 rfl rfl rfl ?_
  first | refine ev_aload_n dX9_init_28 rfl ?_ | refine ev_aloadX_n dX9_init_28 rfl ?_
  refine ev_ldc (z := 49130) dX9_init_29 iX9_19 (by decide) ?_
  refine ev_newI (N := 49130) dX9_init_31 (by decide) (by repeat (first | exact fresh_0 _ | exact fresh_PCk (by decide) | assumption | refine fresh.up ?_ (by decide) (by decide) | refine fresh.app ?_ _)) (Nat.le_of_ble_eq_true rfl) (Nat.le_of_ble_eq_true rfl) ?_
  refine ev_putF dX9_init_33 sX9_20 rfl rfl rfl ?_
  first | refine ev_aload_n dX9_init_36 rfl ?_ | refine ev_aloadX_n dX9_init_36 rfl ?_
  refine ev_sipush dX9_init_37 ?_
  refine ev_newI (N := 29478) dX9_init_40 (by decide) (by repeat (first | exact fresh_0 _ | exact fresh_PCk (by decide) | assumption | refine fresh.up ?_ (by decide) (by decide) | refine fresh.app ?_ _)) (Nat.le_of_ble_eq_true rfl) (Nat.le_of_ble_eq_true rfl) ?_
  refine ev_putF dX9_init_42 sX9_23 rfl rfl rfl ?_
  first | refine ev_aload_n dX9_init_45 rfl ?_ | refine ev_aloadX_n dX9_init_45 rfl ?_
  refine ev_bipush dX9_init_46 ?_
  refine ev_newI (N := 36) dX9_init_48 (by decide) (by repeat (first | exact fresh_0 _ | exact fresh_PCk (by decide) | assumption | refine fresh.up ?_ (by decide) (by decide) | refine fresh.app ?_ _)) (Nat.le_of_ble_eq_true rfl) (Nat.le_of_ble_eq_true rfl) ?_
  refine ev_putF dX9_init_50 sX9_26 rfl rfl rfl ?_
  first | refine ev_aload_n dX9_init_53 rfl ?_ | refine ev_aloadX_n dX9_init_53 rfl ?_
  refine ev_bipush dX9_init_54 ?_
  refine ev_newI (N := 36) dX9_init_56 (by decide) (by repeat (first | exact fresh_0 _ | exact fresh_PCk (by decide) | assumption | refine fresh.up ?_ (by decide) (by decide) | refine fresh.app ?_ _)) (Nat.le_of_ble_eq_true rfl) (Nat.le_of_ble_eq_true rfl) ?_
  refine ev_putF dX9_init_58 sX9_29 rfl rfl rfl ?_
  first | refine ev_aload_n dX9_init_61 rfl ?_ | refine ev_aloadX_n dX9_init_61 rfl ?_
  refine ev_bipush dX9_init_62 ?_
  refine ev_newI (N := 36) dX9_init_64 (by decide) (by repeat (first | exact fresh_0 _ | exact fresh_PCk (by decide) | assumption | refine fresh.up ?_ (by decide) (by decide) | refine fresh.app ?_ _)) (Nat.le_of_ble_eq_true rfl) (Nat.le_of_ble_eq_true rfl) ?_
  refine ev_putF dX9_init_66 sX9_32 rfl rfl rfl ?_
  first | refine ev_aload_n dX9_init_69 rfl ?_ | refine ev_aloadX_n dX9_init_69 rfl ?_
  refine ev_bipush dX9_init_70 ?_
  refine ev_newI (N := 7) dX9_init_72 (by decide) (by repeat (first | exact fresh_0 _ | exact fresh_PCk (by decide) | assumption | refine fresh.up ?_ (by decide) (by decide) | refine fresh.app ?_ _)) (Nat.le_of_ble_eq_true rfl) (Nat.le_of_ble_eq_true rfl) ?_
  refine ev_putF dX9_init_74 sX9_35 rfl rfl rfl ?_
  first | refine ev_aload_n dX9_init_77 rfl ?_ | refine ev_aloadX_n dX9_init_77 rfl ?_
  refine ev_bipush dX9_init_78 ?_
  refine ev_newI (N := 15) dX9_init_80 (by decide) (by repeat (first | exact fresh_0 _ | exact fresh_PCk (by decide) | assumption | refine fresh.up ?_ (by decide) (by decide) | refine fresh.app ?_ _)) (Nat.le_of_ble_eq_true rfl) (Nat.le_of_ble_eq_true rfl) ?_
  refine ev_putF dX9_init_82 sX9_38 rfl rfl rfl ?_
  first | refine ev_aload_n dX9_init_85 rfl ?_ | refine ev_aloadX_n dX9_init_85 rfl ?_
  refine ev_bipush dX9_init_86 ?_
  refine ev_newI (N := 18) dX9_init_88 (by decide) (by repeat (first | exact fresh_0 _ | exact fresh_PCk (by decide) | assumption | refine fresh.up ?_ (by decide) (by decide) | refine fresh.app ?_ _)) (Nat.le_of_ble_eq_true rfl) (Nat.le_of_ble_eq_true rfl) ?_
  refine ev_putF dX9_init_90 sX9_41 rfl rfl rfl ?_
  first | refine ev_aload_n dX9_init_93 rfl ?_ | refine ev_aloadX_n dX9_init_93 rfl ?_
  refine ev_bipush dX9_init_94 ?_
  refine ev_newI (N := 24) dX9_init_96 (by decide) (by repeat (first | exact fresh_0 _ | exact fresh_PCk (by decide) | assumption | refine fresh.up ?_ (by decide) (by decide) | refine fresh.app ?_ _)) (Nat.le_of_ble_eq_true rfl) (Nat.le_of_ble_eq_true rfl) ?_
  refine ev_putF dX9_init_98 sX9_44 rfl rfl rfl ?_
  first | refine ev_aload_n dX9_init_101 rfl ?_ | refine ev_aloadX_n dX9_init_101 rfl ?_
  refine ev_bipush dX9_init_102 ?_
  refine ev_newI (N := 18) dX9_init_104 (by decide) (by repeat (first | exact fresh_0 _ | exact fresh_PCk (by decide) | assumption | refine fresh.up ?_ (by decide) (by decide) | refine fresh.app ?_ _)) (Nat.le_of_ble_eq_true rfl) (Nat.le_of_ble_eq_true rfl) ?_
  refine ev_putF dX9_init_106 sX9_47 rfl rfl rfl ?_
  refine ev_P PX_PP ?_
  show Ev mX9_init 109 _ [] KK Z0 PP 13 78882 (fun r K' M' P' k n => (r = none ∧ K' = KK ∧ M' = MI ∧ P' = PP) ∧ k ≤ (dR mX9_init).cells ∧ n ≤ (dR mX9_init).slots)
  first | refine ev_aload_n dX9_init_109 rfl ?_ | refine ev_aloadX_n dX9_init_109 rfl ?_
  refine ev_iconst dX9_init_110 ?_
  refine ev_pI 23 dX9_init_111 sX9_50 rfl (by first | rfl | assumption) rfl ?_
  refine ev_iconst dX9_init_114 ?_
  refine ev_istore_n dX9_init_115 (by decide) ?_
  have e64 : upM Z0 54 23 (-1) 64 = Z0 64 := upM_o (by decide)
  suffices st : Ev mX9_init 116 [some (vR 54), some (vI ((0 : Nat) : Int)), none] [] KK (rwc (upM Z0 54 23 (-1)) 64 (fillS (-1) (Z0 64) (0 : Nat))) PP 13 78882 (fun r K' M' P' k n => (r = none ∧ K' = KK ∧ M' = MI ∧ P' = PP) ∧ k ≤ (dR mX9_init).cells ∧ n ≤ (dR mX9_init).slots) by
    rw [fillS_0, ← e64, rwc_self] at st
    exact ev_to st (by repeat (first | exact trivial | refine ⟨rfl, ?_⟩)) rfl rfl rfl rfl
  refine up_loop (P := fun i => Ev mX9_init 116 [some (vR 54), some (vI (i : Int)), none] [] KK (rwc (upM Z0 54 23 (-1)) 64 (fillS (-1) (Z0 64) i)) PP 13 78882 _) 15 ?_ ?_
  · have e59 : rwc (upM Z0 54 23 (-1)) 64 (fillS (-1) (Z0 64) 15) 59 = sgT 0 := by
      rw [rwc_ne (by decide), upM_o (by decide)]
      funext j
      unfold sgT Z0
      rw [if_neg (by omega)]
    have hMI : MI = rwc (rwc (upM Z0 54 23 (-1)) 64 (fillS (-1) (Z0 64) 15)) 59 (sgT 29478) := rfl
    generalize rwc (upM Z0 54 23 (-1)) 64 (fillS (-1) (Z0 64) 15) = X at *
    have lp : Ev mX9_init 137 [some (vR 54), some (vI ((0 : Nat) : Int)), none] [] KK (rwc X 59 (sgT (0 : Nat))) PP 13 78882 (fun r K' M' P' k n => (r = none ∧ K' = KK ∧ M' = MI ∧ P' = PP) ∧ k ≤ (dR mX9_init).cells ∧ n ≤ (dR mX9_init).slots) := by
      refine up_loop (P := fun i => Ev mX9_init 137 [some (vR 54), some (vI (i : Int)), none] [] KK (rwc X 59 (sgT i)) PP 13 78882 _) 29478 ?_ ?_
      · refine ev_iload_n dX9_init_137 rfl ?_
        refine ev_sipush dX9_init_138 ?_
        refine ev_icmp_ge (tgt := 183) dX9_init_141 (by decide) (by omega) (by omega) (fun hb141 => ?_) (fun hb141 => ?_)
        · exact ev_return dX9_init_183 rfl ⟨⟨rfl, rfl, hMI.symm, rfl⟩, by decide, by decide⟩
        · omega
      · intro i hi hP
        have hx : 0 ≤ (i : Int) % 6 / 2 ∧ (i : Int) % 6 / 2 < 3 := by omega
        have hip : inP ((i : Int) / 6) := by omega
        have hsg := pv_sgn ((i : Int) / 6) (2 * ((i : Int) % 6 / 2)) (by omega)
        have fin : ∀ v : Int, v = pv ((i : Int) / 6) ((i : Int) % 6) → upM (rwc X 59 (sgT i)) 59 (i : Int) v = rwc X 59 (sgT (i + 1)) := by
          intro v hv
          rw [upM_rw, rwc_rwc, rwc_at]
          congr 1
          funext j
          unfold up1 sgT
          by_cases hj : j = (i : Int)
          · rw [if_pos hj, if_pos (by omega), hv, hj]
          · rw [if_neg hj]
            try dsimp only
            split <;> split <;> first | rfl | omega
        have kv := k_value (p := (i : Int) / 6) (x := (i : Int) % 6 / 2) hip hx.1 hx.2 (rwc X 59 (sgT i))
        refine ev_iload_n dX9_init_137 rfl ?_
        refine ev_sipush dX9_init_138 ?_
        refine ev_icmp_ge (tgt := 183) dX9_init_141 (by decide) (by omega) (by omega) (fun hb141 => ?_) (fun hb141 => ?_)
        · omega
        · refine ev_iload_n dX9_init_144 rfl ?_
          refine ev_bipush dX9_init_145 ?_
          refine ev_idiv dX9_init_147 (by omega) (by omega) (by omega) (by omega) ?_
          rw [Int.tdiv_eq_ediv_of_nonneg (by omega)]
          refine ev_iload_n dX9_init_148 rfl ?_
          refine ev_bipush dX9_init_149 ?_
          refine ev_irem dX9_init_151 (by omega) (by omega) (by omega) (by omega) ?_
          rw [tmod_nn (by omega)]
          refine ev_iconst dX9_init_152 ?_
          refine ev_idiv dX9_init_153 (by omega) (by omega) (by omega) (by omega) ?_
          rw [Int.tdiv_eq_ediv_of_nonneg (by omega)]
          refine ev_calls kv dX9_init_154 tX9_value.1 kX9_54 tX9_value.2.1 tX9_value.2.2 ⟨⟨Nat.le_of_ble_eq_true rfl, Nat.le_of_ble_eq_true rfl⟩, Nat.le_of_ble_eq_true rfl, Nat.le_of_ble_eq_true rfl⟩ rfl (Nat.le_of_ble_eq_true rfl) ?_
          rintro r K' M' P' ⟨rfl, rfl, rfl, hM'⟩
          rw [hM']
          clear hM' M'
          refine ev_istore_n dX9_init_157 (by decide) ?_
          first | refine ev_aload_n dX9_init_158 rfl ?_ | refine ev_aloadX_n dX9_init_158 rfl ?_
          refine ev_getR dX9_init_159 fX9_23 rfl (by first | rfl | assumption) (by first | rfl | assumption) ?_
          refine ev_iload_n dX9_init_162 rfl ?_
          refine ev_iload_n dX9_init_163 rfl ?_
          refine ev_iconst dX9_init_164 ?_
          refine ev_irem dX9_init_165 (by omega) (by omega) (by omega) (by omega) ?_
          rw [tmod_nn (by omega)]
          refine ev_if_ne (tgt := 173) dX9_init_166 (by decide) (by omega) (fun hb166 => ?_) (fun hb166 => ?_)
          · refine ev_iconst dX9_init_173 ?_
            refine ev_iload_n dX9_init_174 rfl ?_
            refine ev_isub dX9_init_175 ?_
            refine ev_iastore dX9_init_176 (by first | rfl | assumption) (by omega) (by omega) (by decide) ?_
            refine ev_iinc dX9_init_177 rfl (by decide) ?_
            refine ev_goto (tgt := 137) dX9_init_180 (by decide) ?_
            refine ev_to hP (by repeat (first | exact trivial | refine ⟨rfl, ?_⟩)) (fin _ ?_) rfl rfl rfl
            first | (have e : (i : Int) % 6 = 2 * ((i : Int) % 6 / 2) := by omega); rw [← e] | (have e2 : pv ((i : Int) / 6) ((i : Int) % 6) = pv ((i : Int) / 6) (nx (2 * ((i : Int) % 6 / 2))) := congrArg _ (by unfold nx; rw [if_pos (by omega)]; omega)); rw [e2, hsg]; omega
          · refine ev_iload_n dX9_init_169 rfl ?_
            refine ev_goto (tgt := 176) dX9_init_170 (by decide) ?_
            refine ev_iastore dX9_init_176 (by first | rfl | assumption) (by omega) (by omega) (by decide) ?_
            refine ev_iinc dX9_init_177 rfl (by decide) ?_
            refine ev_goto (tgt := 137) dX9_init_180 (by decide) ?_
            refine ev_to hP (by repeat (first | exact trivial | refine ⟨rfl, ?_⟩)) (fin _ ?_) rfl rfl rfl
            first | (have e : (i : Int) % 6 = 2 * ((i : Int) % 6 / 2) := by omega); rw [← e] | (have e2 : pv ((i : Int) / 6) ((i : Int) % 6) = pv ((i : Int) / 6) (nx (2 * ((i : Int) % 6 / 2))) := congrArg _ (by unfold nx; rw [if_pos (by omega)]; omega)); rw [e2, hsg]; omega
    rw [← e59, rwc_self] at lp
    refine ev_iload_n dX9_init_116 rfl ?_
    refine ev_bipush dX9_init_117 ?_
    refine ev_icmp_ge (tgt := 135) dX9_init_119 (by decide) (by omega) (by omega) (fun hb119 => ?_) (fun hb119 => ?_)
    · refine ev_iconst dX9_init_135 ?_
      refine ev_istore_n dX9_init_136 (by decide) ?_
      exact ev_to lp (by repeat (first | exact trivial | refine ⟨rfl, ?_⟩)) rfl rfl rfl rfl
    · omega
  · intro i hi hP
    refine ev_iload_n dX9_init_116 rfl ?_
    refine ev_bipush dX9_init_117 ?_
    refine ev_icmp_ge (tgt := 135) dX9_init_119 (by decide) (by omega) (by omega) (fun hb119 => ?_) (fun hb119 => ?_)
    · omega
    · first | refine ev_aload_n dX9_init_122 rfl ?_ | refine ev_aloadX_n dX9_init_122 rfl ?_
      refine ev_getR dX9_init_123 fX9_38 rfl (by first | rfl | assumption) (by first | rfl | assumption) ?_
      refine ev_iload_n dX9_init_126 rfl ?_
      refine ev_iconst dX9_init_127 ?_
      refine ev_iastore dX9_init_128 (by first | rfl | assumption) (by omega) (by omega) (by decide) ?_
      refine ev_iinc dX9_init_129 rfl (by decide) ?_
      refine ev_goto (tgt := 116) dX9_init_132 (by decide) ?_
      refine ev_to hP (by repeat (first | exact trivial | refine ⟨rfl, ?_⟩)) ?_ rfl rfl rfl
      rw [upM_rw, rwc_rwc, rwc_at]
      congr 1
      funext j
      unfold fillS up1
      by_cases hj : j = (i : Int)
      · rw [if_pos hj, if_pos (by omega)]
      · rw [if_neg hj]
        dsimp only
        split <;> split <;> first | rfl | omega
