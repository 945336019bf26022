/-! ===== SumBounds.shareBits, and others ===== -/
def dbl : Nat → Int → Int → Int × Int
  | 0, r, e => (r, e)
  | f + 1, r, e => if r < 4913 then dbl f (r * 2) (e - 1) else (r, e)
def shU (p : Int) : Int := (dbl 13 p 1023).1
def shX (p : Int) : Int := (dbl 13 p 1023).2
def shB (p : Int) : Int := if p ≤ 0 then 0 else shX p * 4503599627370496 + (shU p - 4913) * 4503599627370496 / 4913 + (if 4913 < 2 * ((shU p - 4913) * 4503599627370496 % 4913) then 1 else 0)
theorem dbl_s (f : Nat) (r e : Int) (h : r < 4913) : dbl (f + 1) r e = dbl f (r * 2) (e - 1) := by simp [dbl, h]
theorem dbl_n (f : Nat) (r e : Int) (h : ¬ r < 4913) : dbl f r e = (r, e) := by
  cases f with
  | zero => rfl
  | succ f => simp [dbl, h]
theorem dbl_rng : ∀ (f : Nat) (r e : Int), 1 ≤ r → r < 9826 → (4913 ≤ r * 2 ^ f) → 4913 ≤ (dbl f r e).1 ∧ (dbl f r e).1 < 9826 ∧ e - f ≤ (dbl f r e).2 ∧ (dbl f r e).2 ≤ e := by
  intro f
  induction f with
  | zero => intro r e h1 h2 h3; simp [dbl]; omega
  | succ f ih =>
    intro r e h1 h2 h3
    by_cases h : r < 4913
    · rw [dbl_s f r e h]
      have := ih (r * 2) (e - 1) (by omega) (by omega) (by rw [Int.pow_succ] at h3; rw [Int.mul_assoc, Int.mul_comm 2]; exact h3)
      omega
    · rw [dbl_n _ r e h]
      simp only
      omega
def dvQ (u : Int) (i : Nat) : Int := u * 2 ^ i / 4913
def dvR (u : Int) (i : Nat) : Int := u * 2 ^ i % 4913
theorem dv_s (u : Int) (i : Nat) : dvR u (i + 1) = (if dvR u i * 2 < 4913 then dvR u i * 2 else dvR u i * 2 - 4913) ∧ dvQ u (i + 1) = (if dvR u i * 2 < 4913 then dvQ u i * 2 else dvQ u i * 2 + 1) ∧ 0 ≤ dvR u i ∧ dvR u i < 4913 := by
  unfold dvR dvQ
  rw [Int.pow_succ, ← Int.mul_assoc]
  generalize u * 2 ^ i = x
  constructor
  · split <;> omega
  constructor
  · split <;> omega
  · omega
theorem shl_e : ∀ j : Fin 14, shlL (1010 + ((j.val : Nat) : Int)) 52 = (1010 + ((j.val : Nat) : Int)) * 4503599627370496 := by decide
theorem shl_v {e : Int} (h : 1010 ≤ e) (h2 : e ≤ 1023) : shlL e 52 = e * 4503599627370496 := by
  have := shl_e ⟨(e - 1010).toNat, by omega⟩
  have e1 : (1010 : Int) + (((e - 1010).toNat : Nat) : Int) = e := by omega
  simp only [e1] at this
  exact this
theorem c_shareBits {p : Int} (hp : p ≤ 4913) (hp0 : 0 ≤ p) (M : Mm) : Cm mX8_shareBits [vI p] M (fun r M' => r = some (vL (shB p)) ∧ M' = M) := by
  unfold shB
  refine cm_of (by decide +kernel) (fun _ => trivial) (Nat.le_of_ble_eq_true rfl) ?_
  refine ev_iload_n dX8_shareBits_0 rfl ?_
  refine ev_if_gt (tgt := 6) dX8_shareBits_1 (by decide) (by omega) (fun h0 => ?_) (fun h0 => ?_)
  case refine_2 =>
    refine ev_lconst (z := 0) dX8_shareBits_4 ?_
    exact ev_lreturn dX8_shareBits_5 rfl (rz ⟨by rw [if_pos (by omega)], rfl⟩)
  rw [if_neg (by omega)]
  have hr := dbl_rng 13 p 1023 (by omega) (by omega) (by omega)
  -- from the end of the first loop on
  have tail : Ev mX8_shareBits 43 [some (vI p), some (vI (shU p)), some (vL (shX p)), none, none, none, none, none] [] KK M PP 0 0 (Rz mX8_shareBits (fun r M' => r = some (vL (shX p * 4503599627370496 + (shU p - 4913) * 4503599627370496 / 4913 + (if 4913 < 2 * ((shU p - 4913) * 4503599627370496 % 4913) then 1 else 0))) ∧ M' = M)) := by
    have hU : 4913 ≤ shU p ∧ shU p < 9826 := ⟨hr.1, hr.2.1⟩
    have hE : 1010 ≤ shX p ∧ shX p ≤ 1023 := ⟨by have := hr.2.2.1; unfold shX; omega, hr.2.2.2⟩
    generalize shU p = u at *
    generalize shX p = e at *
    refine ev_iincW dX8_shareBits_43 rfl (by decide) ?_
    refine ev_lconst (z := 0) dX8_shareBits_49 ?_
    refine ev_lstore dX8_shareBits_50 (by decide) ?_
    refine ev_iconst dX8_shareBits_52 ?_
    refine ev_istore dX8_shareBits_53 (by decide) ?_
    have q0 : dvR (u - 4913) 0 = u + -4913 := by unfold dvR; rw [Int.pow_zero, Int.mul_one]; omega
    have q1 : dvQ (u - 4913) 0 = 0 := by unfold dvQ; rw [Int.pow_zero, Int.mul_one]; omega
    suffices st : Ev mX8_shareBits 55 [some (vI p), some (vI (dvR (u - 4913) (0 : Nat))), some (vL e), none, some (vL (dvQ (u - 4913) (0 : Nat))), none, some (vI ((0 : Nat) : Int))] [] KK (M) PP 0 0 _ by
      rw [q0, q1] at st
      exact ev_to st (by repeat (first | exact trivial | refine ⟨rfl, ?_⟩)) rfl rfl rfl rfl
    refine up_loop (P := fun i => Ev mX8_shareBits 55 [some (vI p), some (vI (dvR (u - 4913) i)), some (vL e), none, some (vL (dvQ (u - 4913) i)), none, some (vI (i : Int))] [] KK (M) PP 0 0 _) 52 ?_ ?_
    · have h52 := dv_s (u - 4913) 52
      have r52 : dvR (u - 4913) 52 = (u - 4913) * 4503599627370496 % 4913 := rfl
      have q52 : dvQ (u - 4913) 52 = (u - 4913) * 4503599627370496 / 4913 := rfl
      rw [← r52, ← q52]
      refine ev_iload dX8_shareBits_55 rfl ?_
      refine ev_bipush dX8_shareBits_57 ?_
      refine ev_icmp_ge (tgt := 99) dX8_shareBits_59 (by decide) (by omega) (by omega) (fun hb59 => ?_) (fun hb59 => ?_)
      · refine ev_lload_n dX8_shareBits_99 rfl ?_
        refine ev_bipush dX8_shareBits_100 ?_
        refine ev_lshl dX8_shareBits_102 ?_
        rw [shl_v hE.1 hE.2]
        refine ev_lload dX8_shareBits_103 rfl ?_
        refine ev_ladd dX8_shareBits_105 ?_
        refine ev_lstore dX8_shareBits_106 (by decide) ?_
        refine ev_iconst dX8_shareBits_108 ?_
        refine ev_iload_n dX8_shareBits_109 rfl ?_
        refine ev_imul dX8_shareBits_110 ?_
        refine ev_sipush dX8_shareBits_111 ?_
        refine ev_icmp_le (tgt := 124) dX8_shareBits_114 (by decide) (by omega) (by omega) (fun hb114 => ?_) (fun hb114 => ?_)
        · refine ev_lload dX8_shareBits_124 rfl ?_
          exact ev_lreturn dX8_shareBits_126 rfl (rz ⟨by split <;> first | rfl | omega | rw [Int.add_zero], rfl⟩)
        · refine ev_lload dX8_shareBits_117 rfl ?_
          refine ev_lconst (z := 1) dX8_shareBits_119 ?_
          refine ev_ladd dX8_shareBits_120 ?_
          refine ev_goto (tgt := 126) dX8_shareBits_121 (by decide) ?_
          exact ev_lreturn dX8_shareBits_126 rfl (rz ⟨by split <;> first | rfl | omega | rw [Int.add_zero], rfl⟩)
      · omega
    · intro i hi hP
      obtain ⟨s1, s2, s3⟩ := dv_s (u - 4913) i
      rw [s1, s2] at hP
      refine ev_iload dX8_shareBits_55 rfl ?_
      refine ev_bipush dX8_shareBits_57 ?_
      refine ev_icmp_ge (tgt := 99) dX8_shareBits_59 (by decide) (by omega) (by omega) (fun hb59 => ?_) (fun hb59 => ?_)
      · omega
      · refine ev_iload_n dX8_shareBits_62 rfl ?_
        refine ev_iconst dX8_shareBits_63 ?_
        refine ev_imul dX8_shareBits_64 ?_
        refine ev_istore_n dX8_shareBits_65 (by decide) ?_
        refine ev_lload dX8_shareBits_66 rfl ?_
        refine ev_ldc2 (z := 2) dX8_shareBits_68 jX8_321 (by decide) ?_
        refine ev_lmul dX8_shareBits_71 ?_
        refine ev_lstore dX8_shareBits_72 (by decide) ?_
        refine ev_iload_n dX8_shareBits_74 rfl ?_
        refine ev_sipush dX8_shareBits_75 ?_
        refine ev_icmp_lt (tgt := 93) dX8_shareBits_78 (by decide) (by omega) (by omega) (fun hb78 => ?_) (fun hb78 => ?_)
        · refine ev_iinc dX8_shareBits_93 rfl (by decide) ?_
          refine ev_goto (tgt := 55) dX8_shareBits_96 (by decide) ?_
          first | rw [if_pos (by omega), if_pos (by omega)] at hP | rw [if_neg (by omega), if_neg (by omega)] at hP
          exact ev_to hP (by repeat (first | exact trivial | refine ⟨rfl, ?_⟩)) rfl rfl rfl rfl
        · refine ev_iincW dX8_shareBits_81 rfl (by decide) ?_
          refine ev_lload dX8_shareBits_87 rfl ?_
          refine ev_lconst (z := 1) dX8_shareBits_89 ?_
          refine ev_ladd dX8_shareBits_90 ?_
          refine ev_lstore dX8_shareBits_91 (by decide) ?_
          refine ev_iinc dX8_shareBits_93 rfl (by decide) ?_
          refine ev_goto (tgt := 55) dX8_shareBits_96 (by decide) ?_
          first | rw [if_pos (by omega), if_pos (by omega)] at hP | rw [if_neg (by omega), if_neg (by omega)] at hP
          exact ev_to hP (by repeat (first | exact trivial | refine ⟨rfl, ?_⟩)) rfl rfl rfl rfl
  refine ev_iload_n dX8_shareBits_6 rfl ?_
  refine ev_istore_n dX8_shareBits_7 (by decide) ?_
  refine ev_ldc2 (z := 1023) dX8_shareBits_8 jX8_319 (by decide) ?_
  refine ev_lstore_n dX8_shareBits_11 (by decide) ?_
  refine ev_iconst dX8_shareBits_12 ?_
  refine ev_istore dX8_shareBits_13 (by decide) ?_
  have key : ∀ f i : Nat, f + i = 13 → ∀ r e : Int, 1 ≤ r → r < 9826 → dbl f r e = dbl 13 p 1023 → Ev mX8_shareBits 15 [some (vI p), some (vI r), some (vL e), none, some (vI (i : Int)), none, none, none] [] KK M PP 0 0 (Rz mX8_shareBits (fun r M' => r = some (vL (shX p * 4503599627370496 + (shU p - 4913) * 4503599627370496 / 4913 + (if 4913 < 2 * ((shU p - 4913) * 4503599627370496 % 4913) then 1 else 0))) ∧ M' = M)) := by
    intro f
    induction f with
    | zero =>
      intro i hi r e h1 h2 h3
      have e1 : shU p = r := by unfold shU; rw [← h3]; rfl
      have e2 : shX p = e := by unfold shX; rw [← h3]; rfl
      refine ev_iload dX8_shareBits_15 rfl ?_
      refine ev_bipush dX8_shareBits_17 ?_
      refine ev_icmp_ge (tgt := 43) dX8_shareBits_19 (by decide) (by omega) (by omega) (fun h => ?_) (fun h => ?_)
      · rw [← e1, ← e2]
        exact ev_to tail (by repeat (first | exact trivial | refine ⟨rfl, ?_⟩)) rfl rfl rfl rfl
      · omega
    | succ f ih =>
      intro i hi r e h1 h2 h3
      refine ev_iload dX8_shareBits_15 rfl ?_
      refine ev_bipush dX8_shareBits_17 ?_
      refine ev_icmp_ge (tgt := 43) dX8_shareBits_19 (by decide) (by omega) (by omega) (fun h => ?_) (fun h => ?_)
      · omega
      refine ev_iload_n dX8_shareBits_22 rfl ?_
      refine ev_sipush dX8_shareBits_23 ?_
      refine ev_icmp_ge (tgt := 43) dX8_shareBits_26 (by decide) (by omega) (by omega) (fun h4 => ?_) (fun h4 => ?_)
      · rw [dbl_n _ _ _ (by omega)] at h3
        have e1 : shU p = r := by unfold shU; rw [← h3]
        have e2 : shX p = e := by unfold shX; rw [← h3]
        rw [← e1, ← e2]
        exact ev_to tail (by repeat (first | exact trivial | refine ⟨rfl, ?_⟩)) rfl rfl rfl rfl
      · rw [dbl_s _ _ _ h4] at h3
        refine ev_iload_n dX8_shareBits_29 rfl ?_
        refine ev_iconst dX8_shareBits_30 ?_
        refine ev_imul dX8_shareBits_31 ?_
        refine ev_istore_n dX8_shareBits_32 (by decide) ?_
        refine ev_lload_n dX8_shareBits_33 rfl ?_
        refine ev_lconst (z := 1) dX8_shareBits_34 ?_
        refine ev_lsub dX8_shareBits_35 ?_
        refine ev_lstore_n dX8_shareBits_36 (by decide) ?_
        refine ev_iinc dX8_shareBits_37 rfl (by decide) ?_
        refine ev_goto (tgt := 15) dX8_shareBits_40 (by decide) ?_
        have := ih (i + 1) (by omega) (r * 2) (e - 1) (by omega) (by omega) h3
        exact ev_to this (by repeat (first | exact trivial | refine ⟨rfl, ?_⟩)) rfl rfl rfl rfl
  have k13 := key 13 0 rfl p 1023 (by omega) (by omega) rfl
  exact ev_to k13 (by repeat (first | exact trivial | refine ⟨rfl, ?_⟩)) rfl rfl rfl rfl
