/-! ===== the reader, letter by letter ===== -/
theorem rdA_b {M M' : Mm} {z : Int} (h : M 3 1 = -1) : rdA M z M' ↔ ¬ (kdOf z < 0 ∨ (kdOf z = 4 ∧ M 4 4 ≤ bllM M)) ∧ M' = bgnM M (kdOf z) := by
  unfold rdA
  rw [if_pos h]
theorem rdA_e {M M' : Mm} {z : Int} (h : M 3 1 ≠ -1) (h2 : fml (M 3 1) ≤ M 3 2) : rdA M z M' ↔ (z = 44 ∧ M 4 4 < 6) ∧ M' = upM M 3 1 (-1) := by
  unfold rdA
  rw [if_neg h, if_pos h2]
theorem rdA_00 {M M' : Mm} {z : Int} (h : M 3 1 = 0) (h2 : M 3 2 = 0) : rdA M z M' ↔ (0 ≤ z - 48 ∧ z - 48 < 6) ∧ M' = upM (upM M 3 3 (z - 48)) 3 2 1 := by
  have hk : keepM M 120 z = upM M 3 3 (z - 48) := by unfold keepM; rw [if_neg (by decide), if_neg (by decide), if_pos h2]
  have hf : fitP M 120 z ↔ (0 ≤ z - 48 ∧ z - 48 < 6) := by unfold fitP; rw [if_pos rfl]
  have h3 := (keep_1 (M := M) (due := 120) (z := z)).1
  unfold rdA
  rw [if_neg (by omega), if_neg (by rw [h, h2]; decide)]
  have hd : sCh (fm (M 3 1)) (M 3 2).toNat = 120 := by rw [h, h2]; decide
  rw [hd, hf, h3, hk, if_neg (by rw [h, h2]; decide), h2]
  rfl
theorem rdA_01 {M M' : Mm} {z : Int} (h : M 3 1 = 0) (h2 : M 3 2 = 1) : rdA M z M' ↔ (0 ≤ z - 48 ∧ z - 48 < 6) ∧ M' = upM (upM M 3 4 (z - 48)) 3 2 2 := by
  have hk : keepM M 120 z = upM M 3 4 (z - 48) := by unfold keepM; rw [if_neg (by decide), if_neg (by decide), if_neg (by omega)]
  have hf : fitP M 120 z ↔ (0 ≤ z - 48 ∧ z - 48 < 6) := by unfold fitP; rw [if_pos rfl]
  have h3 := (keep_1 (M := M) (due := 120) (z := z)).1
  unfold rdA
  rw [if_neg (by omega), if_neg (by rw [h, h2]; decide)]
  have hd : sCh (fm (M 3 1)) (M 3 2).toNat = 120 := by rw [h, h2]; decide
  rw [hd, hf, h3, hk, if_neg (by rw [h, h2]; decide), h2]
  rfl
theorem rdA_02 {M M' : Mm} {z : Int} (h : M 3 1 = 0) (h2 : M 3 2 = 2) : rdA M z M' ↔ (z = 43 ∨ z = 45) ∧ M' = upM (upM M 3 6 (if z = 45 then 1 else 0)) 3 2 3 := by
  have hk : keepM M 43 z = upM M 3 6 (if z = 45 then 1 else 0) := by unfold keepM; rw [if_pos rfl]
  have hf : fitP M 43 z ↔ (z = 43 ∨ z = 45) := by unfold fitP; rw [if_neg (by decide), if_neg (by decide), if_neg (by decide), if_neg (by decide)]
  have h3 := (keep_1 (M := M) (due := 43) (z := z)).1
  unfold rdA
  rw [if_neg (by omega), if_neg (by rw [h, h2]; decide)]
  have hd : sCh (fm (M 3 1)) (M 3 2).toNat = 43 := by rw [h, h2]; decide
  rw [hd, hf, h3, hk, if_neg (by rw [h, h2]; decide), h2]
  rfl
theorem rdA_03 {M M' : Mm} {z : Int} (h : M 3 1 = 0) (h2 : M 3 2 = 3) : rdA M z M' ↔ (0 ≤ z - 48 ∧ z - 48 ≤ 9) ∧ M' = insM (upM (upM M 3 5 (if M 3 6 = 0 then z - 48 else -(z - 48))) 3 2 4) 4 (M 4 4) 0 ((upM M 3 5 (if M 3 6 = 0 then z - 48 else -(z - 48))) 3 3) ((upM M 3 5 (if M 3 6 = 0 then z - 48 else -(z - 48))) 3 4) ((upM M 3 5 (if M 3 6 = 0 then z - 48 else -(z - 48))) 3 5) := by
  have hk : keepM M 100 z = upM M 3 5 (if M 3 6 = 0 then z - 48 else -(z - 48)) := by unfold keepM; rw [if_neg (by decide), if_pos rfl]
  have hf : fitP M 100 z ↔ (0 ≤ z - 48 ∧ z - 48 ≤ 9) := by unfold fitP; rw [if_neg (by decide), if_neg (by decide), if_pos rfl]
  have h3 := (keep_1 (M := M) (due := 100) (z := z)).1
  unfold rdA
  rw [if_neg (by omega), if_neg (by rw [h, h2]; decide)]
  have hd : sCh (fm (M 3 1)) (M 3 2).toNat = 100 := by rw [h, h2]; decide
  rw [hd, hf, h3, hk, if_pos (by rw [h, h2]; decide), h, h2]
  rfl
theorem rdA_10 {M M' : Mm} {z : Int} (h : M 3 1 = 1) (h2 : M 3 2 = 0) : rdA M z M' ↔ (0 ≤ z - 48 ∧ z - 48 < 3) ∧ M' = upM (upM M 3 3 (z - 48)) 3 2 1 := by
  have hk : keepM M 110 z = upM M 3 3 (z - 48) := by unfold keepM; rw [if_neg (by decide), if_neg (by decide), if_pos h2]
  have hf : fitP M 110 z ↔ (0 ≤ z - 48 ∧ z - 48 < 3) := by unfold fitP; rw [if_neg (by decide), if_pos rfl]
  have h3 := (keep_1 (M := M) (due := 110) (z := z)).1
  unfold rdA
  rw [if_neg (by omega), if_neg (by rw [h, h2]; decide)]
  have hd : sCh (fm (M 3 1)) (M 3 2).toNat = 110 := by rw [h, h2]; decide
  rw [hd, hf, h3, hk, if_neg (by rw [h, h2]; decide), h2]
  rfl
theorem rdA_11 {M M' : Mm} {z : Int} (h : M 3 1 = 1) (h2 : M 3 2 = 1) : rdA M z M' ↔ (0 ≤ z - 48 ∧ z - 48 < 6) ∧ M' = upM (upM M 3 4 (z - 48)) 3 2 2 := by
  have hk : keepM M 120 z = upM M 3 4 (z - 48) := by unfold keepM; rw [if_neg (by decide), if_neg (by decide), if_neg (by omega)]
  have hf : fitP M 120 z ↔ (0 ≤ z - 48 ∧ z - 48 < 6) := by unfold fitP; rw [if_pos rfl]
  have h3 := (keep_1 (M := M) (due := 120) (z := z)).1
  unfold rdA
  rw [if_neg (by omega), if_neg (by rw [h, h2]; decide)]
  have hd : sCh (fm (M 3 1)) (M 3 2).toNat = 120 := by rw [h, h2]; decide
  rw [hd, hf, h3, hk, if_neg (by rw [h, h2]; decide), h2]
  rfl
theorem rdA_12 {M M' : Mm} {z : Int} (h : M 3 1 = 1) (h2 : M 3 2 = 2) : rdA M z M' ↔ (z = 43 ∨ z = 45) ∧ M' = upM (upM M 3 6 (if z = 45 then 1 else 0)) 3 2 3 := by
  have hk : keepM M 43 z = upM M 3 6 (if z = 45 then 1 else 0) := by unfold keepM; rw [if_pos rfl]
  have hf : fitP M 43 z ↔ (z = 43 ∨ z = 45) := by unfold fitP; rw [if_neg (by decide), if_neg (by decide), if_neg (by decide), if_neg (by decide)]
  have h3 := (keep_1 (M := M) (due := 43) (z := z)).1
  unfold rdA
  rw [if_neg (by omega), if_neg (by rw [h, h2]; decide)]
  have hd : sCh (fm (M 3 1)) (M 3 2).toNat = 43 := by rw [h, h2]; decide
  rw [hd, hf, h3, hk, if_neg (by rw [h, h2]; decide), h2]
  rfl
theorem rdA_13 {M M' : Mm} {z : Int} (h : M 3 1 = 1) (h2 : M 3 2 = 3) : rdA M z M' ↔ (0 ≤ z - 48 ∧ z - 48 ≤ 9) ∧ M' = insM (upM (upM M 3 5 (if M 3 6 = 0 then z - 48 else -(z - 48))) 3 2 4) 4 (M 4 4) 1 ((upM M 3 5 (if M 3 6 = 0 then z - 48 else -(z - 48))) 3 3) ((upM M 3 5 (if M 3 6 = 0 then z - 48 else -(z - 48))) 3 4) ((upM M 3 5 (if M 3 6 = 0 then z - 48 else -(z - 48))) 3 5) := by
  have hk : keepM M 100 z = upM M 3 5 (if M 3 6 = 0 then z - 48 else -(z - 48)) := by unfold keepM; rw [if_neg (by decide), if_pos rfl]
  have hf : fitP M 100 z ↔ (0 ≤ z - 48 ∧ z - 48 ≤ 9) := by unfold fitP; rw [if_neg (by decide), if_neg (by decide), if_pos rfl]
  have h3 := (keep_1 (M := M) (due := 100) (z := z)).1
  unfold rdA
  rw [if_neg (by omega), if_neg (by rw [h, h2]; decide)]
  have hd : sCh (fm (M 3 1)) (M 3 2).toNat = 100 := by rw [h, h2]; decide
  rw [hd, hf, h3, hk, if_pos (by rw [h, h2]; decide), h, h2]
  rfl
theorem rdA_20 {M M' : Mm} {z : Int} (h : M 3 1 = 2) (h2 : M 3 2 = 0) : rdA M z M' ↔ (0 ≤ z - 48 ∧ z - 48 < 3) ∧ M' = insM (upM (upM M 3 3 (z - 48)) 3 2 1) 4 (M 4 4) 2 ((upM M 3 3 (z - 48)) 3 3) ((upM M 3 3 (z - 48)) 3 4) ((upM M 3 3 (z - 48)) 3 5) := by
  have hk : keepM M 110 z = upM M 3 3 (z - 48) := by unfold keepM; rw [if_neg (by decide), if_neg (by decide), if_pos h2]
  have hf : fitP M 110 z ↔ (0 ≤ z - 48 ∧ z - 48 < 3) := by unfold fitP; rw [if_neg (by decide), if_pos rfl]
  have h3 := (keep_1 (M := M) (due := 110) (z := z)).1
  unfold rdA
  rw [if_neg (by omega), if_neg (by rw [h, h2]; decide)]
  have hd : sCh (fm (M 3 1)) (M 3 2).toNat = 110 := by rw [h, h2]; decide
  rw [hd, hf, h3, hk, if_pos (by rw [h, h2]; decide), h, h2]
  rfl
theorem rdA_30 {M M' : Mm} {z : Int} (h : M 3 1 = 3) (h2 : M 3 2 = 0) : rdA M z M' ↔ (0 ≤ z - 48 ∧ z - 48 < 3) ∧ M' = upM (upM M 3 3 (z - 48)) 3 2 1 := by
  have hk : keepM M 110 z = upM M 3 3 (z - 48) := by unfold keepM; rw [if_neg (by decide), if_neg (by decide), if_pos h2]
  have hf : fitP M 110 z ↔ (0 ≤ z - 48 ∧ z - 48 < 3) := by unfold fitP; rw [if_neg (by decide), if_pos rfl]
  have h3 := (keep_1 (M := M) (due := 110) (z := z)).1
  unfold rdA
  rw [if_neg (by omega), if_neg (by rw [h, h2]; decide)]
  have hd : sCh (fm (M 3 1)) (M 3 2).toNat = 110 := by rw [h, h2]; decide
  rw [hd, hf, h3, hk, if_neg (by rw [h, h2]; decide), h2]
  rfl
theorem rdA_31 {M M' : Mm} {z : Int} (h : M 3 1 = 3) (h2 : M 3 2 = 1) : rdA M z M' ↔ (z = 43 ∨ z = 45) ∧ M' = upM (upM M 3 6 (if z = 45 then 1 else 0)) 3 2 2 := by
  have hk : keepM M 43 z = upM M 3 6 (if z = 45 then 1 else 0) := by unfold keepM; rw [if_pos rfl]
  have hf : fitP M 43 z ↔ (z = 43 ∨ z = 45) := by unfold fitP; rw [if_neg (by decide), if_neg (by decide), if_neg (by decide), if_neg (by decide)]
  have h3 := (keep_1 (M := M) (due := 43) (z := z)).1
  unfold rdA
  rw [if_neg (by omega), if_neg (by rw [h, h2]; decide)]
  have hd : sCh (fm (M 3 1)) (M 3 2).toNat = 43 := by rw [h, h2]; decide
  rw [hd, hf, h3, hk, if_neg (by rw [h, h2]; decide), h2]
  rfl
theorem rdA_32 {M M' : Mm} {z : Int} (h : M 3 1 = 3) (h2 : M 3 2 = 2) : rdA M z M' ↔ (0 ≤ z - 48 ∧ z - 48 ≤ 9) ∧ M' = insM (upM (upM M 3 5 (if M 3 6 = 0 then z - 48 else -(z - 48))) 3 2 3) 4 (M 4 4) 3 ((upM M 3 5 (if M 3 6 = 0 then z - 48 else -(z - 48))) 3 3) ((upM M 3 5 (if M 3 6 = 0 then z - 48 else -(z - 48))) 3 4) ((upM M 3 5 (if M 3 6 = 0 then z - 48 else -(z - 48))) 3 5) := by
  have hk : keepM M 100 z = upM M 3 5 (if M 3 6 = 0 then z - 48 else -(z - 48)) := by unfold keepM; rw [if_neg (by decide), if_pos rfl]
  have hf : fitP M 100 z ↔ (0 ≤ z - 48 ∧ z - 48 ≤ 9) := by unfold fitP; rw [if_neg (by decide), if_neg (by decide), if_pos rfl]
  have h3 := (keep_1 (M := M) (due := 100) (z := z)).1
  unfold rdA
  rw [if_neg (by omega), if_neg (by rw [h, h2]; decide)]
  have hd : sCh (fm (M 3 1)) (M 3 2).toNat = 100 := by rw [h, h2]; decide
  rw [hd, hf, h3, hk, if_pos (by rw [h, h2]; decide), h, h2]
  rfl
theorem rdA_40 {M M' : Mm} {z : Int} (h : M 3 1 = 4) (h2 : M 3 2 = 0) : rdA M z M' ↔ (bllM M ≤ z - 48 ∧ z - 48 < M 4 4) ∧ M' = insM (upM (upM M 3 3 (z - 48)) 3 2 1) 4 (M 4 4) 4 ((upM M 3 3 (z - 48)) 3 3) ((upM M 3 3 (z - 48)) 3 4) ((upM M 3 3 (z - 48)) 3 5) := by
  have hk : keepM M 107 z = upM M 3 3 (z - 48) := by unfold keepM; rw [if_neg (by decide), if_neg (by decide), if_pos h2]
  have hf : fitP M 107 z ↔ (bllM M ≤ z - 48 ∧ z - 48 < M 4 4) := by unfold fitP; rw [if_neg (by decide), if_neg (by decide), if_neg (by decide), if_pos rfl]
  have h3 := (keep_1 (M := M) (due := 107) (z := z)).1
  unfold rdA
  rw [if_neg (by omega), if_neg (by rw [h, h2]; decide)]
  have hd : sCh (fm (M 3 1)) (M 3 2).toNat = 107 := by rw [h, h2]; decide
  rw [hd, hf, h3, hk, if_pos (by rw [h, h2]; decide), h, h2]
  rfl
/-- the cells that a letter leaves -/
theorem ins4_o {M : Mm} {p kd a b z : Int} {q : Nat} (h : q < 4 ∨ 8 < q) : insM M 4 p kd a b z q = M q := by
  unfold insM
  rw [rwc_ne (by omega), rw4_o (by omega)]
theorem ins4_at {M : Mm} {kd a b z : Int} : insM M 4 (M 4 4) kd a b z 4 4 = M 4 4 + 1 ∧ insM M 4 (M 4 4) kd a b z 5 = up1 (M 5) (M 4 4) kd ∧ insM M 4 (M 4 4) kd a b z 6 = up1 (M 6) (M 4 4) a ∧ insM M 4 (M 4 4) kd a b z 7 = up1 (M 7) (M 4 4) b ∧ insM M 4 (M 4 4) kd a b z 8 = up1 (M 8) (M 4 4) z := by
  unfold insM
  refine ⟨by rw [rwc_at, up1_s], ?_, ?_, ?_, ?_⟩
  · rw [rwc_ne (by decide)]; refine (rw4_1 _ 4 _ _ _ _).trans ?_; rw [upK_id]
  · rw [rwc_ne (by decide)]; refine (rw4_2 _ 4 _ _ _ _).trans ?_; rw [upF_id]
  · rw [rwc_ne (by decide)]; refine (rw4_3 _ 4 _ _ _ _).trans ?_; rw [upK_id]
  · rw [rwc_ne (by decide)]; refine (rw4_4 _ 4 _ _ _ _).trans ?_; rw [upK_id]
