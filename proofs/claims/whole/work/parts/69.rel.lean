/-! ===== the class and the reference side by side ===== -/
theorem stepS_cg {kd a b z z' : Int} (h : kd = 2 ∨ z = z') : stepS kd a b z = stepS kd a b z' := by
  rcases h with h | h
  · subst h
    funext S q
    unfold stepS
    rw [if_neg (by decide), if_pos rfl, if_neg (by decide), if_pos rfl]
  · rw [h]
theorem plc_cg {kf af bf zf kf' af' bf' zf' : Int → Int} {T : PS} {t : Nat} : ∀ j : Nat, (∀ i : Nat, t ≤ i → i < t + j → stepS (kf' i) (af' i) (bf' i) (zf' i) = stepS (kf i) (af i) (bf i) (zf i)) → plc kf' af' bf' zf' T t j = plc kf af bf zf T t j := by
  intro j
  induction j with
  | zero => intro _; rfl
  | succ j ih =>
    intro h
    have h1 := ih (fun i a b => h i a (by omega))
    have h2 := h (t + j) (by omega) (by omega)
    simp only [plc]
    rw [h1]
    exact congrFun h2 _
theorem bdy_cg {kf af bf zf kf' af' bf' zf' : Int → Int} {t i : Nat} (hti : t ≤ i) (h : ∀ j : Nat, t ≤ j → j < i → stepS (kf' j) (af' j) (bf' j) (zf' j) = stepS (kf j) (af j) (bf j) (zf j)) : bdy kf' af' bf' zf' t i = bdy kf af bf zf t i := by
  funext T
  unfold bdy
  exact plc_cg (i - t) (fun j a b => h j a (by omega))
/-- the run is that of the steps as they are told -/
theorem prun_cg {kf af bf zf kf' af' bf' zf' : Int → Int} : ∀ (n : Nat) (A : Nat → PS) (r : Int), prOK kf af bf zf n → (∀ j : Nat, j < n → kf' j = kf j ∧ af' j = af j ∧ bf' j = bf j ∧ (kf j = 2 ∨ kf j = 4 ∨ zf' j = zf j)) → prun kf af bf zf n A r → prun kf' af' bf' zf' n A r := by
  intro n
  induction n with
  | zero => intro A r _ _ h; exact h
  | succ n ih =>
    rintro A' r' hok e ⟨A, r, h1, h2⟩
    have hst : ∀ j : Nat, j < n + 1 → kf j ≠ 4 → stepS (kf' j) (af' j) (bf' j) (zf' j) = stepS (kf j) (af j) (bf j) (zf j) := by
      intro j hj h4
      obtain ⟨e1, e2, e3, e4⟩ := e j hj
      rw [e1, e2, e3]
      exact stepS_cg (by rcases e4 with q | q | q; exact Or.inl q; exact absurd q h4; exact Or.inr q)
    refine ⟨A, r, ih A r (fun i hi => hok i (by omega)) (fun j hj => e j (by omega)) h1, ?_⟩
    obtain ⟨e1, e2, e3, e4⟩ := e n (by omega)
    rcases h2 with ⟨k1, k2, k3⟩ | ⟨k1, t, N, k2, k3, k4, k5, k6⟩
    · refine Or.inl ⟨by rw [e1]; exact k1, k2, fun q hq => ?_⟩
      rw [k3 q hq, hst n (by omega) k1]
    · have hb : ∀ j : Nat, t ≤ j → j < n → kf j ≠ 4 := by
        intro j j1 j2
        rcases hok n (by omega) with q | ⟨-, t', q1, q2, q3⟩
        · exact absurd k1 (stOK_n4 q).1
        · have : t' = t := by omega
          subst this
          exact (stOK_n4 (q3 j j1 j2)).1
      have hbd : bdy kf' af' bf' zf' t n = bdy kf af bf zf t n := bdy_cg (Nat.le_of_lt k2) (fun j j1 j2 => hst j (by omega) (hb j j1 j2))
      refine Or.inr ⟨by rw [e1]; exact k1, t, N, k2, by rw [e2]; exact k3, by rw [hbd]; exact k4, k5, fun q hq => ?_⟩
      rw [hbd, k6 q hq]
      by_cases c1 : q = n + 1
      · rw [if_pos c1, if_pos c1]
      · rw [if_neg c1, if_neg c1]
        by_cases c2 : t ≤ q
        · rw [if_pos c2, if_pos c2]
          exact (plc_cg (q - t) (fun j j1 j2 => hst j (by omega) (hb j j1 (by omega)))).symm
        · rw [if_neg c2, if_neg c2]
/-- steps and sights told alike; a is the class's cells' first, b the reference's cell -/
def lnS (M : Mm) (a b n : Nat) : Prop := ∀ j : Nat, j < n → M b (4 * (j : Int)) = M a j ∧ M b (4 * (j : Int) + 1) = M (a + 1) j ∧ M b (4 * (j : Int) + 2) = M (a + 2) j ∧ M b (4 * (j : Int) + 3) = nmV (M a j) (M (a + 3) j)
def lnV (M : Mm) (a b n : Nat) : Prop := ∀ j : Nat, j < n → M b (3 * (j : Int)) = M a j ∧ srtM (M b (3 * (j : Int) + 1)) (M b (3 * (j : Int) + 2)) = M (a + 1) j
def SL (M : Mm) (n : Nat) (c : Nat) : Prop := (M 54 1 = M 1 1) ∧ (∀ j : Nat, (j : Int) < M 1 1 → M 55 j = M 2 j) ∧ (lnS M 10 57 n) ∧ (∀ kd q, 0 ≤ kd → kd < 5 → 0 ≤ q → q < 3 → M 64 (3 * kd + q) = rkV M kd q) ∧ (∀ kd q, 0 ≤ kd → kd < 5 → 0 ≤ q → q < M 39 kd → 0 ≤ M 38 (kd * 3 + q)) ∧ (M 54 20 = M 40 2) ∧ (lnV M 41 65 (M 40 2).toNat) ∧ (M 54 9 = M 0 11) ∧ (M 0 10 = 1 ↔ M 54 23 = M 54 9) ∧ (M 0 10 = 1 → M 54 24 = M 43 4 ∧ M 54 25 = M 48 2 ∧ lnS M 44 66 (M 43 4).toNat ∧ lnV M 49 67 (M 48 2).toNat) ∧ (∀ j, 0 ≤ j → j < 6 → (-1000 ≤ M 67 (3 * j) ∧ M 67 (3 * j) ≤ 1000) ∧ (0 ≤ M 67 (3 * j + 1) ∧ M 67 (3 * j + 1) ≤ 3) ∧ (M 67 (3 * j + 2) = 0 ∨ M 67 (3 * j + 2) = 1)) ∧ (M 0 11 ≤ c)
theorem SL.pg {M : Mm} {n : Nat} {c : Nat} (h : SL M n c) : M 54 1 = M 1 1 := h.1
theorem SL.pl {M : Mm} {n : Nat} {c : Nat} (h : SL M n c) : ∀ j : Nat, (j : Int) < M 1 1 → M 55 j = M 2 j := h.2.1
theorem SL.st {M : Mm} {n : Nat} {c : Nat} (h : SL M n c) : lnS M 10 57 n := h.2.2.1
theorem SL.rk {M : Mm} {n : Nat} {c : Nat} (h : SL M n c) : ∀ kd q, 0 ≤ kd → kd < 5 → 0 ≤ q → q < 3 → M 64 (3 * kd + q) = rkV M kd q := h.2.2.2.1
theorem SL.rp {M : Mm} {n : Nat} {c : Nat} (h : SL M n c) : ∀ kd q, 0 ≤ kd → kd < 5 → 0 ≤ q → q < M 39 kd → 0 ≤ M 38 (kd * 3 + q) := h.2.2.2.2.1
theorem SL.sn {M : Mm} {n : Nat} {c : Nat} (h : SL M n c) : M 54 20 = M 40 2 := h.2.2.2.2.2.1
theorem SL.ss {M : Mm} {n : Nat} {c : Nat} (h : SL M n c) : lnV M 41 65 (M 40 2).toNat := h.2.2.2.2.2.2.1
theorem SL.rd {M : Mm} {n : Nat} {c : Nat} (h : SL M n c) : M 54 9 = M 0 11 := h.2.2.2.2.2.2.2.1
theorem SL.kp {M : Mm} {n : Nat} {c : Nat} (h : SL M n c) : M 0 10 = 1 ↔ M 54 23 = M 54 9 := h.2.2.2.2.2.2.2.2.1
theorem SL.ks {M : Mm} {n : Nat} {c : Nat} (h : SL M n c) : M 0 10 = 1 → M 54 24 = M 43 4 ∧ M 54 25 = M 48 2 ∧ lnS M 44 66 (M 43 4).toNat ∧ lnV M 49 67 (M 48 2).toNat := h.2.2.2.2.2.2.2.2.2.1
theorem SL.kv {M : Mm} {n : Nat} {c : Nat} (h : SL M n c) : ∀ j, 0 ≤ j → j < 6 → (-1000 ≤ M 67 (3 * j) ∧ M 67 (3 * j) ≤ 1000) ∧ (0 ≤ M 67 (3 * j + 1) ∧ M 67 (3 * j + 1) ≤ 3) ∧ (M 67 (3 * j + 2) = 0 ∨ M 67 (3 * j + 2) = 1) := h.2.2.2.2.2.2.2.2.2.2.1
theorem SL.ct {M : Mm} {n : Nat} {c : Nat} (h : SL M n c) : M 0 11 ≤ c := h.2.2.2.2.2.2.2.2.2.2.2
theorem SL.mk {M : Mm} {n : Nat} {c : Nat} (pg : M 54 1 = M 1 1) (pl : ∀ j : Nat, (j : Int) < M 1 1 → M 55 j = M 2 j) (st : lnS M 10 57 n) (rk : ∀ kd q, 0 ≤ kd → kd < 5 → 0 ≤ q → q < 3 → M 64 (3 * kd + q) = rkV M kd q) (rp : ∀ kd q, 0 ≤ kd → kd < 5 → 0 ≤ q → q < M 39 kd → 0 ≤ M 38 (kd * 3 + q)) (sn : M 54 20 = M 40 2) (ss : lnV M 41 65 (M 40 2).toNat) (rd : M 54 9 = M 0 11) (kp : M 0 10 = 1 ↔ M 54 23 = M 54 9) (ks : M 0 10 = 1 → M 54 24 = M 43 4 ∧ M 54 25 = M 48 2 ∧ lnS M 44 66 (M 43 4).toNat ∧ lnV M 49 67 (M 48 2).toNat) (kv : ∀ j, 0 ≤ j → j < 6 → (-1000 ≤ M 67 (3 * j) ∧ M 67 (3 * j) ≤ 1000) ∧ (0 ≤ M 67 (3 * j + 1) ∧ M 67 (3 * j + 1) ≤ 3) ∧ (M 67 (3 * j + 2) = 0 ∨ M 67 (3 * j + 2) = 1)) (ct : M 0 11 ≤ c) : SL M n c := ⟨pg, pl, st, rk, rp, sn, ss, rd, kp, ks, kv, ct⟩
def SR (M : Mm) (n c : Nat) : Prop := CI M n ∧ KI M n ∧ SL M n c
/-- cells of the class that the link speaks of -/
abbrev cC (q : Nat) : Prop := q ≤ 2 ∨ (9 ≤ q ∧ q ≤ 13) ∨ (38 ≤ q ∧ q ≤ 50)
abbrev cF (j : Int) : Prop := (j < 2 ∨ 6 < j) ∧ j ≠ 11 ∧ j ≠ 17 ∧ j ≠ 22 ∧ j ≠ 28
abbrev cM (q : Nat) : Prop := q = 55 ∨ q = 57 ∨ (64 ≤ q ∧ q ≤ 67)
theorem SL.cg {M M' : Mm} {n c c' : Nat} (h : SL M n c) (hc : c ≤ c') (h1 : ∀ q, cC q → M' q = M q) (h2 : ∀ j, cF j → M' 54 j = M 54 j) (h3 : ∀ q, cM q → M' q = M q) : SL M' n c' := by
  have e : ∀ k q, rkV M' k q = rkV M k q := fun k q => by unfold rkV; rw [h1 38 (by decide), h1 39 (by decide)]
  apply SL.mk
  case pg => rw [h2 1 (by decide), h1 1 (by decide)]; exact h.pg
  case pl => rw [h1 1 (by decide), h1 2 (by decide), h3 55 (by decide)]; exact h.pl
  case st => unfold lnS; rw [h3 57 (by decide), h1 10 (by decide), h1 (10 + 1) (by decide), h1 (10 + 2) (by decide), h1 (10 + 3) (by decide)]; exact h.st
  case rk => intro kd q; rw [e, h3 64 (by decide)]; exact h.rk kd q
  case rp => rw [h1 39 (by decide), h1 38 (by decide)]; exact h.rp
  case sn => rw [h2 20 (by decide), h1 40 (by decide)]; exact h.sn
  case ss => unfold lnV; rw [h3 65 (by decide), h1 41 (by decide), h1 (41 + 1) (by decide), h1 40 (by decide)]; exact h.ss
  case rd => rw [h2 9 (by decide), h1 0 (by decide)]; exact h.rd
  case kp => rw [h2 9 (by decide), h2 23 (by decide), h1 0 (by decide)]; exact h.kp
  case ks =>
    unfold lnS lnV
    rw [h2 24 (by decide), h2 25 (by decide), h1 0 (by decide), h1 43 (by decide), h1 44 (by decide), h1 (44 + 1) (by decide), h1 (44 + 2) (by decide), h1 (44 + 3) (by decide), h1 48 (by decide), h1 49 (by decide), h1 (49 + 1) (by decide), h3 66 (by decide), h3 67 (by decide)]
    exact h.ks
  case kv => rw [h3 67 (by decide)]; exact h.kv
  case ct => rw [h1 0 (by decide)]; exact Int.le_trans h.ct (by omega)
theorem CI.lo {M M' : Mm} {n : Nat} (h : CI M n) (e : ∀ q, q < 54 → M' q = M q) : CI M' n := h.fr (fun q a _ => e q a) (fun hn j hj => by rw [e 16 (by decide)]; exact h.ct hn j hj)
theorem mFS.hi {M M' : Mm} {n : Nat} (h : mFS M n) (e : ∀ q, 54 ≤ q → M' q = M q) : mFS M' n := by
  obtain ⟨A, r, h1, h2, h3, h4, h5⟩ := h
  refine ⟨A, r, by rw [e 57 (by decide)]; exact h1, by rw [e 54 (by decide)]; exact h2, h3, h4, fun q hq => ?_⟩
  rw [e 58 (by decide), e 63 (by decide)]
  exact h5 q hq
theorem KI.hi {M M' : Mm} {n : Nat} (h : KI M n) (e : ∀ q, 54 ≤ q → M' q = M q) : KI M' n := by
  have e4 := e 54 (by decide)
  have e7 := e 57 (by decide)
  apply KI.mk
  case pg0 => rw [e4]; exact h.pg0
  case pg1 => rw [e4]; exact h.pg1
  case pgl => rw [e4, e 55 (by decide)]; exact h.pgl
  case sz => rw [e4]; exact h.sz
  case n6 => exact h.n6
  case ok => rw [e7]; exact h.ok
  case bd => rw [e7]; exact h.bd
  case ol => rw [e4]; exact h.ol
  case fr => rw [e4]; exact fun a b => (h.fr a b).hi e
  case sg => intro p a; rw [e 59 (by decide)]; exact h.sg p a
  case rkb => rw [e 64 (by decide)]; exact h.rkb
  case sn0 => rw [e4]; exact h.sn0
  case sn1 => rw [e4]; exact h.sn1
  case snb => rw [e 65 (by decide)]; exact h.snb
  case pr => rw [e4]; exact h.pr
  case kp => rw [e4]; exact h.kp
/-- the shapes ahead of steps, told by both -/
theorem SR.run {M : Mm} {n c : Nat} (h : SR M n c) : ∃ A r, (0 < n → ∀ q, q ≤ n → Rp M (aC q) (A q)) ∧ (0 < n → mPr M n A r) ∧ (0 < n → M 14 5 = r ∧ (0 ≤ r ∧ r ≤ 240)) := by
  by_cases hn : 0 < n
  · obtain ⟨A, r, h1, h2, h3, h4⟩ := h.1.rn hn
    refine ⟨A, r, fun _ => h4, fun _ => ?_, fun _ => ⟨h2, h3⟩⟩
    refine prun_cg n A r h.1.ok (fun j hj => ?_) h1
    obtain ⟨a1, a2, a3, a4⟩ := h.2.2.st j hj
    refine ⟨a1, a2, a3, ?_⟩
    have hk : M 10 j = 0 ∨ M 10 j = 1 ∨ M 10 j = 2 ∨ M 10 j = 3 ∨ M 10 j = 4 := by
      rcases h.1.ok j hj with q | q
      · unfold stOK at q; omega
      · omega
    rcases hk with q | q | q | q | q
    · right; right; show M 57 (4 * (j : Int) + 3) - 100 = _; rw [a4, q]; show (M 13 j + 100) - 100 = _; omega
    · right; right; show M 57 (4 * (j : Int) + 3) - 100 = _; rw [a4, q]; show (M 13 j + 100) - 100 = _; omega
    · left; exact q
    · right; right; show M 57 (4 * (j : Int) + 3) - 100 = _; rw [a4, q]; show (M 13 j + 100) - 100 = _; omega
    · right; left; exact q
  · exact ⟨fun _ _ => False, 0, fun q => absurd q hn, fun q => absurd q hn, fun q => absurd q hn⟩
theorem SR.rkH {M : Mm} {n c : Nat} (h : SR M n c) : rkH M (M 39) := by
  intro kd k0 k1
  refine ⟨h.1.rk kd k0 k1, fun q q0 q1 => ?_⟩
  rw [h.2.2.rk kd q k0 k1 q0 q1]
  unfold rkV
  by_cases e : q < M 39 kd
  · rw [if_pos e]
    have := h.2.2.rp kd q k0 k1 q0 e
    omega
  · rw [if_neg e]
    omega
/-- what a law's case asks: the reference answers as the class, and both stand side by side again -/
abbrev Cs (d2 : Md) (A : List V) (c : Nat) (r : Option V) (M1 : Mm) : Prop := (∃ z, r = some (vI z)) ∧ Cm d2 (vR 54 :: A) M1 (fun r2 M2 => r2 = r ∧ ∃ n', SR M2 n' (c + 1))
abbrev CsL (d2 : Md) (A : List V) (c : Nat) (r : Option V) (M1 : Mm) : Prop := (∃ z, r = some (vL z)) ∧ Cm d2 (vR 54 :: A) M1 (fun r2 M2 => r2 = r ∧ ∃ n', SR M2 n' (c + 1))
/-- cells that stay over a class's call that only asks -/
theorem SR.ask {M M1 M2 : Mm} {n c : Nat} (h : SR M n c) (hC : CI M1 n) (e1 : ∀ q, (q < 54 ∧ cC q) ∨ 54 ≤ q → M1 q = M q) (hK : KI M2 n) (e2 : ∀ q, q < 54 → M2 q = M1 q) (f : ∀ j, cF j → M2 54 j = M1 54 j) (g : ∀ q, cM q → M2 q = M1 q) : SR M2 n (c + 1) := by
  refine ⟨hC.lo e2, hK, h.2.2.cg (by omega) (fun q hq => ?_) (fun j hj => ?_) (fun q hq => ?_)⟩
  · rw [e2 q (by omega), e1 q (Or.inl ⟨by omega, hq⟩)]
  · rw [f j hj, e1 54 (Or.inr (by omega))]
  · rw [g q hq, e1 q (Or.inr (by omega))]
theorem SR.askq {M M1 M2 : Mm} {n c : Nat} (h : SR M n c) (hC : CI M1 n) (e1 : ∀ q, (q < 54 ∧ cC q) ∨ 54 ≤ q → M1 q = M q) (hq : Kq M1 M2 n) : SR M2 n (c + 1) := h.ask hC e1 hq.2 (fun q hq' => hq.1.2 q (by omega) (by omega) (by omega) (by omega) (by omega) (by omega)) (fun j hj => hq.1.1 j (by omega) (by omega)) (fun q hq' => hq.1.2 q (by omega) (by omega) (by omega) (by omega) (by omega) (by omega))
