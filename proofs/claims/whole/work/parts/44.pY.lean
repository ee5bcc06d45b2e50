/-! THE TEXT, READ -/
def TXH (k : Nat) (v : Nat → Nat) (si tx : Nat → Int32) : Prop := k ≤ 60 ∧ ∀ i, i < k → si i = nI (v i) ∧ tx i = nI (v i) ∧ v i ≤ 65535
def sgN (k : Nat) (v : Nat → Nat) (p : Nat) : Nat := if p < k then v p else 0
def isD (k : Nat) (v : Nat → Nat) (lim p : Nat) : Bool := decide (48 ≤ sgN k v p) && decide (sgN k v p ≤ 48 + lim)
/-- where a reading stands: a place, and whether something is wrong -/
def stp (b : Bool) (p : Nat) : Nat := if b then p + 1 else p
theorem px_nsub {a b : Nat} (h : a ≤ b) : nI a - nI b = -nI (b - a) := by
  rw [← pk_sub h, Int32.neg_sub]
section P44
variable {k : Nat} {v : Nat → Nat} {si tx : Nat → Int32}
theorem sgN_le (h : TXH k v si tx) {p : Nat} : sgN k v p ≤ 65535 := by
  unfold sgN
  split
  · rename_i hp; exact (h.2 p hp).2.2
  · omega
theorem isD_lt {lim p : Nat} (h : isD k v lim p = true) : p < k ∧ 48 ≤ sgN k v p ∧ sgN k v p ≤ 48 + lim := by
  unfold isD at h
  rw [Bool.and_eq_true, decide_eq_true_eq, decide_eq_true_eq] at h
  refine ⟨?_, h.1, h.2⟩
  rcases Nat.lt_or_ge p k with h1 | h1
  · exact h1
  · have h2 := h.1
    unfold sgN at h2
    rw [if_neg (by omega)] at h2
    omega
theorem t7_sign (h : TXH k v si tx) {p : Nat} (hp : p ≤ 100) : f_X7_sign (nI k) (nI p) tx = some (nI (sgN k v p)) := by
  have hk := h.1
  unfold f_X7_sign sgN
  by_cases hlt : p < k
  · simp (disch := omega) only [(h.2 p hlt).2.1, show ¬ k ≤ p from by omega, hlt, px_l0, px_l1, px_l2, px_l3, px_l4, px_l5, px_l6, px_l9, px_l10, px_l14, px_l15, px_l23, px_l24, px_l25, px_l26, px_l29, px_l30, px_l32, px_l43, px_l45, px_l48, px_l57, px_l59, px_l60, px_l64, px_l100, px_l107, px_l116, px_l149, px_l150, px_l348, px_l464, px_l600, px_sa, nI_leI, nI_ltI, nI_eq, nI_add, pk_sub, pk_mul, pk_div, px_rm, nI_clamp, px_ck, px_eqm, px_meq, px_mm, px_mlt, px_mle, px_lem, px_ltm, px_mlem, Option.bind_some, px_b0, px_b1, px_ckb, px_if, px_if', ↓reduceIte]
  · simp (disch := omega) only [show k ≤ p from by omega, hlt, px_l0, px_l1, px_l2, px_l3, px_l4, px_l5, px_l6, px_l9, px_l10, px_l14, px_l15, px_l23, px_l24, px_l25, px_l26, px_l29, px_l30, px_l32, px_l43, px_l45, px_l48, px_l57, px_l59, px_l60, px_l64, px_l100, px_l107, px_l116, px_l149, px_l150, px_l348, px_l464, px_l600, px_sa, nI_leI, nI_ltI, nI_eq, nI_add, pk_sub, pk_mul, pk_div, px_rm, nI_clamp, px_ck, px_eqm, px_meq, px_mm, px_mlt, px_mle, px_lem, px_ltm, px_mlem, Option.bind_some, px_b0, px_b1, px_ckb, px_if, px_if', ↓reduceIte]
theorem t2_ahead (h : TXH k v si tx) {p : Nat} (hp : p ≤ 100) : f_X2_digitAhead (nI k) (nI p) si = some (if isD k v 9 p then nI (sgN k v p - 48) else -nI 1) := by
  have hk := h.1
  unfold f_X2_digitAhead isD sgN
  by_cases hlt : p < k
  · have hv := (h.2 p hlt).2.2
    by_cases h1 : v p < 48
    · simp (disch := omega) only [(h.2 p hlt).1, hlt, h1, show ¬ 48 ≤ v p from by omega, decide_false, Bool.false_and, Bool.false_eq_true, px_l0, px_l1, px_l2, px_l3, px_l4, px_l5, px_l6, px_l9, px_l10, px_l14, px_l15, px_l23, px_l24, px_l25, px_l26, px_l29, px_l30, px_l32, px_l43, px_l45, px_l48, px_l57, px_l59, px_l60, px_l64, px_l100, px_l107, px_l116, px_l149, px_l150, px_l348, px_l464, px_l600, px_sa, nI_leI, nI_ltI, nI_eq, nI_add, pk_sub, pk_mul, pk_div, px_rm, nI_clamp, px_ck, px_eqm, px_meq, px_mm, px_mlt, px_mle, px_lem, px_ltm, px_mlem, Option.bind_some, px_b0, px_b1, px_ckb, px_if, px_if', ↓reduceIte]
    · by_cases h2 : 57 < v p
      · simp (disch := omega) only [(h.2 p hlt).1, hlt, h1, h2, show 48 ≤ v p from by omega, show ¬ v p ≤ 48 + 9 from by omega, decide_false, decide_true, Bool.and_false, Bool.false_eq_true, px_l0, px_l1, px_l2, px_l3, px_l4, px_l5, px_l6, px_l9, px_l10, px_l14, px_l15, px_l23, px_l24, px_l25, px_l26, px_l29, px_l30, px_l32, px_l43, px_l45, px_l48, px_l57, px_l59, px_l60, px_l64, px_l100, px_l107, px_l116, px_l149, px_l150, px_l348, px_l464, px_l600, px_sa, nI_leI, nI_ltI, nI_eq, nI_add, pk_sub, pk_mul, pk_div, px_rm, nI_clamp, px_ck, px_eqm, px_meq, px_mm, px_mlt, px_mle, px_lem, px_ltm, px_mlem, Option.bind_some, px_b0, px_b1, px_ckb, px_if, px_if', ↓reduceIte]
      · simp (disch := omega) only [(h.2 p hlt).1, hlt, h1, h2, show 48 ≤ v p from by omega, show v p ≤ 48 + 9 from by omega, decide_true, Bool.and_self, px_l0, px_l1, px_l2, px_l3, px_l4, px_l5, px_l6, px_l9, px_l10, px_l14, px_l15, px_l23, px_l24, px_l25, px_l26, px_l29, px_l30, px_l32, px_l43, px_l45, px_l48, px_l57, px_l59, px_l60, px_l64, px_l100, px_l107, px_l116, px_l149, px_l150, px_l348, px_l464, px_l600, px_sa, nI_leI, nI_ltI, nI_eq, nI_add, pk_sub, pk_mul, pk_div, px_rm, nI_clamp, px_ck, px_eqm, px_meq, px_mm, px_mlt, px_mle, px_lem, px_ltm, px_mlem, Option.bind_some, px_b0, px_b1, px_ckb, px_if, px_if', ↓reduceIte]
  · simp (disch := omega) only [hlt, show ¬ 48 ≤ 0 from by omega, decide_false, Bool.false_and, Bool.false_eq_true, px_l0, px_l1, px_l2, px_l3, px_l4, px_l5, px_l6, px_l9, px_l10, px_l14, px_l15, px_l23, px_l24, px_l25, px_l26, px_l29, px_l30, px_l32, px_l43, px_l45, px_l48, px_l57, px_l59, px_l60, px_l64, px_l100, px_l107, px_l116, px_l149, px_l150, px_l348, px_l464, px_l600, px_sa, nI_leI, nI_ltI, nI_eq, nI_add, pk_sub, pk_mul, pk_div, px_rm, nI_clamp, px_ck, px_eqm, px_meq, px_mm, px_mlt, px_mle, px_lem, px_ltm, px_mlem, Option.bind_some, px_b0, px_b1, px_ckb, px_if, px_if', ↓reduceIte]
theorem t7_in (a lim : Nat) (ha : a < 2 ^ 30) (hl : lim ≤ 9) : f_X7_in (nI a - nI 48) (nI 0) (nI lim) = some (nI (bN (decide (48 ≤ a) && decide (a ≤ 48 + lim)))) := by
  by_cases h : 48 ≤ a
  · rw [pk_sub h, w7_in (by omega) (by omega) (by omega), decide_eq_true (Nat.zero_le _), decide_eq_true h]
    rw [decide_eq_decide.mpr (show a - 48 ≤ lim ↔ a ≤ 48 + lim by omega)]
  · rw [px_nsub (by omega), w7_inm (by omega) (by omega), decide_eq_false h]
    rfl
theorem t7_take (p : Nat) (w b : Bool) : f_X7_take_ (nI p) (nI (bN w)) (nI (bN b)) = some (nI (stp (!w && b) p), nI (bN (!(!w && b)))) := by
  unfold f_X7_take_
  cases w <;> cases b <;> simp (disch := omega) only [stp, bN, Bool.not_true, Bool.not_false, Bool.and_self, Bool.and_true, Bool.and_false, Bool.false_eq_true, show ¬ (1 = 0) from by omega, show (0 : Nat) = 0 from rfl, true_or, or_true, ckP, Nat.add_zero, px_l0, px_l1, px_l2, px_l3, px_l4, px_l5, px_l6, px_l9, px_l10, px_l14, px_l15, px_l23, px_l24, px_l25, px_l26, px_l29, px_l30, px_l32, px_l43, px_l45, px_l48, px_l57, px_l59, px_l60, px_l64, px_l100, px_l107, px_l116, px_l149, px_l150, px_l348, px_l464, px_l600, px_sa, nI_leI, nI_ltI, nI_eq, nI_add, pk_sub, pk_mul, pk_div, px_rm, nI_clamp, px_ck, px_eqm, px_meq, px_mm, px_mlt, px_mle, px_lem, px_ltm, px_mlem, Option.bind_some, px_b0, px_b1, px_ckb, px_if, px_if', ↓reduceIte] <;> rfl
theorem t7_digit (h : TXH k v si tx) {p lim : Nat} (hp : p ≤ 100) (hl : lim ≤ 9) (w : Bool) : f_X7_takeDigit (nI k) (nI p) (nI (bN w)) tx (nI lim) = some (nI (sgN k v p) - nI 48, nI (stp (!w && isD k v lim p) p), nI (bN (!(!w && isD k v lim p)))) := by
  have hs := sgN_le h (p := p)
  unfold f_X7_takeDigit
  rw [t7_sign h hp, Option.bind_some, show (48 : Int32) = nI 48 from id rfl, px_l0, t7_in _ lim (by omega) hl, Option.bind_some, t7_take, Option.bind_some]
  rfl
theorem t2_digit (h : TXH k v si tx) {p lim : Nat} (hp : p ≤ 100) (hl : lim ≤ 9) (w : Bool) : f_X2_readDigit (nI k) (nI p) (nI (bN w)) si (nI lim) = some (nI (if (!w && isD k v lim p) then sgN k v p - 48 else 0), nI (stp (!w && isD k v lim p) p), nI (bN (!(!w && isD k v lim p)))) := by
  have hs := sgN_le h (p := p)
  unfold f_X2_readDigit
  rw [t2_ahead h hp, Option.bind_some]
  cases w with
  | true => rw [if_neg (show ¬ nI (bN true) = 0 from by decide +kernel)]; rfl
  | false =>
    rw [if_pos (show nI (bN false) = 0 from by decide +kernel)]
    cases h9 : isD k v 9 p with
    | false =>
      have h5 : isD k v lim p = false := by
        cases hq : isD k v lim p with
        | false => rfl
        | true =>
          obtain ⟨q1, q2, q3⟩ := isD_lt hq
          unfold isD at h9
          rw [decide_eq_true q2, decide_eq_true (show sgN k v p ≤ 48 + 9 by omega)] at h9
          cases h9
      rw [h5]
      simp (disch := omega) only [Bool.false_eq_true, Bool.and_false, px_ltm_0, stp, px_l0, px_l1, px_l2, px_l3, px_l4, px_l5, px_l6, px_l9, px_l10, px_l14, px_l15, px_l23, px_l24, px_l25, px_l26, px_l29, px_l30, px_l32, px_l43, px_l45, px_l48, px_l57, px_l59, px_l60, px_l64, px_l100, px_l107, px_l116, px_l149, px_l150, px_l348, px_l464, px_l600, px_sa, nI_leI, nI_ltI, nI_eq, nI_add, pk_sub, pk_mul, pk_div, px_rm, nI_clamp, px_ck, px_eqm, px_meq, px_mm, px_mlt, px_mle, px_lem, px_ltm, px_mlem, Option.bind_some, px_b0, px_b1, px_ckb, px_if, px_if', ↓reduceIte]
      rfl
    | true =>
      obtain ⟨q1, q2, q3⟩ := isD_lt h9
      cases h5 : isD k v lim p with
      | true =>
        obtain ⟨q4, q5, q6⟩ := isD_lt h5
        simp (disch := omega) only [Bool.not_false, Bool.and_self, stp, show sgN k v p - 48 ≤ lim from by omega, show ¬ sgN k v p - 48 < 0 from by omega, px_l0, px_l1, px_l2, px_l3, px_l4, px_l5, px_l6, px_l9, px_l10, px_l14, px_l15, px_l23, px_l24, px_l25, px_l26, px_l29, px_l30, px_l32, px_l43, px_l45, px_l48, px_l57, px_l59, px_l60, px_l64, px_l100, px_l107, px_l116, px_l149, px_l150, px_l348, px_l464, px_l600, px_sa, nI_leI, nI_ltI, nI_eq, nI_add, pk_sub, pk_mul, pk_div, px_rm, nI_clamp, px_ck, px_eqm, px_meq, px_mm, px_mlt, px_mle, px_lem, px_ltm, px_mlem, Option.bind_some, px_b0, px_b1, px_ckb, px_if, px_if', ↓reduceIte]
        rfl
      | false =>
        have h6 : ¬ sgN k v p - 48 ≤ lim := fun q => by
          unfold isD at h5
          rw [decide_eq_true q2, decide_eq_true (show sgN k v p ≤ 48 + lim by omega)] at h5
          cases h5
        simp (disch := omega) only [Bool.not_false, Bool.and_false, Bool.false_eq_true, stp, h6, show ¬ sgN k v p - 48 < 0 from by omega, px_l0, px_l1, px_l2, px_l3, px_l4, px_l5, px_l6, px_l9, px_l10, px_l14, px_l15, px_l23, px_l24, px_l25, px_l26, px_l29, px_l30, px_l32, px_l43, px_l45, px_l48, px_l57, px_l59, px_l60, px_l64, px_l100, px_l107, px_l116, px_l149, px_l150, px_l348, px_l464, px_l600, px_sa, nI_leI, nI_ltI, nI_eq, nI_add, pk_sub, pk_mul, pk_div, px_rm, nI_clamp, px_ck, px_eqm, px_meq, px_mm, px_mlt, px_mle, px_lem, px_ltm, px_mlem, Option.bind_some, px_b0, px_b1, px_ckb, px_if, px_if', ↓reduceIte]
        rfl
theorem t2_sign (h : TXH k v si tx) {p c : Nat} (hp : p ≤ 100) (hc : 0 < c ∧ c < 100) (w : Bool) (x : Int32) : f_X2_readSign (nI k) (nI p) (nI (bN w)) si (nI c) = some (nI (stp (!w && decide (sgN k v p = c)) p), nI (bN (!(!w && decide (sgN k v p = c))))) := by
  have hk := h.1
  unfold f_X2_readSign
  cases w with
  | true => rw [if_neg (show ¬ nI (bN true) = 0 from by decide +kernel)]; rfl
  | false =>
    rw [if_pos (show nI (bN false) = 0 from by decide +kernel)]
    by_cases hlt : p < k
    · have hv := (h.2 p hlt).2.2
      by_cases hq : v p = c
      · simp (disch := omega) only [(h.2 p hlt).1, sgN, hlt, show ¬ k ≤ p from by omega, hq, Bool.not_false, Bool.and_self, decide_true, stp, px_l0, px_l1, px_l2, px_l3, px_l4, px_l5, px_l6, px_l9, px_l10, px_l14, px_l15, px_l23, px_l24, px_l25, px_l26, px_l29, px_l30, px_l32, px_l43, px_l45, px_l48, px_l57, px_l59, px_l60, px_l64, px_l100, px_l107, px_l116, px_l149, px_l150, px_l348, px_l464, px_l600, px_sa, nI_leI, nI_ltI, nI_eq, nI_add, pk_sub, pk_mul, pk_div, px_rm, nI_clamp, px_ck, px_eqm, px_meq, px_mm, px_mlt, px_mle, px_lem, px_ltm, px_mlem, Option.bind_some, px_b0, px_b1, px_ckb, px_if, px_if', ↓reduceIte]
        rfl
      · simp (disch := omega) only [(h.2 p hlt).1, sgN, hlt, show ¬ k ≤ p from by omega, hq, Bool.not_false, Bool.and_false, Bool.false_eq_true, decide_false, stp, px_l0, px_l1, px_l2, px_l3, px_l4, px_l5, px_l6, px_l9, px_l10, px_l14, px_l15, px_l23, px_l24, px_l25, px_l26, px_l29, px_l30, px_l32, px_l43, px_l45, px_l48, px_l57, px_l59, px_l60, px_l64, px_l100, px_l107, px_l116, px_l149, px_l150, px_l348, px_l464, px_l600, px_sa, nI_leI, nI_ltI, nI_eq, nI_add, pk_sub, pk_mul, pk_div, px_rm, nI_clamp, px_ck, px_eqm, px_meq, px_mm, px_mlt, px_mle, px_lem, px_ltm, px_mlem, Option.bind_some, px_b0, px_b1, px_ckb, px_if, px_if', ↓reduceIte]
        rfl
    · simp (disch := omega) only [sgN, hlt, show k ≤ p from by omega, show ¬ 0 = c from by omega, Bool.not_false, Bool.and_false, Bool.false_eq_true, decide_false, stp, px_l0, px_l1, px_l2, px_l3, px_l4, px_l5, px_l6, px_l9, px_l10, px_l14, px_l15, px_l23, px_l24, px_l25, px_l26, px_l29, px_l30, px_l32, px_l43, px_l45, px_l48, px_l57, px_l59, px_l60, px_l64, px_l100, px_l107, px_l116, px_l149, px_l150, px_l348, px_l464, px_l600, px_sa, nI_leI, nI_ltI, nI_eq, nI_add, pk_sub, pk_mul, pk_div, px_rm, nI_clamp, px_ck, px_eqm, px_meq, px_mm, px_mlt, px_mle, px_lem, px_ltm, px_mlem, Option.bind_some, px_b0, px_b1, px_ckb, px_if, px_if', ↓reduceIte]
      rfl
/-- a cell's number: both read alike -/
theorem t_cell (h : TXH k v si tx) {p : Nat} (hp : p ≤ k) (w : Bool) : ∃ (e c : Nat) (ok : Bool) (x : Int32), f_X2_readCellNumber (nI k) (nI p) (nI (bN w)) si = some (nI c, nI e, nI (bN (!ok))) ∧ f_X7_takeCell (nI k) (nI p) (nI (bN w)) tx = some (x, nI e, nI (bN (!ok))) ∧ p ≤ e ∧ e ≤ k ∧ (ok = true → w = false ∧ p + 1 ≤ e ∧ x = nI c ∧ c < 150) := by
  have hk := h.1
  have d2 := t2_digit h (p := p) (lim := 9) (by omega) (by omega) w
  have d7 := t7_digit h (p := p) (lim := 9) (by omega) (by omega) w
  unfold f_X2_readCellNumber f_X7_takeCell
  rw [show (9 : Int32) = nI 9 from id rfl, d2, d7, Option.bind_some, Option.bind_some]
  cases hok : (!w && isD k v 9 p) with
  | false =>
    rw [show stp false p = p from rfl]
    refine ⟨p, 0, false, nI (sgN k v p) - nI 48, ?_, ?_, Nat.le_refl p, hp, fun q => by cases q⟩
    · dsimp only
      have L1 : lp (f_X2_readCellNumber_b1 (nI k) si (nI 0, nI p, nI (bN (!false)))) FU (nI 0, nI 0, nI p) = some (nI 0, nI 0, nI p) := lp_det (fun _ => (nI 0, nI 0, nI p)) 0 (nI 0, nI 0, nI p) (fun i hi => absurd hi (Nat.not_lt_zero i)) (by
        simp (disch := omega) only [f_X2_readCellNumber_b1, show (!false) = true from rfl, Bool.true_eq_false, show ¬ 2 ≤ 0 from by omega, px_l0, px_l1, px_l2, px_l3, px_l4, px_l5, px_l6, px_l9, px_l10, px_l14, px_l15, px_l23, px_l24, px_l25, px_l26, px_l29, px_l30, px_l32, px_l43, px_l45, px_l48, px_l57, px_l59, px_l60, px_l64, px_l100, px_l107, px_l116, px_l149, px_l150, px_l348, px_l464, px_l600, px_sa, nI_leI, nI_ltI, nI_eq, nI_add, pk_sub, pk_mul, pk_div, px_rm, nI_clamp, px_ck, px_eqm, px_meq, px_mm, px_mlt, px_mle, px_lem, px_ltm, px_mlem, Option.bind_some, px_b0, px_b1, px_ckb, px_if, px_if', ↓reduceIte]) (by decide) rfl
      rw [if_neg Bool.false_ne_true, px_l0, L1]
      rfl
    · dsimp only
      have L1 : lp (f_X7_takeCell_b1 (nI k) tx (nI (sgN k v p) - nI 48, nI p, nI (bN (!false)))) FU (nI (sgN k v p) - nI 48, nI p) = some (nI (sgN k v p) - nI 48, nI p) := lp_det (fun _ => (nI (sgN k v p) - nI 48, nI p)) 0 (nI (sgN k v p) - nI 48, nI p) (fun i hi => absurd hi (Nat.not_lt_zero i)) (by
        unfold f_X7_takeCell_b1
        dsimp only
        rw [if_neg (show ¬ nI (bN (!false)) = 0 from by decide +kernel)]) (by decide) rfl
      rw [L1]
      rfl
  | true =>
    rw [Bool.and_eq_true] at hok
    obtain ⟨q1, q2, q3⟩ := isD_lt hok.2
    rw [show stp true p = p + 1 from rfl, pk_sub q2]
    have hw : w = false := by cases w with
      | false => rfl
      | true => cases hok.1
    obtain ⟨⟨r1, r2, r3⟩, ⟨s1, s2⟩, a1, a2, e, c, a3, a4, a5, a6, a7, a8, a9⟩ := lp_rel2 (f := f_X2_readCellNumber_b1 (nI k) si (nI (sgN k v p - 48), nI (p + 1), nI (bN (!true)))) (g := f_X7_takeCell_b1 (nI k) tx (nI (sgN k v p - 48), nI (p + 1), nI (bN (!true)))) (fun i s t => ∃ e c : Nat, s = (nI c, nI i, nI e) ∧ t = (nI c, nI e) ∧ p + 1 ≤ e ∧ e ≤ k ∧ c < 150 ∧ (i = 1 → 10 ≤ c) ∧ (i = 2 → 100 ≤ c)) 2 (fun s t => ∃ e c : Nat, s.1 = nI c ∧ s.2.2 = nI e ∧ t.1 = nI c ∧ t.2 = nI e ∧ p + 1 ≤ e ∧ e ≤ k ∧ c < 150) (by
      rintro i s t hi ⟨e, c, rfl, rfl, b1, b2, b3, b4, b5⟩
      have hsg := t7_sign h (p := e) (by omega)
      have hse := sgN_le h (p := e)
      have hah := t2_ahead h (p := e) (by omega)
      have hin : f_X7_in (nI (sgN k v e)) 48 57 = some (nI (bN (isD k v 9 e))) := w7_in (v := sgN k v e) (a := 48) (b := 57) (by omega) (by omega) (by omega)
      have hnw : ¬ nI (bN (!true)) = nI 0 → False := fun q => q rfl
      by_cases hc0 : c = 0
      · right
        subst hc0
        refine ⟨(nI 0, nI i, nI e), (nI 0, nI e), ?_, ?_, e, 0, rfl, rfl, rfl, rfl, b1, b2, b3⟩
        · simp (disch := omega) only [f_X2_readCellNumber_b1, show ¬ 2 ≤ i from by omega, show (!true) = false from rfl, Nat.le_refl, px_l0, px_l1, px_l2, px_l3, px_l4, px_l5, px_l6, px_l9, px_l10, px_l14, px_l15, px_l23, px_l24, px_l25, px_l26, px_l29, px_l30, px_l32, px_l43, px_l45, px_l48, px_l57, px_l59, px_l60, px_l64, px_l100, px_l107, px_l116, px_l149, px_l150, px_l348, px_l464, px_l600, px_sa, nI_leI, nI_ltI, nI_eq, nI_add, pk_sub, pk_mul, pk_div, px_rm, nI_clamp, px_ck, px_eqm, px_meq, px_mm, px_mlt, px_mle, px_lem, px_ltm, px_mlem, Option.bind_some, px_b0, px_b1, px_ckb, px_if, px_if', ↓reduceIte]
        · simp (disch := omega) only [f_X7_takeCell_b1, show (!true) = false from rfl, Nat.le_refl, px_l0, px_l1, px_l2, px_l3, px_l4, px_l5, px_l6, px_l9, px_l10, px_l14, px_l15, px_l23, px_l24, px_l25, px_l26, px_l29, px_l30, px_l32, px_l43, px_l45, px_l48, px_l57, px_l59, px_l60, px_l64, px_l100, px_l107, px_l116, px_l149, px_l150, px_l348, px_l464, px_l600, px_sa, nI_leI, nI_ltI, nI_eq, nI_add, pk_sub, pk_mul, pk_div, px_rm, nI_clamp, px_ck, px_eqm, px_meq, px_mm, px_mlt, px_mle, px_lem, px_ltm, px_mlem, Option.bind_some, px_b0, px_b1, px_ckb, px_if, px_if', ↓reduceIte]
      · cases hd : isD k v 9 e with
        | false =>
          rw [hd] at hah hin
          right
          refine ⟨(nI c, nI i, nI e), (nI c, nI e), ?_, ?_, e, c, rfl, rfl, rfl, rfl, b1, b2, b3⟩
          · simp (disch := omega) only [f_X2_readCellNumber_b1, hah, show ¬ 2 ≤ i from by omega, show ¬ c ≤ 0 from by omega, show (!true) = false from rfl, px_ltm_0, Bool.false_eq_true, px_l0, px_l1, px_l2, px_l3, px_l4, px_l5, px_l6, px_l9, px_l10, px_l14, px_l15, px_l23, px_l24, px_l25, px_l26, px_l29, px_l30, px_l32, px_l43, px_l45, px_l48, px_l57, px_l59, px_l60, px_l64, px_l100, px_l107, px_l116, px_l149, px_l150, px_l348, px_l464, px_l600, px_sa, nI_leI, nI_ltI, nI_eq, nI_add, pk_sub, pk_mul, pk_div, px_rm, nI_clamp, px_ck, px_eqm, px_meq, px_mm, px_mlt, px_mle, px_lem, px_ltm, px_mlem, Option.bind_some, px_b0, px_b1, px_ckb, px_if, px_if', ↓reduceIte]
          · simp (disch := omega) only [f_X7_takeCell_b1, hsg, show ¬ c ≤ 0 from by omega, show (!true) = false from rfl, px_l0, px_l1, px_b0, nI_leI, Option.bind_some, ↓reduceIte]
            rw [hin]
            rfl
        | true =>
          rw [hd] at hah hin
          obtain ⟨g1, g2, g3⟩ := isD_lt hd
          by_cases hbig : 10 * c + sgN k v e - 48 < 150
          · left
            refine ⟨_, _, ?_, ?_, e + 1, 10 * c + sgN k v e - 48, rfl, rfl, by omega, by omega, hbig, fun _ => by omega, fun hi2 => ?_⟩
            · simp (disch := omega) only [f_X2_readCellNumber_b1, hah, show ¬ 2 ≤ i from by omega, show ¬ c ≤ 0 from by omega, show (!true) = false from rfl, show ¬ sgN k v e - 48 < 0 from by omega, show 10 * c + (sgN k v e - 48) = 10 * c + sgN k v e - 48 from by omega, hbig, px_l0, px_l1, px_l2, px_l3, px_l4, px_l5, px_l6, px_l9, px_l10, px_l14, px_l15, px_l23, px_l24, px_l25, px_l26, px_l29, px_l30, px_l32, px_l43, px_l45, px_l48, px_l57, px_l59, px_l60, px_l64, px_l100, px_l107, px_l116, px_l149, px_l150, px_l348, px_l464, px_l600, px_sa, nI_leI, nI_ltI, nI_eq, nI_add, pk_sub, pk_mul, pk_div, px_rm, nI_clamp, px_ck, px_eqm, px_meq, px_mm, px_mlt, px_mle, px_lem, px_ltm, px_mlem, Option.bind_some, px_b0, px_b1, px_ckb, px_if, px_if', ↓reduceIte]
            · simp (disch := omega) only [f_X7_takeCell_b1, hsg, show ¬ c ≤ 0 from by omega, show (!true) = false from rfl, show (48 : Int32) = nI 48 from id rfl, px_l0, px_l1, px_l10, px_l150, px_b0, nI_leI, pk_mul, nI_add, pk_sub, show ¬ 150 ≤ 10 * c + sgN k v e - 48 from by omega, Option.bind_some, ↓reduceIte]
              rw [show f_X7_in (nI (sgN k v e)) (nI 48) 57 = _ from hin]
              rfl
            · have := b4 (by omega)
              omega
          · right
            refine ⟨(nI c, nI i, nI e), (nI c, nI e), ?_, ?_, e, c, rfl, rfl, rfl, rfl, b1, b2, b3⟩
            · simp (disch := omega) only [f_X2_readCellNumber_b1, hah, show ¬ 2 ≤ i from by omega, show ¬ c ≤ 0 from by omega, show (!true) = false from rfl, show ¬ sgN k v e - 48 < 0 from by omega, show 10 * c + (sgN k v e - 48) = 10 * c + sgN k v e - 48 from by omega, hbig, px_l0, px_l1, px_l2, px_l3, px_l4, px_l5, px_l6, px_l9, px_l10, px_l14, px_l15, px_l23, px_l24, px_l25, px_l26, px_l29, px_l30, px_l32, px_l43, px_l45, px_l48, px_l57, px_l59, px_l60, px_l64, px_l100, px_l107, px_l116, px_l149, px_l150, px_l348, px_l464, px_l600, px_sa, nI_leI, nI_ltI, nI_eq, nI_add, pk_sub, pk_mul, pk_div, px_rm, nI_clamp, px_ck, px_eqm, px_meq, px_mm, px_mlt, px_mle, px_lem, px_ltm, px_mlem, Option.bind_some, px_b0, px_b1, px_ckb, px_if, px_if', ↓reduceIte]
            · simp (disch := omega) only [f_X7_takeCell_b1, hsg, show ¬ c ≤ 0 from by omega, show (!true) = false from rfl, show (48 : Int32) = nI 48 from id rfl, px_l0, px_l1, px_l10, px_l150, px_b0, nI_leI, pk_mul, nI_add, pk_sub, show 150 ≤ 10 * c + sgN k v e - 48 from by omega, Option.bind_some, ↓reduceIte]
              rw [show f_X7_in (nI (sgN k v e)) (nI 48) 57 = _ from hin]
              rfl) (by
      rintro s t ⟨e, c, rfl, rfl, b1, b2, b3, b4, b5⟩
      have hsg := t7_sign h (p := e) (by omega)
      have hse := sgN_le h (p := e)
      have hin : f_X7_in (nI (sgN k v e)) 48 57 = some (nI (bN (isD k v 9 e))) := w7_in (v := sgN k v e) (a := 48) (b := 57) (by omega) (by omega) (by omega)
      have hc := b5 rfl
      refine ⟨(nI c, nI 2, nI e), (nI c, nI e), ?_, ?_, e, c, rfl, rfl, rfl, rfl, b1, b2, b3⟩
      · simp (disch := omega) only [f_X2_readCellNumber_b1, Nat.le_refl, px_l0, px_l1, px_l2, px_l3, px_l4, px_l5, px_l6, px_l9, px_l10, px_l14, px_l15, px_l23, px_l24, px_l25, px_l26, px_l29, px_l30, px_l32, px_l43, px_l45, px_l48, px_l57, px_l59, px_l60, px_l64, px_l100, px_l107, px_l116, px_l149, px_l150, px_l348, px_l464, px_l600, px_sa, nI_leI, nI_ltI, nI_eq, nI_add, pk_sub, pk_mul, pk_div, px_rm, nI_clamp, px_ck, px_eqm, px_meq, px_mm, px_mlt, px_mle, px_lem, px_ltm, px_mlem, Option.bind_some, px_b0, px_b1, px_ckb, px_if, px_if', ↓reduceIte]
      · cases hd : isD k v 9 e with
        | false =>
          rw [hd] at hin
          simp (disch := omega) only [f_X7_takeCell_b1, hsg, show ¬ c ≤ 0 from by omega, show (!true) = false from rfl, px_l0, px_l1, px_b0, nI_leI, Option.bind_some, ↓reduceIte]
          rw [hin]
          rfl
        | true =>
          rw [hd] at hin
          obtain ⟨g1, g2, g3⟩ := isD_lt hd
          simp (disch := omega) only [f_X7_takeCell_b1, hsg, show ¬ c ≤ 0 from by omega, show (!true) = false from rfl, show (48 : Int32) = nI 48 from id rfl, px_l0, px_l1, px_l10, px_l150, px_b0, nI_leI, pk_mul, nI_add, pk_sub, show 150 ≤ 10 * c + sgN k v e - 48 from by omega, Option.bind_some, ↓reduceIte]
          rw [show f_X7_in (nI (sgN k v e)) (nI 48) 57 = _ from hin]
          rfl) FU 0 (nI (sgN k v p - 48), nI 0, nI (p + 1)) (nI (sgN k v p - 48), nI (p + 1)) (Nat.zero_le _) (by decide) ⟨p + 1, sgN k v p - 48, rfl, rfl, Nat.le_refl _, by omega, by omega, fun q => by omega, fun q => by omega⟩
    dsimp only at a3 a4 a5 a6
    subst a3; subst a4; subst a5; subst a6
    refine ⟨e, c, true, nI c, ?_, ?_, by omega, a8, fun _ => ⟨hw, a7, rfl, a9⟩⟩
    · dsimp only
      rw [if_pos rfl, px_l0, a1]
      rfl
    · dsimp only
      rw [a2]
      rfl
end P44
