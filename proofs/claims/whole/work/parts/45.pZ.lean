/-! AN ORDER, READ -/
def OV (so ki tu ce : Int32) (cl : Nat → Int32) (le : Int32) (nu : Nat → Int32) : Prop :=
  (so = nI 43 ∧ le = nI 43 ∧ ∃ a b c : Nat, a < 6 ∧ b < 4 ∧ c < 150 ∧ ki = nI a ∧ tu = nI b ∧ ce = nI c ∧ nu 1 = nI a ∧ nu 2 = nI b ∧ nu 0 = nI c) ∨
  (∃ s : Nat, (s = 45 ∨ s = 116) ∧ so = nI s ∧ le = nI s ∧ ∃ c : Nat, c < 150 ∧ ce = nI c ∧ nu 0 = nI c) ∨
  (so = nI 107 ∧ le = nI 107 ∧ ∃ (a : Nat) (w : Nat → Nat), a < 6 ∧ ki = nI a ∧ nu 0 = nI a ∧ ∀ j, j < 4 → w j < 6 ∧ cl j = nI (w j) ∧ nu (1 + j) = nI (w j))
/-- j digits (0 to 5) from p on: where they end, and whether all were there -/
def dP (k : Nat) (v : Nat → Nat) (p : Nat) : Nat → Nat × Bool
  | 0 => (p, true)
  | j + 1 => (stp ((dP k v p j).2 && isD k v 5 (dP k v p j).1) (dP k v p j).1, (dP k v p j).2 && isD k v 5 (dP k v p j).1)
section P45
variable {k : Nat} {v : Nat → Nat} {si tx : Nat → Int32}
theorem stp_ge {b : Bool} {p : Nat} : p ≤ stp b p := by cases b <;> simp [stp]
theorem stp_le {b : Bool} {p : Nat} (hp : p ≤ k) (h : b = true → p < k) : stp b p ≤ k := by
  cases b with
  | false => exact hp
  | true => exact h rfl
theorem dP_le {p : Nat} (hp : p ≤ k) : ∀ j, p ≤ (dP k v p j).1 ∧ (dP k v p j).1 ≤ k := by
  intro j
  induction j with
  | zero => exact ⟨Nat.le_refl p, hp⟩
  | succ j ih =>
    refine ⟨Nat.le_trans ih.1 stp_ge, stp_le ih.2 (fun h => ?_)⟩
    rw [Bool.and_eq_true] at h
    exact (isD_lt h.2).1
theorem dP_ok {p : Nat} : ∀ j, (dP k v p j).2 = true → (dP k v p j).1 = p + j ∧ ∀ i, i < j → isD k v 5 (p + i) = true := by
  intro j
  induction j with
  | zero => intro _; exact ⟨rfl, fun i hi => absurd hi (Nat.not_lt_zero i)⟩
  | succ j ih =>
    intro h
    have h1 : ((dP k v p j).2 && isD k v 5 (dP k v p j).1) = true := h
    rw [Bool.and_eq_true] at h1
    obtain ⟨e1, e2⟩ := ih h1.1
    have h2 := h1.2
    rw [e1] at h2
    refine ⟨?_, fun i hi => ?_⟩
    · show stp ((dP k v p j).2 && isD k v 5 (dP k v p j).1) (dP k v p j).1 = _
      rw [e1, h1.1, h2]
      show p + j + 1 = _
      omega
    · rcases Nat.lt_or_ge i j with h3 | h3
      · exact e2 i h3
      · rw [show i = j by omega]; exact h2
theorem t2_loop (h : TXH k v si tx) {p : Nat} (hp : p ≤ k) (cl : Nat → Int32) : ∃ cl', lp (f_X2_readOrder_b1 (nI k) si) FU (nI 0, nI (dP k v p 1).1, nI (bN (!(dP k v p 1).2)), cl) = some (nI 4, nI (dP k v p 5).1, nI (bN (!(dP k v p 5).2)), cl') ∧ ((dP k v p 5).2 = true → ∀ i, i < 4 → cl' i = nI (sgN k v (p + 1 + i) - 48)) := by
  have hk := h.1
  obtain ⟨⟨r1, r2, r3, r4⟩, a1, a2, a3, a4, a5⟩ := lp_inv (f := f_X2_readOrder_b1 (nI k) si) (fun j s => s.1 = nI j ∧ s.2.1 = nI (dP k v p (j + 1)).1 ∧ s.2.2.1 = nI (bN (!(dP k v p (j + 1)).2)) ∧ ((dP k v p (j + 1)).2 = true → ∀ i, i < j → s.2.2.2 i = nI (sgN k v (p + 1 + i) - 48))) 4 (fun s => s.1 = nI 4 ∧ s.2.1 = nI (dP k v p 5).1 ∧ s.2.2.1 = nI (bN (!(dP k v p 5).2)) ∧ ((dP k v p 5).2 = true → ∀ i, i < 4 → s.2.2.2 i = nI (sgN k v (p + 1 + i) - 48))) (by
    rintro j ⟨s1, s2, s3, s4⟩ hj ⟨b1, b2, b3, b4⟩
    dsimp only at b1 b2 b3 b4
    subst b1; subst b2; subst b3
    have hle := dP_le (v := v) hp (j + 1)
    have d2 := t2_digit h (p := (dP k v p (j + 1)).1) (lim := 5) (by omega) (by omega) (!(dP k v p (j + 1)).2)
    rw [Bool.not_not] at d2
    refine Or.inl ⟨(nI (j + 1), nI (dP k v p (j + 1 + 1)).1, nI (bN (!(dP k v p (j + 1 + 1)).2)), upd s4 j (nI (if ((dP k v p (j + 1)).2 && isD k v 5 (dP k v p (j + 1)).1) then sgN k v (dP k v p (j + 1)).1 - 48 else 0))), ?_, rfl, rfl, rfl, fun hok i hi => ?_⟩
    · unfold f_X2_readOrder_b1
      dsimp only
      rw [px_l4, if_neg (by rw [nI_leI (by omega) (by omega)]; omega), px_l5, d2, Option.bind_some, px_ck (by omega) (by omega), nI_clamp (by omega), px_l1, nI_add]
      rfl
    · have h1 : ((dP k v p (j + 1)).2 && isD k v 5 (dP k v p (j + 1)).1) = true := hok
      dsimp only
      rw [px_upd, h1, if_pos rfl]
      rw [Bool.and_eq_true] at h1
      by_cases hij : i = j
      · rw [if_pos hij, (dP_ok (j + 1) h1.1).1, hij, show p + (j + 1) = p + 1 + j by omega]
      · rw [if_neg hij]; exact b4 h1.1 i (by omega)) (by
    rintro ⟨s1, s2, s3, s4⟩ ⟨b1, b2, b3, b4⟩
    dsimp only at b1 b2 b3 b4
    subst b1; subst b2; subst b3
    refine ⟨(nI 4, nI (dP k v p 5).1, nI (bN (!(dP k v p 5).2)), s4), ?_, rfl, rfl, rfl, b4⟩
    unfold f_X2_readOrder_b1
    dsimp only
    rw [px_l4, if_pos (by rw [nI_leI (by omega) (by omega)]; omega)]) FU 0 (nI 0, nI (dP k v p 1).1, nI (bN (!(dP k v p 1).2)), cl) (Nat.zero_le _) (by decide) ⟨rfl, rfl, rfl, fun _ i hi => absurd hi (Nat.not_lt_zero i)⟩
  dsimp only at a2 a3 a4 a5
  subst a2; subst a3; subst a4
  exact ⟨r4, a1, a5⟩
theorem t7_loop (h : TXH k v si tx) {p : Nat} (hp : p ≤ k) (nu : Nat → Int32) : ∃ nu', lp (f_X7_takeOrder_b1 (nI k) tx) FU (nI 0, nI p, nI (bN false), nu) = some (nI 5, nI (dP k v p 5).1, nI (bN (!(dP k v p 5).2)), nu') ∧ ((dP k v p 5).2 = true → ∀ i, i < 5 → nu' i = nI (sgN k v (p + i) - 48)) := by
  have hk := h.1
  obtain ⟨⟨r1, r2, r3, r4⟩, a1, a2, a3, a4, a5⟩ := lp_inv (f := f_X7_takeOrder_b1 (nI k) tx) (fun j s => s.1 = nI j ∧ s.2.1 = nI (dP k v p j).1 ∧ s.2.2.1 = nI (bN (!(dP k v p j).2)) ∧ ((dP k v p j).2 = true → ∀ i, i < j → s.2.2.2 i = nI (sgN k v (p + i) - 48))) 5 (fun s => s.1 = nI 5 ∧ s.2.1 = nI (dP k v p 5).1 ∧ s.2.2.1 = nI (bN (!(dP k v p 5).2)) ∧ ((dP k v p 5).2 = true → ∀ i, i < 5 → s.2.2.2 i = nI (sgN k v (p + i) - 48))) (by
    rintro j ⟨s1, s2, s3, s4⟩ hj ⟨b1, b2, b3, b4⟩
    dsimp only at b1 b2 b3 b4
    subst b1; subst b2; subst b3
    have hle := dP_le (v := v) hp j
    have d7 := t7_digit h (p := (dP k v p j).1) (lim := 5) (by omega) (by omega) (!(dP k v p j).2)
    rw [Bool.not_not] at d7
    refine Or.inl ⟨(nI (j + 1), nI (dP k v p (j + 1)).1, nI (bN (!(dP k v p (j + 1)).2)), upd s4 j (nI (sgN k v (dP k v p j).1) - nI 48)), ?_, rfl, rfl, rfl, fun hok i hi => ?_⟩
    · unfold f_X7_takeOrder_b1
      dsimp only
      rw [px_l5, if_neg (by rw [nI_leI (by omega) (by omega)]; omega), d7, Option.bind_some, px_ck (by omega) (by omega), nI_clamp (by omega), px_l1, nI_add]
      rfl
    · have h1 : ((dP k v p j).2 && isD k v 5 (dP k v p j).1) = true := hok
      dsimp only
      rw [px_upd]
      rw [Bool.and_eq_true] at h1
      by_cases hij : i = j
      · rw [if_pos hij, pk_sub (isD_lt h1.2).2.1, (dP_ok j h1.1).1, hij]
      · rw [if_neg hij]; exact b4 h1.1 i (by omega)) (by
    rintro ⟨s1, s2, s3, s4⟩ ⟨b1, b2, b3, b4⟩
    dsimp only at b1 b2 b3 b4
    subst b1; subst b2; subst b3
    refine ⟨(nI 5, nI (dP k v p 5).1, nI (bN (!(dP k v p 5).2)), s4), ?_, rfl, rfl, rfl, b4⟩
    unfold f_X7_takeOrder_b1
    dsimp only
    rw [px_l5, if_pos (by rw [nI_leI (by omega) (by omega)]; omega)]) FU 0 (nI 0, nI p, nI (bN false), nu) (Nat.zero_le _) (by decide) ⟨rfl, rfl, rfl, fun _ i hi => absurd hi (Nat.not_lt_zero i)⟩
  dsimp only at a2 a3 a4 a5
  subst a2; subst a3; subst a4
  exact ⟨r4, a1, a5⟩
theorem t2_first (h : TXH k v si tx) {p : Nat} (hp : p ≤ k) : ∃ t : Int32, (if nI k ≤ nI p then some (32 : Int32) else ck (nI p) 60 (some (si (nI p).toNatClampNeg))) = some t ∧ (0 ≤ t ∧ t ≤ 65535) ∧ (sgN k v p = 0 ∨ t = nI (sgN k v p)) ∧ (p < k ∨ t = 32) := by
  have hk := h.1
  by_cases hlt : p < k
  · have hv := (h.2 p hlt).2.2
    refine ⟨nI (v p), ?_, ⟨nI_pos' (by omega), (nI_leI (a := v p) (b := 65535) (by omega) (by omega)).mpr hv⟩, Or.inr (by unfold sgN; rw [if_pos hlt]), Or.inl hlt⟩
    rw [if_neg (by rw [nI_leI (by omega) (by omega)]; omega), px_ck (by omega) (by omega), nI_clamp (by omega), (h.2 p hlt).1]
  · refine ⟨32, ?_, by decide, Or.inl (by unfold sgN; rw [if_neg hlt]), Or.inr rfl⟩
    rw [if_pos (by rw [nI_leI (by omega) (by omega)]; omega)]
theorem t_order (h : TXH k v si tx) {p : Nat} (hp : p ≤ k) : ∃ (e : Nat) (ok : Bool), p ≤ e ∧ e ≤ k ∧ (ok = true → p + 2 ≤ e) ∧ ∀ so ki tu ce cl le nu, ∃ so' ki' tu' ce' cl' le' nu', f_X2_readOrder (nI k) (nI p) (nI 0) so ki tu ce si cl = some (nI e, nI (bN (!ok)), so', ki', tu', ce', cl') ∧ f_X7_takeOrder (nI k) (nI p) (nI 0) le tx nu = some (nI e, nI (bN (!ok)), le', nu') ∧ (ok = true → OV so' ki' tu' ce' cl' le' nu') := by
  have hk := h.1
  obtain ⟨t, t1, t2, t3, t4⟩ := t2_first h hp
  have hsg := t7_sign h (p := p) (by omega)
  have hsl := sgN_le h (p := p)
  have pl : ∀ b : Bool, f_X7_take_ (nI p) (nI 0) (nI (bN b)) = some (nI (stp b p), nI (bN (!b))) := fun b => t7_take p false b
  have hlt : ∀ s, 0 < s → sgN k v p = s → p < k ∧ t = nI s := fun s hs q => by
    have h1 : p < k := by
      unfold sgN at q
      split at q
      · assumption
      · omega
    exact ⟨h1, t3.elim (fun z => by omega) (fun z => by rw [z, q])⟩
  by_cases c43 : sgN k v p = 43
  · obtain ⟨hpk, ht⟩ := hlt 43 (by omega) c43
    subst ht
    have d2a : f_X2_readDigit (nI k) (nI (p + 1)) (nI 0) si 5 = _ := t2_digit h (p := p + 1) (lim := 5) (by omega) (by omega) false
    have d7a : f_X7_takeDigit (nI k) (nI (p + 1)) (nI 0) tx 5 = _ := t7_digit h (p := p + 1) (lim := 5) (by omega) (by omega) false
    rw [show (!false && isD k v 5 (p + 1)) = isD k v 5 (p + 1) from rfl] at d2a d7a
    have f1 : isD k v 5 (p + 1) = true → p + 1 < k := fun q => (isD_lt q).1
    have l1 : stp (isD k v 5 (p + 1)) (p + 1) ≤ k := stp_le (by omega) f1
    have g1 : p + 1 ≤ stp (isD k v 5 (p + 1)) (p + 1) := stp_ge
    generalize ho1 : isD k v 5 (p + 1) = o1 at d2a d7a f1 l1 g1
    generalize he1 : stp o1 (p + 1) = e1 at d2a d7a l1 g1
    have d2b : f_X2_readDigit (nI k) (nI e1) (nI (bN (!o1))) si 3 = _ := t2_digit h (p := e1) (lim := 3) (by omega) (by omega) (!o1)
    have d7b : f_X7_takeDigit (nI k) (nI e1) (nI (bN (!o1))) tx 3 = _ := t7_digit h (p := e1) (lim := 3) (by omega) (by omega) (!o1)
    rw [Bool.not_not] at d2b d7b
    have f2 : (o1 && isD k v 3 e1) = true → e1 < k := fun q => by
      rw [Bool.and_eq_true] at q; exact (isD_lt q.2).1
    have l2 : stp (o1 && isD k v 3 e1) e1 ≤ k := stp_le (by omega) f2
    have g2 : e1 ≤ stp (o1 && isD k v 3 e1) e1 := stp_ge
    generalize ho2 : (o1 && isD k v 3 e1) = o2 at d2b d7b f2 l2 g2
    generalize he2 : stp o2 e1 = e2 at d2b d7b l2 g2
    have d2c : f_X2_readSign (nI k) (nI e2) (nI (bN (!o2))) si 64 = _ := t2_sign h (p := e2) (c := 64) (by omega) (by omega) (!o2) 0
    have d7c := t7_sign h (p := e2) (by omega)
    have d7d := t7_take e2 (!o2) (decide (sgN k v e2 = 64))
    have hsl2 := sgN_le h (p := e2)
    rw [Bool.not_not] at d2c d7d
    have f3 : (o2 && decide (sgN k v e2 = 64)) = true → e2 < k := fun q => by
      rw [Bool.and_eq_true, decide_eq_true_eq] at q
      rcases Nat.lt_or_ge e2 k with z | z
      · exact z
      · have := q.2
        unfold sgN at this
        rw [if_neg (by omega)] at this
        omega
    have l3 : stp (o2 && decide (sgN k v e2 = 64)) e2 ≤ k := stp_le (by omega) f3
    have g3 : e2 ≤ stp (o2 && decide (sgN k v e2 = 64)) e2 := stp_ge
    generalize ho3 : (o2 && decide (sgN k v e2 = 64)) = o3 at d2c d7d f3 l3 g3
    generalize he3 : stp o3 e2 = e3 at d2c d7d l3 g3
    obtain ⟨e, c, ok, x, k1, k2, k3, k4, k5⟩ := t_cell h (p := e3) l3 (!o3)
    refine ⟨e, ok, by omega, k4, fun q => by have := (k5 q).2.1; omega, fun so ki tu ce cl le nu => ?_⟩
    refine ⟨nI 43, nI (if o1 then sgN k v (p + 1) - 48 else 0), nI (if o2 then sgN k v e1 - 48 else 0), nI c, cl, nI 43, upd (upd (upd nu 1 (nI (sgN k v (p + 1)) - nI 48)) 2 (nI (sgN k v e1) - nI 48)) 0 x, ?_, ?_, ?_⟩
    rotate_left
    · unfold f_X7_takeOrder
      rw [hsg, c43, Option.bind_some]
      rw [if_neg (show ¬ nI 43 = 107 from by decide +kernel), if_pos (show nI 43 = 43 from by decide +kernel), Option.bind_some]
      rw [show f_X7_take_ (nI p) (nI 0) 1 = some (nI (p + 1), nI 0) from pl true, Option.bind_some]
      dsimp only
      rw [if_pos (show nI 0 = 0 from by decide +kernel), if_neg (show ¬ nI 43 = 107 from by decide +kernel), if_pos (show nI 43 = 43 from by decide +kernel)]
      rw [d7a, Option.bind_some, px_l1, px_ck (by omega) (by omega)]
      dsimp only
      rw [d7b, Option.bind_some, px_l2, px_ck (by omega) (by omega)]
      dsimp only
      rw [d7c, Option.bind_some, show (if nI (sgN k v e2) = 64 then some (nI 1) else some 0) = some (nI (bN (decide (sgN k v e2 = 64)))) from by
        rw [show (64 : Int32) = nI 64 from id rfl, px_l0]
        simp (disch := omega) only [px_l0, px_l1, px_l2, px_l3, px_l4, px_l5, px_l6, px_l9, px_l10, px_l14, px_l15, px_l23, px_l24, px_l25, px_l26, px_l29, px_l30, px_l32, px_l43, px_l45, px_l48, px_l57, px_l59, px_l60, px_l64, px_l100, px_l107, px_l116, px_l149, px_l150, px_l348, px_l464, px_l600, px_sa, nI_leI, nI_ltI, nI_eq, nI_add, pk_sub, pk_mul, pk_div, px_rm, nI_clamp, px_ck, px_eqm, px_meq, px_mm, px_mlt, px_mle, px_lem, px_ltm, px_mlem, Option.bind_some, px_b0, px_b1, px_ckb, px_if, px_if', ↓reduceIte], Option.bind_some, d7d, Option.bind_some, Option.bind_some]
      dsimp only
      rw [k2, Option.bind_some, px_l0, px_ck (by omega) (by omega)]
      rfl
    · intro q
      obtain ⟨z1, z2, z3, z4⟩ := k5 q
      have o3t : o3 = true := by cases o3 with
        | true => rfl
        | false => cases z1
      subst o3t
      rw [Bool.and_eq_true] at ho3
      have o2t := ho3.1
      subst o2t
      rw [Bool.and_eq_true] at ho2
      have o1t := ho2.1
      subst o1t
      have q1 := isD_lt ho1
      have q2 := isD_lt ho2.2
      refine Or.inl ⟨rfl, rfl, sgN k v (p + 1) - 48, sgN k v e1 - 48, c, by omega, by omega, z4, ?_, ?_, rfl, ?_, ?_, z3⟩
      · rfl
      · rfl
      · exact pk_sub q1.2.1
      · exact pk_sub q2.2.1
    · unfold f_X2_readOrder
      rw [t1, Option.bind_some, px_ckP t2, if_pos (show nI 43 = 43 from by decide +kernel), px_l1, nI_add, d2a, Option.bind_some]
      dsimp only
      rw [d2b, Option.bind_some]
      dsimp only
      rw [d2c, Option.bind_some]
      dsimp only
      rw [k1]
      rfl
  by_cases c107 : sgN k v p = 107
  · obtain ⟨hpk, ht⟩ := hlt 107 (by omega) c107
    subst ht
    have d2a : f_X2_readDigit (nI k) (nI (p + 1)) (nI 0) si 5 = some (nI (if isD k v 5 (p + 1) then sgN k v (p + 1) - 48 else 0), nI (dP k v (p + 1) 1).1, nI (bN (!(dP k v (p + 1) 1).2))) := t2_digit h (p := p + 1) (lim := 5) (by omega) (by omega) false
    have hle := dP_le (v := v) (show p + 1 ≤ k from hpk) 5
    refine ⟨(dP k v (p + 1) 5).1, (dP k v (p + 1) 5).2, by omega, hle.2, fun q => by have := (dP_ok 5 q).1; omega, fun so ki tu ce cl le nu => ?_⟩
    obtain ⟨cl', m1, m2⟩ := t2_loop h (show p + 1 ≤ k from hpk) cl
    obtain ⟨nu', n1, n2⟩ := t7_loop h (show p + 1 ≤ k from hpk) nu
    refine ⟨nI 107, nI (if isD k v 5 (p + 1) then sgN k v (p + 1) - 48 else 0), tu, ce, cl', nI 107, nu', ?_, ?_, fun q => ?_⟩
    · unfold f_X2_readOrder
      rw [t1, Option.bind_some, px_ckP t2, if_neg (show ¬ nI 107 = 43 from by decide +kernel), if_neg (show ¬ nI 107 = 45 from by decide +kernel), if_pos (show nI 107 = 107 from by decide +kernel), px_l1, nI_add, d2a, Option.bind_some]
      dsimp only
      rw [px_l0, m1]
      rfl
    · unfold f_X7_takeOrder
      rw [hsg, c107, Option.bind_some]
      rw [if_pos (show nI 107 = 107 from by decide +kernel), Option.bind_some]
      rw [show f_X7_take_ (nI p) (nI 0) 1 = some (nI (p + 1), nI 0) from pl true, Option.bind_some]
      dsimp only
      rw [if_pos (show nI 0 = 0 from by decide +kernel), if_pos (show nI 107 = 107 from by decide +kernel)]
      rw [px_l0, show lp (f_X7_takeOrder_b1 (nI k) tx) FU (nI 0, nI (p + 1), nI 0, nu) = _ from n1]
      rfl
    · have hd := (dP_ok 5 q).2
      have h0 := isD_lt (hd 0 (by omega))
      refine Or.inr (Or.inr ⟨rfl, rfl, sgN k v (p + 1) - 48, fun j => sgN k v (p + 1 + 1 + j) - 48, by have := h0.2.2; rw [Nat.add_zero] at this; omega, ?_, n2 q 0 (by omega), fun j hj => ?_⟩)
      · rw [if_pos (hd 0 (by omega))]
      · have hj1 := isD_lt (hd (1 + j) (by omega))
        have e1 : p + 1 + (1 + j) = p + 1 + 1 + j := by omega
        rw [e1] at hj1
        refine ⟨by dsimp only; omega, m2 q j hj, ?_⟩
        have := n2 q (1 + j) (by omega)
        rw [e1] at this
        exact this
  have two : ∀ s, (s = 45 ∨ s = 116) → sgN k v p = s → ∃ (e : Nat) (ok : Bool), p ≤ e ∧ e ≤ k ∧ (ok = true → p + 2 ≤ e) ∧ ∀ so ki tu ce cl le nu, ∃ so' ki' tu' ce' cl' le' nu', f_X2_readOrder (nI k) (nI p) (nI 0) so ki tu ce si cl = some (nI e, nI (bN (!ok)), so', ki', tu', ce', cl') ∧ f_X7_takeOrder (nI k) (nI p) (nI 0) le tx nu = some (nI e, nI (bN (!ok)), le', nu') ∧ (ok = true → OV so' ki' tu' ce' cl' le' nu') := by
    intro s hs q
    obtain ⟨hpk, ht⟩ := hlt s (by omega) q
    subst ht
    obtain ⟨e, c, ok, x, k1, k2, k3, k4, k5⟩ := t_cell h (p := p + 1) (by omega) false
    have k1' : f_X2_readCellNumber (nI k) (nI (p + 1)) (nI 0) si = _ := k1
    have k2' : f_X7_takeCell (nI k) (nI (p + 1)) (nI 0) tx = _ := k2
    refine ⟨e, ok, by omega, k4, fun q => by have := (k5 q).2.1; omega, fun so ki tu ce cl le nu => ?_⟩
    refine ⟨nI s, ki, tu, nI c, cl, nI s, upd nu 0 x, ?_, ?_, fun q => Or.inr (Or.inl ⟨s, hs, rfl, rfl, c, (k5 q).2.2.2, rfl, (k5 q).2.2.1⟩)⟩
    · unfold f_X2_readOrder
      rw [t1, Option.bind_some, px_ckP t2]
      rcases hs with rfl | rfl
      · rw [if_neg (show ¬ nI 45 = 43 from by decide +kernel), if_pos (show nI 45 = 45 from by decide +kernel), px_l1, nI_add, k1']
        rfl
      · rw [if_neg (show ¬ nI 116 = 43 from by decide +kernel), if_neg (show ¬ nI 116 = 45 from by decide +kernel), if_neg (show ¬ nI 116 = 107 from by decide +kernel), if_pos (show nI 116 = 116 from by decide +kernel), px_l1, nI_add, k1']
        rfl
    · unfold f_X7_takeOrder
      rw [hsg, q, Option.bind_some]
      have first : (if nI s = 107 then some (1 : Int32) else if nI s = 43 then some 1 else if nI s = 45 then some 1 else if nI s = 116 then some 1 else some 0) = some 1 := by
        rcases hs with rfl | rfl <;> decide +kernel
      have n107 : ¬ nI s = 107 := by rcases hs with rfl | rfl <;> decide +kernel
      have n43 : ¬ nI s = 43 := by rcases hs with rfl | rfl <;> decide +kernel
      rw [first, Option.bind_some, show f_X7_take_ (nI p) (nI 0) 1 = some (nI (p + 1), nI 0) from pl true, Option.bind_some]
      dsimp only
      rw [if_pos (show nI 0 = 0 from by decide +kernel), if_neg n107, if_neg n43, Option.bind_some]
      dsimp only
      rw [k2', Option.bind_some, px_l0, px_ck (by omega) (by omega)]
      rfl
  by_cases c45 : sgN k v p = 45
  · exact two 45 (Or.inl rfl) c45
  by_cases c116 : sgN k v p = 116
  · exact two 116 (Or.inr rfl) c116
  have tne : ∀ s : Nat, s < 65536 → s ≠ 32 → s ≠ 0 → ¬ sgN k v p = s → ¬ t = nI s := by
    intro s hs h32 h0 hne q
    rcases t4 with z | z
    · have hz : t = nI (sgN k v p) := t3.elim (fun z0 => by
        have : si p = nI (v p) := (h.2 p z).1
        have hv : v p = 0 := by unfold sgN at z0; rw [if_pos z] at z0; exact z0
        rw [if_neg (by rw [nI_leI (by omega) (by omega)]; omega), px_ck (by omega) (by omega), nI_clamp (by omega), this] at t1
        rw [← Option.some.inj t1, z0, hv]) id
      rw [hz, nI_eq (by omega) (by omega)] at q
      exact hne q
    · rw [z, show (32 : Int32) = nI 32 from id rfl, nI_eq (by omega) (by omega)] at q
      exact h32 q.symm
  refine ⟨p, false, Nat.le_refl p, hp, (fun q => by cases q), fun so ki tu ce cl le nu => ⟨t, ki, tu, ce, cl, nI (sgN k v p), nu, ?_, ?_, (fun q => by cases q)⟩⟩
  · unfold f_X2_readOrder
    rw [t1, Option.bind_some, px_ckP t2, if_neg (show ¬ t = 43 from tne 43 (by omega) (by omega) (by omega) c43), if_neg (show ¬ t = 45 from tne 45 (by omega) (by omega) (by omega) c45), if_neg (show ¬ t = 107 from tne 107 (by omega) (by omega) (by omega) c107), if_neg (show ¬ t = 116 from tne 116 (by omega) (by omega) (by omega) c116)]
    rfl
  · unfold f_X7_takeOrder
    have sne : ∀ s : Nat, s < 65536 → ¬ sgN k v p = s → ¬ nI (sgN k v p) = nI s := fun s hs hne q => hne ((nI_eq (by omega) (by omega)).mp q)
    rw [hsg, Option.bind_some, if_neg (show ¬ nI (sgN k v p) = 107 from sne 107 (by omega) c107), if_neg (show ¬ nI (sgN k v p) = 43 from sne 43 (by omega) c43), if_neg (show ¬ nI (sgN k v p) = 45 from sne 45 (by omega) c45), if_neg (show ¬ nI (sgN k v p) = 116 from sne 116 (by omega) c116), Option.bind_some]
    rw [show f_X7_take_ (nI p) (nI 0) 0 = some (nI p, nI 1) from pl false, Option.bind_some]
    rw [if_neg (show ¬ nI 1 = 0 from by decide +kernel)]
    rfl
end P45
