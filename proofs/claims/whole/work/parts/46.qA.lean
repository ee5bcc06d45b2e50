/-! ALL ORDERS, COUNTED; A FAULT FOUND -/
def ORD (k : Nat) (v : Nat → Nat) (si tx : Nat → Int32) (p e : Nat) (ok : Bool) : Prop := p ≤ e ∧ e ≤ k ∧ (ok = true → p + 2 ≤ e) ∧ ∀ so ki tu ce cl le nu, ∃ so' ki' tu' ce' cl' le' nu', f_X2_readOrder (nI k) (nI p) (nI 0) so ki tu ce si cl = some (nI e, nI (bN (!ok)), so', ki', tu', ce', cl') ∧ f_X7_takeOrder (nI k) (nI p) (nI 0) le tx nu = some (nI e, nI (bN (!ok)), le', nu') ∧ (ok = true → OV so' ki' tu' ce' cl' le' nu')
/-- m orders, well written, from p to the end -/
def WFo (k : Nat) (v : Nat → Nat) (si tx : Nat → Int32) : Nat → Nat → Prop
  | 0, _ => False
  | m + 1, p => ∃ e, ORD k v si tx p e true ∧ ((m = 0 ∧ e = k) ∨ (0 < m ∧ e < k ∧ sgN k v e = 59 ∧ WFo k v si tx m (e + 1)))
theorem lp_inl {σ ρ : Type} {f : σ → Option (σ ⊕ ρ)} {n : Nat} {s s' : σ} (h : f s = some (.inl s')) : lp f (n + 1) s = lp f n s' := by
  show (f s).bind _ = _
  rw [h]; rfl
theorem lp_inr {σ ρ : Type} {f : σ → Option (σ ⊕ ρ)} {n : Nat} {s : σ} {r : ρ} (h : f s = some (.inr r)) : lp f (n + 1) s = some r := by
  show (f s).bind _ = _
  rw [h]; rfl
section P46
variable {k : Nat} {v : Nat → Nat} {si tx : Nat → Int32}
theorem t7_stuck (h : TXH k v si tx) {p : Nat} (hp : p ≤ k) (le : Int32) (nu : Nat → Int32) : ∃ le', f_X7_takeOrder (nI k) (nI p) (nI 1) le tx nu = some (nI p, nI 1, le', nu) := by
  have hk := h.1
  refine ⟨nI (sgN k v p), ?_⟩
  unfold f_X7_takeOrder
  rw [t7_sign h (by omega), Option.bind_some]
  have key : ∀ b : Bool, ((some (nI (bN b))).bind fun t3 => (f_X7_take_ (nI p) (nI 1) t3).bind fun r4 => (if r4.2 = 0 then (none : Option (Int32 × Int32 × Int32 × (Nat → Int32))) else some (r4.1, r4.2, nI (sgN k v p), nu))) = some (nI p, nI 1, nI (sgN k v p), nu) := fun b => by
    rw [Option.bind_some, show f_X7_take_ (nI p) (nI 1) (nI (bN b)) = some (nI p, nI 1) from t7_take p true b, Option.bind_some, if_neg (show ¬ nI 1 = 0 from by decide +kernel)]
  have t3 : ∃ b : Bool, (if nI (sgN k v p) = 107 then some (1 : Int32) else if nI (sgN k v p) = 43 then some 1 else if nI (sgN k v p) = 45 then some 1 else if nI (sgN k v p) = 116 then some 1 else some 0) = some (nI (bN b)) := by
    by_cases a1 : nI (sgN k v p) = 107
    · exact ⟨true, by rw [if_pos a1]; rfl⟩
    by_cases a2 : nI (sgN k v p) = 43
    · exact ⟨true, by rw [if_neg a1, if_pos a2]; rfl⟩
    by_cases a3 : nI (sgN k v p) = 45
    · exact ⟨true, by rw [if_neg a1, if_neg a2, if_pos a3]; rfl⟩
    by_cases a4 : nI (sgN k v p) = 116
    · exact ⟨true, by rw [if_neg a1, if_neg a2, if_neg a3, if_pos a4]; rfl⟩
    exact ⟨false, by rw [if_neg a1, if_neg a2, if_neg a3, if_neg a4]; rfl⟩
  obtain ⟨b, hb⟩ := t3
  rw [hb, Option.bind_some, show f_X7_take_ (nI p) (nI 1) (nI (bN b)) = some (nI p, nI 1) from t7_take p true b, Option.bind_some, if_neg (show ¬ nI 1 = 0 from by decide +kernel)]
theorem t2_sep (h : TXH k v si tx) {p : Nat} (hp : p < k) (w : Bool) : f_X2_readSeparator (nI k) (nI p) (nI (bN w)) si = some (nI (stp (!w && decide (sgN k v p = 59)) p), nI (bN (!(!w && decide (sgN k v p = 59))))) := by
  have hk := h.1
  unfold f_X2_readSeparator
  rw [if_neg (show ¬ nI k ≤ nI p from by rw [nI_leI (by omega) (by omega)]; omega), show f_X2_readSign (nI k) (nI p) (nI (bN w)) si 59 = _ from t2_sign h (p := p) (c := 59) (by omega) (by omega) w 0]
  rfl
theorem t_count (h : TXH k v si tx) : ∀ m p i N1 N2 : Nat, k - p < m → m + 2 ≤ N1 → m + 2 ≤ N2 → p ≤ k → 3 * i ≤ p → ∀ so ki tu ce cl le nu, ∃ r q, lp (f_X2_countOrders_b1 (nI k) si) N1 (nI i, nI p, nI 0, so, ki, tu, ce, cl) = some r ∧ lp (f_X7_findFault_b1 (nI k) tx) N2 (nI p, nI 0, le, nu) = some q ∧
    ((∃ e : Nat, e ≤ k ∧ r.2.1 = nI e ∧ r.2.2.1 = nI 1 ∧ ∃ a b c d, q = .inr (nI e, a, b, c, d)) ∨ (∃ M : Nat, i + M ≤ 60 ∧ WFo k v si tx M p ∧ r.1 = nI (i + M) ∧ r.2.1 = nI k ∧ r.2.2.1 = nI 0 ∧ ∃ x, q = .inl x ∧ x.2.1 = nI 0)) := by
  have hk := h.1
  intro m
  induction m with
  | zero => intro p i N1 N2 h1; omega
  | succ m ih =>
    intro p i N1 N2 h1 h2 h3 hp hi so ki tu ce cl le nu
    obtain ⟨n1, rfl⟩ : ∃ n1, N1 = n1 + 1 := ⟨N1 - 1, by omega⟩
    obtain ⟨n2, rfl⟩ : ∃ n2, N2 = n2 + 1 := ⟨N2 - 1, by omega⟩
    obtain ⟨n3, rfl⟩ : ∃ n3, n1 = n3 + 1 := ⟨n1 - 1, by omega⟩
    obtain ⟨n4, rfl⟩ : ∃ n4, n2 = n4 + 1 := ⟨n2 - 1, by omega⟩
    obtain ⟨e, ok, g1, g2, g3, g4⟩ := t_order h hp
    have hO : ORD k v si tx p e ok := ⟨g1, g2, g3, g4⟩
    obtain ⟨so', ki', tu', ce', cl', le', nu', c1, c2, c3⟩ := g4 so ki tu ce cl le nu
    have hi60 : ¬ nI 60 ≤ nI i := by rw [nI_leI (by omega) (by omega)]; omega
    have hi61 : ¬ nI 60 ≤ nI (i + 1) := by rw [nI_leI (by omega) (by omega)]; omega
    have n10 : ¬ nI 1 = nI 0 := by decide +kernel
    -- the class, stuck at the next round
    have stuck : ∀ x, lp (f_X2_countOrders_b1 (nI k) si) (n3 + 1) (nI (i + 1), nI x, nI 1, so', ki', tu', ce', cl') = some (nI (i + 1), nI x, nI 1, so', ki', tu', ce', cl') := fun x => lp_inr (by
      unfold f_X2_countOrders_b1
      dsimp only
      rw [px_l60, if_neg hi61, px_l0, if_neg n10])
    have step0 : f_X2_countOrders_b1 (nI k) si (nI i, nI p, nI 0, so, ki, tu, ce, cl) = (if nI e = nI k then some (.inr (nI (i + 1), nI e, nI (bN (!ok)), so', ki', tu', ce', cl')) else (f_X2_readSeparator (nI k) (nI e) (nI (bN (!ok))) si).bind fun r7 => some (.inl (nI (i + 1), r7.1, r7.2, so', ki', tu', ce', cl'))) := by
      unfold f_X2_countOrders_b1
      dsimp only
      rw [px_l60, if_neg hi60, px_l0, if_pos rfl, c1, Option.bind_some, px_l1, nI_add]
    have mstep0 : f_X7_findFault_b1 (nI k) tx (nI p, nI 0, le, nu) = (if nI (bN (!ok)) = nI 0 then (if nI e = nI k then some (.inr (.inl (nI e, nI (bN (!ok)), le', nu'))) else (f_X7_take_ (nI e) (nI (bN (!ok))) (nI (bN (decide (sgN k v e = 59))))).bind fun r8 => some (.inl (r8.1, r8.2, le', nu'))) else some (.inr (.inr (nI e, nI e, nI (bN (!ok)), le', nu')))) := by
      unfold f_X7_findFault_b1
      dsimp only
      have hse := sgN_le h (p := e)
      rw [c2, Option.bind_some]
      dsimp only
      rw [t7_sign h (by omega), Option.bind_some, px_l0, show (if nI (sgN k v e) = 59 then some (1 : Int32) else some (nI 0)) = some (nI (bN (decide (sgN k v e = 59)))) from by
        rw [px_l59]
        simp (disch := omega) only [px_l0, px_l1, px_l2, px_l3, px_l4, px_l5, px_l6, px_l9, px_l10, px_l14, px_l15, px_l23, px_l24, px_l25, px_l26, px_l29, px_l30, px_l32, px_l43, px_l45, px_l48, px_l57, px_l59, px_l60, px_l64, px_l100, px_l107, px_l116, px_l149, px_l150, px_l348, px_l464, px_l600, px_sa, nI_leI, nI_ltI, nI_eq, nI_add, pk_sub, pk_mul, pk_div, px_rm, nI_clamp, px_ck, px_eqm, px_meq, px_mm, px_mlt, px_mle, px_lem, px_ltm, px_mlem, Option.bind_some, px_b0, px_b1, px_ckb, px_if, px_if', ↓reduceIte], Option.bind_some]
    by_cases hek : e = k
    · subst hek
      rw [if_pos rfl] at step0
      refine ⟨(nI (i + 1), nI e, nI (bN (!ok)), so', ki', tu', ce', cl'), ?_⟩
      rw [lp_inr step0]
      cases ok with
      | false =>
        rw [if_neg (show ¬ nI (bN (!false)) = nI 0 from n10)] at mstep0
        exact ⟨_, rfl, lp_inr mstep0, Or.inl ⟨e, Nat.le_refl e, rfl, rfl, _, _, _, _, rfl⟩⟩
      | true =>
        rw [if_pos (show nI (bN (!true)) = nI 0 from rfl), if_pos rfl] at mstep0
        exact ⟨_, rfl, lp_inr mstep0, Or.inr ⟨1, by omega, ⟨e, hO, Or.inl ⟨rfl, rfl⟩⟩, rfl, rfl, rfl, _, rfl, rfl⟩⟩
    · have hek2 : ¬ nI e = nI k := fun q => hek ((nI_eq (by omega) (by omega)).mp q)
      rw [if_neg hek2, t2_sep h (show e < k by omega), Option.bind_some, Bool.not_not] at step0
      rw [lp_inl step0]
      cases ok with
      | false =>
        rw [if_neg (show ¬ nI (bN (!false)) = nI 0 from n10)] at mstep0
        refine ⟨_, _, stuck e, lp_inr mstep0, Or.inl ⟨e, g2, rfl, rfl, _, _, _, _, rfl⟩⟩
      | true =>
        have tk := t7_take e (!true) (decide (sgN k v e = 59))
        rw [if_pos (show nI (bN (!true)) = nI 0 from rfl), if_neg hek2, tk, Option.bind_some] at mstep0
        rw [lp_inl mstep0]
        by_cases h59 : sgN k v e = 59
        · rw [decide_eq_true h59]
          have g5 := g3 rfl
          obtain ⟨r, q, d1, d2, d3⟩ := ih (e + 1) (i + 1) (n3 + 1) (n4 + 1) (by omega) (by omega) (by omega) (by omega) (by omega) so' ki' tu' ce' cl' le' nu'
          refine ⟨r, q, d1, d2, ?_⟩
          rcases d3 with d3 | ⟨M, e1, e2, e3, e4, e5, e6⟩
          · exact Or.inl d3
          · refine Or.inr ⟨M + 1, by omega, ⟨e, hO, Or.inr ⟨?_, by omega, h59, e2⟩⟩, by rw [e3]; congr 1; omega, e4, e5, e6⟩
            cases M with
            | zero => exact absurd e2 id
            | succ M => omega
        · rw [decide_eq_false h59]
          obtain ⟨le2, st⟩ := t7_stuck h (show e ≤ k from g2) le' nu'
          refine ⟨_, _, stuck e, lp_inr (r := .inr (nI e, nI e, nI 1, le2, nu')) ?_, Or.inl ⟨e, g2, rfl, rfl, _, _, _, _, rfl⟩⟩
          unfold f_X7_findFault_b1
          dsimp only
          rw [show f_X7_takeOrder (nI k) (nI (stp (!!true && false) e)) (nI (bN (!(!!true && false)))) le' tx nu' = some (nI e, nI 1, le2, nu') from st, Option.bind_some]
          dsimp only
          rw [px_l0, if_neg n10]
end P46
