/-! REGIONS, STEP BY STEP ALONGSIDE -/
theorem lp_rel2 {σ ρ σ' ρ' : Type} {f : σ → Option (σ ⊕ ρ)} {g : σ' → Option (σ' ⊕ ρ')} (I : Nat → σ → σ' → Prop) (e : Nat) (Q : ρ → ρ' → Prop)
    (hs : ∀ i s t, i < e → I i s t → (∃ s' t', f s = some (.inl s') ∧ g t = some (.inl t') ∧ I (i + 1) s' t') ∨ ∃ r q, f s = some (.inr r) ∧ g t = some (.inr q) ∧ Q r q) (hx : ∀ s t, I e s t → ∃ r q, f s = some (.inr r) ∧ g t = some (.inr q) ∧ Q r q) :
    ∀ (N i : Nat) (s : σ) (t : σ'), i ≤ e → e - i < N → I i s t → ∃ r q, lp f N s = some r ∧ lp g N t = some q ∧ Q r q := by
  intro N
  induction N with
  | zero => intro i s t _ h; omega
  | succ n ih =>
    intro i s t hi hN h
    have fin : (∃ r q, f s = some (.inr r) ∧ g t = some (.inr q) ∧ Q r q) → ∃ r q, lp f (n + 1) s = some r ∧ lp g (n + 1) t = some q ∧ Q r q := by
      rintro ⟨r, q, h1, h2, h3⟩
      refine ⟨r, q, ?_, ?_, h3⟩
      · show (f s).bind _ = _
        rw [h1]; rfl
      · show (g t).bind _ = _
        rw [h2]; rfl
    rcases Nat.lt_or_ge i e with hlt | hge
    · rcases hs i s t hlt h with ⟨s', t', h1, h2, h3⟩ | h1
      · obtain ⟨r, q, h4, h5, h6⟩ := ih (i + 1) s' t' hlt (by omega) h3
        refine ⟨r, q, ?_, ?_, h6⟩
        · show (f s).bind _ = _
          rw [h1]; exact h4
        · show (g t).bind _ = _
          rw [h2]; exact h5
      · exact fin h1
    · have : i = e := by omega
      subst this
      exact fin (hx s t h)
def RRb (R : Nat → Bool) (re : Nat → Int32) : Prop := ∀ x, x < 150 → re x = nI (bN (R x))
def QUq (q : Nat → Nat) (t : Nat) (qu : Nat → Int32) : Prop := ∀ j, j < t → qu j = nI (q j)
theorem RRb.put {R : Nat → Bool} {re : Nat → Int32} {y : Nat} (h : RRb R re) : RRb (fun j => R j || decide (y = j)) (upd re y (nI 1)) := by
  intro x hx
  rw [px_upd]
  dsimp only
  by_cases hj : x = y
  · subst hj; rw [if_pos rfl, decide_eq_true rfl, Bool.or_true]; rfl
  · rw [if_neg hj, decide_eq_false (Ne.symm hj), Bool.or_false]; exact h x hx
theorem QUq.put {q : Nat → Nat} {t y : Nat} {qu : Nat → Int32} (h : QUq q t qu) : QUq (fun j => if j = t then y else q j) (t + 1) (upd qu t (nI y)) := by
  intro j hj
  rw [px_upd]
  dsimp only
  by_cases h1 : j = t
  · rw [if_pos h1, if_pos h1]
  · rw [if_neg h1, if_neg h1]; exact h j (by omega)
/-- marks and a row that both hold: t of them stand in the row -/
def QQ (t : Nat) (R : Nat → Bool) (q : Nat → Nat) : Prop := (∀ j, j < t → q j < 150) ∧ t ≤ smf (fun x => bN (R x)) 150
theorem smf_150 {R : Nat → Bool} : smf (fun x => bN (R x)) 150 ≤ 150 * 1 := smf_le (fun x _ => bN_le _)
theorem QQ.put {t y : Nat} {R : Nat → Bool} {q : Nat → Nat} (h : QQ t R q) (hy : y < 150) (hR : R y = false) : QQ (t + 1) (fun j => R j || decide (y = j)) (fun j => if j = t then y else q j) ∧ t < 150 := by
  have h1 := smf_put (S := R) hy hR
  have h2 := smf_150 (R := fun j => R j || decide (y = j))
  have h3 := h.2
  refine ⟨⟨fun j hj => ?_, by show t + 1 ≤ smf (fun j => bN (R j || decide (y = j))) 150; omega⟩, by omega⟩
  dsimp only
  split
  · exact hy
  · exact h.1 j (by omega)
section P40
variable {n r : Nat} {K T M C : Nat → Nat} {lay : Nat → Option (Nat × Nat)} {NWKa NWTa NWMa NWCa ow pa z on wy : Nat → Int32}
theorem on_ge (hL : LY n M lay) (hn : n ≤ 30) (hl : LM lay on wy) {c : Nat} (hc : c < 150) : (0 ≤ on c) ↔ frB lay c = false := by
  unfold frB
  cases h : lay c with
  | none =>
    rw [((hl c hc).1 h).1, px_l0, Int32.le_iff_toInt_le, px_toInt_neg (by omega), nI_toInt (by omega)]
    constructor
    · intro h; omega
    · intro h; cases h
  | some q =>
    obtain ⟨g1, g2, -⟩ := hL.2 c q.1 q.2 hc h
    rw [((hl c hc).2 q.1 q.2 h).1]
    exact ⟨fun _ => rfl, fun _ => nI_pos' (by omega)⟩
theorem rg_step (hL : LY n M lay) (hn : n ≤ 30) (hl : LC lay ow pa) (hm : LM lay on wy) {R : Nat → Bool} {q : Nat → Nat} {h t s : Nat} (hh : h < t) (hs : s < 4) (hQ : QQ t R q) {re qu mk qv : Nat → Int32} (h1 : RRb R re) (h2 : QUq q t qu) (h3 : RRb R mk) (h4 : QUq q t qv) {a a' : Int32} {b c b' c' : Nat → Int32} :
    ∃ (t' : Nat) (R' : Nat → Bool) (q' : Nat → Nat) (re' qu' mk' qv' : Nat → Int32), f_X5_reachRegion_b1 ow (nI 1) (a, nI h, b, c) (nI t, nI s, re, qu) = some (.inl (nI t', nI (s + 1), re', qu')) ∧ f_X7_markRegion_b1 on (nI h, a', b', c') (nI t, nI s, mk, qv) = some (.inl (nI t', nI (s + 1), mk', qv')) ∧ t ≤ t' ∧ QQ t' R' q' ∧ RRb R' re' ∧ QUq q' t' qu' ∧ RRb R' mk' ∧ QUq q' t' qv' := by
  have ht : t ≤ 150 := by have := hQ.2; have := smf_150 (R := R); omega
  have hqh := hQ.1 h hh
  have hy := bes_lt _ hqh s hs
  have hge := on_ge hL hn hm hy
  have e1 : re (bes (q h) s) = _ := h1 _ hy
  have e2 : mk (bes (q h) s) = _ := h3 _ hy
  have e3 : qu h = _ := h2 h hh
  have e4 : qv h = _ := h4 h hh
  have hfree := w1_free hL hn hl hy
  have same : (R (bes (q h) s) = true ∨ frB lay (bes (q h) s) = false) → ∃ (t' : Nat) (R' : Nat → Bool) (q' : Nat → Nat) (re' qu' mk' qv' : Nat → Int32), f_X5_reachRegion_b1 ow (nI 1) (a, nI h, b, c) (nI t, nI s, re, qu) = some (.inl (nI t', nI (s + 1), re', qu')) ∧ f_X7_markRegion_b1 on (nI h, a', b', c') (nI t, nI s, mk, qv) = some (.inl (nI t', nI (s + 1), mk', qv')) ∧ t ≤ t' ∧ QQ t' R' q' ∧ RRb R' re' ∧ QUq q' t' qu' ∧ RRb R' mk' ∧ QUq q' t' qv' := by
    intro hc
    refine ⟨t, R, q, re, qu, mk, qv, ?_, ?_, Nat.le_refl t, hQ, h1, h2, h3, h4⟩
    · cases hR : R (bes (q h) s) with
      | true =>
        rw [hR] at e1
        simp (disch := omega) only [f_X5_reachRegion_b1, e1, e3, g0_bes _ hqh s hs, show ¬ 4 ≤ s from by omega, Bool.true_eq_false, px_l0, px_l1, px_l2, px_l3, px_l4, px_l5, px_l6, px_l9, px_l10, px_l14, px_l15, px_l23, px_l24, px_l25, px_l26, px_l29, px_l30, px_l32, px_l43, px_l45, px_l48, px_l57, px_l59, px_l60, px_l64, px_l100, px_l107, px_l116, px_l149, px_l150, px_l348, px_l464, px_l600, px_sa, nI_leI, nI_ltI, nI_eq, nI_add, pk_sub, pk_mul, pk_div, px_rm, nI_clamp, px_ck, px_eqm, px_meq, px_mm, px_mlt, px_mle, px_lem, px_ltm, px_mlem, Option.bind_some, px_b0, px_b1, px_ckb, px_if, px_if', ↓reduceIte]
      | false =>
        rw [hR] at e1 hc
        have hf : frB lay (bes (q h) s) = false := hc.elim (fun q => by cases q) id
        simp (disch := omega) only [f_X5_reachRegion_b1, e1, e3, g0_bes _ hqh s hs, hfree, hf, show ¬ 4 ≤ s from by omega, Bool.false_eq_true, px_l0, px_l1, px_l2, px_l3, px_l4, px_l5, px_l6, px_l9, px_l10, px_l14, px_l15, px_l23, px_l24, px_l25, px_l26, px_l29, px_l30, px_l32, px_l43, px_l45, px_l48, px_l57, px_l59, px_l60, px_l64, px_l100, px_l107, px_l116, px_l149, px_l150, px_l348, px_l464, px_l600, px_sa, nI_leI, nI_ltI, nI_eq, nI_add, pk_sub, pk_mul, pk_div, px_rm, nI_clamp, px_ck, px_eqm, px_meq, px_mm, px_mlt, px_mle, px_lem, px_ltm, px_mlem, Option.bind_some, px_b0, px_b1, px_ckb, px_if, px_if', ↓reduceIte]
    · cases hf : frB lay (bes (q h) s) with
      | false =>
        rw [hf] at hge
        have hge' : 0 ≤ on (bes (q h) s) := hge.mpr rfl
        rw [px_l0] at hge'
        simp (disch := omega) only [f_X7_markRegion_b1, e4, g7_bes _ hqh s hs, hge', show ¬ 4 ≤ s from by omega, px_l0, px_l1, px_l2, px_l3, px_l4, px_l5, px_l6, px_l9, px_l10, px_l14, px_l15, px_l23, px_l24, px_l25, px_l26, px_l29, px_l30, px_l32, px_l43, px_l45, px_l48, px_l57, px_l59, px_l60, px_l64, px_l100, px_l107, px_l116, px_l149, px_l150, px_l348, px_l464, px_l600, px_sa, nI_leI, nI_ltI, nI_eq, nI_add, pk_sub, pk_mul, pk_div, px_rm, nI_clamp, px_ck, px_eqm, px_meq, px_mm, px_mlt, px_mle, px_lem, px_ltm, px_mlem, Option.bind_some, px_b0, px_b1, px_ckb, px_if, px_if', ↓reduceIte]
      | true =>
        rw [hf] at hge hc
        have hR : R (bes (q h) s) = true := hc.elim id (fun q => by cases q)
        rw [hR] at e2
        have hge' : ¬ 0 ≤ on (bes (q h) s) := fun q => by cases hge.mp q
        rw [px_l0] at hge'
        simp (disch := omega) only [f_X7_markRegion_b1, e2, e4, g7_bes _ hqh s hs, hge', show ¬ 4 ≤ s from by omega, Bool.true_eq_false, px_l0, px_l1, px_l2, px_l3, px_l4, px_l5, px_l6, px_l9, px_l10, px_l14, px_l15, px_l23, px_l24, px_l25, px_l26, px_l29, px_l30, px_l32, px_l43, px_l45, px_l48, px_l57, px_l59, px_l60, px_l64, px_l100, px_l107, px_l116, px_l149, px_l150, px_l348, px_l464, px_l600, px_sa, nI_leI, nI_ltI, nI_eq, nI_add, pk_sub, pk_mul, pk_div, px_rm, nI_clamp, px_ck, px_eqm, px_meq, px_mm, px_mlt, px_mle, px_lem, px_ltm, px_mlem, Option.bind_some, px_b0, px_b1, px_ckb, px_if, px_if', ↓reduceIte]
  cases hR : R (bes (q h) s) with
  | true => exact same (Or.inl hR)
  | false =>
    cases hf : frB lay (bes (q h) s) with
    | false => exact same (Or.inr hf)
    | true =>
      rw [hR] at e1 e2
      rw [hf] at hge
      have hge' : ¬ 0 ≤ on (bes (q h) s) := fun q => by cases hge.mp q
      rw [px_l0] at hge'
      obtain ⟨hQ', ht'⟩ := hQ.put hy hR
      refine ⟨t + 1, _, _, upd re (bes (q h) s) (nI 1), upd qu t (nI (bes (q h) s)), upd mk (bes (q h) s) (nI 1), upd qv t (nI (bes (q h) s)), ?_, ?_, by omega, hQ', h1.put, h2.put, h3.put, h4.put⟩
      · simp (disch := omega) only [f_X5_reachRegion_b1, e1, e3, g0_bes _ hqh s hs, hfree, hf, px_z1, show ¬ 4 ≤ s from by omega, show ¬ 150 ≤ t from by omega, px_l0, px_l1, px_l2, px_l3, px_l4, px_l5, px_l6, px_l9, px_l10, px_l14, px_l15, px_l23, px_l24, px_l25, px_l26, px_l29, px_l30, px_l32, px_l43, px_l45, px_l48, px_l57, px_l59, px_l60, px_l64, px_l100, px_l107, px_l116, px_l149, px_l150, px_l348, px_l464, px_l600, px_sa, nI_leI, nI_ltI, nI_eq, nI_add, pk_sub, pk_mul, pk_div, px_rm, nI_clamp, px_ck, px_eqm, px_meq, px_mm, px_mlt, px_mle, px_lem, px_ltm, px_mlem, Option.bind_some, px_b0, px_b1, px_ckb, px_if, px_if', ↓reduceIte]
      · simp (disch := omega) only [f_X7_markRegion_b1, e2, e4, g7_bes _ hqh s hs, hge', show ¬ 4 ≤ s from by omega, px_l0, px_l1, px_l2, px_l3, px_l4, px_l5, px_l6, px_l9, px_l10, px_l14, px_l15, px_l23, px_l24, px_l25, px_l26, px_l29, px_l30, px_l32, px_l43, px_l45, px_l48, px_l57, px_l59, px_l60, px_l64, px_l100, px_l107, px_l116, px_l149, px_l150, px_l348, px_l464, px_l600, px_sa, nI_leI, nI_ltI, nI_eq, nI_add, pk_sub, pk_mul, pk_div, px_rm, nI_clamp, px_ck, px_eqm, px_meq, px_mm, px_mlt, px_mle, px_lem, px_ltm, px_mlem, Option.bind_some, px_b0, px_b1, px_ckb, px_if, px_if', ↓reduceIte]
theorem rg_reach (hL : LY n M lay) (hn : n ≤ 30) (hl : LC lay ow pa) (hm : LM lay on wy) {R : Nat → Bool} {re qu mk qv : Nat → Int32} (h1 : RRb R re) (h3 : RRb R mk) {c : Nat} (hc : c < 150) (hR : R c = false) :
    ∃ (t : Nat) (R' : Nat → Bool) (re' qu' mk' qv' : Nat → Int32), f_X5_reachRegion ow re qu (nI c) (nI 1) = some (nI t, re', qu') ∧ f_X7_markRegion on mk qv (nI c) = some (nI t, mk', qv') ∧ t ≤ 150 ∧ RRb R' re' ∧ RRb R' mk' := by
  have hQ0 : QQ 0 R (fun _ => 0) := ⟨fun j hj => absurd hj (Nat.not_lt_zero j), Nat.zero_le _⟩
  obtain ⟨hQ, -⟩ := hQ0.put hc hR
  have hqu : ∀ u : Nat → Int32, QUq (fun _ => 0) 0 u := fun u j hj => absurd hj (Nat.not_lt_zero j)
  obtain ⟨r1, r2, a1, a2, t, R', a3, a4, a5, a6, a7⟩ := lp_rel2 (f := f_X5_reachRegion_b2 ow (nI 1)) (g := f_X7_markRegion_b2 on) (fun h s u => ∃ (t : Nat) (R' : Nat → Bool) (q' : Nat → Nat), h ≤ t ∧ QQ t R' q' ∧ s.1 = nI t ∧ s.2.1 = nI h ∧ u.1 = nI h ∧ u.2.1 = nI t ∧ RRb R' s.2.2.1 ∧ QUq q' t s.2.2.2 ∧ RRb R' u.2.2.1 ∧ QUq q' t u.2.2.2) 150 (fun s u => ∃ (t : Nat) (R' : Nat → Bool), t ≤ 150 ∧ s.1 = nI t ∧ u.2.1 = nI t ∧ RRb R' s.2.2.1 ∧ RRb R' u.2.2.1) (by
    rintro h ⟨s1, s2, s3, s4⟩ ⟨u1, u2, u3, u4⟩ hh ⟨t, R', q', b1, b2, b3, b4, b5, b6, b7, b8, b9, b10⟩
    dsimp only at b3 b4 b5 b6 b7 b8 b9 b10
    subst b3; subst b4; subst b5; subst b6
    have ht : t ≤ 150 := by have := b2.2; have := smf_150 (R := R'); omega
    rcases Nat.lt_or_ge h t with hlt | hge
    · left
      obtain ⟨v1, v2, c1, c2, t', R'', q'', c3, c4, c5, c6, c7, c8, c9, c10⟩ := lp_rel (f := f_X5_reachRegion_b1 ow (nI 1) (nI t, nI h, s3, s4)) (g := f_X7_markRegion_b1 on (nI h, nI t, u3, u4)) (fun s v w => ∃ (t' : Nat) (R' : Nat → Bool) (q' : Nat → Nat), t ≤ t' ∧ QQ t' R' q' ∧ v.1 = nI t' ∧ v.2.1 = nI s ∧ w.1 = nI t' ∧ w.2.1 = nI s ∧ RRb R' v.2.2.1 ∧ QUq q' t' v.2.2.2 ∧ RRb R' w.2.2.1 ∧ QUq q' t' w.2.2.2) 4 (fun v w => ∃ (t' : Nat) (R' : Nat → Bool) (q' : Nat → Nat), t ≤ t' ∧ QQ t' R' q' ∧ v.1 = nI t' ∧ w.1 = nI t' ∧ RRb R' v.2.2.1 ∧ QUq q' t' v.2.2.2 ∧ RRb R' w.2.2.1 ∧ QUq q' t' w.2.2.2) (by
        rintro s ⟨v1, v2, v3, v4⟩ ⟨w1, w2, w3, w4⟩ hs ⟨t', R'', q'', c1, c2, c3, c4, c5, c6, c7, c8, c9, c10⟩
        dsimp only at c3 c4 c5 c6 c7 c8 c9 c10
        subst c3; subst c4; subst c5; subst c6
        obtain ⟨t2, R2, q2, re', qu', mk', qv', d1, d2, d3, d4, d5, d6, d7, d8⟩ := rg_step hL hn hl hm (show h < t' by omega) hs c2 c7 c8 c9 c10 (a := nI t) (a' := nI t) (b := s3) (c := s4) (b' := u3) (c' := u4)
        exact ⟨_, _, d1, d2, t2, R2, q2, by omega, d4, rfl, rfl, rfl, rfl, d5, d6, d7, d8⟩) (by
        rintro ⟨v1, v2, v3, v4⟩ ⟨w1, w2, w3, w4⟩ ⟨t', R'', q'', c1, c2, c3, c4, c5, c6, c7, c8, c9, c10⟩
        dsimp only at c3 c4 c5 c6 c7 c8 c9 c10
        subst c3; subst c4; subst c5; subst c6
        refine ⟨(nI t', nI 4, v3, v4), (nI t', nI 4, w3, w4), ?_, ?_, t', R'', q'', c1, c2, rfl, rfl, c7, c8, c9, c10⟩
        · simp (disch := omega) only [f_X5_reachRegion_b1, Nat.le_refl, px_l0, px_l1, px_l2, px_l3, px_l4, px_l5, px_l6, px_l9, px_l10, px_l14, px_l15, px_l23, px_l24, px_l25, px_l26, px_l29, px_l30, px_l32, px_l43, px_l45, px_l48, px_l57, px_l59, px_l60, px_l64, px_l100, px_l107, px_l116, px_l149, px_l150, px_l348, px_l464, px_l600, px_sa, nI_leI, nI_ltI, nI_eq, nI_add, pk_sub, pk_mul, pk_div, px_rm, nI_clamp, px_ck, px_eqm, px_meq, px_mm, px_mlt, px_mle, px_lem, px_ltm, px_mlem, Option.bind_some, px_b0, px_b1, px_ckb, px_if, px_if', ↓reduceIte]
        · simp (disch := omega) only [f_X7_markRegion_b1, Nat.le_refl, px_l0, px_l1, px_l2, px_l3, px_l4, px_l5, px_l6, px_l9, px_l10, px_l14, px_l15, px_l23, px_l24, px_l25, px_l26, px_l29, px_l30, px_l32, px_l43, px_l45, px_l48, px_l57, px_l59, px_l60, px_l64, px_l100, px_l107, px_l116, px_l149, px_l150, px_l348, px_l464, px_l600, px_sa, nI_leI, nI_ltI, nI_eq, nI_add, pk_sub, pk_mul, pk_div, px_rm, nI_clamp, px_ck, px_eqm, px_meq, px_mm, px_mlt, px_mle, px_lem, px_ltm, px_mlem, Option.bind_some, px_b0, px_b1, px_ckb, px_if, px_if', ↓reduceIte]) FU 0 (nI t, nI 0, s3, s4) (nI t, nI 0, u3, u4) (Nat.zero_le _) (by decide) ⟨t, R', q', Nat.le_refl t, b2, rfl, rfl, rfl, rfl, b7, b8, b9, b10⟩
      obtain ⟨v1, x2, v3, v4⟩ := v1
      obtain ⟨w1, y2, w3, w4⟩ := v2
      dsimp only at c5 c6 c7 c8 c9 c10
      subst c5; subst c6
      refine ⟨(nI t', nI (h + 1), v3, v4), (nI (h + 1), nI t', w3, w4), ?_, ?_, t', R'', q'', by omega, c4, rfl, rfl, rfl, rfl, c7, c8, c9, c10⟩
      · simp (disch := omega) only [f_X5_reachRegion_b2, show ¬ t ≤ h from by omega, show ¬ 150 ≤ h from by omega, c1, px_l0, px_l1, px_l2, px_l3, px_l4, px_l5, px_l6, px_l9, px_l10, px_l14, px_l15, px_l23, px_l24, px_l25, px_l26, px_l29, px_l30, px_l32, px_l43, px_l45, px_l48, px_l57, px_l59, px_l60, px_l64, px_l100, px_l107, px_l116, px_l149, px_l150, px_l348, px_l464, px_l600, px_sa, nI_leI, nI_ltI, nI_eq, nI_add, pk_sub, pk_mul, pk_div, px_rm, nI_clamp, px_ck, px_eqm, px_meq, px_mm, px_mlt, px_mle, px_lem, px_ltm, px_mlem, Option.bind_some, px_b0, px_b1, px_ckb, px_if, px_if', ↓reduceIte]
      · simp (disch := omega) only [f_X7_markRegion_b2, show ¬ t ≤ h from by omega, c2, px_l0, px_l1, px_l2, px_l3, px_l4, px_l5, px_l6, px_l9, px_l10, px_l14, px_l15, px_l23, px_l24, px_l25, px_l26, px_l29, px_l30, px_l32, px_l43, px_l45, px_l48, px_l57, px_l59, px_l60, px_l64, px_l100, px_l107, px_l116, px_l149, px_l150, px_l348, px_l464, px_l600, px_sa, nI_leI, nI_ltI, nI_eq, nI_add, pk_sub, pk_mul, pk_div, px_rm, nI_clamp, px_ck, px_eqm, px_meq, px_mm, px_mlt, px_mle, px_lem, px_ltm, px_mlem, Option.bind_some, px_b0, px_b1, px_ckb, px_if, px_if', ↓reduceIte]
    · right
      refine ⟨(nI t, nI h, s3, s4), (nI h, nI t, u3, u4), ?_, ?_, t, R', ht, rfl, rfl, b7, b9⟩
      · simp (disch := omega) only [f_X5_reachRegion_b2, hge, px_l0, px_l1, px_l2, px_l3, px_l4, px_l5, px_l6, px_l9, px_l10, px_l14, px_l15, px_l23, px_l24, px_l25, px_l26, px_l29, px_l30, px_l32, px_l43, px_l45, px_l48, px_l57, px_l59, px_l60, px_l64, px_l100, px_l107, px_l116, px_l149, px_l150, px_l348, px_l464, px_l600, px_sa, nI_leI, nI_ltI, nI_eq, nI_add, pk_sub, pk_mul, pk_div, px_rm, nI_clamp, px_ck, px_eqm, px_meq, px_mm, px_mlt, px_mle, px_lem, px_ltm, px_mlem, Option.bind_some, px_b0, px_b1, px_ckb, px_if, px_if', ↓reduceIte]
      · simp (disch := omega) only [f_X7_markRegion_b2, hge, px_l0, px_l1, px_l2, px_l3, px_l4, px_l5, px_l6, px_l9, px_l10, px_l14, px_l15, px_l23, px_l24, px_l25, px_l26, px_l29, px_l30, px_l32, px_l43, px_l45, px_l48, px_l57, px_l59, px_l60, px_l64, px_l100, px_l107, px_l116, px_l149, px_l150, px_l348, px_l464, px_l600, px_sa, nI_leI, nI_ltI, nI_eq, nI_add, pk_sub, pk_mul, pk_div, px_rm, nI_clamp, px_ck, px_eqm, px_meq, px_mm, px_mlt, px_mle, px_lem, px_ltm, px_mlem, Option.bind_some, px_b0, px_b1, px_ckb, px_if, px_if', ↓reduceIte]) (by
    rintro ⟨s1, s2, s3, s4⟩ ⟨u1, u2, u3, u4⟩ ⟨t, R', q', b1, b2, b3, b4, b5, b6, b7, b8, b9, b10⟩
    dsimp only at b3 b4 b5 b6 b7 b8 b9 b10
    subst b3; subst b4; subst b5; subst b6
    have ht : t ≤ 150 := by have := b2.2; have := smf_150 (R := R'); omega
    refine ⟨(nI t, nI 150, s3, s4), (nI 150, nI t, u3, u4), ?_, ?_, t, R', ht, rfl, rfl, b7, b9⟩
    · simp (disch := omega) only [f_X5_reachRegion_b2, ht, px_l0, px_l1, px_l2, px_l3, px_l4, px_l5, px_l6, px_l9, px_l10, px_l14, px_l15, px_l23, px_l24, px_l25, px_l26, px_l29, px_l30, px_l32, px_l43, px_l45, px_l48, px_l57, px_l59, px_l60, px_l64, px_l100, px_l107, px_l116, px_l149, px_l150, px_l348, px_l464, px_l600, px_sa, nI_leI, nI_ltI, nI_eq, nI_add, pk_sub, pk_mul, pk_div, px_rm, nI_clamp, px_ck, px_eqm, px_meq, px_mm, px_mlt, px_mle, px_lem, px_ltm, px_mlem, Option.bind_some, px_b0, px_b1, px_ckb, px_if, px_if', ↓reduceIte]
    · simp (disch := omega) only [f_X7_markRegion_b2, ht, px_l0, px_l1, px_l2, px_l3, px_l4, px_l5, px_l6, px_l9, px_l10, px_l14, px_l15, px_l23, px_l24, px_l25, px_l26, px_l29, px_l30, px_l32, px_l43, px_l45, px_l48, px_l57, px_l59, px_l60, px_l64, px_l100, px_l107, px_l116, px_l149, px_l150, px_l348, px_l464, px_l600, px_sa, nI_leI, nI_ltI, nI_eq, nI_add, pk_sub, pk_mul, pk_div, px_rm, nI_clamp, px_ck, px_eqm, px_meq, px_mm, px_mlt, px_mle, px_lem, px_ltm, px_mlem, Option.bind_some, px_b0, px_b1, px_ckb, px_if, px_if', ↓reduceIte]) FU 0 (nI 1, nI 0, upd re c (nI 1), upd qu 0 (nI c)) (nI 0, nI 1, upd mk c (nI 1), upd qv 0 (nI c)) (Nat.zero_le _) (by decide) ⟨1, _, _, by omega, hQ, rfl, rfl, rfl, rfl, h1.put, (hqu qu).put, h3.put, (hqu qv).put⟩
  obtain ⟨x1, x2, x3, x4⟩ := r1
  obtain ⟨y1, y2, y3, y4⟩ := r2
  dsimp only at a4 a5 a6 a7
  subst a4; subst a5
  refine ⟨t, R', x3, x4, y3, y4, ?_, ?_, a3, a6, a7⟩
  · simp (disch := omega) only [f_X5_reachRegion, px_z1, a1, px_l0, px_l1, px_l2, px_l3, px_l4, px_l5, px_l6, px_l9, px_l10, px_l14, px_l15, px_l23, px_l24, px_l25, px_l26, px_l29, px_l30, px_l32, px_l43, px_l45, px_l48, px_l57, px_l59, px_l60, px_l64, px_l100, px_l107, px_l116, px_l149, px_l150, px_l348, px_l464, px_l600, px_sa, nI_leI, nI_ltI, nI_eq, nI_add, pk_sub, pk_mul, pk_div, px_rm, nI_clamp, px_ck, px_eqm, px_meq, px_mm, px_mlt, px_mle, px_lem, px_ltm, px_mlem, Option.bind_some, px_b0, px_b1, px_ckb, px_if, px_if', ↓reduceIte]
  · simp (disch := omega) only [f_X7_markRegion, a2, px_l0, px_l1, px_l2, px_l3, px_l4, px_l5, px_l6, px_l9, px_l10, px_l14, px_l15, px_l23, px_l24, px_l25, px_l26, px_l29, px_l30, px_l32, px_l43, px_l45, px_l48, px_l57, px_l59, px_l60, px_l64, px_l100, px_l107, px_l116, px_l149, px_l150, px_l348, px_l464, px_l600, px_sa, nI_leI, nI_ltI, nI_eq, nI_add, pk_sub, pk_mul, pk_div, px_rm, nI_clamp, px_ck, px_eqm, px_meq, px_mm, px_mlt, px_mle, px_lem, px_ltm, px_mlem, Option.bind_some, px_b0, px_b1, px_ckb, px_if, px_if', ↓reduceIte]
/-- all cells in turn: how many regions, and the greatest -/
theorem rg_all (hL : LY n M lay) (hn : n ≤ 30) (hl : LC lay ow pa) (hm : LM lay on wy) (re qu mk qv : Nat → Int32) :
    ∃ (a g : Nat) (re1 qu1 re2 qu2 mk1 qv1 : Nat → Int32) (x : Int32), f_X5_countRegions ow re qu (nI 1) = some (nI a, re1, qu1) ∧ f_X5_greatestFreeRegion ow re qu = some (nI g, re2, qu2) ∧
      (∃ u, lp (f_X7_regions_b1) FU (nI 0, mk) = some u ∧ lp (f_X7_regions_b2 on) FU (nI 0, nI 0, nI 0, u.2, qv) = some (nI a, nI g, x, mk1, qv1)) := by
  obtain ⟨w, w1, w2⟩ := px_cpyloop (f := f_X5_forgetReached_b1) (fun _ => nI 0) 150 (by omega) (fun i t hi => by simp (disch := omega) only [f_X5_forgetReached_b1, show ¬ 150 ≤ i from by omega, px_z0, px_l0, px_l1, px_l2, px_l3, px_l4, px_l5, px_l6, px_l9, px_l10, px_l14, px_l15, px_l23, px_l24, px_l25, px_l26, px_l29, px_l30, px_l32, px_l43, px_l45, px_l48, px_l57, px_l59, px_l60, px_l64, px_l100, px_l107, px_l116, px_l149, px_l150, px_l348, px_l464, px_l600, px_sa, nI_leI, nI_ltI, nI_eq, nI_add, pk_sub, pk_mul, pk_div, px_rm, nI_clamp, px_ck, px_eqm, px_meq, px_mm, px_mlt, px_mle, px_lem, px_ltm, px_mlem, Option.bind_some, px_b0, px_b1, px_ckb, px_if, px_if', ↓reduceIte]) (fun t => by simp (disch := omega) only [f_X5_forgetReached_b1, Nat.le_refl, px_l0, px_l1, px_l2, px_l3, px_l4, px_l5, px_l6, px_l9, px_l10, px_l14, px_l15, px_l23, px_l24, px_l25, px_l26, px_l29, px_l30, px_l32, px_l43, px_l45, px_l48, px_l57, px_l59, px_l60, px_l64, px_l100, px_l107, px_l116, px_l149, px_l150, px_l348, px_l464, px_l600, px_sa, nI_leI, nI_ltI, nI_eq, nI_add, pk_sub, pk_mul, pk_div, px_rm, nI_clamp, px_ck, px_eqm, px_meq, px_mm, px_mlt, px_mle, px_lem, px_ltm, px_mlem, Option.bind_some, px_b0, px_b1, px_ckb, px_if, px_if', ↓reduceIte]) re
  obtain ⟨u, u1, u2⟩ := px_cpyloop (f := f_X7_regions_b1) (fun _ => nI 0) 150 (by omega) (fun i t hi => by simp (disch := omega) only [f_X7_regions_b1, show ¬ 150 ≤ i from by omega, px_l0, px_l1, px_l2, px_l3, px_l4, px_l5, px_l6, px_l9, px_l10, px_l14, px_l15, px_l23, px_l24, px_l25, px_l26, px_l29, px_l30, px_l32, px_l43, px_l45, px_l48, px_l57, px_l59, px_l60, px_l64, px_l100, px_l107, px_l116, px_l149, px_l150, px_l348, px_l464, px_l600, px_sa, nI_leI, nI_ltI, nI_eq, nI_add, pk_sub, pk_mul, pk_div, px_rm, nI_clamp, px_ck, px_eqm, px_meq, px_mm, px_mlt, px_mle, px_lem, px_ltm, px_mlem, Option.bind_some, px_b0, px_b1, px_ckb, px_if, px_if', ↓reduceIte]) (fun t => by simp (disch := omega) only [f_X7_regions_b1, Nat.le_refl, px_l0, px_l1, px_l2, px_l3, px_l4, px_l5, px_l6, px_l9, px_l10, px_l14, px_l15, px_l23, px_l24, px_l25, px_l26, px_l29, px_l30, px_l32, px_l43, px_l45, px_l48, px_l57, px_l59, px_l60, px_l64, px_l100, px_l107, px_l116, px_l149, px_l150, px_l348, px_l464, px_l600, px_sa, nI_leI, nI_ltI, nI_eq, nI_add, pk_sub, pk_mul, pk_div, px_rm, nI_clamp, px_ck, px_eqm, px_meq, px_mm, px_mlt, px_mle, px_lem, px_ltm, px_mlem, Option.bind_some, px_b0, px_b1, px_ckb, px_if, px_if', ↓reduceIte]) mk
  have hfr : f_X5_forgetReached re = some w := by
    unfold f_X5_forgetReached
    rw [px_l0, w1]; rfl
  have one : ∀ (c : Nat), c < 150 → ∀ (R : Nat → Bool) (re mk qu qv : Nat → Int32), RRb R re → RRb R mk → (∃ (t : Nat) (R' : Nat → Bool) (re' qu' mk' qv' : Nat → Int32), t ≤ 150 ∧ RRb R' re' ∧ RRb R' mk' ∧ (∀ a, f_X5_countRegions_b1 ow (nI 1) (a, nI c, re, qu) = some (.inl (a + nI 1, nI (c + 1), re', qu'))) ∧ (∀ g : Nat, g ≤ 150 → f_X5_greatestFreeRegion_b1 ow (nI g, nI c, re, qu) = some (.inl (nI (if g < t then t else g), nI (c + 1), re', qu'))) ∧ (∀ (a : Int32) (g : Nat), g ≤ 150 → f_X7_regions_b2 on (a, nI g, nI c, mk, qv) = some (.inl (a + nI 1, nI (if g < t then t else g), nI (c + 1), mk', qv')))) ∨
      ((∀ a, f_X5_countRegions_b1 ow (nI 1) (a, nI c, re, qu) = some (.inl (a, nI (c + 1), re, qu))) ∧ (∀ g, f_X5_greatestFreeRegion_b1 ow (g, nI c, re, qu) = some (.inl (g, nI (c + 1), re, qu))) ∧ (∀ a g, f_X7_regions_b2 on (a, g, nI c, mk, qv) = some (.inl (a, g, nI (c + 1), mk, qv)))) := by
    intro c hc R re mk qu qv h1 h3
    have e1 := h1 c hc
    have e2 := h3 c hc
    have hge := on_ge hL hn hm hc
    have hfree := w1_free hL hn hl hc
    cases hf : frB lay c with
    | false =>
      rw [hf] at hge hfree
      have hge' : 0 ≤ on c := hge.mpr rfl
      rw [px_l0] at hge'
      right
      refine ⟨fun a => ?_, fun g => ?_, fun a g => ?_⟩
      · cases hR : R c <;> rw [hR] at e1 <;> simp (disch := omega) only [f_X5_countRegions_b1, e1, hfree, show ¬ 150 ≤ c from by omega, Bool.true_eq_false, Bool.false_eq_true, px_l0, px_l1, px_l2, px_l3, px_l4, px_l5, px_l6, px_l9, px_l10, px_l14, px_l15, px_l23, px_l24, px_l25, px_l26, px_l29, px_l30, px_l32, px_l43, px_l45, px_l48, px_l57, px_l59, px_l60, px_l64, px_l100, px_l107, px_l116, px_l149, px_l150, px_l348, px_l464, px_l600, px_sa, nI_leI, nI_ltI, nI_eq, nI_add, pk_sub, pk_mul, pk_div, px_rm, nI_clamp, px_ck, px_eqm, px_meq, px_mm, px_mlt, px_mle, px_lem, px_ltm, px_mlem, Option.bind_some, px_b0, px_b1, px_ckb, px_if, px_if', ↓reduceIte]
      · cases hR : R c <;> rw [hR] at e1 <;> simp (disch := omega) only [f_X5_greatestFreeRegion_b1, e1, hfree, show ¬ 150 ≤ c from by omega, Bool.true_eq_false, Bool.false_eq_true, px_l0, px_l1, px_l2, px_l3, px_l4, px_l5, px_l6, px_l9, px_l10, px_l14, px_l15, px_l23, px_l24, px_l25, px_l26, px_l29, px_l30, px_l32, px_l43, px_l45, px_l48, px_l57, px_l59, px_l60, px_l64, px_l100, px_l107, px_l116, px_l149, px_l150, px_l348, px_l464, px_l600, px_sa, nI_leI, nI_ltI, nI_eq, nI_add, pk_sub, pk_mul, pk_div, px_rm, nI_clamp, px_ck, px_eqm, px_meq, px_mm, px_mlt, px_mle, px_lem, px_ltm, px_mlem, Option.bind_some, px_b0, px_b1, px_ckb, px_if, px_if', ↓reduceIte]
      · simp (disch := omega) only [f_X7_regions_b2, hge', show ¬ 150 ≤ c from by omega, px_l0, px_l1, px_l2, px_l3, px_l4, px_l5, px_l6, px_l9, px_l10, px_l14, px_l15, px_l23, px_l24, px_l25, px_l26, px_l29, px_l30, px_l32, px_l43, px_l45, px_l48, px_l57, px_l59, px_l60, px_l64, px_l100, px_l107, px_l116, px_l149, px_l150, px_l348, px_l464, px_l600, px_sa, nI_leI, nI_ltI, nI_eq, nI_add, pk_sub, pk_mul, pk_div, px_rm, nI_clamp, px_ck, px_eqm, px_meq, px_mm, px_mlt, px_mle, px_lem, px_ltm, px_mlem, Option.bind_some, px_b0, px_b1, px_ckb, px_if, px_if', ↓reduceIte]
    | true =>
      rw [hf] at hge hfree
      have hge' : ¬ 0 ≤ on c := fun q => by cases hge.mp q
      rw [px_l0] at hge'
      cases hR : R c with
      | true =>
        rw [hR] at e1 e2
        right
        refine ⟨fun a => ?_, fun g => ?_, fun a g => ?_⟩
        · simp (disch := omega) only [f_X5_countRegions_b1, e1, show ¬ 150 ≤ c from by omega, Bool.true_eq_false, px_l0, px_l1, px_l2, px_l3, px_l4, px_l5, px_l6, px_l9, px_l10, px_l14, px_l15, px_l23, px_l24, px_l25, px_l26, px_l29, px_l30, px_l32, px_l43, px_l45, px_l48, px_l57, px_l59, px_l60, px_l64, px_l100, px_l107, px_l116, px_l149, px_l150, px_l348, px_l464, px_l600, px_sa, nI_leI, nI_ltI, nI_eq, nI_add, pk_sub, pk_mul, pk_div, px_rm, nI_clamp, px_ck, px_eqm, px_meq, px_mm, px_mlt, px_mle, px_lem, px_ltm, px_mlem, Option.bind_some, px_b0, px_b1, px_ckb, px_if, px_if', ↓reduceIte]
        · simp (disch := omega) only [f_X5_greatestFreeRegion_b1, e1, show ¬ 150 ≤ c from by omega, Bool.true_eq_false, px_l0, px_l1, px_l2, px_l3, px_l4, px_l5, px_l6, px_l9, px_l10, px_l14, px_l15, px_l23, px_l24, px_l25, px_l26, px_l29, px_l30, px_l32, px_l43, px_l45, px_l48, px_l57, px_l59, px_l60, px_l64, px_l100, px_l107, px_l116, px_l149, px_l150, px_l348, px_l464, px_l600, px_sa, nI_leI, nI_ltI, nI_eq, nI_add, pk_sub, pk_mul, pk_div, px_rm, nI_clamp, px_ck, px_eqm, px_meq, px_mm, px_mlt, px_mle, px_lem, px_ltm, px_mlem, Option.bind_some, px_b0, px_b1, px_ckb, px_if, px_if', ↓reduceIte]
        · simp (disch := omega) only [f_X7_regions_b2, e2, hge', show ¬ 150 ≤ c from by omega, Bool.true_eq_false, px_l0, px_l1, px_l2, px_l3, px_l4, px_l5, px_l6, px_l9, px_l10, px_l14, px_l15, px_l23, px_l24, px_l25, px_l26, px_l29, px_l30, px_l32, px_l43, px_l45, px_l48, px_l57, px_l59, px_l60, px_l64, px_l100, px_l107, px_l116, px_l149, px_l150, px_l348, px_l464, px_l600, px_sa, nI_leI, nI_ltI, nI_eq, nI_add, pk_sub, pk_mul, pk_div, px_rm, nI_clamp, px_ck, px_eqm, px_meq, px_mm, px_mlt, px_mle, px_lem, px_ltm, px_mlem, Option.bind_some, px_b0, px_b1, px_ckb, px_if, px_if', ↓reduceIte]
      | false =>
        obtain ⟨t, R', re', qu', mk', qv', d1, d2, d3, d4, d5⟩ := rg_reach hL hn hl hm h1 h3 hc hR (qu := qu) (qv := qv)
        rw [hR] at e1 e2
        left
        refine ⟨t, R', re', qu', mk', qv', d3, d4, d5, fun a => ?_, fun g hg => ?_, fun a g hg => ?_⟩
        · simp (disch := omega) only [f_X5_countRegions_b1, e1, hfree, d1, show ¬ 150 ≤ c from by omega, px_l0, px_l1, px_l2, px_l3, px_l4, px_l5, px_l6, px_l9, px_l10, px_l14, px_l15, px_l23, px_l24, px_l25, px_l26, px_l29, px_l30, px_l32, px_l43, px_l45, px_l48, px_l57, px_l59, px_l60, px_l64, px_l100, px_l107, px_l116, px_l149, px_l150, px_l348, px_l464, px_l600, px_sa, nI_leI, nI_ltI, nI_eq, nI_add, pk_sub, pk_mul, pk_div, px_rm, nI_clamp, px_ck, px_eqm, px_meq, px_mm, px_mlt, px_mle, px_lem, px_ltm, px_mlem, Option.bind_some, px_b0, px_b1, px_ckb, px_if, px_if', ↓reduceIte]
        · simp (disch := omega) only [f_X5_greatestFreeRegion_b1, e1, hfree, d1, show ¬ 150 ≤ c from by omega, Bool.true_eq_false, px_l0, px_l1, px_l2, px_l3, px_l4, px_l5, px_l6, px_l9, px_l10, px_l14, px_l15, px_l23, px_l24, px_l25, px_l26, px_l29, px_l30, px_l32, px_l43, px_l45, px_l48, px_l57, px_l59, px_l60, px_l64, px_l100, px_l107, px_l116, px_l149, px_l150, px_l348, px_l464, px_l600, px_sa, nI_leI, nI_ltI, nI_eq, nI_add, pk_sub, pk_mul, pk_div, px_rm, nI_clamp, px_ck, px_eqm, px_meq, px_mm, px_mlt, px_mle, px_lem, px_ltm, px_mlem, Option.bind_some, px_b0, px_b1, px_ckb, px_if, px_if', ↓reduceIte]
          by_cases hgt : g < t <;> simp [hgt]
        · simp (disch := omega) only [f_X7_regions_b2, e2, hge', d2, show ¬ 150 ≤ c from by omega, px_l0, px_l1, px_l2, px_l3, px_l4, px_l5, px_l6, px_l9, px_l10, px_l14, px_l15, px_l23, px_l24, px_l25, px_l26, px_l29, px_l30, px_l32, px_l43, px_l45, px_l48, px_l57, px_l59, px_l60, px_l64, px_l100, px_l107, px_l116, px_l149, px_l150, px_l348, px_l464, px_l600, px_sa, nI_leI, nI_ltI, nI_eq, nI_add, pk_sub, pk_mul, pk_div, px_rm, nI_clamp, px_ck, px_eqm, px_meq, px_mm, px_mlt, px_mle, px_lem, px_ltm, px_mlem, Option.bind_some, px_b0, px_b1, px_ckb, px_if, px_if', ↓reduceIte]
          by_cases hgt : g < t
          · simp [hgt, show ¬ t ≤ g by omega]
          · simp [hgt, show t ≤ g by omega]
  have w2' : RRb (fun _ => false) w := w2
  have u2' : RRb (fun _ => false) u := u2
  have count : ∃ (r : Int32 × Int32 × (Nat → Int32) × (Nat → Int32)) (q : Int32 × Int32 × Int32 × (Nat → Int32) × (Nat → Int32)), lp (f_X5_countRegions_b1 ow (nI 1)) FU (nI 0, nI 0, w, qu) = some r ∧ lp (f_X7_regions_b2 on) FU (nI 0, nI 0, nI 0, u, qv) = some q ∧ ∃ a g : Nat, r.1 = nI a ∧ q.1 = nI a ∧ q.2.1 = nI g := by
    refine lp_rel (fun i s t => ∃ (a g : Nat) (R : Nat → Bool), g ≤ 150 ∧ s.1 = nI a ∧ s.2.1 = nI i ∧ t.1 = nI a ∧ t.2.1 = nI g ∧ t.2.2.1 = nI i ∧ RRb R s.2.2.1 ∧ RRb R t.2.2.2.1) 150 _ ?_ ?_ FU 0 (nI 0, nI 0, w, qu) (nI 0, nI 0, nI 0, u, qv) (Nat.zero_le _) (by decide) ⟨0, 0, fun _ => false, by omega, rfl, rfl, rfl, rfl, rfl, w2', u2'⟩
    · rintro i ⟨s1, s2, s3, s4⟩ ⟨t1, t2, t3, t4, t5⟩ hi ⟨a, g, R, b0, b1, b2, b3, b4, b5, b6, b7⟩
      dsimp only at b1 b2 b3 b4 b5 b6 b7
      subst b1; subst b2; subst b3; subst b4; subst b5
      rcases one i hi R s3 t4 s4 t5 b6 b7 with ⟨t, R', re', qu', mk', qv', d1, d2, d3, d4, d5, d6⟩ | ⟨d1, d2, d3⟩
      · refine ⟨_, _, d4 _, d6 _ g b0, a + 1, if g < t then t else g, R', ?_, nI_add _ _, rfl, nI_add _ _, rfl, rfl, d2, d3⟩
        split <;> omega
      · exact ⟨_, _, d1 _, d3 _ _, a, g, R, b0, rfl, rfl, rfl, rfl, rfl, b6, b7⟩
    · rintro ⟨s1, s2, s3, s4⟩ ⟨t1, t2, t3, t4, t5⟩ ⟨a, g, R, b0, b1, b2, b3, b4, b5, b6, b7⟩
      dsimp only at b1 b2 b3 b4 b5 b6 b7
      subst b1; subst b2; subst b3; subst b4; subst b5
      refine ⟨(nI a, nI 150, s3, s4), (nI a, nI g, nI 150, t4, t5), ?_, ?_, a, g, rfl, rfl, rfl⟩
      · simp (disch := omega) only [f_X5_countRegions_b1, Nat.le_refl, px_l0, px_l1, px_l2, px_l3, px_l4, px_l5, px_l6, px_l9, px_l10, px_l14, px_l15, px_l23, px_l24, px_l25, px_l26, px_l29, px_l30, px_l32, px_l43, px_l45, px_l48, px_l57, px_l59, px_l60, px_l64, px_l100, px_l107, px_l116, px_l149, px_l150, px_l348, px_l464, px_l600, px_sa, nI_leI, nI_ltI, nI_eq, nI_add, pk_sub, pk_mul, pk_div, px_rm, nI_clamp, px_ck, px_eqm, px_meq, px_mm, px_mlt, px_mle, px_lem, px_ltm, px_mlem, Option.bind_some, px_b0, px_b1, px_ckb, px_if, px_if', ↓reduceIte]
      · simp (disch := omega) only [f_X7_regions_b2, Nat.le_refl, px_l0, px_l1, px_l2, px_l3, px_l4, px_l5, px_l6, px_l9, px_l10, px_l14, px_l15, px_l23, px_l24, px_l25, px_l26, px_l29, px_l30, px_l32, px_l43, px_l45, px_l48, px_l57, px_l59, px_l60, px_l64, px_l100, px_l107, px_l116, px_l149, px_l150, px_l348, px_l464, px_l600, px_sa, nI_leI, nI_ltI, nI_eq, nI_add, pk_sub, pk_mul, pk_div, px_rm, nI_clamp, px_ck, px_eqm, px_meq, px_mm, px_mlt, px_mle, px_lem, px_ltm, px_mlem, Option.bind_some, px_b0, px_b1, px_ckb, px_if, px_if', ↓reduceIte]
  have great : ∃ (r : Int32 × Int32 × (Nat → Int32) × (Nat → Int32)) (q : Int32 × Int32 × Int32 × (Nat → Int32) × (Nat → Int32)), lp (f_X5_greatestFreeRegion_b1 ow) FU (nI 0, nI 0, w, qu) = some r ∧ lp (f_X7_regions_b2 on) FU (nI 0, nI 0, nI 0, u, qv) = some q ∧ r.1 = q.2.1 := by
    refine lp_rel (fun i s t => ∃ (g : Nat) (R : Nat → Bool), g ≤ 150 ∧ s.1 = nI g ∧ s.2.1 = nI i ∧ t.2.1 = nI g ∧ t.2.2.1 = nI i ∧ RRb R s.2.2.1 ∧ RRb R t.2.2.2.1) 150 _ ?_ ?_ FU 0 (nI 0, nI 0, w, qu) (nI 0, nI 0, nI 0, u, qv) (Nat.zero_le _) (by decide) ⟨0, fun _ => false, by omega, rfl, rfl, rfl, rfl, w2', u2'⟩
    · rintro i ⟨s1, s2, s3, s4⟩ ⟨t1, t2, t3, t4, t5⟩ hi ⟨g, R, b0, b1, b2, b4, b5, b6, b7⟩
      dsimp only at b1 b2 b4 b5 b6 b7
      subst b1; subst b2; subst b4; subst b5
      rcases one i hi R s3 t4 s4 t5 b6 b7 with ⟨t, R', re', qu', mk', qv', d1, d2, d3, d4, d5, d6⟩ | ⟨d1, d2, d3⟩
      · refine ⟨_, _, d5 g b0, d6 _ g b0, if g < t then t else g, R', ?_, rfl, rfl, rfl, rfl, d2, d3⟩
        split <;> omega
      · exact ⟨_, _, d2 _, d3 _ _, g, R, b0, rfl, rfl, rfl, rfl, b6, b7⟩
    · rintro ⟨s1, s2, s3, s4⟩ ⟨t1, t2, t3, t4, t5⟩ ⟨g, R, b0, b1, b2, b4, b5, b6, b7⟩
      dsimp only at b1 b2 b4 b5 b6 b7
      subst b1; subst b2; subst b4; subst b5
      refine ⟨(nI g, nI 150, s3, s4), (t1, nI g, nI 150, t4, t5), ?_, ?_, rfl⟩
      · simp (disch := omega) only [f_X5_greatestFreeRegion_b1, Nat.le_refl, px_l0, px_l1, px_l2, px_l3, px_l4, px_l5, px_l6, px_l9, px_l10, px_l14, px_l15, px_l23, px_l24, px_l25, px_l26, px_l29, px_l30, px_l32, px_l43, px_l45, px_l48, px_l57, px_l59, px_l60, px_l64, px_l100, px_l107, px_l116, px_l149, px_l150, px_l348, px_l464, px_l600, px_sa, nI_leI, nI_ltI, nI_eq, nI_add, pk_sub, pk_mul, pk_div, px_rm, nI_clamp, px_ck, px_eqm, px_meq, px_mm, px_mlt, px_mle, px_lem, px_ltm, px_mlem, Option.bind_some, px_b0, px_b1, px_ckb, px_if, px_if', ↓reduceIte]
      · simp (disch := omega) only [f_X7_regions_b2, Nat.le_refl, px_l0, px_l1, px_l2, px_l3, px_l4, px_l5, px_l6, px_l9, px_l10, px_l14, px_l15, px_l23, px_l24, px_l25, px_l26, px_l29, px_l30, px_l32, px_l43, px_l45, px_l48, px_l57, px_l59, px_l60, px_l64, px_l100, px_l107, px_l116, px_l149, px_l150, px_l348, px_l464, px_l600, px_sa, nI_leI, nI_ltI, nI_eq, nI_add, pk_sub, pk_mul, pk_div, px_rm, nI_clamp, px_ck, px_eqm, px_meq, px_mm, px_mlt, px_mle, px_lem, px_ltm, px_mlem, Option.bind_some, px_b0, px_b1, px_ckb, px_if, px_if', ↓reduceIte]
  obtain ⟨⟨x1, x2, x3, x4⟩, ⟨y1, y2, y3, y4, y5⟩, c1, c2, a, g, c3, c4, c5⟩ := count
  obtain ⟨⟨x5, x6, x7, x8⟩, y', c6, c7, c8⟩ := great
  rw [c2] at c7
  cases c7
  dsimp only at c3 c4 c5 c8
  subst c3; subst c4; subst c5; subst c8
  refine ⟨a, g, x3, x4, x7, x8, y4, y5, y3, ?_, ?_, (nI 150, u), u1, c2⟩
  · unfold f_X5_countRegions
    rw [hfr, Option.bind_some, px_l0, c1]; rfl
  · unfold f_X5_greatestFreeRegion
    rw [hfr, Option.bind_some, px_l0, c6]; rfl
end P40
