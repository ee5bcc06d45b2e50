/-! REGIONS OF CELLS THAT ARE NOT FREE: what the class reaches -/
def clsd (lay : Nat → Option (Nat × Nat)) (R : Nat → Bool) : Prop := ∀ x s, x < 150 → s < 4 → R x = true → frB lay (bes x s) = false → R (bes x s) = true
def GI (lay : Nat → Option (Nat × Nat)) (P : Nat → Prop) (R0 : Nat → Bool) (h t : Nat) (R : Nat → Bool) (q : Nat → Nat) (re qu : Nat → Int32) : Prop :=
  h ≤ t ∧ QQ t R q ∧ RRb R re ∧ QUq q t qu ∧ (∀ x, x < 150 → R0 x = true → R x = true) ∧ (∀ j, j < t → R (q j) = true ∧ P (q j)) ∧ (∀ x, x < 150 → R x = true → R0 x = true ∨ ∃ j, j < t ∧ q j = x) ∧ ∀ j, j < h → ∀ s, s < 4 → frB lay (bes (q j) s) = false → R (bes (q j) s) = true
section P41
variable {n r : Nat} {K T M C : Nat → Nat} {lay : Nat → Option (Nat × Nat)} {NWKa NWTa NWMa NWCa ow pa z on wy : Nat → Int32}
theorem GI.put {P : Nat → Prop} {R0 R : Nat → Bool} {h t y : Nat} {q : Nat → Nat} {re qu : Nat → Int32} (g : GI lay P R0 h t R q re qu) (hy : y < 150) (hR : R y = false) (hP : P y) :
    GI lay P R0 h (t + 1) (fun j => R j || decide (y = j)) (fun j => if j = t then y else q j) (upd re y (nI 1)) (upd qu t (nI y)) := by
  obtain ⟨g1, g2, g3, g4, g5, g6, g7, g8⟩ := g
  refine ⟨by omega, (g2.put hy hR).1, g3.put, g4.put, fun x hx h0 => ?_, fun j hj => ?_, fun x hx h0 => ?_, fun j hj s hs hf => ?_⟩
  · dsimp only; rw [g5 x hx h0]; rfl
  · dsimp only
    by_cases hjt : j = t
    · rw [if_pos hjt, decide_eq_true rfl, Bool.or_true]; exact ⟨rfl, hP⟩
    · rw [if_neg hjt, (g6 j (by omega)).1]; exact ⟨rfl, (g6 j (by omega)).2⟩
  · dsimp only at h0 ⊢
    by_cases hxy : y = x
    · exact Or.inr ⟨t, by omega, by rw [if_pos rfl]; exact hxy⟩
    · rw [decide_eq_false hxy, Bool.or_false] at h0
      rcases g7 x hx h0 with h1 | ⟨j, h1, h2⟩
      · exact Or.inl h1
      · exact Or.inr ⟨j, by omega, by rw [if_neg (by omega)]; exact h2⟩
  · dsimp only at hf ⊢
    rw [if_neg (by omega)] at hf ⊢
    rw [g8 j hj s hs hf]; rfl
theorem gr_step (hL : LY n M lay) (hn : n ≤ 30) (hl : LC lay ow pa) {P : Nat → Prop} (hPc : ∀ x s, x < 150 → s < 4 → P x → frB lay (bes x s) = false → P (bes x s)) {R0 R : Nat → Bool} {h t s : Nat} {q : Nat → Nat} {re qu : Nat → Int32} (hh : h < t) (hs : s < 4) (g : GI lay P R0 h t R q re qu) {a : Int32} {b c : Nat → Int32} :
    ∃ (t' : Nat) (R' : Nat → Bool) (q' : Nat → Nat) (re' qu' : Nat → Int32), f_X5_reachRegion_b1 ow (nI 0) (a, nI h, b, c) (nI t, nI s, re, qu) = some (.inl (nI t', nI (s + 1), re', qu')) ∧ t ≤ t' ∧ GI lay P R0 h t' R' q' re' qu' ∧ q' h = q h ∧ (∀ x, x < 150 → R x = true → R' x = true) ∧ (frB lay (bes (q h) s) = false → R' (bes (q h) s) = true) := by
  obtain ⟨g1, g2, g3, g4, g5, g6, g7, g8⟩ := id g
  have ht : t ≤ 150 := by have := g2.2; have := smf_150 (R := R); omega
  have hqh := g2.1 h hh
  have hy := bes_lt _ hqh s hs
  have e1 : re (bes (q h) s) = _ := g3 _ hy
  have e3 : qu h = _ := g4 h hh
  have hfree := w1_free hL hn hl hy
  cases hR : R (bes (q h) s) with
  | true =>
    rw [hR] at e1
    refine ⟨t, R, q, re, qu, ?_, Nat.le_refl t, g, rfl, fun _ _ h => h, fun _ => hR⟩
    simp (disch := omega) only [f_X5_reachRegion_b1, e1, e3, g0_bes _ hqh s hs, show ¬ 4 ≤ s from by omega, Bool.true_eq_false, px_l0, px_l1, px_l2, px_l3, px_l4, px_l5, px_l6, px_l9, px_l10, px_l14, px_l15, px_l23, px_l24, px_l25, px_l26, px_l29, px_l30, px_l32, px_l43, px_l45, px_l48, px_l57, px_l59, px_l60, px_l64, px_l100, px_l107, px_l116, px_l149, px_l150, px_l348, px_l464, px_l600, px_sa, nI_leI, nI_ltI, nI_eq, nI_add, pk_sub, pk_mul, pk_div, px_rm, nI_clamp, px_ck, px_eqm, px_meq, px_mm, px_mlt, px_mle, px_lem, px_ltm, px_mlem, Option.bind_some, px_b0, px_b1, px_ckb, px_if, px_if', ↓reduceIte]
  | false =>
    rw [hR] at e1
    cases hf : frB lay (bes (q h) s) with
    | true =>
      refine ⟨t, R, q, re, qu, ?_, Nat.le_refl t, g, rfl, fun _ _ h => h, fun h => by cases h⟩
      simp (disch := omega) only [f_X5_reachRegion_b1, e1, e3, g0_bes _ hqh s hs, hfree, hf, show ¬ 4 ≤ s from by omega, Bool.true_eq_false, px_l0, px_l1, px_l2, px_l3, px_l4, px_l5, px_l6, px_l9, px_l10, px_l14, px_l15, px_l23, px_l24, px_l25, px_l26, px_l29, px_l30, px_l32, px_l43, px_l45, px_l48, px_l57, px_l59, px_l60, px_l64, px_l100, px_l107, px_l116, px_l149, px_l150, px_l348, px_l464, px_l600, px_sa, nI_leI, nI_ltI, nI_eq, nI_add, pk_sub, pk_mul, pk_div, px_rm, nI_clamp, px_ck, px_eqm, px_meq, px_mm, px_mlt, px_mle, px_lem, px_ltm, px_mlem, Option.bind_some, px_b0, px_b1, px_ckb, px_if, px_if', ↓reduceIte]
    | false =>
      have ht' := (g2.put hy hR).2
      refine ⟨t + 1, _, _, upd re (bes (q h) s) (nI 1), upd qu t (nI (bes (q h) s)), ?_, by omega, g.put hy hR (hPc _ s hqh hs (g6 h hh).2 hf), if_neg (by omega), fun x hx h0 => by show (R x || _) = true; rw [h0]; rfl, fun _ => by show (R (bes (q h) s) || decide (bes (q h) s = bes (q h) s)) = true; rw [decide_eq_true rfl, Bool.or_true]⟩
      simp (disch := omega) only [f_X5_reachRegion_b1, e1, e3, g0_bes _ hqh s hs, hfree, hf, px_z1, show ¬ 4 ≤ s from by omega, show ¬ 150 ≤ t from by omega, px_l0, px_l1, px_l2, px_l3, px_l4, px_l5, px_l6, px_l9, px_l10, px_l14, px_l15, px_l23, px_l24, px_l25, px_l26, px_l29, px_l30, px_l32, px_l43, px_l45, px_l48, px_l57, px_l59, px_l60, px_l64, px_l100, px_l107, px_l116, px_l149, px_l150, px_l348, px_l464, px_l600, px_sa, nI_leI, nI_ltI, nI_eq, nI_add, pk_sub, pk_mul, pk_div, px_rm, nI_clamp, px_ck, px_eqm, px_meq, px_mm, px_mlt, px_mle, px_lem, px_ltm, px_mlem, Option.bind_some, px_b0, px_b1, px_ckb, px_if, px_if', ↓reduceIte]
theorem gr_reach (hL : LY n M lay) (hn : n ≤ 30) (hl : LC lay ow pa) {P : Nat → Prop} (hPc : ∀ x s, x < 150 → s < 4 → P x → frB lay (bes x s) = false → P (bes x s)) {R0 : Nat → Bool} {re qu : Nat → Int32} (h1 : RRb R0 re) {c : Nat} (hc : c < 150) (hR : R0 c = false) (hP : P c) :
    ∃ (t : Int32) (R' : Nat → Bool) (re' qu' : Nat → Int32), f_X5_reachRegion ow re qu (nI c) (nI 0) = some (t, re', qu') ∧ RRb R' re' ∧ (∀ x, x < 150 → R0 x = true → R' x = true) ∧ R' c = true ∧ (∀ x, x < 150 → R' x = true → R0 x = true ∨ P x) ∧ (clsd lay R0 → clsd lay R') := by
  have g0 : GI lay P R0 0 0 R0 (fun _ => 0) re qu := ⟨Nat.le_refl 0, ⟨fun j hj => absurd hj (Nat.not_lt_zero j), Nat.zero_le _⟩, h1, fun j hj => absurd hj (Nat.not_lt_zero j), fun _ _ h => h, fun j hj => absurd hj (Nat.not_lt_zero j), fun _ _ h => Or.inl h, fun j hj => absurd hj (Nat.not_lt_zero j)⟩
  have g1 := g0.put hc hR hP
  obtain ⟨r1, a1, t, R', q', a2, a3⟩ := lp_inv (f := f_X5_reachRegion_b2 ow (nI 0)) (fun h s => ∃ (t : Nat) (R' : Nat → Bool) (q' : Nat → Nat), s.1 = nI t ∧ s.2.1 = nI h ∧ GI lay P R0 h t R' q' s.2.2.1 s.2.2.2 ∧ R' c = true) 150 (fun s => ∃ (t : Nat) (R' : Nat → Bool) (q' : Nat → Nat), GI lay P R0 t t R' q' s.2.2.1 s.2.2.2 ∧ R' c = true) (by
    rintro h ⟨s1, s2, s3, s4⟩ hh ⟨t, R', q', b1, b2, b3, b4⟩
    dsimp only at b1 b2 b3
    subst b1; subst b2
    have ht : t ≤ 150 := by have := b3.2.1.2; have := smf_150 (R := R'); omega
    rcases Nat.lt_or_ge h t with hlt | hge
    · left
      obtain ⟨v, c1, t', R'', q'', c2, c3, c4, c5, c6, c7⟩ := lp_inv (f := f_X5_reachRegion_b1 ow (nI 0) (nI t, nI h, s3, s4)) (fun s v => ∃ (t' : Nat) (R'' : Nat → Bool) (q'' : Nat → Nat), v.1 = nI t' ∧ v.2.1 = nI s ∧ t ≤ t' ∧ GI lay P R0 h t' R'' q'' v.2.2.1 v.2.2.2 ∧ R'' c = true ∧ ∀ e, e < s → frB lay (bes (q'' h) e) = false → R'' (bes (q'' h) e) = true) 4 (fun v => ∃ (t' : Nat) (R'' : Nat → Bool) (q'' : Nat → Nat), v.1 = nI t' ∧ v.2.1 = nI 4 ∧ t ≤ t' ∧ GI lay P R0 h t' R'' q'' v.2.2.1 v.2.2.2 ∧ R'' c = true ∧ ∀ e, e < 4 → frB lay (bes (q'' h) e) = false → R'' (bes (q'' h) e) = true) (by
        rintro s ⟨v1, v2, v3, v4⟩ hs ⟨t', R'', q'', c1, c2, c3, c4, c5, c6⟩
        dsimp only at c1 c2 c4
        subst c1; subst c2
        obtain ⟨t2, R2, q2, re', qu', d1, d2, d3, d4, d5, d6⟩ := gr_step hL hn hl hPc (show h < t' by omega) hs c4 (a := nI t) (b := s3) (c := s4)
        refine Or.inl ⟨_, d1, t2, R2, q2, rfl, rfl, by omega, d3, d5 c hc c5, fun e he hf => ?_⟩
        rw [d4] at hf ⊢
        rcases Nat.lt_or_ge e s with he1 | he1
        · exact d5 _ (bes_lt _ (c4.2.1.1 h (by omega)) e (by omega)) (c6 e he1 hf)
        · rw [show e = s by omega] at hf ⊢
          exact d6 hf) (by
        rintro ⟨v1, v2, v3, v4⟩ ⟨t', R'', q'', c1, c2, c3, c4, c5, c6⟩
        dsimp only at c1 c2 c4
        subst c1; subst c2
        refine ⟨(nI t', nI 4, v3, v4), ?_, t', R'', q'', rfl, rfl, c3, c4, c5, c6⟩
        simp (disch := omega) only [f_X5_reachRegion_b1, Nat.le_refl, px_l0, px_l1, px_l2, px_l3, px_l4, px_l5, px_l6, px_l9, px_l10, px_l14, px_l15, px_l23, px_l24, px_l25, px_l26, px_l29, px_l30, px_l32, px_l43, px_l45, px_l48, px_l57, px_l59, px_l60, px_l64, px_l100, px_l107, px_l116, px_l149, px_l150, px_l348, px_l464, px_l600, px_sa, nI_leI, nI_ltI, nI_eq, nI_add, pk_sub, pk_mul, pk_div, px_rm, nI_clamp, px_ck, px_eqm, px_meq, px_mm, px_mlt, px_mle, px_lem, px_ltm, px_mlem, Option.bind_some, px_b0, px_b1, px_ckb, px_if, px_if', ↓reduceIte]) FU 0 (nI t, nI 0, s3, s4) (Nat.zero_le _) (by decide) ⟨t, R', q', rfl, rfl, Nat.le_refl t, b3, b4, fun e he => absurd he (Nat.not_lt_zero e)⟩
      obtain ⟨v1, v2, v3, v4⟩ := v
      dsimp only at c2 c3 c5
      subst c2; subst c3
      refine ⟨(nI t', nI (h + 1), v3, v4), ?_, t', R'', q'', rfl, rfl, ?_, c6⟩
      · simp (disch := omega) only [f_X5_reachRegion_b2, show ¬ t ≤ h from by omega, show ¬ 150 ≤ h from by omega, c1, px_l0, px_l1, px_l2, px_l3, px_l4, px_l5, px_l6, px_l9, px_l10, px_l14, px_l15, px_l23, px_l24, px_l25, px_l26, px_l29, px_l30, px_l32, px_l43, px_l45, px_l48, px_l57, px_l59, px_l60, px_l64, px_l100, px_l107, px_l116, px_l149, px_l150, px_l348, px_l464, px_l600, px_sa, nI_leI, nI_ltI, nI_eq, nI_add, pk_sub, pk_mul, pk_div, px_rm, nI_clamp, px_ck, px_eqm, px_meq, px_mm, px_mlt, px_mle, px_lem, px_ltm, px_mlem, Option.bind_some, px_b0, px_b1, px_ckb, px_if, px_if', ↓reduceIte]
      · obtain ⟨e1, e2, e3, e4, e5, e6, e7, e8⟩ := c5
        refine ⟨by omega, e2, e3, e4, e5, e6, e7, fun j hj s hs hf => ?_⟩
        rcases Nat.lt_or_ge j h with hj1 | hj1
        · exact e8 j hj1 s hs hf
        · rw [show j = h by omega] at hf ⊢
          exact c7 s hs hf
    · right
      have hht : h = t := by have := b3.1; omega
      subst hht
      refine ⟨(nI h, nI h, s3, s4), ?_, h, R', q', b3, b4⟩
      simp (disch := omega) only [f_X5_reachRegion_b2, hge, px_l0, px_l1, px_l2, px_l3, px_l4, px_l5, px_l6, px_l9, px_l10, px_l14, px_l15, px_l23, px_l24, px_l25, px_l26, px_l29, px_l30, px_l32, px_l43, px_l45, px_l48, px_l57, px_l59, px_l60, px_l64, px_l100, px_l107, px_l116, px_l149, px_l150, px_l348, px_l464, px_l600, px_sa, nI_leI, nI_ltI, nI_eq, nI_add, pk_sub, pk_mul, pk_div, px_rm, nI_clamp, px_ck, px_eqm, px_meq, px_mm, px_mlt, px_mle, px_lem, px_ltm, px_mlem, Option.bind_some, px_b0, px_b1, px_ckb, px_if, px_if', ↓reduceIte]) (by
    rintro ⟨s1, s2, s3, s4⟩ ⟨t, R', q', b1, b2, b3, b4⟩
    dsimp only at b1 b2 b3
    subst b1; subst b2
    have ht : t = 150 := by have := b3.1; have := b3.2.1.2; have := smf_150 (R := R'); omega
    subst ht
    refine ⟨(nI 150, nI 150, s3, s4), ?_, 150, R', q', b3, b4⟩
    simp (disch := omega) only [f_X5_reachRegion_b2, Nat.le_refl, px_l0, px_l1, px_l2, px_l3, px_l4, px_l5, px_l6, px_l9, px_l10, px_l14, px_l15, px_l23, px_l24, px_l25, px_l26, px_l29, px_l30, px_l32, px_l43, px_l45, px_l48, px_l57, px_l59, px_l60, px_l64, px_l100, px_l107, px_l116, px_l149, px_l150, px_l348, px_l464, px_l600, px_sa, nI_leI, nI_ltI, nI_eq, nI_add, pk_sub, pk_mul, pk_div, px_rm, nI_clamp, px_ck, px_eqm, px_meq, px_mm, px_mlt, px_mle, px_lem, px_ltm, px_mlem, Option.bind_some, px_b0, px_b1, px_ckb, px_if, px_if', ↓reduceIte]) FU 0 (nI 1, nI 0, upd re c (nI 1), upd qu 0 (nI c)) (Nat.zero_le _) (by decide) ⟨1, _, _, rfl, rfl, g1, by show (R0 c || decide (c = c)) = true; rw [decide_eq_true rfl, Bool.or_true]⟩
  obtain ⟨x1, x2, x3, x4⟩ := r1
  obtain ⟨e1, e2, e3, e4, e5, e6, e7, e8⟩ := a2
  refine ⟨x1, R', x3, x4, ?_, e3, e5, a3, fun x hx h0 => ?_, fun hcl x s hx hs h0 hf => ?_⟩
  · simp (disch := omega) only [f_X5_reachRegion, px_z1, a1, px_l0, px_l1, px_l2, px_l3, px_l4, px_l5, px_l6, px_l9, px_l10, px_l14, px_l15, px_l23, px_l24, px_l25, px_l26, px_l29, px_l30, px_l32, px_l43, px_l45, px_l48, px_l57, px_l59, px_l60, px_l64, px_l100, px_l107, px_l116, px_l149, px_l150, px_l348, px_l464, px_l600, px_sa, nI_leI, nI_ltI, nI_eq, nI_add, pk_sub, pk_mul, pk_div, px_rm, nI_clamp, px_ck, px_eqm, px_meq, px_mm, px_mlt, px_mle, px_lem, px_ltm, px_mlem, Option.bind_some, px_b0, px_b1, px_ckb, px_if, px_if', ↓reduceIte]
  · rcases e7 x hx h0 with h2 | ⟨j, h2, h3⟩
    · exact Or.inl h2
    · exact Or.inr (h3 ▸ (e6 j h2).2)
  · rcases e7 x hx h0 with h2 | ⟨j, h2, h3⟩
    · exact e5 _ (bes_lt x hx s hs) (hcl x s hx hs h2 hf)
    · subst h3
      exact e8 j h2 s hs hf
/-- counted: as many as there are kinds of cells, where k tells those apart that no way joins -/
theorem gr_count (hL : LY n M lay) (hn : n ≤ 30) (hl : LC lay ow pa) {k : Nat → Nat} (hA : ∀ x s, x < 150 → s < 4 → frB lay x = false → frB lay (bes x s) = false → k (bes x s) = k x)
    (hB : ∀ X, clsd lay X → ∀ x y, x < 150 → y < 150 → frB lay x = false → frB lay y = false → k x = k y → X x = true → X y = true) (re qu : Nat → Int32) :
    ∃ (S : Nat → Bool) (re' qu' : Nat → Int32), f_X5_countRegions ow re qu (nI 0) = some (nI (smf (fun c => bN (S c)) 150), re', qu') ∧ (∀ c, S c = true → c < 150 ∧ frB lay c = false) ∧ (∀ x, x < 150 → frB lay x = false → ∃ c, S c = true ∧ k c = k x) ∧ ∀ c c', S c = true → S c' = true → k c = k c' → c = c' := by
  obtain ⟨w, w1, w2⟩ := px_cpyloop (f := f_X5_forgetReached_b1) (fun _ => nI 0) 150 (by omega) (fun i t hi => by simp (disch := omega) only [f_X5_forgetReached_b1, show ¬ 150 ≤ i from by omega, px_z0, px_l0, px_l1, px_l2, px_l3, px_l4, px_l5, px_l6, px_l9, px_l10, px_l14, px_l15, px_l23, px_l24, px_l25, px_l26, px_l29, px_l30, px_l32, px_l43, px_l45, px_l48, px_l57, px_l59, px_l60, px_l64, px_l100, px_l107, px_l116, px_l149, px_l150, px_l348, px_l464, px_l600, px_sa, nI_leI, nI_ltI, nI_eq, nI_add, pk_sub, pk_mul, pk_div, px_rm, nI_clamp, px_ck, px_eqm, px_meq, px_mm, px_mlt, px_mle, px_lem, px_ltm, px_mlem, Option.bind_some, px_b0, px_b1, px_ckb, px_if, px_if', ↓reduceIte]) (fun t => by simp (disch := omega) only [f_X5_forgetReached_b1, Nat.le_refl, px_l0, px_l1, px_l2, px_l3, px_l4, px_l5, px_l6, px_l9, px_l10, px_l14, px_l15, px_l23, px_l24, px_l25, px_l26, px_l29, px_l30, px_l32, px_l43, px_l45, px_l48, px_l57, px_l59, px_l60, px_l64, px_l100, px_l107, px_l116, px_l149, px_l150, px_l348, px_l464, px_l600, px_sa, nI_leI, nI_ltI, nI_eq, nI_add, pk_sub, pk_mul, pk_div, px_rm, nI_clamp, px_ck, px_eqm, px_meq, px_mm, px_mlt, px_mle, px_lem, px_ltm, px_mlem, Option.bind_some, px_b0, px_b1, px_ckb, px_if, px_if', ↓reduceIte]) re
  have hfr : f_X5_forgetReached re = some w := by
    unfold f_X5_forgetReached
    rw [px_l0, w1]; rfl
  have w2' : RRb (fun _ => false) w := w2
  obtain ⟨⟨r1, r2, r3, r4⟩, a1, S, a2, a3, a4, a5⟩ := lp_inv (f := f_X5_countRegions_b1 ow (nI 0)) (fun i s => ∃ (S R : Nat → Bool), s.1 = nI (smf (fun c => bN (S c)) 150) ∧ s.2.1 = nI i ∧ RRb R s.2.2.1 ∧ clsd lay R ∧ (∀ c, S c = true → c < i ∧ c < 150 ∧ frB lay c = false) ∧ (∀ x, x < 150 → (R x = true ↔ frB lay x = false ∧ ∃ c, S c = true ∧ k c = k x)) ∧ (∀ x, x < i → x < 150 → frB lay x = false → R x = true) ∧ ∀ c c', S c = true → S c' = true → k c = k c' → c = c') 150
    (fun s => ∃ (S : Nat → Bool), s.1 = nI (smf (fun c => bN (S c)) 150) ∧ (∀ c, S c = true → c < 150 ∧ frB lay c = false) ∧ (∀ x, x < 150 → frB lay x = false → ∃ c, S c = true ∧ k c = k x) ∧ ∀ c c', S c = true → S c' = true → k c = k c' → c = c') (by
    rintro i ⟨s1, s2, s3, s4⟩ hi ⟨S, R, b1, b2, b3, b4, b5, b6, b7, b8⟩
    dsimp only at b1 b2 b3
    subst b1; subst b2
    left
    have e1 : s3 i = _ := b3 i hi
    have hfree := w1_free hL hn hl hi
    have keep : (frB lay i = false → R i = true) → ∃ (S' R' : Nat → Bool), smf (fun c => bN (S c)) 150 = smf (fun c => bN (S' c)) 150 ∧ RRb R' s3 ∧ clsd lay R' ∧ (∀ c, S' c = true → c < i + 1 ∧ c < 150 ∧ frB lay c = false) ∧ (∀ x, x < 150 → (R' x = true ↔ frB lay x = false ∧ ∃ c, S' c = true ∧ k c = k x)) ∧ (∀ x, x < i + 1 → x < 150 → frB lay x = false → R' x = true) ∧ ∀ c c', S' c = true → S' c' = true → k c = k c' → c = c' := fun hk =>
      ⟨S, R, rfl, b3, b4, fun c hc => ⟨by have := (b5 c hc).1; omega, (b5 c hc).2⟩, b6, fun x hx hx1 hf => by
        rcases Nat.lt_or_ge x i with h1 | h1
        · exact b7 x h1 hx1 hf
        · rw [show x = i by omega] at hf ⊢; exact hk hf, b8⟩
    cases hf : frB lay i with
    | true =>
      obtain ⟨S', R', c1, c2, c3, c4, c5, c6, c7⟩ := keep (fun h => by rw [hf] at h; cases h)
      refine ⟨(nI (smf (fun c => bN (S c)) 150), nI (i + 1), s3, s4), ?_, S', R', by rw [c1], rfl, c2, c3, c4, c5, c6, c7⟩
      cases hR : R i <;> rw [hR] at e1 <;> simp (disch := omega) only [f_X5_countRegions_b1, e1, hfree, hf, show ¬ 150 ≤ i from by omega, Bool.true_eq_false, px_l0, px_l1, px_l2, px_l3, px_l4, px_l5, px_l6, px_l9, px_l10, px_l14, px_l15, px_l23, px_l24, px_l25, px_l26, px_l29, px_l30, px_l32, px_l43, px_l45, px_l48, px_l57, px_l59, px_l60, px_l64, px_l100, px_l107, px_l116, px_l149, px_l150, px_l348, px_l464, px_l600, px_sa, nI_leI, nI_ltI, nI_eq, nI_add, pk_sub, pk_mul, pk_div, px_rm, nI_clamp, px_ck, px_eqm, px_meq, px_mm, px_mlt, px_mle, px_lem, px_ltm, px_mlem, Option.bind_some, px_b0, px_b1, px_ckb, px_if, px_if', ↓reduceIte]
    | false =>
      cases hR : R i with
      | true =>
        rw [hR] at e1
        obtain ⟨S', R', c1, c2, c3, c4, c5, c6, c7⟩ := keep (fun _ => hR)
        refine ⟨(nI (smf (fun c => bN (S c)) 150), nI (i + 1), s3, s4), ?_, S', R', by rw [c1], rfl, c2, c3, c4, c5, c6, c7⟩
        simp (disch := omega) only [f_X5_countRegions_b1, e1, show ¬ 150 ≤ i from by omega, Bool.true_eq_false, px_l0, px_l1, px_l2, px_l3, px_l4, px_l5, px_l6, px_l9, px_l10, px_l14, px_l15, px_l23, px_l24, px_l25, px_l26, px_l29, px_l30, px_l32, px_l43, px_l45, px_l48, px_l57, px_l59, px_l60, px_l64, px_l100, px_l107, px_l116, px_l149, px_l150, px_l348, px_l464, px_l600, px_sa, nI_leI, nI_ltI, nI_eq, nI_add, pk_sub, pk_mul, pk_div, px_rm, nI_clamp, px_ck, px_eqm, px_meq, px_mm, px_mlt, px_mle, px_lem, px_ltm, px_mlem, Option.bind_some, px_b0, px_b1, px_ckb, px_if, px_if', ↓reduceIte]
      | false =>
        obtain ⟨t, R', re', qu', d1, d2, d3, d4, d5, d6⟩ := gr_reach hL hn hl (P := fun x => frB lay x = false ∧ ∀ (_ : x < 150), k x = k i) (fun x s hx hs hp hq => ⟨hq, fun _ => (hA x s hx hs hp.1 hq).trans (hp.2 hx)⟩) b3 hi hR ⟨hf, fun _ => rfl⟩ (qu := s4)
        rw [hR] at e1
        have hSi : S i = false := by
          cases h : S i with
          | false => rfl
          | true => exact absurd (b5 i h).1 (Nat.lt_irrefl i)
        have hcl := d6 b4
        have hno : ∀ c, S c = true → ¬ k c = k i := fun c hc hk => by
          have := (b6 i hi).mpr ⟨hf, c, hc, hk⟩
          rw [hR] at this; cases this
        have hS' : ∀ c, (S c || decide (i = c)) = true → S c = true ∨ c = i := fun c h => by
          rw [Bool.or_eq_true] at h
          exact h.imp id (fun h => (of_decide_eq_true h).symm)
        refine ⟨(nI (smf (fun c => bN (S c)) 150) + nI 1, nI (i + 1), re', qu'), ?_, fun j => S j || decide (i = j), R', ?_, rfl, d2, hcl, fun c hc => ?_, fun x hx => ⟨fun h0 => ?_, fun h0 => ?_⟩, fun x hx hx1 hfx => ?_, fun c c' hc hc' hk => ?_⟩
        · simp (disch := omega) only [f_X5_countRegions_b1, e1, hfree, hf, d1, show ¬ 150 ≤ i from by omega, px_l0, px_l1, px_l2, px_l3, px_l4, px_l5, px_l6, px_l9, px_l10, px_l14, px_l15, px_l23, px_l24, px_l25, px_l26, px_l29, px_l30, px_l32, px_l43, px_l45, px_l48, px_l57, px_l59, px_l60, px_l64, px_l100, px_l107, px_l116, px_l149, px_l150, px_l348, px_l464, px_l600, px_sa, nI_leI, nI_ltI, nI_eq, nI_add, pk_sub, pk_mul, pk_div, px_rm, nI_clamp, px_ck, px_eqm, px_meq, px_mm, px_mlt, px_mle, px_lem, px_ltm, px_mlem, Option.bind_some, px_b0, px_b1, px_ckb, px_if, px_if', ↓reduceIte]
        · dsimp only
          rw [smf_put hi hSi, nI_add]
        · rcases hS' c hc with h | h
          · have := b5 c h; exact ⟨by omega, this.2⟩
          · subst h; exact ⟨by omega, hi, hf⟩
        · rcases d5 x hx h0 with h | h
          · obtain ⟨h1, c, h2, h3⟩ := (b6 x hx).mp h
            exact ⟨h1, c, by show (S c || _) = true; rw [h2]; rfl, h3⟩
          · exact ⟨h.1, i, by show (S i || decide (i = i)) = true; rw [decide_eq_true rfl, Bool.or_true], (h.2 hx).symm⟩
        · obtain ⟨h1, c, h2, h3⟩ := h0
          rcases hS' c h2 with h | h
          · exact d3 x hx ((b6 x hx).mpr ⟨h1, c, h, h3⟩)
          · subst h
            exact hB R' hcl _ x hi hx hf h1 h3 d4
        · rcases Nat.lt_or_ge x i with h1 | h1
          · exact d3 x hx1 (b7 x h1 hx1 hfx)
          · rw [show x = i by omega]; exact d4
        · rcases hS' c hc with h | h <;> rcases hS' c' hc' with h' | h'
          · exact b8 c c' h h' hk
          · subst h'; exact absurd hk (hno c h)
          · subst h; exact absurd hk.symm (hno c' h')
          · rw [h, h']) (by
    rintro ⟨s1, s2, s3, s4⟩ ⟨S, R, b1, b2, b3, b4, b5, b6, b7, b8⟩
    dsimp only at b1 b2 b3
    subst b1; subst b2
    refine ⟨(nI (smf (fun c => bN (S c)) 150), nI 150, s3, s4), ?_, S, rfl, fun c hc => (b5 c hc).2, fun x hx hf => ((b6 x hx).mp (b7 x hx hx hf)).2, b8⟩
    simp (disch := omega) only [f_X5_countRegions_b1, Nat.le_refl, px_l0, px_l1, px_l2, px_l3, px_l4, px_l5, px_l6, px_l9, px_l10, px_l14, px_l15, px_l23, px_l24, px_l25, px_l26, px_l29, px_l30, px_l32, px_l43, px_l45, px_l48, px_l57, px_l59, px_l60, px_l64, px_l100, px_l107, px_l116, px_l149, px_l150, px_l348, px_l464, px_l600, px_sa, nI_leI, nI_ltI, nI_eq, nI_add, pk_sub, pk_mul, pk_div, px_rm, nI_clamp, px_ck, px_eqm, px_meq, px_mm, px_mlt, px_mle, px_lem, px_ltm, px_mlem, Option.bind_some, px_b0, px_b1, px_ckb, px_if, px_if', ↓reduceIte]) FU 0 (nI 0, nI 0, w, qu) (Nat.zero_le _) (by decide) ⟨fun _ => false, fun _ => false, congrArg nI (smf_zero (fun _ _ => rfl)).symm, rfl, w2', (fun _ _ _ _ h => by cases h), (fun _ h => by cases h), (fun x _ => ⟨(fun h => by cases h), (fun ⟨_, c, h, _⟩ => by cases h)⟩), (fun x h => absurd h (Nat.not_lt_zero x)), (fun _ _ h => by cases h)⟩
  dsimp only at a2
  subst a2
  refine ⟨S, r3, r4, ?_, a3, a4, a5⟩
  unfold f_X5_countRegions
  rw [hfr, Option.bind_some, px_l0, a1]; rfl
end P41
