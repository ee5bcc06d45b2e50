/-- two loops side by side -/
theorem lp_rel {σ ρ σ' ρ' : Type} {f : σ → Option (σ ⊕ ρ)} {g : σ' → Option (σ' ⊕ ρ')} (I : Nat → σ → σ' → Prop) (e : Nat) (Q : ρ → ρ' → Prop)
    (hs : ∀ i s t, i < e → I i s t → ∃ s' t', f s = some (.inl s') ∧ g t = some (.inl t') ∧ I (i + 1) s' t') (hx : ∀ s t, I e s t → ∃ r q, f s = some (.inr r) ∧ g t = some (.inr q) ∧ Q r q) :
    ∀ (N i : Nat) (s : σ) (t : σ'), i ≤ e → e - i < N → I i s t → ∃ r q, lp f N s = some r ∧ lp g N t = some q ∧ Q r q := by
  intro N
  induction N with
  | zero => intro i s t _ h; omega
  | succ n ih =>
    intro i s t hi hN h
    rcases Nat.lt_or_ge i e with hlt | hge
    · obtain ⟨s', t', h1, h2, h3⟩ := hs i s t hlt h
      obtain ⟨r, q, h4, h5, h6⟩ := ih (i + 1) s' t' hlt (by omega) h3
      refine ⟨r, q, ?_, ?_, h6⟩
      · show (f s).bind _ = _
        rw [h1]; exact h4
      · show (g t).bind _ = _
        rw [h2]; exact h5
    · have : i = e := by omega
      subst this
      obtain ⟨r, q, h1, h2, h3⟩ := hx s t h
      refine ⟨r, q, ?_, ?_, h3⟩
      · show (f s).bind _ = _
        rw [h1]; rfl
      · show (g t).bind _ = _
        rw [h2]; rfl
section P33
variable {n r : Nat} {K T M C : Nat → Nat} {lay : Nat → Option (Nat × Nat)} {NWKa NWTa NWMa NWCa ow pa z on wy : Nat → Int32}
/-! fill -/
theorem c_few (hG : GG n r K T M C lay) (hRC : RCa n K T M C NWKa NWTa NWMa NWCa) (hLC : LC lay ow pa) {k m : Nat} (hk : k < 6) (hm : m < 150) :
    ∃ o, f_X6_layWithFewestTurns (nI r) (nI n) NWKa NWTa NWMa NWCa ow pa (nI k) (nI m) = some o ∧
      ((∀ t, t < 4 → ¬ whyX n r K T C lay k t m (-nI 1) = 0) ∧ o = (nI 0, nI n, NWKa, NWTa, NWMa, ow, pa) ∨
       ∃ t lay' w1 w2, t < 4 ∧ whyX n r K T C lay k t m (-nI 1) = 0 ∧ (∀ t', t' < t → ¬ whyX n r K T C lay k t' m (-nI 1) = 0) ∧ n < 30 ∧ LGG n r K T M C k t m lay' ∧ o = (nI 1, nI (n + 1), upd NWKa n (nI k), upd NWTa n (nI t), upd NWMa n (nI m), w1, w2) ∧ LC lay' w1 w2) := by
  have hn := hG.1.1
  obtain ⟨o, o1, o2⟩ := lp_inv (f := f_X6_layWithFewestTurns_b1 (nI r) NWCa (nI k) (nI m)) (fun t s => s = (nI t, nI n, NWKa, NWTa, NWMa, ow, pa) ∧ ∀ t', t' < t → ¬ whyX n r K T C lay k t' m (-nI 1) = 0) 4
    (fun o => ((∀ t, t < 4 → ¬ whyX n r K T C lay k t m (-nI 1) = 0) ∧ o = .inl (nI 4, nI n, NWKa, NWTa, NWMa, ow, pa)) ∨
       ∃ t lay' w1 w2, t < 4 ∧ whyX n r K T C lay k t m (-nI 1) = 0 ∧ (∀ t', t' < t → ¬ whyX n r K T C lay k t' m (-nI 1) = 0) ∧ n < 30 ∧ LGG n r K T M C k t m lay' ∧ o = .inr (nI 1, nI (n + 1), upd NWKa n (nI k), upd NWTa n (nI t), upd NWMa n (nI m), w1, w2) ∧ LC lay' w1 w2) (by
    rintro t s ht ⟨rfl, h⟩
    by_cases h0 : whyX n r K T C lay k t m (-nI 1) = 0
    · obtain ⟨hn30, lay', hG'⟩ := lay_gg hG hk ht hm h0
      obtain ⟨w, w1, w2⟩ := c1_lay0 hG hRC hLC hk ht hm h0 hn30 hG'
      refine Or.inr ⟨_, ?_, Or.inr ⟨t, lay', w.1, w.2, ht, h0, h, hn30, hG', rfl, w2⟩⟩
      simp (disch := omega) only [f_X6_layWithFewestTurns_b1, w1, show ¬ 4 ≤ t from by omega, Nat.not_lt_zero, px_l0, px_l1, px_l2, px_l3, px_l4, px_l5, px_l6, px_l9, px_l10, px_l14, px_l15, px_l23, px_l24, px_l25, px_l26, px_l29, px_l30, px_l32, px_l43, px_l45, px_l48, px_l57, px_l59, px_l60, px_l64, px_l100, px_l107, px_l116, px_l149, px_l150, px_l348, px_l464, px_l600, px_sa, nI_leI, nI_ltI, nI_eq, nI_add, pk_sub, pk_mul, pk_div, px_rm, nI_clamp, px_ck, px_eqm, px_meq, px_mm, px_mlt, px_mle, px_lem, px_ltm, px_mlem, Option.bind_some, px_b0, px_b1, px_ckb, px_if, px_if', ↓reduceIte]
    · have w1 := c1_lay1 hG hRC hLC hk ht hm h0
      have hb : 0 < (if whyX n r K T C lay k t m (-nI 1) = 4 then 3 else 4) ∧ (if whyX n r K T C lay k t m (-nI 1) = 4 then 3 else 4) < 2 ^ 31 := by split <;> omega
      generalize (if whyX n r K T C lay k t m (-nI 1) = 4 then 3 else 4) = e at *
      refine Or.inl ⟨(nI (t + 1), nI n, NWKa, NWTa, NWMa, ow, pa), ?_, rfl, fun t' ht' => ?_⟩
      · simp (disch := omega) only [f_X6_layWithFewestTurns_b1, w1, show ¬ 4 ≤ t from by omega, px_l0, px_l1, px_l2, px_l3, px_l4, px_l5, px_l6, px_l9, px_l10, px_l14, px_l15, px_l23, px_l24, px_l25, px_l26, px_l29, px_l30, px_l32, px_l43, px_l45, px_l48, px_l57, px_l59, px_l60, px_l64, px_l100, px_l107, px_l116, px_l149, px_l150, px_l348, px_l464, px_l600, px_sa, nI_leI, nI_ltI, nI_eq, nI_add, pk_sub, pk_mul, pk_div, px_rm, nI_clamp, px_ck, px_eqm, px_meq, px_mm, px_mlt, px_mle, px_lem, px_ltm, px_mlem, Option.bind_some, px_b0, px_b1, px_ckb, px_if, px_if', ↓reduceIte]
      · rcases Nat.lt_or_ge t' t with h1 | h1
        · exact h t' h1
        · rw [show t' = t by omega]; exact h0) (by
    rintro s ⟨rfl, h⟩
    refine ⟨_, ?_, Or.inl ⟨h, rfl⟩⟩
    simp (disch := omega) only [f_X6_layWithFewestTurns_b1, Nat.le_refl, px_l0, px_l1, px_l2, px_l3, px_l4, px_l5, px_l6, px_l9, px_l10, px_l14, px_l15, px_l23, px_l24, px_l25, px_l26, px_l29, px_l30, px_l32, px_l43, px_l45, px_l48, px_l57, px_l59, px_l60, px_l64, px_l100, px_l107, px_l116, px_l149, px_l150, px_l348, px_l464, px_l600, px_sa, nI_leI, nI_ltI, nI_eq, nI_add, pk_sub, pk_mul, pk_div, px_rm, nI_clamp, px_ck, px_eqm, px_meq, px_mm, px_mlt, px_mle, px_lem, px_ltm, px_mlem, Option.bind_some, px_b0, px_b1, px_ckb, px_if, px_if', ↓reduceIte]) FU 0 (nI 0, nI n, NWKa, NWTa, NWMa, ow, pa) (Nat.zero_le _) (by decide) ⟨rfl, fun t' h => absurd h (Nat.not_lt_zero t')⟩
  rcases o2 with ⟨h1, rfl⟩ | ⟨t, lay', w1, w2, h1, h2, h3, h4, h5, rfl, h6⟩
  · refine ⟨_, ?_, Or.inl ⟨h1, rfl⟩⟩
    simp (disch := omega) only [f_X6_layWithFewestTurns, o1, Sum.elim_inl, px_l0, px_l1, px_l2, px_l3, px_l4, px_l5, px_l6, px_l9, px_l10, px_l14, px_l15, px_l23, px_l24, px_l25, px_l26, px_l29, px_l30, px_l32, px_l43, px_l45, px_l48, px_l57, px_l59, px_l60, px_l64, px_l100, px_l107, px_l116, px_l149, px_l150, px_l348, px_l464, px_l600, px_sa, nI_leI, nI_ltI, nI_eq, nI_add, pk_sub, pk_mul, pk_div, px_rm, nI_clamp, px_ck, px_eqm, px_meq, px_mm, px_mlt, px_mle, px_lem, px_ltm, px_mlem, Option.bind_some, px_b0, px_b1, px_ckb, px_if, px_if', ↓reduceIte]
  · refine ⟨_, ?_, Or.inr ⟨t, lay', w1, w2, h1, h2, h3, h4, h5, rfl, h6⟩⟩
    simp (disch := omega) only [f_X6_layWithFewestTurns, o1, Sum.elim_inr, px_l0, px_l1, px_l2, px_l3, px_l4, px_l5, px_l6, px_l9, px_l10, px_l14, px_l15, px_l23, px_l24, px_l25, px_l26, px_l29, px_l30, px_l32, px_l43, px_l45, px_l48, px_l57, px_l59, px_l60, px_l64, px_l100, px_l107, px_l116, px_l149, px_l150, px_l348, px_l464, px_l600, px_sa, nI_leI, nI_ltI, nI_eq, nI_add, pk_sub, pk_mul, pk_div, px_rm, nI_clamp, px_ck, px_eqm, px_meq, px_mm, px_mlt, px_mle, px_lem, px_ltm, px_mlem, Option.bind_some, px_b0, px_b1, px_ckb, px_if, px_if', ↓reduceIte]
theorem c7_few (hG : GG n r K T M C lay) (hR : RM n r K T M C z) (hLM : LM lay on wy) {k m : Nat} (hk : k < 6) (hm : m < 150) (l : Int32) :
    ∃ t, t ≤ 4 ∧ lp (f_X7_fill_b1 (nI k) (l, nI m, z, on, wy)) FU (nI 0) = some (nI t) ∧ (∀ t', t' < t → ¬ whyX n r K T C lay k t' m (-nI 1) = 0) ∧ (t < 4 → whyX n r K T C lay k t m (-nI 1) = 0) := by
  obtain ⟨hO, hL, hN⟩ := id hG
  obtain ⟨o, o1, t, h1, rfl, h2, h3⟩ := lp_inv (f := f_X7_fill_b1 (nI k) (l, nI m, z, on, wy)) (fun t s => s = nI t ∧ ∀ t', t' < t → ¬ whyX n r K T C lay k t' m (-nI 1) = 0) 4
    (fun o => ∃ t, t ≤ 4 ∧ o = nI t ∧ (∀ t', t' < t → ¬ whyX n r K T C lay k t' m (-nI 1) = 0) ∧ (t < 4 → whyX n r K T C lay k t m (-nI 1) = 0)) (by
    rintro t s ht ⟨rfl, h⟩
    have hw := w7_why hO hL hR hLM hk ht hm
    have hl : whyX n r K T C lay k t m (-nI 1) ≤ 4 := whyX_le
    by_cases h0 : whyX n r K T C lay k t m (-nI 1) = 0
    · refine Or.inr ⟨_, ?_, t, by omega, rfl, h, fun _ => h0⟩
      simp (disch := omega) only [f_X7_fill_b1, hw, h0, Nat.le_refl, show ¬ 4 ≤ t from by omega, px_l0, px_l1, px_l2, px_l3, px_l4, px_l5, px_l6, px_l9, px_l10, px_l14, px_l15, px_l23, px_l24, px_l25, px_l26, px_l29, px_l30, px_l32, px_l43, px_l45, px_l48, px_l57, px_l59, px_l60, px_l64, px_l100, px_l107, px_l116, px_l149, px_l150, px_l348, px_l464, px_l600, px_sa, nI_leI, nI_ltI, nI_eq, nI_add, pk_sub, pk_mul, pk_div, px_rm, nI_clamp, px_ck, px_eqm, px_meq, px_mm, px_mlt, px_mle, px_lem, px_ltm, px_mlem, Option.bind_some, px_b0, px_b1, px_ckb, px_if, px_if', ↓reduceIte]
    · refine Or.inl ⟨nI (t + 1), ?_, rfl, fun t' ht' => ?_⟩
      · simp (disch := omega) only [f_X7_fill_b1, hw, show ¬ whyX n r K T C lay k t m (-nI 1) ≤ 0 from by omega, show ¬ 4 ≤ t from by omega, px_l0, px_l1, px_l2, px_l3, px_l4, px_l5, px_l6, px_l9, px_l10, px_l14, px_l15, px_l23, px_l24, px_l25, px_l26, px_l29, px_l30, px_l32, px_l43, px_l45, px_l48, px_l57, px_l59, px_l60, px_l64, px_l100, px_l107, px_l116, px_l149, px_l150, px_l348, px_l464, px_l600, px_sa, nI_leI, nI_ltI, nI_eq, nI_add, pk_sub, pk_mul, pk_div, px_rm, nI_clamp, px_ck, px_eqm, px_meq, px_mm, px_mlt, px_mle, px_lem, px_ltm, px_mlem, Option.bind_some, px_b0, px_b1, px_ckb, px_if, px_if', ↓reduceIte]
      · rcases Nat.lt_or_ge t' t with h1 | h1
        · exact h t' h1
        · rw [show t' = t by omega]; exact h0) (by
    rintro s ⟨rfl, h⟩
    refine ⟨_, ?_, 4, by omega, rfl, h, fun h => absurd h (by omega)⟩
    simp (disch := omega) only [f_X7_fill_b1, Nat.le_refl, px_l0, px_l1, px_l2, px_l3, px_l4, px_l5, px_l6, px_l9, px_l10, px_l14, px_l15, px_l23, px_l24, px_l25, px_l26, px_l29, px_l30, px_l32, px_l43, px_l45, px_l48, px_l57, px_l59, px_l60, px_l64, px_l100, px_l107, px_l116, px_l149, px_l150, px_l348, px_l464, px_l600, px_sa, nI_leI, nI_ltI, nI_eq, nI_add, pk_sub, pk_mul, pk_div, px_rm, nI_clamp, px_ck, px_eqm, px_meq, px_mm, px_mlt, px_mle, px_lem, px_ltm, px_mlem, Option.bind_some, px_b0, px_b1, px_ckb, px_if, px_if', ↓reduceIte]) FU 0 (nI 0) (Nat.zero_le _) (by decide) ⟨rfl, fun t' h => absurd h (Nat.not_lt_zero t')⟩
  exact ⟨t, h1, o1, h2, h3⟩
end P33
theorem fill_loop {NWru NWco : Int32} {NWKa NWTa NWMa NWCa CAow CApa MOza MOon MOwy : Nat → Int32} (hA : RA NWru NWco NWKa NWTa NWMa NWCa CAow CApa MOza MOon MOwy) {k : Nat} (hk : k < 6) :
    ∃ (c : Int32 × Int32 × Int32 × (Nat → Int32) × (Nat → Int32) × (Nat → Int32) × (Nat → Int32) × (Nat → Int32)) (q : Int32 × Int32 × (Nat → Int32) × (Nat → Int32) × (Nat → Int32)), lp (f_X6_fill_b1 NWru NWCa (nI k)) FU (nI 0, nI 0, NWco, NWKa, NWTa, NWMa, CAow, CApa) = some c ∧ lp (f_X7_fill_b2 (nI k)) FU (nI 0, nI 0, MOza, MOon, MOwy) = some q ∧
      ∃ l, l ≤ 150 ∧ c.1 = nI l ∧ q.1 = nI l ∧ (l = 0 → q.2.2.1 = MOza ∧ q.2.2.2.1 = MOon ∧ q.2.2.2.2 = MOwy) ∧ RA NWru c.2.2.1 c.2.2.2.1 c.2.2.2.2.1 c.2.2.2.2.2.1 NWCa c.2.2.2.2.2.2.1 c.2.2.2.2.2.2.2 q.2.2.1 q.2.2.2.1 q.2.2.2.2 := by
  refine lp_rel (f := f_X6_fill_b1 NWru NWCa (nI k)) (g := f_X7_fill_b2 (nI k)) (fun i c q => ∃ l, l ≤ i ∧ c.1 = nI l ∧ q.1 = nI l ∧ c.2.1 = nI i ∧ q.2.1 = nI i ∧ (l = 0 → q.2.2.1 = MOza ∧ q.2.2.2.1 = MOon ∧ q.2.2.2.2 = MOwy) ∧ RA NWru c.2.2.1 c.2.2.2.1 c.2.2.2.2.1 c.2.2.2.2.2.1 NWCa c.2.2.2.2.2.2.1 c.2.2.2.2.2.2.2 q.2.2.1 q.2.2.2.1 q.2.2.2.2) 150 _ ?_ ?_ FU 0 _ _ (Nat.zero_le _) (by decide) ⟨0, Nat.le_refl _, rfl, rfl, rfl, rfl, fun _ => ⟨rfl, rfl, rfl⟩, hA⟩
  · rintro i ⟨c1, c2, c3, c4, c5, c6, c7, c8⟩ ⟨q1, q2, q3, q4, q5⟩ hi ⟨l, hl, e1, e2, e3, e4, e5, hR⟩
    dsimp only at e1 e2 e3 e4 e5 hR
    subst e1; subst e2; subst e3; subst e4
    obtain ⟨n, r, K, T, M, C, lay, hG, rfl, rfl, hRC, hRM, hLC, hLM⟩ := id hR
    obtain ⟨o, o1, o2⟩ := c_few hG hRC hLC hk hi
    obtain ⟨t, t1, t2, t3, t4⟩ := c7_few hG hRM hLM hk hi (nI l)
    rcases o2 with ⟨h1, rfl⟩ | ⟨t', lay', w1, w2, h1, h2, h3, h4, hG', rfl, h6⟩
    · have ht4 : t = 4 := by
        rcases Nat.lt_or_ge t 4 with h | h
        · exact absurd (t4 h) (h1 t h)
        · omega
      subst ht4
      refine ⟨(nI l, nI (i + 1), nI n, c4, c5, c6, c7, c8), (nI l, nI (i + 1), q3, q4, q5), ?_, ?_, l, by omega, rfl, rfl, rfl, rfl, e5, hR⟩
      · simp (disch := omega) only [f_X6_fill_b1, o1, show ¬ 150 ≤ i from by omega, px_l0, px_l1, px_l2, px_l3, px_l4, px_l5, px_l6, px_l9, px_l10, px_l14, px_l15, px_l23, px_l24, px_l25, px_l26, px_l29, px_l30, px_l32, px_l43, px_l45, px_l48, px_l57, px_l59, px_l60, px_l64, px_l100, px_l107, px_l116, px_l149, px_l150, px_l348, px_l464, px_l600, px_sa, nI_leI, nI_ltI, nI_eq, nI_add, pk_sub, pk_mul, pk_div, px_rm, nI_clamp, px_ck, px_eqm, px_meq, px_mm, px_mlt, px_mle, px_lem, px_ltm, px_mlem, Option.bind_some, px_b0, px_b1, px_ckb, px_if, px_if', ↓reduceIte]
      · simp (disch := omega) only [f_X7_fill_b2, t2, show ¬ 150 ≤ i from by omega, Nat.le_refl, px_l0, px_l1, px_l2, px_l3, px_l4, px_l5, px_l6, px_l9, px_l10, px_l14, px_l15, px_l23, px_l24, px_l25, px_l26, px_l29, px_l30, px_l32, px_l43, px_l45, px_l48, px_l57, px_l59, px_l60, px_l64, px_l100, px_l107, px_l116, px_l149, px_l150, px_l348, px_l464, px_l600, px_sa, nI_leI, nI_ltI, nI_eq, nI_add, pk_sub, pk_mul, pk_div, px_rm, nI_clamp, px_ck, px_eqm, px_meq, px_mm, px_mlt, px_mle, px_lem, px_ltm, px_mlem, Option.bind_some, px_b0, px_b1, px_ckb, px_if, px_if', ↓reduceIte]
    · have htt : t = t' := by
        rcases Nat.lt_trichotomy t t' with h | h | h
        · exact absurd (t4 (by omega)) (h3 t h)
        · exact h
        · exact absurd h2 (t3 t' h)
      subst htt
      obtain ⟨v, u, u1, u2, u3⟩ := c7_add hRM h4 hG' q4 q5
      refine ⟨(nI (l + 1), nI (i + 1), nI (n + 1), upd c4 n (nI k), upd c5 n (nI t), upd c6 n (nI i), w1, w2), (nI (l + 1), nI (i + 1), v, u.1, u.2), ?_, ?_, l + 1, by omega, rfl, rfl, rfl, rfl, fun h => by omega, ⟨n + 1, r, _, _, _, C, lay', hG', rfl, rfl, hRC.put, u2, h6, u3⟩⟩
      · simp (disch := omega) only [f_X6_fill_b1, o1, show ¬ 150 ≤ i from by omega, show ¬ (1 = 0) from by decide, px_l0, px_l1, px_l2, px_l3, px_l4, px_l5, px_l6, px_l9, px_l10, px_l14, px_l15, px_l23, px_l24, px_l25, px_l26, px_l29, px_l30, px_l32, px_l43, px_l45, px_l48, px_l57, px_l59, px_l60, px_l64, px_l100, px_l107, px_l116, px_l149, px_l150, px_l348, px_l464, px_l600, px_sa, nI_leI, nI_ltI, nI_eq, nI_add, pk_sub, pk_mul, pk_div, px_rm, nI_clamp, px_ck, px_eqm, px_meq, px_mm, px_mlt, px_mle, px_lem, px_ltm, px_mlem, Option.bind_some, px_b0, px_b1, px_ckb, px_if, px_if', ↓reduceIte]
      · simp (disch := omega) only [f_X7_fill_b2, t2, u1, show ¬ 150 ≤ i from by omega, show ¬ 4 ≤ t from by omega, px_l0, px_l1, px_l2, px_l3, px_l4, px_l5, px_l6, px_l9, px_l10, px_l14, px_l15, px_l23, px_l24, px_l25, px_l26, px_l29, px_l30, px_l32, px_l43, px_l45, px_l48, px_l57, px_l59, px_l60, px_l64, px_l100, px_l107, px_l116, px_l149, px_l150, px_l348, px_l464, px_l600, px_sa, nI_leI, nI_ltI, nI_eq, nI_add, pk_sub, pk_mul, pk_div, px_rm, nI_clamp, px_ck, px_eqm, px_meq, px_mm, px_mlt, px_mle, px_lem, px_ltm, px_mlem, Option.bind_some, px_b0, px_b1, px_ckb, px_if, px_if', ↓reduceIte]
  · rintro ⟨c1, c2, c3, c4, c5, c6, c7, c8⟩ ⟨q1, q2, q3, q4, q5⟩ ⟨l, hl, e1, e2, e3, e4, e5, hR⟩
    dsimp only at e1 e2 e3 e4 e5 hR
    subst e1; subst e2; subst e3; subst e4
    refine ⟨(nI l, nI 150, c3, c4, c5, c6, c7, c8), (nI l, nI 150, q3, q4, q5), ?_, ?_, l, hl, rfl, rfl, e5, hR⟩
    · simp (disch := omega) only [f_X6_fill_b1, Nat.le_refl, px_l0, px_l1, px_l2, px_l3, px_l4, px_l5, px_l6, px_l9, px_l10, px_l14, px_l15, px_l23, px_l24, px_l25, px_l26, px_l29, px_l30, px_l32, px_l43, px_l45, px_l48, px_l57, px_l59, px_l60, px_l64, px_l100, px_l107, px_l116, px_l149, px_l150, px_l348, px_l464, px_l600, px_sa, nI_leI, nI_ltI, nI_eq, nI_add, pk_sub, pk_mul, pk_div, px_rm, nI_clamp, px_ck, px_eqm, px_meq, px_mm, px_mlt, px_mle, px_lem, px_ltm, px_mlem, Option.bind_some, px_b0, px_b1, px_ckb, px_if, px_if', ↓reduceIte]
    · simp (disch := omega) only [f_X7_fill_b2, Nat.le_refl, px_l0, px_l1, px_l2, px_l3, px_l4, px_l5, px_l6, px_l9, px_l10, px_l14, px_l15, px_l23, px_l24, px_l25, px_l26, px_l29, px_l30, px_l32, px_l43, px_l45, px_l48, px_l57, px_l59, px_l60, px_l64, px_l100, px_l107, px_l116, px_l149, px_l150, px_l348, px_l464, px_l600, px_sa, nI_leI, nI_ltI, nI_eq, nI_add, pk_sub, pk_mul, pk_div, px_rm, nI_clamp, px_ck, px_eqm, px_meq, px_mm, px_mlt, px_mle, px_lem, px_ltm, px_mlem, Option.bind_some, px_b0, px_b1, px_ckb, px_if, px_if', ↓reduceIte]
theorem e_fill {NWru : Int32} {NWco : Int32} {NWKa : Nat → Int32} {NWTa : Nat → Int32} {NWMa : Nat → Int32} {NWCa : Nat → Int32} {BEru : Int32} {BEco : Int32} {BEKa : Nat → Int32} {BETa : Nat → Int32} {BEMa : Nat → Int32} {BECa : Nat → Int32} {CAow : Nat → Int32} {CApa : Nat → Int32} {PAco : Int32} {PAv : PV} {MOst : Int32} {MOza : Nat → Int32} {MOas : Nat → Int32} {MObe : Nat → Int32} {MOon : Nat → Int32} {MOwy : Nat → Int32} (hA : RA NWru NWco NWKa NWTa NWMa NWCa CAow CApa MOza MOon MOwy) (hH : RH PAco PAv MOst MObe) (p0 : Int32) :
    ∃ oc om, f_X6_fill NWru NWco NWKa NWTa NWMa NWCa BEru BEco BEKa BETa BEMa BECa CAow CApa PAco PAv p0 = some oc ∧ f_X7_fill MOst MOza MOas MObe MOon MOwy p0 = some om ∧ oc.1 = om.1 ∧ RA oc.2.1 oc.2.2.1 oc.2.2.2.1 oc.2.2.2.2.1 oc.2.2.2.2.2.1 oc.2.2.2.2.2.2.1 oc.2.2.2.2.2.2.2.2.2.2.2.2.2.1 oc.2.2.2.2.2.2.2.2.2.2.2.2.2.2.1 om.2.2.1 om.2.2.2.2.2.1 om.2.2.2.2.2.2 ∧ RH oc.2.2.2.2.2.2.2.2.2.2.2.2.2.2.2.1 oc.2.2.2.2.2.2.2.2.2.2.2.2.2.2.2.2 om.2.1 om.2.2.2.2.1 := by
  have same := And.intro hA hH
  unfold f_X6_fill f_X7_fill
  rcases a_kind p0 with ⟨k, hk, rfl, c0, m0⟩ | ⟨c0, m0⟩
  · obtain ⟨b, b0, b1, b2, b3, b4, b5, b6⟩ := c6_begin NWru NWco NWKa NWTa NWMa NWCa BEru BEco BEKa BETa BEMa BECa
    obtain ⟨w, w0, w1⟩ := c7_aside MOza MOas
    have hRV : RV b.1 b.2.1 b.2.2.1 b.2.2.2.1 b.2.2.2.2.1 b.2.2.2.2.2 w := by
      rw [b1, b2]
      exact hA.rv.congr b3 b4 b5 b6 w1
    obtain ⟨⟨c1, c2, c3, c4, c5, c6, c7, c8⟩, ⟨q1, q2, q3, q4, q5⟩, l1, l2, l, hl, e1, e2, e5, hR⟩ := fill_loop hA hk
    dsimp only at e1 e2 e5 hR
    subst e1; subst e2
    by_cases hl0 : l = 0
    · subst hl0
      obtain ⟨f1, f2, f3⟩ := e5 rfl
      subst f1; subst f2; subst f3
      obtain ⟨n, r, K, T, M, C, lay, hG, rfl, rfl, hRC, hRM, hLC, hLM⟩ := id hA
      obtain ⟨ka, ta, ma, ca, ow', pa', y1, y2, y3⟩ := c6_bad hG b1 b2 (hRC.congr hG.1.1 b3 b4 b5 b6) (nI r) c3 c4 c5 c6 NWCa c7 c8 PAco PAv (b := 5) (by omega)
      simp (disch := omega) only [c0, m0, b0, w0, l1, l2, y1, show ¬ (1 = 0) from by decide, px_l0, px_l1, px_l2, px_l3, px_l4, px_l5, px_l6, px_l9, px_l10, px_l14, px_l15, px_l23, px_l24, px_l25, px_l26, px_l29, px_l30, px_l32, px_l43, px_l45, px_l48, px_l57, px_l59, px_l60, px_l64, px_l100, px_l107, px_l116, px_l149, px_l150, px_l348, px_l464, px_l600, px_sa, nI_leI, nI_ltI, nI_eq, nI_add, pk_sub, pk_mul, pk_div, px_rm, nI_clamp, px_ck, px_eqm, px_meq, px_mm, px_mlt, px_mle, px_lem, px_ltm, px_mlem, Option.bind_some, px_b0, px_b1, px_ckb, px_if, px_if', ↓reduceIte]
      exact ⟨_, _, rfl, rfl, rfl, ⟨n, r, K, T, M, C, lay, hG, rfl, rfl, y2, hRM, y3, hLM⟩, hH⟩
    · obtain ⟨c, q, x1, x2, x3⟩ := RH_add hRV hH
      simp (disch := omega) only [c0, m0, b0, w0, l1, l2, hl0, x2, c6_good (show l < 2 ^ 31 by omega) x1, show ¬ (1 = 0) from by decide, px_l0, px_l1, px_l2, px_l3, px_l4, px_l5, px_l6, px_l9, px_l10, px_l14, px_l15, px_l23, px_l24, px_l25, px_l26, px_l29, px_l30, px_l32, px_l43, px_l45, px_l48, px_l57, px_l59, px_l60, px_l64, px_l100, px_l107, px_l116, px_l149, px_l150, px_l348, px_l464, px_l600, px_sa, nI_leI, nI_ltI, nI_eq, nI_add, pk_sub, pk_mul, pk_div, px_rm, nI_clamp, px_ck, px_eqm, px_meq, px_mm, px_mlt, px_mle, px_lem, px_ltm, px_mlem, Option.bind_some, px_b0, px_b1, px_ckb, px_if, px_if', ↓reduceIte]
      exact ⟨_, _, rfl, rfl, rfl, hR, x3⟩
  · rw [c0, m0]
    exact ⟨_, _, rfl, rfl, rfl, same⟩
