theorem px_une {f : Nat → Int32} {k j : Nat} {x : Int32} (h : j ≠ k) : upd f k x j = f j := if_neg h
theorem px_ueq {f : Nat → Int32} {k : Nat} {x : Int32} : upd f k x k = x := if_pos rfl
theorem px_fill {s : Nat → Int32} {i : Nat} {v : Int32} (h : ∀ c, c < i → s c = v) : ∀ c, c < i + 1 → upd s i v c = v := by
  intro c hc
  rw [px_upd]
  split
  · rfl
  · exact h c (by omega)
theorem lay_X1 {n : Nat} {M : Nat → Nat} {lay : Nat → Option (Nat × Nat)} (hn : n ≤ 30) (hM : ∀ i, i < n → M i < 150) (hL : LY n M lay) {NWMa : Nat → Int32} (hR : ∀ i, i < n → NWMa i = nI (M i)) (ow pa : Nat → Int32) :
    ∃ w : (Nat → Int32) × (Nat → Int32), f_X1_layOut (nI n) NWMa ow pa = some w ∧ LC lay w.1 w.2 := by
  have A : ∃ r, lp f_X1_layOut_b1 FU ((0 : Int32), ow, pa) = some r ∧ (∀ c, c < 150 → r.2.1 c = -nI 1) ∧ ∀ c, c < 150 → r.2.2 c = nI 4 := by
    refine lp_inv (f := f_X1_layOut_b1) (fun i s => s.1 = nI i ∧ (∀ c, c < i → s.2.1 c = -nI 1) ∧ ∀ c, c < i → s.2.2 c = nI 4) 150 _ ?_ ?_ FU 0 _ (by omega) (by decide) ⟨rfl, fun c h => absurd h (Nat.not_lt_zero c), fun c h => absurd h (Nat.not_lt_zero c)⟩
    · rintro i ⟨s1, s2, s3⟩ hi ⟨h1, h2, h3⟩
      dsimp only at h1 h2 h3
      subst h1
      refine Or.inl ⟨(nI (i + 1), upd s2 i (-nI 1), upd s3 i (nI 4)), ?_, rfl, px_fill h2, px_fill h3⟩
      simp (disch := omega) only [f_X1_layOut_b1, show ¬ 150 ≤ i from by omega, px_l0, px_l1, px_l2, px_l3, px_l4, px_l5, px_l6, px_l9, px_l10, px_l14, px_l15, px_l23, px_l24, px_l25, px_l26, px_l29, px_l30, px_l32, px_l43, px_l45, px_l48, px_l57, px_l59, px_l60, px_l64, px_l100, px_l107, px_l116, px_l149, px_l150, px_l348, px_l464, px_l600, px_sa, nI_leI, nI_ltI, nI_eq, nI_add, pk_sub, pk_mul, pk_div, px_rm, nI_clamp, px_ck, px_eqm, px_meq, px_mm, px_mlt, px_mle, px_lem, px_ltm, px_mlem, Option.bind_some, px_b0, px_b1, px_ckb, px_if, px_if', ↓reduceIte]
    · rintro ⟨s1, s2, s3⟩ ⟨h1, h2, h3⟩
      dsimp only at h1 h2 h3
      subst h1
      refine ⟨(nI 150, s2, s3), ?_, h2, h3⟩
      simp (disch := omega) only [f_X1_layOut_b1, Nat.le_refl, px_l0, px_l1, px_l2, px_l3, px_l4, px_l5, px_l6, px_l9, px_l10, px_l14, px_l15, px_l23, px_l24, px_l25, px_l26, px_l29, px_l30, px_l32, px_l43, px_l45, px_l48, px_l57, px_l59, px_l60, px_l64, px_l100, px_l107, px_l116, px_l149, px_l150, px_l348, px_l464, px_l600, px_sa, nI_leI, nI_ltI, nI_eq, nI_add, pk_sub, pk_mul, pk_div, px_rm, nI_clamp, px_ck, px_eqm, px_meq, px_mm, px_mlt, px_mle, px_lem, px_ltm, px_mlem, Option.bind_some, px_b0, px_b1, px_ckb, px_if, px_if', ↓reduceIte]
  obtain ⟨⟨a1, a2, a3⟩, hA, hA2, hA3⟩ := A
  dsimp only at hA2 hA3
  have B : ∃ r, lp (f_X1_layOut_b3 (nI n) NWMa) FU ((0 : Int32), a2, a3) = some r ∧ LC lay r.2.1 r.2.2 := by
    refine lp_inv (f := f_X1_layOut_b3 (nI n) NWMa) (fun i s => s.1 = nI i ∧ LC (layN lay i) s.2.1 s.2.2) n _ ?_ ?_ FU 0 _ (by omega) (Nat.lt_of_le_of_lt (by omega : n - 0 ≤ 30) (by decide)) ⟨rfl, fun c hc => ?_⟩
    · rintro i ⟨s1, s2, s3⟩ hi ⟨h1, h2⟩
      dsimp only at h1 h2
      subst h1
      have hMi := hM i hi
      have I1 : ∃ r, lp (f_X1_layOut_b2 NWMa (nI i, s2, s3)) FU ((0 : Int32), upd s2 (M i) (nI i), s3) = some r ∧ LC (layR lay i 4) r.2.1 r.2.2 := by
        refine lp_inv (f := f_X1_layOut_b2 NWMa (nI i, s2, s3)) (fun d s => s.1 = nI d ∧ LC (layR lay i d) s.2.1 s.2.2) 4 _ ?_ ?_ FU 0 _ (by omega) (by decide) ⟨rfl, ?_⟩
        · rintro d ⟨t1, t2, t3⟩ hd ⟨g1, g2⟩
          dsimp only at g1 g2
          subst g1
          have hb := bes_lt (M i) hMi d hd
          refine Or.inl ⟨(nI (d + 1), upd t2 (bes (M i) d) (nI i), upd t3 (bes (M i) d) (nI d)), ?_, rfl, ?_⟩
          · simp (disch := omega) only [f_X1_layOut_b2, show ¬ 4 ≤ d from by omega, hR i hi, g0_bes (M i) hMi d hd, px_l0, px_l1, px_l2, px_l3, px_l4, px_l5, px_l6, px_l9, px_l10, px_l14, px_l15, px_l23, px_l24, px_l25, px_l26, px_l29, px_l30, px_l32, px_l43, px_l45, px_l48, px_l57, px_l59, px_l60, px_l64, px_l100, px_l107, px_l116, px_l149, px_l150, px_l348, px_l464, px_l600, px_sa, nI_leI, nI_ltI, nI_eq, nI_add, pk_sub, pk_mul, pk_div, px_rm, nI_clamp, px_ck, px_eqm, px_meq, px_mm, px_mlt, px_mle, px_lem, px_ltm, px_mlem, Option.bind_some, px_b0, px_b1, px_ckb, px_if, px_if', ↓reduceIte]
          · have e1 : bes (M i) d = cp (M i) d := (cp_d hd).symm
            rw [e1]
            exact g2.put (layR_at hL hi (by omega) (Or.inr (Nat.lt_succ_self d))) (layR_step hL hi hd)
        · rintro ⟨t1, t2, t3⟩ ⟨g1, g2⟩
          dsimp only at g1 g2
          subst g1
          refine ⟨(nI 4, t2, t3), ?_, g2⟩
          simp (disch := omega) only [f_X1_layOut_b2, Nat.le_refl, px_l0, px_l1, px_l2, px_l3, px_l4, px_l5, px_l6, px_l9, px_l10, px_l14, px_l15, px_l23, px_l24, px_l25, px_l26, px_l29, px_l30, px_l32, px_l43, px_l45, px_l48, px_l57, px_l59, px_l60, px_l64, px_l100, px_l107, px_l116, px_l149, px_l150, px_l348, px_l464, px_l600, px_sa, nI_leI, nI_ltI, nI_eq, nI_add, pk_sub, pk_mul, pk_div, px_rm, nI_clamp, px_ck, px_eqm, px_meq, px_mm, px_mlt, px_mle, px_lem, px_ltm, px_mlem, Option.bind_some, px_b0, px_b1, px_ckb, px_if, px_if', ↓reduceIte]
        · dsimp only
          have hp := (h2.put (lay' := layR lay i 0) (c := cp (M i) 4) (i := i) (d := 4) (layR_at hL hi (by omega) (Or.inl rfl)) (layR_mid hL hi))
          have e2 : upd s3 (cp (M i) 4) (nI 4) = s3 := by
            funext c
            rw [px_upd]
            split
            · rename_i hc
              subst hc
              have h3 := h2 (cp (M i) 4) hMi
              have h4 : layN lay i (cp (M i) 4) = none := by
                unfold layN
                rw [hL.1 i 4 hi (by omega)]
                dsimp only
                rw [if_neg (by omega)]
              exact ((h3.1 h4).2).symm
            · rfl
          rw [e2] at hp
          exact hp
      obtain ⟨⟨b1, b2, b3⟩, hb, hb2⟩ := I1
      refine Or.inl ⟨(nI (i + 1), b2, b3), ?_, rfl, hb2.congr (layR_next hL)⟩
      simp (disch := omega) only [f_X1_layOut_b3, show ¬ n ≤ i from by omega, hR i hi, px_l0, px_l1, px_l2, px_l3, px_l4, px_l5, px_l6, px_l9, px_l10, px_l14, px_l15, px_l23, px_l24, px_l25, px_l26, px_l29, px_l30, px_l32, px_l43, px_l45, px_l48, px_l57, px_l59, px_l60, px_l64, px_l100, px_l107, px_l116, px_l149, px_l150, px_l348, px_l464, px_l600, px_sa, nI_leI, nI_ltI, nI_eq, nI_add, pk_sub, pk_mul, pk_div, px_rm, nI_clamp, px_ck, px_eqm, px_meq, px_mm, px_mlt, px_mle, px_lem, px_ltm, px_mlem, Option.bind_some, px_b0, px_b1, px_ckb, px_if, px_if', ↓reduceIte]
      rw [← px_l0, hb]
      simp (disch := omega) only [px_l0, px_l1, px_l2, px_l3, px_l4, px_l5, px_l6, px_l9, px_l10, px_l14, px_l15, px_l23, px_l24, px_l25, px_l26, px_l29, px_l30, px_l32, px_l43, px_l45, px_l48, px_l57, px_l59, px_l60, px_l64, px_l100, px_l107, px_l116, px_l149, px_l150, px_l348, px_l464, px_l600, px_sa, nI_leI, nI_ltI, nI_eq, nI_add, pk_sub, pk_mul, pk_div, px_rm, nI_clamp, px_ck, px_eqm, px_meq, px_mm, px_mlt, px_mle, px_lem, px_ltm, px_mlem, Option.bind_some, px_b0, px_b1, px_ckb, px_if, px_if', ↓reduceIte]
    · rintro ⟨s1, s2, s3⟩ ⟨h1, h2⟩
      dsimp only at h1 h2
      subst h1
      refine ⟨(nI n, s2, s3), ?_, h2.congr (layN_all hL)⟩
      simp (disch := omega) only [f_X1_layOut_b3, Nat.le_refl, px_l0, px_l1, px_l2, px_l3, px_l4, px_l5, px_l6, px_l9, px_l10, px_l14, px_l15, px_l23, px_l24, px_l25, px_l26, px_l29, px_l30, px_l32, px_l43, px_l45, px_l48, px_l57, px_l59, px_l60, px_l64, px_l100, px_l107, px_l116, px_l149, px_l150, px_l348, px_l464, px_l600, px_sa, nI_leI, nI_ltI, nI_eq, nI_add, pk_sub, pk_mul, pk_div, px_rm, nI_clamp, px_ck, px_eqm, px_meq, px_mm, px_mlt, px_mle, px_lem, px_ltm, px_mlem, Option.bind_some, px_b0, px_b1, px_ckb, px_if, px_if', ↓reduceIte]
    · have h4 : layN lay 0 c = none := by
        unfold layN
        cases lay c with
        | none => rfl
        | some q => dsimp only; rw [if_neg (Nat.not_lt_zero _)]
      rw [h4]
      exact ⟨fun _ => ⟨hA2 c hc, hA3 c hc⟩, fun a b q => by cases q⟩
  obtain ⟨⟨b1, b2, b3⟩, hB, hB2⟩ := B
  refine ⟨(b2, b3), ?_, hB2⟩
  unfold f_X1_layOut
  rw [hA]
  show (lp (f_X1_layOut_b3 (nI n) NWMa) FU ((0 : Int32), a2, a3)).bind _ = _
  rw [hB]
  rfl
theorem w7_mid {n ru : Nat} {K T M C : Nat → Nat} {z : Nat → Int32} (h : RM n ru K T M C z) {i : Nat} (hi : i < n) (hn : n ≤ 30) : f_X7_middleOf z (nI i) = some (nI (M i)) := by
  simp (disch := omega) only [f_X7_middleOf, px_l0, px_l1, px_l2, px_l3, px_l4, px_l5, px_l6, px_l9, px_l10, px_l14, px_l15, px_l23, px_l24, px_l25, px_l26, px_l29, px_l30, px_l32, px_l43, px_l45, px_l48, px_l57, px_l59, px_l60, px_l64, px_l100, px_l107, px_l116, px_l149, px_l150, px_l348, px_l464, px_l600, px_sa, nI_leI, nI_ltI, nI_eq, nI_add, pk_sub, pk_mul, pk_div, px_rm, nI_clamp, px_ck, px_eqm, px_meq, px_mm, px_mlt, px_mle, px_lem, px_ltm, px_mlem, Option.bind_some, px_b0, px_b1, px_ckb, px_if, px_if', ↓reduceIte, (h.2.2.2 i hi).2.2]
theorem lay_X7 {n ru : Nat} {K T M C : Nat → Nat} {lay : Nat → Option (Nat × Nat)} (hn : n ≤ 30) (hM : ∀ i, i < n → M i < 150) (hL : LY n M lay) {z : Nat → Int32} (hR : RM n ru K T M C z) (on wy : Nat → Int32) :
    ∃ w : (Nat → Int32) × (Nat → Int32), f_X7_draw z on wy = some w ∧ LM lay w.1 w.2 := by
  have h25 := hR.2.2.1
  have A : ∃ r, lp f_X7_draw_b1 FU ((0 : Int32), on, wy) = some r ∧ (∀ c, c < 150 → r.2.1 c = -nI 5) ∧ ∀ c, c < 150 → r.2.2 c = -nI 5 := by
    refine lp_inv (f := f_X7_draw_b1) (fun i s => s.1 = nI i ∧ (∀ c, c < i → s.2.1 c = -nI 5) ∧ ∀ c, c < i → s.2.2 c = -nI 5) 150 _ ?_ ?_ FU 0 _ (by omega) (by decide) ⟨rfl, fun c h => absurd h (Nat.not_lt_zero c), fun c h => absurd h (Nat.not_lt_zero c)⟩
    · rintro i ⟨s1, s2, s3⟩ hi ⟨h1, h2, h3⟩
      dsimp only at h1 h2 h3
      subst h1
      refine Or.inl ⟨(nI (i + 1), upd s2 i (-nI 5), upd s3 i (-nI 5)), ?_, rfl, px_fill h2, px_fill h3⟩
      simp (disch := omega) only [f_X7_draw_b1, show ¬ 150 ≤ i from by omega, px_l0, px_l1, px_l2, px_l3, px_l4, px_l5, px_l6, px_l9, px_l10, px_l14, px_l15, px_l23, px_l24, px_l25, px_l26, px_l29, px_l30, px_l32, px_l43, px_l45, px_l48, px_l57, px_l59, px_l60, px_l64, px_l100, px_l107, px_l116, px_l149, px_l150, px_l348, px_l464, px_l600, px_sa, nI_leI, nI_ltI, nI_eq, nI_add, pk_sub, pk_mul, pk_div, px_rm, nI_clamp, px_ck, px_eqm, px_meq, px_mm, px_mlt, px_mle, px_lem, px_ltm, px_mlem, Option.bind_some, px_b0, px_b1, px_ckb, px_if, px_if', ↓reduceIte]
    · rintro ⟨s1, s2, s3⟩ ⟨h1, h2, h3⟩
      dsimp only at h1 h2 h3
      subst h1
      refine ⟨(nI 150, s2, s3), ?_, h2, h3⟩
      simp (disch := omega) only [f_X7_draw_b1, Nat.le_refl, px_l0, px_l1, px_l2, px_l3, px_l4, px_l5, px_l6, px_l9, px_l10, px_l14, px_l15, px_l23, px_l24, px_l25, px_l26, px_l29, px_l30, px_l32, px_l43, px_l45, px_l48, px_l57, px_l59, px_l60, px_l64, px_l100, px_l107, px_l116, px_l149, px_l150, px_l348, px_l464, px_l600, px_sa, nI_leI, nI_ltI, nI_eq, nI_add, pk_sub, pk_mul, pk_div, px_rm, nI_clamp, px_ck, px_eqm, px_meq, px_mm, px_mlt, px_mle, px_lem, px_ltm, px_mlem, Option.bind_some, px_b0, px_b1, px_ckb, px_if, px_if', ↓reduceIte]
  obtain ⟨⟨a1, a2, a3⟩, hA, hA2, hA3⟩ := A
  dsimp only at hA2 hA3
  have B : ∃ r, lp (f_X7_draw_b3 z) FU ((0 : Int32), a2, a3) = some r ∧ LM lay r.2.1 r.2.2 := by
    refine lp_inv (f := f_X7_draw_b3 z) (fun i s => s.1 = nI i ∧ LM (layN lay i) s.2.1 s.2.2) n _ ?_ ?_ FU 0 _ (by omega) (Nat.lt_of_le_of_lt (by omega : n - 0 ≤ 30) (by decide)) ⟨rfl, fun c hc => ?_⟩
    · rintro i ⟨s1, s2, s3⟩ hi ⟨h1, h2⟩
      dsimp only at h1 h2
      subst h1
      have hMi := hM i hi
      have I1 : ∃ r, lp (f_X7_draw_b2 z (nI i, s2, s3)) FU ((0 : Int32), upd s2 (M i) (nI i), upd s3 (M i) (nI 4)) = some r ∧ LM (layR lay i 4) r.2.1 r.2.2 := by
        refine lp_inv (f := f_X7_draw_b2 z (nI i, s2, s3)) (fun d s => s.1 = nI d ∧ LM (layR lay i d) s.2.1 s.2.2) 4 _ ?_ ?_ FU 0 _ (by omega) (by decide) ⟨rfl, ?_⟩
        · rintro d ⟨t1, t2, t3⟩ hd ⟨g1, g2⟩
          dsimp only at g1 g2
          subst g1
          have hb := bes_lt (M i) hMi d hd
          refine Or.inl ⟨(nI (d + 1), upd t2 (bes (M i) d) (nI i), upd t3 (bes (M i) d) (nI d)), ?_, rfl, ?_⟩
          · simp (disch := omega) only [f_X7_draw_b2, show ¬ 4 ≤ d from by omega, w7_mid hR hi hn, g7_bes (M i) hMi d hd, px_l0, px_l1, px_l2, px_l3, px_l4, px_l5, px_l6, px_l9, px_l10, px_l14, px_l15, px_l23, px_l24, px_l25, px_l26, px_l29, px_l30, px_l32, px_l43, px_l45, px_l48, px_l57, px_l59, px_l60, px_l64, px_l100, px_l107, px_l116, px_l149, px_l150, px_l348, px_l464, px_l600, px_sa, nI_leI, nI_ltI, nI_eq, nI_add, pk_sub, pk_mul, pk_div, px_rm, nI_clamp, px_ck, px_eqm, px_meq, px_mm, px_mlt, px_mle, px_lem, px_ltm, px_mlem, Option.bind_some, px_b0, px_b1, px_ckb, px_if, px_if', ↓reduceIte]
          · have e1 : bes (M i) d = cp (M i) d := (cp_d hd).symm
            rw [e1]
            exact g2.put (layR_at hL hi (by omega) (Or.inr (Nat.lt_succ_self d))) (layR_step hL hi hd)
        · rintro ⟨t1, t2, t3⟩ ⟨g1, g2⟩
          dsimp only at g1 g2
          subst g1
          refine ⟨(nI 4, t2, t3), ?_, g2⟩
          simp (disch := omega) only [f_X7_draw_b2, Nat.le_refl, px_l0, px_l1, px_l2, px_l3, px_l4, px_l5, px_l6, px_l9, px_l10, px_l14, px_l15, px_l23, px_l24, px_l25, px_l26, px_l29, px_l30, px_l32, px_l43, px_l45, px_l48, px_l57, px_l59, px_l60, px_l64, px_l100, px_l107, px_l116, px_l149, px_l150, px_l348, px_l464, px_l600, px_sa, nI_leI, nI_ltI, nI_eq, nI_add, pk_sub, pk_mul, pk_div, px_rm, nI_clamp, px_ck, px_eqm, px_meq, px_mm, px_mlt, px_mle, px_lem, px_ltm, px_mlem, Option.bind_some, px_b0, px_b1, px_ckb, px_if, px_if', ↓reduceIte]
        · dsimp only
          exact (h2.put (lay' := layR lay i 0) (c := cp (M i) 4) (i := i) (d := 4) (layR_at hL hi (by omega) (Or.inl rfl)) (layR_mid hL hi))
      obtain ⟨⟨b1, b2, b3⟩, hb, hb2⟩ := I1
      refine Or.inl ⟨(nI (i + 1), b2, b3), ?_, rfl, hb2.congr (layR_next hL)⟩
      simp (disch := omega) only [f_X7_draw_b3, h25, show ¬ n ≤ i from by omega, w7_mid hR hi hn, px_l0, px_l1, px_l2, px_l3, px_l4, px_l5, px_l6, px_l9, px_l10, px_l14, px_l15, px_l23, px_l24, px_l25, px_l26, px_l29, px_l30, px_l32, px_l43, px_l45, px_l48, px_l57, px_l59, px_l60, px_l64, px_l100, px_l107, px_l116, px_l149, px_l150, px_l348, px_l464, px_l600, px_sa, nI_leI, nI_ltI, nI_eq, nI_add, pk_sub, pk_mul, pk_div, px_rm, nI_clamp, px_ck, px_eqm, px_meq, px_mm, px_mlt, px_mle, px_lem, px_ltm, px_mlem, Option.bind_some, px_b0, px_b1, px_ckb, px_if, px_if', ↓reduceIte]
      rw [← px_l0, hb]
      simp (disch := omega) only [px_l0, px_l1, px_l2, px_l3, px_l4, px_l5, px_l6, px_l9, px_l10, px_l14, px_l15, px_l23, px_l24, px_l25, px_l26, px_l29, px_l30, px_l32, px_l43, px_l45, px_l48, px_l57, px_l59, px_l60, px_l64, px_l100, px_l107, px_l116, px_l149, px_l150, px_l348, px_l464, px_l600, px_sa, nI_leI, nI_ltI, nI_eq, nI_add, pk_sub, pk_mul, pk_div, px_rm, nI_clamp, px_ck, px_eqm, px_meq, px_mm, px_mlt, px_mle, px_lem, px_ltm, px_mlem, Option.bind_some, px_b0, px_b1, px_ckb, px_if, px_if', ↓reduceIte]
    · rintro ⟨s1, s2, s3⟩ ⟨h1, h2⟩
      dsimp only at h1 h2
      subst h1
      refine ⟨(nI n, s2, s3), ?_, h2.congr (layN_all hL)⟩
      simp (disch := omega) only [f_X7_draw_b3, h25, Nat.le_refl, px_l0, px_l1, px_l2, px_l3, px_l4, px_l5, px_l6, px_l9, px_l10, px_l14, px_l15, px_l23, px_l24, px_l25, px_l26, px_l29, px_l30, px_l32, px_l43, px_l45, px_l48, px_l57, px_l59, px_l60, px_l64, px_l100, px_l107, px_l116, px_l149, px_l150, px_l348, px_l464, px_l600, px_sa, nI_leI, nI_ltI, nI_eq, nI_add, pk_sub, pk_mul, pk_div, px_rm, nI_clamp, px_ck, px_eqm, px_meq, px_mm, px_mlt, px_mle, px_lem, px_ltm, px_mlem, Option.bind_some, px_b0, px_b1, px_ckb, px_if, px_if', ↓reduceIte]
    · have h4 : layN lay 0 c = none := by
        unfold layN
        cases lay c with
        | none => rfl
        | some q => dsimp only; rw [if_neg (Nat.not_lt_zero _)]
      rw [h4]
      exact ⟨fun _ => ⟨hA2 c hc, hA3 c hc⟩, fun a b q => by cases q⟩
  obtain ⟨⟨b1, b2, b3⟩, hB, hB2⟩ := B
  refine ⟨(b2, b3), ?_, hB2⟩
  unfold f_X7_draw
  rw [hA]
  show (lp (f_X7_draw_b3 z) FU ((0 : Int32), a2, a3)).bind _ = _
  rw [hB]
  rfl
