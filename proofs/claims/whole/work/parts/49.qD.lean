/-! THE START -/
def cc0 (q : Nat) : Nat := (q / 4 + q % 4) % 6
theorem cc0_lt {q : Nat} : cc0 q < 6 := by unfold cc0; omega
theorem s4_col : ∃ C0 : Nat → Int32, f_X4_init_t (fun _ => 0) = some C0 ∧ ∀ i, i < 24 → C0 i = nI (cc0 i) := by
  obtain ⟨⟨s1, s2⟩, h1, h2⟩ := lp_inv (f := f_X4_init_t_b2) (fun i s => s.1 = nI i ∧ ∀ q, q < 4 * i → s.2 q = nI (cc0 q)) 6 (fun s => ∀ q, q < 24 → s.2 q = nI (cc0 q)) (by
    rintro i ⟨s1, s2⟩ hi ⟨g1, g2⟩
    dsimp only at g1 g2
    subst g1
    obtain ⟨⟨t1, t2⟩, k1, k2⟩ := lp_inv (f := f_X4_init_t_b1 (nI i, s2)) (fun j s => s.1 = nI j ∧ ∀ q, q < 4 * i + j → s.2 q = nI (cc0 q)) 4 (fun s => ∀ q, q < 4 * i + 4 → s.2 q = nI (cc0 q)) (by
      rintro j ⟨s1, s2⟩ hj ⟨g1, g2⟩
      dsimp only at g1 g2
      subst g1
      refine Or.inl ⟨(nI (j + 1), upd s2 (4 * i + j) (nI ((i + j) % 6))), ?_, rfl, fun q hq => ?_⟩
      · simp (disch := omega) only [f_X4_init_t_b1, show ¬ 4 ≤ j from by omega, px_l0, px_l1, px_l2, px_l3, px_l4, px_l5, px_l6, px_l9, px_l10, px_l14, px_l15, px_l23, px_l24, px_l25, px_l26, px_l29, px_l30, px_l32, px_l43, px_l45, px_l48, px_l57, px_l59, px_l60, px_l64, px_l100, px_l107, px_l116, px_l149, px_l150, px_l348, px_l464, px_l600, px_sa, nI_leI, nI_ltI, nI_eq, nI_add, pk_sub, pk_mul, pk_div, px_rm, nI_clamp, px_ck, px_eqm, px_meq, px_mm, px_mlt, px_mle, px_lem, px_ltm, px_mlem, Option.bind_some, px_b0, px_b1, px_ckb, px_if, px_if', ↓reduceIte]
      · dsimp only
        rw [px_upd]
        split
        · rename_i h
          subst h
          unfold cc0
          congr 1
          omega
        · exact g2 q (by omega)) (by
      rintro ⟨s1, s2⟩ ⟨g1, g2⟩
      dsimp only at g1 g2
      subst g1
      exact ⟨(nI 4, s2), by simp (disch := omega) only [f_X4_init_t_b1, Nat.le_refl, px_l0, px_l1, px_l2, px_l3, px_l4, px_l5, px_l6, px_l9, px_l10, px_l14, px_l15, px_l23, px_l24, px_l25, px_l26, px_l29, px_l30, px_l32, px_l43, px_l45, px_l48, px_l57, px_l59, px_l60, px_l64, px_l100, px_l107, px_l116, px_l149, px_l150, px_l348, px_l464, px_l600, px_sa, nI_leI, nI_ltI, nI_eq, nI_add, pk_sub, pk_mul, pk_div, px_rm, nI_clamp, px_ck, px_eqm, px_meq, px_mm, px_mlt, px_mle, px_lem, px_ltm, px_mlem, Option.bind_some, px_b0, px_b1, px_ckb, px_if, px_if', ↓reduceIte], g2⟩) FU 0 (nI 0, s2) (Nat.zero_le _) (by decide) ⟨rfl, fun q hq => g2 q (by omega)⟩
    refine Or.inl ⟨(nI (i + 1), t2), ?_, rfl, fun q hq => k2 q (by omega)⟩
    simp (disch := omega) only [f_X4_init_t_b2, show ¬ 6 ≤ i from by omega, k1, px_l0, px_l1, px_l2, px_l3, px_l4, px_l5, px_l6, px_l9, px_l10, px_l14, px_l15, px_l23, px_l24, px_l25, px_l26, px_l29, px_l30, px_l32, px_l43, px_l45, px_l48, px_l57, px_l59, px_l60, px_l64, px_l100, px_l107, px_l116, px_l149, px_l150, px_l348, px_l464, px_l600, px_sa, nI_leI, nI_ltI, nI_eq, nI_add, pk_sub, pk_mul, pk_div, px_rm, nI_clamp, px_ck, px_eqm, px_meq, px_mm, px_mlt, px_mle, px_lem, px_ltm, px_mlem, Option.bind_some, px_b0, px_b1, px_ckb, px_if, px_if', ↓reduceIte]) (by
    rintro ⟨s1, s2⟩ ⟨g1, g2⟩
    dsimp only at g1 g2
    subst g1
    exact ⟨(nI 6, s2), by simp (disch := omega) only [f_X4_init_t_b2, Nat.le_refl, px_l0, px_l1, px_l2, px_l3, px_l4, px_l5, px_l6, px_l9, px_l10, px_l14, px_l15, px_l23, px_l24, px_l25, px_l26, px_l29, px_l30, px_l32, px_l43, px_l45, px_l48, px_l57, px_l59, px_l60, px_l64, px_l100, px_l107, px_l116, px_l149, px_l150, px_l348, px_l464, px_l600, px_sa, nI_leI, nI_ltI, nI_eq, nI_add, pk_sub, pk_mul, pk_div, px_rm, nI_clamp, px_ck, px_eqm, px_meq, px_mm, px_mlt, px_mle, px_lem, px_ltm, px_mlem, Option.bind_some, px_b0, px_b1, px_ckb, px_if, px_if', ↓reduceIte], g2⟩) FU 0 (nI 0, fun _ => 0) (Nat.zero_le _) (by decide) ⟨rfl, fun q hq => by omega⟩
  refine ⟨s2, ?_, h2⟩
  unfold f_X4_init_t
  rw [show lp f_X4_init_t_b2 FU (0, fun _ => 0) = _ from h1]
  rfl
theorem s7_col : ∃ Z0 : Nat → Int32, lp f_X7_init_t_b1 FU (nI 0, fun _ => 0) = some (nI 24, Z0) ∧ (∀ i, i < 24 → Z0 i = nI (cc0 i)) ∧ Z0 24 = nI 0 ∧ Z0 25 = nI 0 := by
  obtain ⟨⟨s1, s2⟩, h1, h2, h3, h4, h5⟩ := lp_inv (f := f_X7_init_t_b1) (fun i s => s.1 = nI i ∧ (∀ q, q < i → s.2 q = nI (cc0 q)) ∧ s.2 24 = nI 0 ∧ s.2 25 = nI 0) 24 (fun s => s.1 = nI 24 ∧ (∀ q, q < 24 → s.2 q = nI (cc0 q)) ∧ s.2 24 = nI 0 ∧ s.2 25 = nI 0) (by
    rintro i ⟨s1, s2⟩ hi ⟨g1, g2, g3, g4⟩
    dsimp only at g1 g2 g3 g4
    subst g1
    refine Or.inl ⟨(nI (i + 1), upd s2 i (nI (cc0 i))), ?_, rfl, fun q hq => ?_, ?_, ?_⟩
    · unfold cc0
      simp (disch := omega) only [f_X7_init_t_b1, show ¬ 24 ≤ i from by omega, px_l0, px_l1, px_l2, px_l3, px_l4, px_l5, px_l6, px_l9, px_l10, px_l14, px_l15, px_l23, px_l24, px_l25, px_l26, px_l29, px_l30, px_l32, px_l43, px_l45, px_l48, px_l57, px_l59, px_l60, px_l64, px_l100, px_l107, px_l116, px_l149, px_l150, px_l348, px_l464, px_l600, px_sa, nI_leI, nI_ltI, nI_eq, nI_add, pk_sub, pk_mul, pk_div, px_rm, nI_clamp, px_ck, px_eqm, px_meq, px_mm, px_mlt, px_mle, px_lem, px_ltm, px_mlem, Option.bind_some, px_b0, px_b1, px_ckb, px_if, px_if', ↓reduceIte]
    · dsimp only
      rw [px_upd]
      split
      · rename_i h; rw [h]
      · exact g2 q (by omega)
    · dsimp only
      rw [px_une (by omega)]; exact g3
    · dsimp only
      rw [px_une (by omega)]; exact g4) (by
    rintro ⟨s1, s2⟩ ⟨g1, g2⟩
    dsimp only at g1 g2
    subst g1
    exact ⟨(nI 24, s2), by simp (disch := omega) only [f_X7_init_t_b1, Nat.le_refl, px_l0, px_l1, px_l2, px_l3, px_l4, px_l5, px_l6, px_l9, px_l10, px_l14, px_l15, px_l23, px_l24, px_l25, px_l26, px_l29, px_l30, px_l32, px_l43, px_l45, px_l48, px_l57, px_l59, px_l60, px_l64, px_l100, px_l107, px_l116, px_l149, px_l150, px_l348, px_l464, px_l600, px_sa, nI_leI, nI_ltI, nI_eq, nI_add, pk_sub, pk_mul, pk_div, px_rm, nI_clamp, px_ck, px_eqm, px_meq, px_mm, px_mlt, px_mle, px_lem, px_ltm, px_mlem, Option.bind_some, px_b0, px_b1, px_ckb, px_if, px_if', ↓reduceIte], rfl, g2⟩) FU 0 (nI 0, fun _ => 0) (Nat.zero_le _) (by decide) ⟨rfl, fun q hq => by omega, rfl, rfl⟩
  dsimp only at h2 h3 h4 h5
  subst h2
  exact ⟨s2, h1, h3, h4, h5⟩
theorem e_start : ∃ (C0 : Nat → Int32) (L0 : (Nat → Int32) × (Nat → Int32)) (M0 : (Nat → Int32) × (Nat → Int32) × (Nat → Int32)), f_X4_init_t (fun _ => 0) = some C0 ∧ f_X1_layOut 0 (fun _ => 0) (fun _ => 0) (fun _ => 0) = some L0 ∧ f_X7_init_t (fun _ => 0) (fun _ => 0) (fun _ => 0) = some M0 ∧ RA 0 0 (fun _ => 0) (fun _ => 0) (fun _ => 0) C0 L0.1 L0.2 M0.1 M0.2.1 M0.2.2 := by
  obtain ⟨C0, a1, a2⟩ := s4_col
  obtain ⟨Z0, b1, b2, b3, b4⟩ := s7_col
  have hV : RV (nI 0) (nI 0) (fun _ => 0) (fun _ => 0) (fun _ => 0) C0 Z0 := by
    refine ⟨0, 0, fun _ => 0, fun _ => 0, fun _ => 0, cc0, ⟨by omega, by omega, fun i hi => absurd hi (Nat.not_lt_zero i), fun i hi => cc0_lt⟩, fun i j d e hi => absurd hi (Nat.not_lt_zero i), ?_, rfl, rfl, ⟨fun i hi => absurd hi (Nat.not_lt_zero i), a2⟩, b2, b3, b4, fun i hi => absurd hi (Nat.not_lt_zero i)⟩
    rintro ⟨i, j, hi, -⟩
    exact Nat.not_lt_zero i hi
  obtain ⟨c, m, d1, d2, d3⟩ := hV.out (fun _ => 0) (fun _ => 0) (fun _ => 0) (fun _ => 0)
  refine ⟨C0, c, (Z0, m.1, m.2), a1, d1, ?_, d3⟩
  unfold f_X7_init_t
  rw [show lp f_X7_init_t_b1 FU (0, fun _ => 0) = _ from b1, Option.bind_some]
  dsimp only
  rw [d2]
  rfl
