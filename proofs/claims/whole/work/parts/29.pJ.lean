theorem e_paint {NWru : Int32} {NWco : Int32} {NWKa : Nat → Int32} {NWTa : Nat → Int32} {NWMa : Nat → Int32} {NWCa : Nat → Int32} {BEru : Int32} {BEco : Int32} {BEKa : Nat → Int32} {BETa : Nat → Int32} {BEMa : Nat → Int32} {BECa : Nat → Int32} {CAow : Nat → Int32} {CApa : Nat → Int32} {PAco : Int32} {PAv : PV} {MOst : Int32} {MOza : Nat → Int32} {MOas : Nat → Int32} {MObe : Nat → Int32} {MOon : Nat → Int32} {MOwy : Nat → Int32} (hA : RA NWru NWco NWKa NWTa NWMa NWCa CAow CApa MOza MOon MOwy) (hH : RH PAco PAv MOst MObe) (p0 p1 p2 : Int32) :
    ∃ oc om, f_X6_paint NWru NWco NWKa NWTa NWMa NWCa BEru BEco BEKa BETa BEMa BECa CAow CApa PAco PAv p0 p1 p2 = some oc ∧ f_X7_paint MOst MOza MOas MObe MOon MOwy p0 p1 p2 = some om ∧ oc.1 = om.1 ∧ RA oc.2.1 oc.2.2.1 oc.2.2.2.1 oc.2.2.2.2.1 oc.2.2.2.2.2.1 oc.2.2.2.2.2.2.1 oc.2.2.2.2.2.2.2.2.2.2.2.2.2.1 oc.2.2.2.2.2.2.2.2.2.2.2.2.2.2.1 om.2.2.1 om.2.2.2.2.2.1 om.2.2.2.2.2.2 ∧ RH oc.2.2.2.2.2.2.2.2.2.2.2.2.2.2.2.1 oc.2.2.2.2.2.2.2.2.2.2.2.2.2.2.2.2 om.2.1 om.2.2.2.2.1 := by
  have same := And.intro hA hH
  unfold f_X6_paint f_X7_paint
  rcases a_kind p0 with ⟨k, hk, rfl, c0, m0⟩ | ⟨c0, m0⟩
  · rcases a_dir p1 with ⟨a, ha, rfl, c1, m1⟩ | ⟨c1, m1⟩
    · rw [c0, m0]
      simp only [Option.bind_some, c1, m1]
      rcases a_in p2 (b := 5) (by omega) with ⟨v, hv, rfl, m2⟩ | ⟨h2, m2⟩
      · obtain ⟨n, r, K, T, M, C, lay, hG, rfl, rfl, hRC, hRM, hLC, hLM⟩ := id hA
        obtain ⟨hO, hL, hN⟩ := id hG
        have hi : 4 * k + a < 24 := by omega
        have hcl : C (4 * k + a) < 6 := hO.2.2.2 _ hi
        have e0 : f_X4_colourOf NWCa (nI k) (nI a) = some (nI (C (4 * k + a))) := by
          simp (disch := omega) only [f_X4_colourOf, hRC.2 _ hi, px_l0, px_l1, px_l2, px_l3, px_l4, px_l5, px_l6, px_l9, px_l10, px_l14, px_l15, px_l23, px_l24, px_l25, px_l26, px_l29, px_l30, px_l32, px_l43, px_l45, px_l48, px_l57, px_l59, px_l60, px_l64, px_l100, px_l107, px_l116, px_l149, px_l150, px_l348, px_l464, px_l600, px_sa, nI_leI, nI_ltI, nI_eq, nI_add, pk_sub, pk_mul, pk_div, px_rm, nI_clamp, px_ck, px_eqm, px_meq, px_mm, px_mlt, px_mle, px_lem, px_ltm, px_mlem, Option.bind_some, px_b0, px_b1, px_ckb, px_if, px_if', ↓reduceIte]
        have e1 : f_X4_setColour NWCa (nI k) (nI a) (nI v) = some (upd NWCa (4 * k + a) (nI v)) := by
          simp (disch := omega) only [f_X4_setColour, px_l0, px_l1, px_l2, px_l3, px_l4, px_l5, px_l6, px_l9, px_l10, px_l14, px_l15, px_l23, px_l24, px_l25, px_l26, px_l29, px_l30, px_l32, px_l43, px_l45, px_l48, px_l57, px_l59, px_l60, px_l64, px_l100, px_l107, px_l116, px_l149, px_l150, px_l348, px_l464, px_l600, px_sa, nI_leI, nI_ltI, nI_eq, nI_add, pk_sub, pk_mul, pk_div, px_rm, nI_clamp, px_ck, px_eqm, px_meq, px_mm, px_mlt, px_mle, px_lem, px_ltm, px_mlem, Option.bind_some, px_b0, px_b1, px_ckb, px_if, px_if', ↓reduceIte]
        simp (disch := omega) only [m2, e0, e1, hRM.1 (4 * k + a) hi, show ¬ (1 = 0) from by decide, show v < 6 from by omega, Nat.not_lt_zero, px_l0, px_l1, px_l2, px_l3, px_l4, px_l5, px_l6, px_l9, px_l10, px_l14, px_l15, px_l23, px_l24, px_l25, px_l26, px_l29, px_l30, px_l32, px_l43, px_l45, px_l48, px_l57, px_l59, px_l60, px_l64, px_l100, px_l107, px_l116, px_l149, px_l150, px_l348, px_l464, px_l600, px_sa, nI_leI, nI_ltI, nI_eq, nI_add, pk_sub, pk_mul, pk_div, px_rm, nI_clamp, px_ck, px_eqm, px_meq, px_mm, px_mlt, px_mle, px_lem, px_ltm, px_mlem, Option.bind_some, px_b0, px_b1, px_ckb, px_if, px_if', ↓reduceIte]
        by_cases hv2 : v = C (4 * k + a)
        · subst hv2
          simp only [↓reduceIte]
          exact ⟨_, _, rfl, rfl, rfl, same⟩
        · have hv3 : ¬ C (4 * k + a) = v := fun q => hv2 q.symm
          simp only [hv2, hv3, ↓reduceIte]
          obtain ⟨b, b0, b1, b2, b3, b4, b5, b6⟩ := c6_begin (nI r) (nI n) NWKa NWTa NWMa NWCa BEru BEco BEKa BETa BEMa BECa
          obtain ⟨w, w0, w1⟩ := c7_aside MOza MOas
          have hO' := hO.colour (k := 4 * k + a) (show v < 6 by omega)
          have hRC' : RCa n K T M (fun i => if i = 4 * k + a then v else C i) NWKa NWTa NWMa (upd NWCa (4 * k + a) (nI v)) := ⟨hRC.1, px_updn hRC.2⟩
          have hRM' := hRM.colour (v := v) hi
          obtain ⟨hc, hc1, hc2⟩ := w1_hc hO' hL hRC' hLC
          simp only [b0, w0, hc1, Option.bind_some]
          have hRV : RV b.1 b.2.1 b.2.2.1 b.2.2.2.1 b.2.2.2.2.1 b.2.2.2.2.2 w := by
            rw [b1, b2]
            exact hA.rv.congr b3 b4 b5 b6 w1
          cases hc with
          | false =>
            have hN' : ¬ HC n r K T M (fun i => if i = 4 * k + a then v else C i) := fun q => by have := hc2.mpr q; cases this
            obtain ⟨c, m, x1, x2, x3⟩ := RH_add hRV hH
            obtain ⟨u, u1, u2⟩ := c7_good hO' hL hN' hRM' x2 MOon MOwy
            simp (disch := omega) only [u1, c6_good (show C (4 * k + a) < 2 ^ 31 by omega) x1, show ¬ (1 = 0) from by decide, bN, Bool.false_eq_true, px_l0, px_l1, px_l2, px_l3, px_l4, px_l5, px_l6, px_l9, px_l10, px_l14, px_l15, px_l23, px_l24, px_l25, px_l26, px_l29, px_l30, px_l32, px_l43, px_l45, px_l48, px_l57, px_l59, px_l60, px_l64, px_l100, px_l107, px_l116, px_l149, px_l150, px_l348, px_l464, px_l600, px_sa, nI_leI, nI_ltI, nI_eq, nI_add, pk_sub, pk_mul, pk_div, px_rm, nI_clamp, px_ck, px_eqm, px_meq, px_mm, px_mlt, px_mle, px_lem, px_ltm, px_mlem, Option.bind_some, px_b0, px_b1, px_ckb, px_if, px_if', ↓reduceIte]
            exact ⟨_, _, rfl, rfl, rfl, ⟨n, r, K, T, M, _, lay, ⟨hO', hL, hN'⟩, rfl, rfl, hRC', hRM', hLC, u2⟩, x3⟩
          | true =>
            have hN' := hc2.mp rfl
            obtain ⟨v', on', wy', u1, u2, u3⟩ := c7_bad hG hRM hO' hL hN' hRM' w1 MOst MObe MOon MOwy
            obtain ⟨ka, ta, ma, ca, ow, pa, y1, y2, y3⟩ := c6_bad hG b1 b2 (hRC.congr hO.1 b3 b4 b5 b6) (nI r) (nI n) NWKa NWTa NWMa (upd NWCa (4 * k + a) (nI v)) CAow CApa PAco PAv (b := 4) (by omega)
            simp (disch := omega) only [u1, y1, show ¬ (1 = 0) from by decide, bN, px_l0, px_l1, px_l2, px_l3, px_l4, px_l5, px_l6, px_l9, px_l10, px_l14, px_l15, px_l23, px_l24, px_l25, px_l26, px_l29, px_l30, px_l32, px_l43, px_l45, px_l48, px_l57, px_l59, px_l60, px_l64, px_l100, px_l107, px_l116, px_l149, px_l150, px_l348, px_l464, px_l600, px_sa, nI_leI, nI_ltI, nI_eq, nI_add, pk_sub, pk_mul, pk_div, px_rm, nI_clamp, px_ck, px_eqm, px_meq, px_mm, px_mlt, px_mle, px_lem, px_ltm, px_mlem, Option.bind_some, px_b0, px_b1, px_ckb, px_if, px_if', ↓reduceIte]
            exact ⟨_, _, rfl, rfl, rfl, ⟨n, r, K, T, M, C, lay, hG, rfl, rfl, y2, u2, y3, u3⟩, hH⟩
      · have m2' : f_X7_in p2 0 5 = some (nI 0) := m2
        rcases h2 with h2 | h2
        · simp only [m2', Option.bind_some, if_pos (show p2 < 0 from h2)]
          exact ⟨_, _, rfl, rfl, rfl, same⟩
        · have h3 : ¬ p2 < 6 := Int32.not_lt.mpr h2
          simp only [m2', Option.bind_some, h3, ↓reduceIte]
          by_cases h4 : p2 < 0
          · simp only [h4, ↓reduceIte]
            exact ⟨_, _, rfl, rfl, rfl, same⟩
          · simp only [h4, ↓reduceIte]
            exact ⟨_, _, rfl, rfl, rfl, same⟩
    · rw [c0, m0]
      simp only [Option.bind_some, c1, m1]
      exact ⟨_, _, rfl, rfl, rfl, same⟩
  · rw [c0, m0]
    exact ⟨_, _, rfl, rfl, rfl, same⟩
