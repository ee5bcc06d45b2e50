/-! keep, restore, undo -/
theorem c4_copy (STru STco : Int32) (STKa STTa STMa STCa : Nat → Int32) (OTru OTco : Int32) (OTKa OTTa OTMa OTCa : Nat → Int32) :
    ∃ (a b c d : Nat → Int32), f_X4_copyFrom STru STco STKa STTa STMa STCa OTru OTco OTKa OTTa OTMa OTCa = some (OTru, OTco, a, b, c, d) ∧ (∀ i, i < 30 → a i = OTKa i) ∧ (∀ i, i < 30 → b i = OTTa i) ∧ (∀ i, i < 30 → c i = OTMa i) ∧ ∀ i, i < 24 → d i = OTCa i :=
  ⟨_, _, _, _, rfl, fun i hi => px_cpy (n := 30) hi (by omega), fun i hi => px_cpy (n := 30) hi (by omega), fun i hi => px_cpy (n := 30) hi (by omega), fun i hi => px_cpy (n := 24) hi (by omega)⟩
theorem e_keep {NWru : Int32} {NWco : Int32} {NWKa : Nat → Int32} {NWTa : Nat → Int32} {NWMa : Nat → Int32} {NWCa : Nat → Int32} {SNru : Int32} {SNco : Int32} {SNKa : Nat → Int32} {SNTa : Nat → Int32} {SNMa : Nat → Int32} {SNCa : Nat → Int32} {CAow : Nat → Int32} {CApa : Nat → Int32} {XXhs : Int32} {MOik : Int32} {MOza : Nat → Int32} {MOke : Nat → Int32} {MOon : Nat → Int32} {MOwy : Nat → Int32} (hA : RA NWru NWco NWKa NWTa NWMa NWCa CAow CApa MOza MOon MOwy) :
    ∃ oc om, f_X6_keep NWru NWco NWKa NWTa NWMa NWCa SNru SNco SNKa SNTa SNMa SNCa XXhs = some oc ∧ f_X7_keep MOik MOza MOke = some om ∧ oc.1 = om.1 ∧ RS oc.2.2.2.2.2.2.2 oc.2.1 oc.2.2.1 oc.2.2.2.1 oc.2.2.2.2.1 oc.2.2.2.2.2.1 oc.2.2.2.2.2.2.1 om.2.1 om.2.2 := by
  obtain ⟨a, b, c, d, h0, h1, h2, h3, h4⟩ := c4_copy SNru SNco SNKa SNTa SNMa SNCa NWru NWco NWKa NWTa NWMa NWCa
  obtain ⟨w, w1, w2⟩ := px_cpyloop (f := f_X7_keep_b1 MOza) MOza 116 (by omega) (fun i t hi => by simp (disch := omega) only [f_X7_keep_b1, show ¬ 116 ≤ i from by omega, px_l0, px_l1, px_l2, px_l3, px_l4, px_l5, px_l6, px_l9, px_l10, px_l14, px_l15, px_l23, px_l24, px_l25, px_l26, px_l29, px_l30, px_l32, px_l43, px_l45, px_l48, px_l57, px_l59, px_l60, px_l64, px_l100, px_l107, px_l116, px_l149, px_l150, px_l348, px_l464, px_l600, px_sa, nI_leI, nI_ltI, nI_eq, nI_add, pk_sub, pk_mul, pk_div, px_rm, nI_clamp, px_ck, px_eqm, px_meq, px_mm, px_mlt, px_mle, px_lem, px_ltm, px_mlem, Option.bind_some, px_b0, px_b1, px_ckb, px_if, px_if', ↓reduceIte]) (fun t => by simp (disch := omega) only [f_X7_keep_b1, Nat.le_refl, px_l0, px_l1, px_l2, px_l3, px_l4, px_l5, px_l6, px_l9, px_l10, px_l14, px_l15, px_l23, px_l24, px_l25, px_l26, px_l29, px_l30, px_l32, px_l43, px_l45, px_l48, px_l57, px_l59, px_l60, px_l64, px_l100, px_l107, px_l116, px_l149, px_l150, px_l348, px_l464, px_l600, px_sa, nI_leI, nI_ltI, nI_eq, nI_add, pk_sub, pk_mul, pk_div, px_rm, nI_clamp, px_ck, px_eqm, px_meq, px_mm, px_mlt, px_mle, px_lem, px_ltm, px_mlem, Option.bind_some, px_b0, px_b1, px_ckb, px_if, px_if', ↓reduceIte]) MOke
  unfold f_X6_keep f_X7_keep
  have h25 : NWco = MOza 25 := by
    obtain ⟨n, r, K, T, M, C, lay, hG, e1, e2, hRC, hRM, hLC, hLM⟩ := hA
    rw [e2, hRM.2.2.1]
  simp (disch := omega) only [h0, w1, px_l0, px_l1, px_l2, px_l3, px_l4, px_l5, px_l6, px_l9, px_l10, px_l14, px_l15, px_l23, px_l24, px_l25, px_l26, px_l29, px_l30, px_l32, px_l43, px_l45, px_l48, px_l57, px_l59, px_l60, px_l64, px_l100, px_l107, px_l116, px_l149, px_l150, px_l348, px_l464, px_l600, px_sa, nI_leI, nI_ltI, nI_eq, nI_add, pk_sub, pk_mul, pk_div, px_rm, nI_clamp, px_ck, px_eqm, px_meq, px_mm, px_mlt, px_mle, px_lem, px_ltm, px_mlem, Option.bind_some, px_b0, px_b1, px_ckb, px_if, px_if', ↓reduceIte]
  exact ⟨_, _, rfl, rfl, h25, Or.inr ⟨rfl, rfl, hA.rv.congr h1 h2 h3 h4 w2⟩⟩
theorem e_restore {NWru : Int32} {NWco : Int32} {NWKa : Nat → Int32} {NWTa : Nat → Int32} {NWMa : Nat → Int32} {NWCa : Nat → Int32} {BEru : Int32} {BEco : Int32} {BEKa : Nat → Int32} {BETa : Nat → Int32} {BEMa : Nat → Int32} {BECa : Nat → Int32} {SNru : Int32} {SNco : Int32} {SNKa : Nat → Int32} {SNTa : Nat → Int32} {SNMa : Nat → Int32} {SNCa : Nat → Int32} {CAow : Nat → Int32} {CApa : Nat → Int32} {PAco : Int32} {PAv : PV} {XXhs : Int32} {MOst : Int32} {MOik : Int32} {MOza : Nat → Int32} {MObe : Nat → Int32} {MOke : Nat → Int32} {MOon : Nat → Int32} {MOwy : Nat → Int32} (hA : RA NWru NWco NWKa NWTa NWMa NWCa CAow CApa MOza MOon MOwy) (hH : RH PAco PAv MOst MObe) (hS : RS XXhs SNru SNco SNKa SNTa SNMa SNCa MOik MOke) :
    ∃ oc om, f_X6_restore NWru NWco NWKa NWTa NWMa NWCa BEru BEco BEKa BETa BEMa BECa SNru SNco SNKa SNTa SNMa SNCa CAow CApa PAco PAv XXhs = some oc ∧ f_X7_restore MOst MOik MOza MObe MOke MOon MOwy = some om ∧ oc.1 = om.1 ∧ RA oc.2.1 oc.2.2.1 oc.2.2.2.1 oc.2.2.2.2.1 oc.2.2.2.2.2.1 oc.2.2.2.2.2.2.1 oc.2.2.2.2.2.2.2.2.2.2.2.2.2.1 oc.2.2.2.2.2.2.2.2.2.2.2.2.2.2.1 om.2.2.1 om.2.2.2.2.1 om.2.2.2.2.2 ∧ RH oc.2.2.2.2.2.2.2.2.2.2.2.2.2.2.2.1 oc.2.2.2.2.2.2.2.2.2.2.2.2.2.2.2.2 om.2.1 om.2.2.2.1 := by
  have same := And.intro hA hH
  unfold f_X6_restore f_X7_restore
  rcases hS with ⟨rfl, rfl⟩ | ⟨rfl, rfl, hV⟩
  · simp (disch := omega) only [px_l0, px_l1, px_l2, px_l3, px_l4, px_l5, px_l6, px_l9, px_l10, px_l14, px_l15, px_l23, px_l24, px_l25, px_l26, px_l29, px_l30, px_l32, px_l43, px_l45, px_l48, px_l57, px_l59, px_l60, px_l64, px_l100, px_l107, px_l116, px_l149, px_l150, px_l348, px_l464, px_l600, px_sa, nI_leI, nI_ltI, nI_eq, nI_add, pk_sub, pk_mul, pk_div, px_rm, nI_clamp, px_ck, px_eqm, px_meq, px_mm, px_mlt, px_mle, px_lem, px_ltm, px_mlem, Option.bind_some, px_b0, px_b1, px_ckb, px_if, px_if', ↓reduceIte]
    exact ⟨_, _, rfl, rfl, rfl, same⟩
  · obtain ⟨b, b0, b1, b2, b3, b4, b5, b6⟩ := c6_begin NWru NWco NWKa NWTa NWMa NWCa BEru BEco BEKa BETa BEMa BECa
    have hRV : RV b.1 b.2.1 b.2.2.1 b.2.2.2.1 b.2.2.2.2.1 b.2.2.2.2.2 MOza := by
      rw [b1, b2]
      exact hA.rv.congr b3 b4 b5 b6 (fun _ _ => rfl)
    obtain ⟨c, q, x1, x2, x3⟩ := RH_add hRV hH
    obtain ⟨a1, a2, a3, a4, h0, h1, h2, h3, h4⟩ := c4_copy NWru NWco NWKa NWTa NWMa NWCa SNru SNco SNKa SNTa SNMa SNCa
    obtain ⟨w, w1, w2⟩ := px_cpyloop (f := f_X7_restore_b1 MOke) MOke 116 (by omega) (fun i t hi => by simp (disch := omega) only [f_X7_restore_b1, show ¬ 116 ≤ i from by omega, px_l0, px_l1, px_l2, px_l3, px_l4, px_l5, px_l6, px_l9, px_l10, px_l14, px_l15, px_l23, px_l24, px_l25, px_l26, px_l29, px_l30, px_l32, px_l43, px_l45, px_l48, px_l57, px_l59, px_l60, px_l64, px_l100, px_l107, px_l116, px_l149, px_l150, px_l348, px_l464, px_l600, px_sa, nI_leI, nI_ltI, nI_eq, nI_add, pk_sub, pk_mul, pk_div, px_rm, nI_clamp, px_ck, px_eqm, px_meq, px_mm, px_mlt, px_mle, px_lem, px_ltm, px_mlem, Option.bind_some, px_b0, px_b1, px_ckb, px_if, px_if', ↓reduceIte]) (fun t => by simp (disch := omega) only [f_X7_restore_b1, Nat.le_refl, px_l0, px_l1, px_l2, px_l3, px_l4, px_l5, px_l6, px_l9, px_l10, px_l14, px_l15, px_l23, px_l24, px_l25, px_l26, px_l29, px_l30, px_l32, px_l43, px_l45, px_l48, px_l57, px_l59, px_l60, px_l64, px_l100, px_l107, px_l116, px_l149, px_l150, px_l348, px_l464, px_l600, px_sa, nI_leI, nI_ltI, nI_eq, nI_add, pk_sub, pk_mul, pk_div, px_rm, nI_clamp, px_ck, px_eqm, px_meq, px_mm, px_mlt, px_mle, px_lem, px_ltm, px_mlem, Option.bind_some, px_b0, px_b1, px_ckb, px_if, px_if', ↓reduceIte]) MOza
    have hV' : RV SNru SNco a1 a2 a3 a4 w := hV.congr h1 h2 h3 h4 w2
    obtain ⟨u, v, u1, v1, hR⟩ := hV'.out CAow CApa MOon MOwy
    obtain ⟨n, hn, hco⟩ : ∃ n, n ≤ 30 ∧ SNco = nI n := by
      obtain ⟨n, r, K, T, M, C, g1, g2, g3, g4, g5, g6, g7⟩ := hV
      exact ⟨n, g1.1, g5⟩
    have h25 : w 25 = nI n := by
      obtain ⟨n', r, K, T, M, C, g1, g2, g3, g4, g5, g6, g7⟩ := hV'
      rw [g7.2.2.1, ← g5, hco]
    subst hco
    simp (disch := omega) only [b0, x2, h0, w1, u1, v1, c6_good (show n < 2 ^ 31 by omega) x1, h25, show ¬ (1 = 0) from by decide, px_l0, px_l1, px_l2, px_l3, px_l4, px_l5, px_l6, px_l9, px_l10, px_l14, px_l15, px_l23, px_l24, px_l25, px_l26, px_l29, px_l30, px_l32, px_l43, px_l45, px_l48, px_l57, px_l59, px_l60, px_l64, px_l100, px_l107, px_l116, px_l149, px_l150, px_l348, px_l464, px_l600, px_sa, nI_leI, nI_ltI, nI_eq, nI_add, pk_sub, pk_mul, pk_div, px_rm, nI_clamp, px_ck, px_eqm, px_meq, px_mm, px_mlt, px_mle, px_lem, px_ltm, px_mlem, Option.bind_some, px_b0, px_b1, px_ckb, px_if, px_if', ↓reduceIte]
    exact ⟨_, _, rfl, rfl, rfl, hR, x3⟩
theorem e_undo {NWru : Int32} {NWco : Int32} {NWKa : Nat → Int32} {NWTa : Nat → Int32} {NWMa : Nat → Int32} {NWCa : Nat → Int32} {CAow : Nat → Int32} {CApa : Nat → Int32} {PAco : Int32} {PAv : PV} {MOst : Int32} {MOza : Nat → Int32} {MObe : Nat → Int32} {MOon : Nat → Int32} {MOwy : Nat → Int32} (hA : RA NWru NWco NWKa NWTa NWMa NWCa CAow CApa MOza MOon MOwy) (hH : RH PAco PAv MOst MObe) :
    ∃ oc om, f_X6_undo NWru NWco NWKa NWTa NWMa NWCa CAow CApa PAco PAv = some oc ∧ f_X7_undo MOst MOza MObe MOon MOwy = some om ∧ oc.1 = om.1 ∧ RA oc.2.1 oc.2.2.1 oc.2.2.2.1 oc.2.2.2.2.1 oc.2.2.2.2.2.1 oc.2.2.2.2.2.2.1 oc.2.2.2.2.2.2.2.1 oc.2.2.2.2.2.2.2.2.1 om.2.2.1 om.2.2.2.1 om.2.2.2.2 ∧ RH oc.2.2.2.2.2.2.2.2.2 PAv om.2.1 MObe := by
  have same := And.intro hA hH
  unfold f_X6_undo f_X7_undo f_X3_count
  obtain ⟨h, hh, rfl, rfl, hv⟩ := id hH
  rcases Nat.eq_zero_or_pos h with rfl | h0
  · simp (disch := omega) only [px_l0, px_l1, px_l2, px_l3, px_l4, px_l5, px_l6, px_l9, px_l10, px_l14, px_l15, px_l23, px_l24, px_l25, px_l26, px_l29, px_l30, px_l32, px_l43, px_l45, px_l48, px_l57, px_l59, px_l60, px_l64, px_l100, px_l107, px_l116, px_l149, px_l150, px_l348, px_l464, px_l600, px_sa, nI_leI, nI_ltI, nI_eq, nI_add, pk_sub, pk_mul, pk_div, px_rm, nI_clamp, px_ck, px_eqm, px_meq, px_mm, px_mlt, px_mle, px_lem, px_ltm, px_mlem, Option.bind_some, px_b0, px_b1, px_ckb, px_if, px_if', ↓reduceIte]
    exact ⟨_, _, rfl, rfl, rfl, same⟩
  · have hV := hv (h - 1) (by omega)
    have hH' : RH (nI (h - 1)) PAv (nI (h - 1)) MObe := ⟨h - 1, by omega, rfl, rfl, fun j hj => hv j (by omega)⟩
    obtain ⟨w, w1, w2⟩ := px_cpyloop (f := f_X7_undo_b1 (nI h) MObe) (fun i => MObe (116 * (h - 1) + i)) 116 (by omega) (fun i t hi => by simp (disch := omega) only [f_X7_undo_b1, show ¬ 116 ≤ i from by omega, px_l0, px_l1, px_l2, px_l3, px_l4, px_l5, px_l6, px_l9, px_l10, px_l14, px_l15, px_l23, px_l24, px_l25, px_l26, px_l29, px_l30, px_l32, px_l43, px_l45, px_l48, px_l57, px_l59, px_l60, px_l64, px_l100, px_l107, px_l116, px_l149, px_l150, px_l348, px_l464, px_l600, px_sa, nI_leI, nI_ltI, nI_eq, nI_add, pk_sub, pk_mul, pk_div, px_rm, nI_clamp, px_ck, px_eqm, px_meq, px_mm, px_mlt, px_mle, px_lem, px_ltm, px_mlem, Option.bind_some, px_b0, px_b1, px_ckb, px_if, px_if', ↓reduceIte]) (fun t => by simp (disch := omega) only [f_X7_undo_b1, Nat.le_refl, px_l0, px_l1, px_l2, px_l3, px_l4, px_l5, px_l6, px_l9, px_l10, px_l14, px_l15, px_l23, px_l24, px_l25, px_l26, px_l29, px_l30, px_l32, px_l43, px_l45, px_l48, px_l57, px_l59, px_l60, px_l64, px_l100, px_l107, px_l116, px_l149, px_l150, px_l348, px_l464, px_l600, px_sa, nI_leI, nI_ltI, nI_eq, nI_add, pk_sub, pk_mul, pk_div, px_rm, nI_clamp, px_ck, px_eqm, px_meq, px_mm, px_mlt, px_mle, px_lem, px_ltm, px_mlem, Option.bind_some, px_b0, px_b1, px_ckb, px_if, px_if', ↓reduceIte]) MOza
    have hg : pv_get PAv (nI h - 1) = some (pvi PAv (h - 1)) := by
      rw [px_l1, pk_sub (show 1 ≤ h from h0)]
      rcases (show h = 1 ∨ h = 2 ∨ h = 3 ∨ h = 4 by omega) with rfl | rfl | rfl | rfl <;> rfl
    have hpos : (0 : Int32) < nI h := by rw [px_l0]; exact nI_lt h0 (by omega)
    generalize pvi PAv (h - 1) = e at hV hg
    have hV' : RV e.2.1 e.2.2.1 (va_cpy e.2.2.2.1 NWKa (0 : Int32).toNatClampNeg (0 : Int32).toNatClampNeg (30 : Int32).toNatClampNeg) (va_cpy e.2.2.2.2.1 NWTa (0 : Int32).toNatClampNeg (0 : Int32).toNatClampNeg (30 : Int32).toNatClampNeg) (va_cpy e.2.2.2.2.2.1 NWMa (0 : Int32).toNatClampNeg (0 : Int32).toNatClampNeg (30 : Int32).toNatClampNeg) (va_cpy e.2.2.2.2.2.2 NWCa (0 : Int32).toNatClampNeg (0 : Int32).toNatClampNeg (24 : Int32).toNatClampNeg) w :=
      RV.congr hV (fun i hi => px_cpy (n := 30) hi (by omega)) (fun i hi => px_cpy (n := 30) hi (by omega)) (fun i hi => px_cpy (n := 30) hi (by omega)) (fun i hi => px_cpy (n := 24) hi (by omega)) w2
    have ht : f_X3_takeLatest NWru NWco NWKa NWTa NWMa NWCa (nI h) PAv = some (e.2.1, e.2.2.1, (va_cpy e.2.2.2.1 NWKa (0 : Int32).toNatClampNeg (0 : Int32).toNatClampNeg (30 : Int32).toNatClampNeg), (va_cpy e.2.2.2.2.1 NWTa (0 : Int32).toNatClampNeg (0 : Int32).toNatClampNeg (30 : Int32).toNatClampNeg), (va_cpy e.2.2.2.2.2.1 NWMa (0 : Int32).toNatClampNeg (0 : Int32).toNatClampNeg (30 : Int32).toNatClampNeg), (va_cpy e.2.2.2.2.2.2 NWCa (0 : Int32).toNatClampNeg (0 : Int32).toNatClampNeg (24 : Int32).toNatClampNeg), nI (h - 1)) := by
      unfold f_X3_takeLatest
      rw [if_pos hpos, hg, Option.bind_some, px_l1, pk_sub (show 1 ≤ h from h0)]
    generalize (va_cpy e.2.2.2.1 NWKa (0 : Int32).toNatClampNeg (0 : Int32).toNatClampNeg (30 : Int32).toNatClampNeg) = a1 at hV' ht
    generalize (va_cpy e.2.2.2.2.1 NWTa (0 : Int32).toNatClampNeg (0 : Int32).toNatClampNeg (30 : Int32).toNatClampNeg) = a2 at hV' ht
    generalize (va_cpy e.2.2.2.2.2.1 NWMa (0 : Int32).toNatClampNeg (0 : Int32).toNatClampNeg (30 : Int32).toNatClampNeg) = a3 at hV' ht
    generalize (va_cpy e.2.2.2.2.2.2 NWCa (0 : Int32).toNatClampNeg (0 : Int32).toNatClampNeg (24 : Int32).toNatClampNeg) = a4 at hV' ht
    obtain ⟨u, v, u1, v1, hR⟩ := hV'.out CAow CApa MOon MOwy
    simp (disch := omega) only [ht, u1, v1, w1, show ¬ h = 0 from by omega, px_l0, px_l1, px_l2, px_l3, px_l4, px_l5, px_l6, px_l9, px_l10, px_l14, px_l15, px_l23, px_l24, px_l25, px_l26, px_l29, px_l30, px_l32, px_l43, px_l45, px_l48, px_l57, px_l59, px_l60, px_l64, px_l100, px_l107, px_l116, px_l149, px_l150, px_l348, px_l464, px_l600, px_sa, nI_leI, nI_ltI, nI_eq, nI_add, pk_sub, pk_mul, pk_div, px_rm, nI_clamp, px_ck, px_eqm, px_meq, px_mm, px_mlt, px_mle, px_lem, px_ltm, px_mlem, Option.bind_some, px_b0, px_b1, px_ckb, px_if, px_if', ↓reduceIte]
    exact ⟨_, _, rfl, rfl, rfl, hR, hH'⟩
/-! texts -/
theorem px_char {v : Nat} (hv : v ≤ 65535) : vp_nar .char (nI v) = nI v := by
  have h : narrow .char (.int (nI v)) = .int (nI v) := nc_n ⟨nI_pos' (by omega), by rw [show (65535 : Int32) = nI 65535 from rfl, nI_leI (by omega) (by omega)]; exact hv⟩
  unfold vp_nar
  rw [h]
theorem e_type {TXle : Int32} {TXsi : Nat → Int32} {MOln : Int32} {MOtx : Nat → Int32} (hT : RT TXle TXsi MOln MOtx) {v : Nat} (hv : v ≤ 65535) :
    ∃ oc om, f_X6_type TXle TXsi (nI v) = some oc ∧ f_X7_type MOln MOtx (nI v) = some om ∧ oc.1 = om.1 ∧ RT oc.2.1 oc.2.2 om.2.1 om.2.2 := by
  obtain ⟨k, hk, rfl, rfl, h⟩ := id hT
  unfold f_X6_type f_X7_type f_X2_append f_X2_length
  by_cases h60 : k = 60
  · subst h60
    simp (disch := omega) only [Nat.lt_irrefl, px_l0, px_l1, px_l2, px_l3, px_l4, px_l5, px_l6, px_l9, px_l10, px_l14, px_l15, px_l23, px_l24, px_l25, px_l26, px_l29, px_l30, px_l32, px_l43, px_l45, px_l48, px_l57, px_l59, px_l60, px_l64, px_l100, px_l107, px_l116, px_l149, px_l150, px_l348, px_l464, px_l600, px_sa, nI_leI, nI_ltI, nI_eq, nI_add, pk_sub, pk_mul, pk_div, px_rm, nI_clamp, px_ck, px_eqm, px_meq, px_mm, px_mlt, px_mle, px_lem, px_ltm, px_mlem, Option.bind_some, px_b0, px_b1, px_ckb, px_if, px_if', ↓reduceIte]
    exact ⟨_, _, rfl, rfl, rfl, hT⟩
  · simp (disch := omega) only [h60, show k < 60 from by omega, show ¬ (1 = 0) from by decide, px_char hv, px_l0, px_l1, px_l2, px_l3, px_l4, px_l5, px_l6, px_l9, px_l10, px_l14, px_l15, px_l23, px_l24, px_l25, px_l26, px_l29, px_l30, px_l32, px_l43, px_l45, px_l48, px_l57, px_l59, px_l60, px_l64, px_l100, px_l107, px_l116, px_l149, px_l150, px_l348, px_l464, px_l600, px_sa, nI_leI, nI_ltI, nI_eq, nI_add, pk_sub, pk_mul, pk_div, px_rm, nI_clamp, px_ck, px_eqm, px_meq, px_mm, px_mlt, px_mle, px_lem, px_ltm, px_mlem, Option.bind_some, px_b0, px_b1, px_ckb, px_if, px_if', ↓reduceIte]
    refine ⟨_, _, rfl, rfl, rfl, k + 1, by omega, rfl, rfl, fun i hi => ?_⟩
    dsimp only
    by_cases hik : i = k
    · subst hik
      rw [px_ueq, px_ueq]
      exact ⟨rfl, v, hv, rfl⟩
    · rw [px_une hik, px_une hik]
      exact h i (by omega)
theorem px_i2c (x : Int32) : ∃ v : Nat, v ≤ 65535 ∧ (x.toUInt32 % 65536).toInt32 = nI v := by
  refine ⟨(x.toUInt32 % 65536).toNat, ?_, ?_⟩
  · have : (x.toUInt32 % 65536).toNat = x.toUInt32.toNat % 65536 := by
      rw [UInt32.toNat_mod]; rfl
    omega
  · generalize x.toUInt32 % 65536 = y
    apply Int32.toBitVec_inj.mp
    show y.toBitVec = BitVec.ofNat 32 y.toBitVec.toNat
    exact BitVec.eq_of_toNat_eq (by rw [BitVec.toNat_ofNat]; exact (Nat.mod_eq_of_lt y.toBitVec.isLt).symm)
theorem e_clearText {TXle : Int32} {TXsi : Nat → Int32} {MOln : Int32} {MOtx : Nat → Int32} (hT : RT TXle TXsi MOln MOtx) :
    ∃ oc om, f_X6_clearText TXle = some oc ∧ f_X7_clearText MOln = some om ∧ oc.1 = om.1 ∧ RT oc.2 TXsi om.2 MOtx := by
  obtain ⟨k, hk, rfl, rfl, h⟩ := hT
  exact ⟨_, _, rfl, rfl, rfl, 0, by omega, rfl, rfl, fun i hi => absurd hi (Nat.not_lt_zero i)⟩
/-! what there is -/
theorem e_colour {NWru : Int32} {NWco : Int32} {NWKa : Nat → Int32} {NWTa : Nat → Int32} {NWMa : Nat → Int32} {NWCa : Nat → Int32} {CAow : Nat → Int32} {CApa : Nat → Int32} {MOza : Nat → Int32} {MOon : Nat → Int32} {MOwy : Nat → Int32} (hA : RA NWru NWco NWKa NWTa NWMa NWCa CAow CApa MOza MOon MOwy) (p0 p1 : Int32) : ∃ o, f_X6_colour NWCa p0 p1 = some o ∧ f_X7_colour MOza p0 p1 = some o := by
  obtain ⟨n, r, K, T, M, C, lay, hG, rfl, rfl, hRC, hRM, hLC, hLM⟩ := id hA
  unfold f_X6_colour f_X7_colour
  rcases a_kind p0 with ⟨k, hk, rfl, c0, m0⟩ | ⟨c0, m0⟩
  · rcases a_dir p1 with ⟨a, ha, rfl, c1, m1⟩ | ⟨c1, m1⟩
    · have m1' : f_X7_in (nI a) (nI 0) (nI 3) = some (nI 1) := m1
      have hi : 4 * k + a < 24 := by omega
      simp (disch := omega) only [c0, m0, c1, m1', f_X4_colourOf, hRC.2 _ hi, hRM.1 _ hi, show ¬ (1 = 0) from by decide, px_l0, px_l1, px_l2, px_l3, px_l4, px_l5, px_l6, px_l9, px_l10, px_l14, px_l15, px_l23, px_l24, px_l25, px_l26, px_l29, px_l30, px_l32, px_l43, px_l45, px_l48, px_l57, px_l59, px_l60, px_l64, px_l100, px_l107, px_l116, px_l149, px_l150, px_l348, px_l464, px_l600, px_sa, nI_leI, nI_ltI, nI_eq, nI_add, pk_sub, pk_mul, pk_div, px_rm, nI_clamp, px_ck, px_eqm, px_meq, px_mm, px_mlt, px_mle, px_lem, px_ltm, px_mlem, Option.bind_some, px_b0, px_b1, px_ckb, px_if, px_if', ↓reduceIte]
      exact ⟨_, rfl, rfl⟩
    · rw [c0, m0]
      simp only [Option.bind_some, c1, m1]
      exact ⟨_, rfl, rfl⟩
  · rw [c0, m0]
    exact ⟨_, rfl, rfl⟩
theorem e_reason {NWru : Int32} {NWco : Int32} {NWKa : Nat → Int32} {NWTa : Nat → Int32} {NWMa : Nat → Int32} {NWCa : Nat → Int32} {CAow : Nat → Int32} {CApa : Nat → Int32} {MOza : Nat → Int32} {MOon : Nat → Int32} {MOwy : Nat → Int32} (hA : RA NWru NWco NWKa NWTa NWMa NWCa CAow CApa MOza MOon MOwy) (p0 p1 p2 : Int32) : ∃ o, f_X6_reason NWru NWco NWKa NWTa NWCa CAow CApa p0 p1 p2 = some o ∧ f_X7_reason MOza MOon MOwy p0 p1 p2 = some o := by
  obtain ⟨n, r, K, T, M, C, lay, hG, rfl, rfl, hRC, hRM, hLC, hLM⟩ := id hA
  obtain ⟨hO, hL, hN⟩ := id hG
  unfold f_X6_reason f_X7_reason
  rcases a_kind p0 with ⟨k, hk, rfl, c0, m0⟩ | ⟨c0, m0⟩
  · rcases a_cell p2 with ⟨m, hm, rfl, c1, m1⟩ | ⟨c1, m1⟩
    · rcases a_dir p1 with ⟨t, ht, rfl, c2, m2⟩ | ⟨c2, m2⟩
      · have m2' : f_X7_in (nI t) (nI 0) (nI 3) = some (nI 1) := m2
        simp (disch := omega) only [c0, m0, c1, m1, c2, m2', w1_why hO hL hRC hLC hk ht hm (-nI 1), w7_why hO hL hRM hLM hk ht hm, show ¬ (1 = 0) from by decide, px_l0, px_l1, px_l2, px_l3, px_l4, px_l5, px_l6, px_l9, px_l10, px_l14, px_l15, px_l23, px_l24, px_l25, px_l26, px_l29, px_l30, px_l32, px_l43, px_l45, px_l48, px_l57, px_l59, px_l60, px_l64, px_l100, px_l107, px_l116, px_l149, px_l150, px_l348, px_l464, px_l600, px_sa, nI_leI, nI_ltI, nI_eq, nI_add, pk_sub, pk_mul, pk_div, px_rm, nI_clamp, px_ck, px_eqm, px_meq, px_mm, px_mlt, px_mle, px_lem, px_ltm, px_mlem, Option.bind_some, px_b0, px_b1, px_ckb, px_if, px_if', ↓reduceIte]
        exact ⟨_, rfl, rfl⟩
      · rw [c0, m0]
        simp only [Option.bind_some, c1, m1, c2, m2]
        exact ⟨_, rfl, rfl⟩
    · rw [c0, m0]
      simp only [Option.bind_some, c1, m1]
      exact ⟨_, rfl, rfl⟩
  · rw [c0, m0]
    exact ⟨_, rfl, rfl⟩
section P34
variable {n r : Nat} {K T M C : Nat → Nat} {lay : Nat → Option (Nat × Nat)} {NWKa NWTa NWMa NWCa ow pa z on wy : Nat → Int32}
theorem w5_fb (hL : LY n M lay) (hn : n ≤ 30) (hl : LC lay ow pa) {c : Nat} (hc : c < 150) : f_X5_freeCellsBeside ow (nI c) = some (nI (smf (fun d => bN (frB lay (bes c d))) 4)) := by
  unfold f_X5_freeCellsBeside
  refine lp_detb (fun s => (nI (smf (fun d => bN (frB lay (bes c d))) s), nI s)) 4 (nI (smf (fun d => bN (frB lay (bes c d))) 4), nI 4) ?_ ?_ (by decide) rfl
  · intro s hs
    have h2 := bes_lt c hc s hs
    cases hb : frB lay (bes c s) <;> simp (disch := omega) only [f_X5_freeCellsBeside_b1, g0_bes c hc s hs, w1_free hL hn hl h2, hb, show ¬ 4 ≤ s from by omega, Bool.true_eq_false, smf, px_l0, px_l1, px_l2, px_l3, px_l4, px_l5, px_l6, px_l9, px_l10, px_l14, px_l15, px_l23, px_l24, px_l25, px_l26, px_l29, px_l30, px_l32, px_l43, px_l45, px_l48, px_l57, px_l59, px_l60, px_l64, px_l100, px_l107, px_l116, px_l149, px_l150, px_l348, px_l464, px_l600, px_sa, nI_leI, nI_ltI, nI_eq, nI_add, pk_sub, pk_mul, pk_div, px_rm, nI_clamp, px_ck, px_eqm, px_meq, px_mm, px_mlt, px_mle, px_lem, px_ltm, px_mlem, Option.bind_some, px_b0, px_b1, px_ckb, px_if, px_if', ↓reduceIte] <;> rfl
  · simp (disch := omega) only [f_X5_freeCellsBeside_b1, Nat.le_refl, px_l0, px_l1, px_l2, px_l3, px_l4, px_l5, px_l6, px_l9, px_l10, px_l14, px_l15, px_l23, px_l24, px_l25, px_l26, px_l29, px_l30, px_l32, px_l43, px_l45, px_l48, px_l57, px_l59, px_l60, px_l64, px_l100, px_l107, px_l116, px_l149, px_l150, px_l348, px_l464, px_l600, px_sa, nI_leI, nI_ltI, nI_eq, nI_add, pk_sub, pk_mul, pk_div, px_rm, nI_clamp, px_ck, px_eqm, px_meq, px_mm, px_mlt, px_mle, px_lem, px_ltm, px_mlem, Option.bind_some, px_b0, px_b1, px_ckb, px_if, px_if', ↓reduceIte]
theorem w7_on (hL : LY n M lay) (hn : n ≤ 30) (hl : LM lay on wy) {c : Nat} (hc : c < 150) : (nI 0 ≤ on c) ↔ frB lay c = false := by
  unfold frB
  cases h : lay c with
  | none =>
    rw [((hl c hc).1 h).1, px_lem (by omega) (by omega) (by omega)]
    simp
  | some q =>
    obtain ⟨g1, g2, -⟩ := hL.2 c q.1 q.2 hc h
    rw [((hl c hc).2 q.1 q.2 h).1, nI_leI (by omega) (by omega)]
    simp
theorem w7_fb (hL : LY n M lay) (hn : n ≤ 30) (hl : LM lay on wy) {c : Nat} (hc : c < 150) : f_X7_freeBeside on (nI c) = some (nI (smf (fun d => bN (frB lay (bes c d))) 4)) := by
  unfold f_X7_freeBeside
  refine lp_detb (fun s => (nI (smf (fun d => bN (frB lay (bes c d))) s), nI s)) 4 (nI (smf (fun d => bN (frB lay (bes c d))) 4), nI 4) ?_ ?_ (by decide) rfl
  · intro s hs
    have h2 := bes_lt c hc s hs
    have h3 := w7_on hL hn hl h2
    cases hb : frB lay (bes c s) <;> rw [hb] at h3 <;> simp (disch := omega) only [f_X7_freeBeside_b1, g7_bes c hc s hs, h3, hb, show ¬ 4 ≤ s from by omega, Bool.true_eq_false, smf, px_l0, px_l1, px_l2, px_l3, px_l4, px_l5, px_l6, px_l9, px_l10, px_l14, px_l15, px_l23, px_l24, px_l25, px_l26, px_l29, px_l30, px_l32, px_l43, px_l45, px_l48, px_l57, px_l59, px_l60, px_l64, px_l100, px_l107, px_l116, px_l149, px_l150, px_l348, px_l464, px_l600, px_sa, nI_leI, nI_ltI, nI_eq, nI_add, pk_sub, pk_mul, pk_div, px_rm, nI_clamp, px_ck, px_eqm, px_meq, px_mm, px_mlt, px_mle, px_lem, px_ltm, px_mlem, Option.bind_some, px_b0, px_b1, px_ckb, px_if, px_if', ↓reduceIte] <;> rfl
  · simp (disch := omega) only [f_X7_freeBeside_b1, Nat.le_refl, px_l0, px_l1, px_l2, px_l3, px_l4, px_l5, px_l6, px_l9, px_l10, px_l14, px_l15, px_l23, px_l24, px_l25, px_l26, px_l29, px_l30, px_l32, px_l43, px_l45, px_l48, px_l57, px_l59, px_l60, px_l64, px_l100, px_l107, px_l116, px_l149, px_l150, px_l348, px_l464, px_l600, px_sa, nI_leI, nI_ltI, nI_eq, nI_add, pk_sub, pk_mul, pk_div, px_rm, nI_clamp, px_ck, px_eqm, px_meq, px_mm, px_mlt, px_mle, px_lem, px_ltm, px_mlem, Option.bind_some, px_b0, px_b1, px_ckb, px_if, px_if', ↓reduceIte]
end P34
theorem e_cell {NWru : Int32} {NWco : Int32} {NWKa : Nat → Int32} {NWTa : Nat → Int32} {NWMa : Nat → Int32} {NWCa : Nat → Int32} {CAow : Nat → Int32} {CApa : Nat → Int32} {MOza : Nat → Int32} {MOon : Nat → Int32} {MOwy : Nat → Int32} (hA : RA NWru NWco NWKa NWTa NWMa NWCa CAow CApa MOza MOon MOwy) (p0 p1 : Int32) : ∃ o, f_X6_cell NWKa NWTa NWCa CAow CApa p0 p1 = some o ∧ f_X7_cell MOza MOon MOwy p0 p1 = some o := by
  obtain ⟨n, r, K, T, M, C, lay, hG, rfl, rfl, hRC, hRM, hLC, hLM⟩ := id hA
  obtain ⟨hO, hL, hN⟩ := id hG
  have hn := hO.1
  unfold f_X6_cell f_X7_cell
  rcases a_cell p0 with ⟨c, hc, rfl, c0, m0⟩ | ⟨c0, m0⟩
  · rw [c0, m0]
    have n10 : ¬ nI 1 = 0 := by decide +kernel
    simp only [Option.bind_some, w1_own hc, w1_part hc, n10, ↓reduceIte]
    have k1 : ∀ {t : Option Int32}, ck (nI c) 150 t = t := fun {t} => px_ck hc (by omega)
    have ha := w7_hasArm hL hLM hc
    by_cases h0 : p1 = 0
    · simp only [h0, ↓reduceIte, k1, nI_clamp (show c < 2 ^ 31 by omega)]
      cases hl : lay c with
      | none => rw [((hLC c hc).1 hl).1, ((hLM c hc).1 hl).1]; exact ⟨_, rfl, rfl⟩
      | some q =>
        obtain ⟨g1, g2, -⟩ := hL.2 c q.1 q.2 hc hl
        rw [((hLC c hc).2 q.1 q.2 hl).1, ((hLM c hc).2 q.1 q.2 hl).1]
        simp (disch := omega) only [px_l0, px_l1, px_l2, px_l3, px_l4, px_l5, px_l6, px_l9, px_l10, px_l14, px_l15, px_l23, px_l24, px_l25, px_l26, px_l29, px_l30, px_l32, px_l43, px_l45, px_l48, px_l57, px_l59, px_l60, px_l64, px_l100, px_l107, px_l116, px_l149, px_l150, px_l348, px_l464, px_l600, px_sa, nI_leI, nI_ltI, nI_eq, nI_add, pk_sub, pk_mul, pk_div, px_rm, nI_clamp, px_ck, px_eqm, px_meq, px_mm, px_mlt, px_mle, px_lem, px_ltm, px_mlem, Option.bind_some, px_b0, px_b1, px_ckb, px_if, px_if', ↓reduceIte]
        exact ⟨_, rfl, rfl⟩
    · by_cases h1 : p1 = 1
      · simp only [h0, h1, ↓reduceIte, k1, nI_clamp (show c < 2 ^ 31 by omega), show ¬ (1 : Int32) = 0 from by decide]
        cases hl : lay c with
        | none => rw [((hLC c hc).1 hl).1, ((hLM c hc).1 hl).2]; exact ⟨_, rfl, rfl⟩
        | some q =>
          obtain ⟨g1, g2, -⟩ := hL.2 c q.1 q.2 hc hl
          rw [((hLC c hc).2 q.1 q.2 hl).1, ((hLC c hc).2 q.1 q.2 hl).2, ((hLM c hc).2 q.1 q.2 hl).2]
          simp (disch := omega) only [px_l0, px_l1, px_l2, px_l3, px_l4, px_l5, px_l6, px_l9, px_l10, px_l14, px_l15, px_l23, px_l24, px_l25, px_l26, px_l29, px_l30, px_l32, px_l43, px_l45, px_l48, px_l57, px_l59, px_l60, px_l64, px_l100, px_l107, px_l116, px_l149, px_l150, px_l348, px_l464, px_l600, px_sa, nI_leI, nI_ltI, nI_eq, nI_add, pk_sub, pk_mul, pk_div, px_rm, nI_clamp, px_ck, px_eqm, px_meq, px_mm, px_mlt, px_mle, px_lem, px_ltm, px_mlem, Option.bind_some, px_b0, px_b1, px_ckb, px_if, px_if', ↓reduceIte]
          exact ⟨_, rfl, rfl⟩
      · by_cases h2 : p1 = 2
        · simp only [h0, h1, h2, ↓reduceIte, k1, show ¬ (2 : Int32) = 0 from by decide, show ¬ (2 : Int32) = 1 from by decide, ha, Option.bind_some]
          cases hl : lay c with
          | none =>
            have hb : armB lay c = false := by unfold armB; rw [hl]
            rw [((hLC c hc).1 hl).1, hb]
            simp (disch := omega) only [px_l0, px_l1, px_l2, px_l3, px_l4, px_l5, px_l6, px_l9, px_l10, px_l14, px_l15, px_l23, px_l24, px_l25, px_l26, px_l29, px_l30, px_l32, px_l43, px_l45, px_l48, px_l57, px_l59, px_l60, px_l64, px_l100, px_l107, px_l116, px_l149, px_l150, px_l348, px_l464, px_l600, px_sa, nI_leI, nI_ltI, nI_eq, nI_add, pk_sub, pk_mul, pk_div, px_rm, nI_clamp, px_ck, px_eqm, px_meq, px_mm, px_mlt, px_mle, px_lem, px_ltm, px_mlem, Option.bind_some, px_b0, px_b1, px_ckb, px_if, px_if', ↓reduceIte]
            exact ⟨_, rfl, rfl⟩
          | some q =>
            obtain ⟨i, d⟩ := q
            obtain ⟨g1, g2, -⟩ := hL.2 c i d hc hl
            rw [((hLC c hc).2 i d hl).1, ((hLC c hc).2 i d hl).2]
            by_cases hd : d < 4
            · have hb : armB lay c = true := by unfold armB; rw [hl]; exact decide_eq_true hd
              have hcc : ccl K T C lay c = col K T C i d := by unfold ccl; rw [hl]
              simp (disch := omega) only [hb, w7_armCol hO hL hRM hLM hc hb, hcc, w1_col hO hRC g1 hd, show ¬ d = 4 from by omega, Bool.true_eq_false, px_l0, px_l1, px_l2, px_l3, px_l4, px_l5, px_l6, px_l9, px_l10, px_l14, px_l15, px_l23, px_l24, px_l25, px_l26, px_l29, px_l30, px_l32, px_l43, px_l45, px_l48, px_l57, px_l59, px_l60, px_l64, px_l100, px_l107, px_l116, px_l149, px_l150, px_l348, px_l464, px_l600, px_sa, nI_leI, nI_ltI, nI_eq, nI_add, pk_sub, pk_mul, pk_div, px_rm, nI_clamp, px_ck, px_eqm, px_meq, px_mm, px_mlt, px_mle, px_lem, px_ltm, px_mlem, Option.bind_some, px_b0, px_b1, px_ckb, px_if, px_if', ↓reduceIte]
              exact ⟨_, rfl, rfl⟩
            · have hb : armB lay c = false := by unfold armB; rw [hl]; exact decide_eq_false hd
              simp (disch := omega) only [hb, show d = 4 from by omega, px_l0, px_l1, px_l2, px_l3, px_l4, px_l5, px_l6, px_l9, px_l10, px_l14, px_l15, px_l23, px_l24, px_l25, px_l26, px_l29, px_l30, px_l32, px_l43, px_l45, px_l48, px_l57, px_l59, px_l60, px_l64, px_l100, px_l107, px_l116, px_l149, px_l150, px_l348, px_l464, px_l600, px_sa, nI_leI, nI_ltI, nI_eq, nI_add, pk_sub, pk_mul, pk_div, px_rm, nI_clamp, px_ck, px_eqm, px_meq, px_mm, px_mlt, px_mle, px_lem, px_ltm, px_mlem, Option.bind_some, px_b0, px_b1, px_ckb, px_if, px_if', ↓reduceIte]
              exact ⟨_, rfl, rfl⟩
        · by_cases h3 : p1 = 3
          · simp only [h0, h1, h2, h3, ↓reduceIte, show ¬ (3 : Int32) = 0 from by decide, show ¬ (3 : Int32) = 1 from by decide, show ¬ (3 : Int32) = 2 from by decide, w5_fb hL hn hLC hc, w7_fb hL hn hLM hc]
            exact ⟨_, rfl, rfl⟩
          · simp only [h0, h1, h2, h3, ↓reduceIte]
            exact ⟨_, rfl, rfl⟩
  · rw [c0, m0]
    exact ⟨_, rfl, rfl⟩
