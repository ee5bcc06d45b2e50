/-! AN ORDER, CARRIED OUT -/
/-- j of a kind's colours are others -/
def kC (C w : Nat → Nat) (a j : Nat) : Nat → Nat := fun q => if 4 * a ≤ q ∧ q < 4 * a + j then w (q - 4 * a) else C q
theorem kC_0 {C w : Nat → Nat} {a : Nat} : kC C w a 0 = C := by
  funext q
  unfold kC
  rw [if_neg (by omega)]
theorem kC_s {C w : Nat → Nat} {a j : Nat} : kC C w a (j + 1) = fun q => if q = 4 * a + j then w j else kC C w a j q := by
  funext q
  unfold kC
  by_cases h : q = 4 * a + j
  · rw [if_pos h, if_pos (by omega), h]
    congr 1; omega
  · rw [if_neg h]
    by_cases h2 : 4 * a ≤ q ∧ q < 4 * a + j
    · rw [if_pos h2, if_pos (by omega)]
    · rw [if_neg h2, if_neg (by omega)]
theorem okc_kC {n r a : Nat} {K T M C w : Nat → Nat} (hw : ∀ j, j < 4 → w j < 6) (h : OKs n r K T M C) : OKs n r K T M (kC C w a 4) := by
  obtain ⟨h1, h2, h3, h4⟩ := h
  refine ⟨h1, h2, h3, fun i hi => ?_⟩
  unfold kC
  split
  · exact hw _ (by omega)
  · exact h4 i hi
section P47
variable {n r : Nat} {K T M C : Nat → Nat} {lay : Nat → Option (Nat × Nat)} {NWKa NWTa NWMa NWCa ow pa z on wy : Nat → Int32}
theorem c1_arms (hR : RCa n K T M C NWKa NWTa NWMa NWCa) {a : Nat} (ha : a < 6) {w : Nat → Nat} {cl : Nat → Int32} (hw : ∀ j, j < 4 → cl j = nI (w j)) :
    ∃ ca, lp (f_X1_paintArms_b1 cl (nI a)) FU (nI 0, NWCa) = some (nI 4, ca) ∧ RCa n K T M (kC C w a 4) NWKa NWTa NWMa ca := by
  obtain ⟨⟨s1, s2⟩, h1, h2, h3⟩ := lp_inv (f := f_X1_paintArms_b1 cl (nI a)) (fun j s => s.1 = nI j ∧ ∀ q, q < 24 → s.2 q = nI (kC C w a j q)) 4 (fun s => s.1 = nI 4 ∧ ∀ q, q < 24 → s.2 q = nI (kC C w a 4 q)) (by
    rintro j ⟨s1, s2⟩ hj ⟨g1, g2⟩
    dsimp only at g1 g2
    subst g1
    refine Or.inl ⟨(nI (j + 1), upd s2 (4 * a + j) (nI (w j))), ?_, rfl, ?_⟩
    · simp (disch := omega) only [f_X1_paintArms_b1, f_X4_setColour, hw j hj, show ¬ 4 ≤ j from by omega, px_l0, px_l1, px_l2, px_l3, px_l4, px_l5, px_l6, px_l9, px_l10, px_l14, px_l15, px_l23, px_l24, px_l25, px_l26, px_l29, px_l30, px_l32, px_l43, px_l45, px_l48, px_l57, px_l59, px_l60, px_l64, px_l100, px_l107, px_l116, px_l149, px_l150, px_l348, px_l464, px_l600, px_sa, nI_leI, nI_ltI, nI_eq, nI_add, pk_sub, pk_mul, pk_div, px_rm, nI_clamp, px_ck, px_eqm, px_meq, px_mm, px_mlt, px_mle, px_lem, px_ltm, px_mlem, Option.bind_some, px_b0, px_b1, px_ckb, px_if, px_if', ↓reduceIte]
    · rw [kC_s]
      exact px_updn g2) (by
    rintro ⟨s1, s2⟩ ⟨g1, g2⟩
    dsimp only at g1 g2
    subst g1
    exact ⟨(nI 4, s2), by simp (disch := omega) only [f_X1_paintArms_b1, Nat.le_refl, px_l0, px_l1, px_l2, px_l3, px_l4, px_l5, px_l6, px_l9, px_l10, px_l14, px_l15, px_l23, px_l24, px_l25, px_l26, px_l29, px_l30, px_l32, px_l43, px_l45, px_l48, px_l57, px_l59, px_l60, px_l64, px_l100, px_l107, px_l116, px_l149, px_l150, px_l348, px_l464, px_l600, px_sa, nI_leI, nI_ltI, nI_eq, nI_add, pk_sub, pk_mul, pk_div, px_rm, nI_clamp, px_ck, px_eqm, px_meq, px_mm, px_mlt, px_mle, px_lem, px_ltm, px_mlem, Option.bind_some, px_b0, px_b1, px_ckb, px_if, px_if', ↓reduceIte], rfl, g2⟩) FU 0 (nI 0, NWCa) (Nat.zero_le _) (by decide) ⟨rfl, fun q hq => by rw [kC_0]; exact hR.2 q hq⟩
  dsimp only at h2 h3
  subst h2
  exact ⟨s2, h1, hR.1, h3⟩
theorem c7_arms (hR : RM n r K T M C z) {a : Nat} (ha : a < 6) {w : Nat → Nat} {nu : Nat → Int32} (h0 : nu 0 = nI a) (hw : ∀ j, j < 4 → nu (1 + j) = nI (w j)) :
    ∃ v, lp (f_X7_doOrder_b1 nu) FU (nI 0, z) = some (nI 4, v) ∧ RM n r K T M (kC C w a 4) v := by
  obtain ⟨⟨s1, s2⟩, h1, h2, h3⟩ := lp_inv (f := f_X7_doOrder_b1 nu) (fun j s => s.1 = nI j ∧ RM n r K T M (kC C w a j) s.2) 4 (fun s => s.1 = nI 4 ∧ RM n r K T M (kC C w a 4) s.2) (by
    rintro j ⟨s1, s2⟩ hj ⟨g1, g2⟩
    dsimp only at g1 g2
    subst g1
    refine Or.inl ⟨(nI (j + 1), upd s2 (4 * a + j) (nI (w j))), ?_, rfl, ?_⟩
    · simp (disch := omega) only [f_X7_doOrder_b1, h0, hw j hj, show ¬ 4 ≤ j from by omega, px_l0, px_l1, px_l2, px_l3, px_l4, px_l5, px_l6, px_l9, px_l10, px_l14, px_l15, px_l23, px_l24, px_l25, px_l26, px_l29, px_l30, px_l32, px_l43, px_l45, px_l48, px_l57, px_l59, px_l60, px_l64, px_l100, px_l107, px_l116, px_l149, px_l150, px_l348, px_l464, px_l600, px_sa, nI_leI, nI_ltI, nI_eq, nI_add, pk_sub, pk_mul, pk_div, px_rm, nI_clamp, px_ck, px_eqm, px_meq, px_mm, px_mlt, px_mle, px_lem, px_ltm, px_mlem, Option.bind_some, px_b0, px_b1, px_ckb, px_if, px_if', ↓reduceIte]
    · rw [kC_s]
      exact g2.colour (k := 4 * a + j) (v := w j) (by omega)) (by
    rintro ⟨s1, s2⟩ ⟨g1, g2⟩
    dsimp only at g1 g2
    subst g1
    exact ⟨(nI 4, s2), by simp (disch := omega) only [f_X7_doOrder_b1, Nat.le_refl, px_l0, px_l1, px_l2, px_l3, px_l4, px_l5, px_l6, px_l9, px_l10, px_l14, px_l15, px_l23, px_l24, px_l25, px_l26, px_l29, px_l30, px_l32, px_l43, px_l45, px_l48, px_l57, px_l59, px_l60, px_l64, px_l100, px_l107, px_l116, px_l149, px_l150, px_l348, px_l464, px_l600, px_sa, nI_leI, nI_ltI, nI_eq, nI_add, pk_sub, pk_mul, pk_div, px_rm, nI_clamp, px_ck, px_eqm, px_meq, px_mm, px_mlt, px_mle, px_lem, px_ltm, px_mlem, Option.bind_some, px_b0, px_b1, px_ckb, px_if, px_if', ↓reduceIte], rfl, g2⟩) FU 0 (nI 0, z) (Nat.zero_le _) (by decide) ⟨rfl, by rw [kC_0]; exact hR⟩
  dsimp only at h2 h3
  subst h2
  exact ⟨s2, h1, h3⟩
theorem px_m4 : (-4 : Int32) = -nI 4 := by decide +kernel
theorem px_m1 : (-1 : Int32) = -nI 1 := by decide +kernel
theorem e_order {NWru NWco : Int32} {CAow CApa MOza MOon MOwy : Nat → Int32} (hA : RA NWru NWco NWKa NWTa NWMa NWCa CAow CApa MOza MOon MOwy) {so ki tu ce : Int32} {cl : Nat → Int32} {le : Int32} {nu : Nat → Int32} (hV : OV so ki tu ce cl le nu) :
    ∃ (a : Int32) (co : Int32) (ka ta ma ca ow pa : Nat → Int32) (b : Int32) (za on wy : Nat → Int32), f_X6_carryOut NWru NWco NWKa NWTa NWMa NWCa CAow CApa so ki tu ce cl = some (a, co, ka, ta, ma, ca, ow, pa) ∧ f_X7_doOrder le MOza MOon MOwy nu = some (b, za, on, wy) ∧
      ((∃ q : Nat, q < 2 ^ 31 ∧ a = nI q ∧ b = nI 0 ∧ RA NWru co ka ta ma ca ow pa za on wy) ∨ (∃ q : Nat, 0 < q ∧ q < 100 ∧ a = -nI q ∧ b = -nI q)) := by
  obtain ⟨n, r, K, T, M, C, lay, hG, rfl, rfl, hRC, hRM, hLC, hLM⟩ := hA
  obtain ⟨hO, hL, hN⟩ := id hG
  have hn := hO.1
  have srt : ∀ s : Nat, s ≤ 65535 → f_X2_sort (nI s) = some (nI s) := fun s hs => px_ckP ⟨by rw [px_l0, nI_leI (by omega) (by omega)]; omega, by rw [show (65535 : Int32) = nI 65535 from id rfl, nI_leI (by omega) (by omega)]; exact hs⟩
  rcases hV with ⟨rfl, rfl, k, t, m, hk, ht, hm, rfl, rfl, rfl, n1, n2, n0⟩ | ⟨s, hs, rfl, rfl, c, hc, rfl, n0⟩ | ⟨rfl, rfl, k, w, hk, rfl, n0, hw⟩
  · have hnl := c7_noLay hG hRM hLM hk ht hm
    by_cases h0 : whyX n r K T C lay k t m (-nI 1) = 0
    · obtain ⟨hn30, lay', hG'⟩ := lay_gg hG hk ht hm h0
      obtain ⟨w, w1, w2⟩ := c1_lay0 hG hRC hLC hk ht hm h0 hn30 hG'
      obtain ⟨v, u, u1, u2, u3⟩ := c7_add hRM hn30 hG' MOon MOwy
      rw [if_pos h0] at hnl
      refine ⟨nI n, nI (n + 1), _, _, _, NWCa, w.1, w.2, nI 0, v, u.1, u.2, ?_, ?_, Or.inl ⟨n, by omega, rfl, rfl, n + 1, r, _, _, _, C, lay', hG', rfl, rfl, hRC.put, u2, w2, u3⟩⟩
      · unfold f_X6_carryOut
        rw [srt 43 (by omega), Option.bind_some, if_pos (show nI 43 = 43 from by decide +kernel)]
        simp only [f_X2_kind, f_X2_turns, f_X2_cellNumber, Option.bind_some, w1]
      · unfold f_X7_doOrder
        rw [if_pos (show nI 43 = 43 from by decide +kernel)]
        simp (disch := omega) only [n0, n1, n2, hnl, u1, px_l0, px_l1, px_l2, px_l3, px_l4, px_l5, px_l6, px_l9, px_l10, px_l14, px_l15, px_l23, px_l24, px_l25, px_l26, px_l29, px_l30, px_l32, px_l43, px_l45, px_l48, px_l57, px_l59, px_l60, px_l64, px_l100, px_l107, px_l116, px_l149, px_l150, px_l348, px_l464, px_l600, px_sa, nI_leI, nI_ltI, nI_eq, nI_add, pk_sub, pk_mul, pk_div, px_rm, nI_clamp, px_ck, px_eqm, px_meq, px_mm, px_mlt, px_mle, px_lem, px_ltm, px_mlem, Option.bind_some, px_b0, px_b1, px_ckb, px_if, px_if', ↓reduceIte]
    · have hb : 0 < (if whyX n r K T C lay k t m (-nI 1) = 4 then 3 else 4) ∧ (if whyX n r K T C lay k t m (-nI 1) = 4 then 3 else 4) < 100 := by split <;> omega
      rw [if_neg h0] at hnl
      have k1 := c1_lay1 hG hRC hLC hk ht hm h0
      generalize (if whyX n r K T C lay k t m (-nI 1) = 4 then 3 else 4) = e at *
      refine ⟨-nI e, nI n, NWKa, NWTa, NWMa, NWCa, CAow, CApa, -nI e, MOza, MOon, MOwy, ?_, ?_, Or.inr ⟨e, hb.1, hb.2, rfl, rfl⟩⟩
      · unfold f_X6_carryOut
        rw [srt 43 (by omega), Option.bind_some, if_pos (show nI 43 = 43 from by decide +kernel)]
        simp only [f_X2_kind, f_X2_turns, f_X2_cellNumber, Option.bind_some, k1]
      · unfold f_X7_doOrder
        rw [if_pos (show nI 43 = 43 from by decide +kernel)]
        simp (disch := omega) only [n0, n1, n2, hnl, px_l0, px_l1, px_l2, px_l3, px_l4, px_l5, px_l6, px_l9, px_l10, px_l14, px_l15, px_l23, px_l24, px_l25, px_l26, px_l29, px_l30, px_l32, px_l43, px_l45, px_l48, px_l57, px_l59, px_l60, px_l64, px_l100, px_l107, px_l116, px_l149, px_l150, px_l348, px_l464, px_l600, px_sa, nI_leI, nI_ltI, nI_eq, nI_add, pk_sub, pk_mul, pk_div, px_rm, nI_clamp, px_ck, px_eqm, px_meq, px_mm, px_mlt, px_mle, px_lem, px_ltm, px_mlem, Option.bind_some, px_b0, px_b1, px_ckb, px_if, px_if', ↓reduceIte]
  · have n43 : ¬ nI s = 43 := by rcases hs with rfl | rfl <;> decide +kernel
    have n107 : ¬ nI s = 107 := by rcases hs with rfl | rfl <;> decide +kernel
    have hLc := hLC c hc
    have hMc := hLM c hc
    have c6 : ∀ X, f_X6_carryOut (nI r) (nI n) NWKa NWTa NWMa NWCa CAow CApa (nI s) ki tu (nI c) cl = X ↔ (if CAow c = -1 then (some ((-1), nI n, NWKa, NWTa, NWMa, NWCa, CAow, CApa)) else (((if nI s = 45 then ((f_X1_takeAway (nI n) NWKa NWTa NWMa CAow CApa (CAow c)).bind fun r25 => (some (r25.1, r25.2.1, r25.2.2.1, r25.2.2.2.1, r25.2.2.2.2.1, r25.2.2.2.2.2.1, r25.2.2.2.2.2.2))) else ((f_X1_turnFurther (nI r) NWKa NWTa NWMa NWCa CAow CApa (CAow c) 1).bind fun r23 => (some (r23.1, nI n, NWKa, r23.2, NWMa, CAow, CApa)))) : Option (Int32 × Int32 × (Nat → Int32) × (Nat → Int32) × (Nat → Int32) × (Nat → Int32) × (Nat → Int32))).bind fun t27 => (some (t27.1, t27.2.1, t27.2.2.1, t27.2.2.2.1, t27.2.2.2.2.1, NWCa, t27.2.2.2.2.2.1, t27.2.2.2.2.2.2)))) = X := by
      intro X
      unfold f_X6_carryOut
      rw [srt s (by omega), Option.bind_some, if_neg n43, if_neg n107]
      simp only [f_X2_cellNumber, Option.bind_some, w1_own hc]
    have c7 : ∀ X, f_X7_doOrder (nI s) MOza MOon MOwy nu = X ↔ (if 0 ≤ MOon c then (if nI s = 45 then ((f_X7_remove MOza MOon MOwy (MOon c)).bind fun r9 => (some (0, r9.1, r9.2.1, r9.2.2))) else ((f_X7_turnsOf MOza (MOon c)).bind fun r3 => (ck ((26 + (3 * (MOon c))) + 1) 116 ((f_X7_areClashing (upd MOza ((26 + (3 * (MOon c))) + 1).toNatClampNeg (rm (r3 + 1) 4)) MOon MOwy).bind fun r6 => (((if r6 = 0 then (some 0) else (some (-4))) : Option (Int32)).bind fun t8 => (some (t8, (upd MOza ((26 + (3 * (MOon c))) + 1).toNatClampNeg (rm (r3 + 1) 4)), MOon, MOwy))))))) else (some ((-1), MOza, MOon, MOwy))) = X := by
      intro X
      unfold f_X7_doOrder
      rw [if_neg n43, if_neg n107, px_l0, px_ck (by omega) (by omega), nI_clamp (by omega), n0, px_ck (by omega) (by omega), nI_clamp (by omega)]
    cases hl : lay c with
    | none =>
      have e1 := (hLc.1 hl).1
      have e2 := (hMc.1 hl).1
      refine ⟨-nI 1, nI n, NWKa, NWTa, NWMa, NWCa, CAow, CApa, -nI 1, MOza, MOon, MOwy, ?_, ?_, Or.inr ⟨1, by omega, by omega, rfl, rfl⟩⟩
      · rw [c6, e1, if_pos px_m1.symm]; rfl
      · rw [c7, e2, if_neg (show ¬ (0 : Int32) ≤ -nI 5 from by decide +kernel)]; rfl
    | some q =>
      obtain ⟨i, d⟩ := q
      obtain ⟨hi, hd, hq⟩ := hL.2 c i d hc hl
      have e1 := (hLc.2 i d hl).1
      have e2 := (hMc.2 i d hl).1
      have e3 : ¬ nI i = -1 := by rw [px_m1, px_eqm (by omega) (by omega) (by omega)]; exact id
      have e4 : (0 : Int32) ≤ nI i := by rw [px_l0, nI_leI (by omega) (by omega)]; omega
      rcases hs with rfl | rfl
      · obtain ⟨lay', hG'⟩ := take_gg hG hi
        obtain ⟨ka, ta, ma, w, w1, w2, w3⟩ := c1_take (ow := CAow) (pa := CApa) hG hRC hi hG'
        obtain ⟨v, u, u1, u2, u3⟩ := c7_take hG hRM hi hG' MOon MOwy
        refine ⟨nI (n - 1), nI (n - 1), ka, ta, ma, NWCa, w.1, w.2, nI 0, v, u.1, u.2, ?_, ?_, Or.inl ⟨n - 1, by omega, rfl, rfl, n - 1, r, _, _, _, C, lay', hG', rfl, rfl, w2, u2, w3, u3⟩⟩
        · rw [c6, e1, if_neg e3, if_pos (show nI 45 = 45 from by decide +kernel), w1]; rfl
        · rw [c7, e2, if_pos e4, if_pos (show nI 45 = 45 from by decide +kernel), u1]; rfl
      · obtain ⟨hcl, hc2, hc1⟩ := c1_turn hG hRC hLC hi (show 1 < 4 by omega)
        have hT := (hO.2.2.1 i hi).2.1
        have hO' := hO.turn (i := i) (show (T i + 1) % 4 < 4 by omega)
        have hRM' := hRM.turn (v := (T i + 1) % 4) hi
        obtain ⟨b, b1, b2⟩ := w7_ac hO' hL hRM' hLM
        have hb : b = hcl := by
          cases b with
          | false => cases hcl with
            | false => rfl
            | true => exact (b2.mpr (hc2.mp rfl))
          | true => exact (hc2.mpr (b2.mp rfl)).symm
        subst hb
        have n45 : ¬ nI 116 = 45 := by decide +kernel
        have k6 : (f_X6_carryOut (nI r) (nI n) NWKa NWTa NWMa NWCa CAow CApa (nI 116) ki tu (nI c) cl) = some ((if b then (-nI 4, NWTa) else (nI ((T i + 1) % 4), upd NWTa i (nI ((T i + 1) % 4)))).1, nI n, NWKa, (if b then (-nI 4, NWTa) else (nI ((T i + 1) % 4), upd NWTa i (nI ((T i + 1) % 4)))).2, NWMa, NWCa, CAow, CApa) := by
          rw [c6, e1, if_neg e3, if_neg n45, px_l1, hc1]; rfl
        have k7 : f_X7_doOrder (nI 116) MOza MOon MOwy nu = some (if b then -nI 4 else nI 0, upd MOza (26 + 3 * i + 1) (nI ((T i + 1) % 4)), MOon, MOwy) := by
          rw [c7, e2, if_pos e4, if_neg n45, w7_turns hRM hn hi, Option.bind_some]
          have ee : (26 + 3 * nI i + 1 : Int32) = nI (26 + 3 * i + 1) := by
            rw [px_l26, px_l3, px_l1, pk_mul, nI_add, nI_add]
          have er : rm (nI (T i) + 1) 4 = nI ((T i + 1) % 4) := by
            rw [px_l1, px_l4, nI_add, px_rm (by omega) (by omega) (by omega)]
          rw [ee, er, px_ck (by omega) (by omega), nI_clamp (by omega), b1, Option.bind_some]
          cases b <;> rfl
        cases b with
        | false => exact ⟨_, _, _, _, _, _, _, _, _, _, _, _, k6, k7, Or.inl ⟨(T i + 1) % 4, by omega, rfl, rfl, n, r, K, _, M, C, lay, ⟨hO', hL, fun q => by have := hc2.mpr q; cases this⟩, rfl, rfl, hRC.turn, hRM', hLC, hLM⟩⟩
        | true => exact ⟨_, _, _, _, _, _, _, _, _, _, _, _, k6, k7, Or.inr ⟨4, by omega, by omega, rfl, rfl⟩⟩
  · have hO' := okc_kC (a := k) (fun j hj => (hw j hj).1) hO
    obtain ⟨ca, a1, a2⟩ := c1_arms hRC hk (fun j hj => (hw j hj).2.1)
    obtain ⟨v, v1, v2⟩ := c7_arms hRM hk n0 (fun j hj => (hw j hj).2.2)
    obtain ⟨hcl, hc1, hc2⟩ := w1_hc hO' hL a2 hLC
    obtain ⟨b, b1, b2⟩ := w7_ac hO' hL v2 hLM
    have hb : b = hcl := by
      cases b with
      | false => cases hcl with
        | false => rfl
        | true => exact (b2.mpr (hc2.mp rfl))
      | true => exact (hc2.mpr (b2.mp rfl)).symm
    subst hb
    have k6 : f_X6_carryOut (nI r) (nI n) NWKa NWTa NWMa NWCa CAow CApa (nI 107) (nI k) tu ce cl = some (if b then -nI 4 else nI 0, nI n, NWKa, NWTa, NWMa, ca, CAow, CApa) := by
      unfold f_X6_carryOut f_X1_paintArms
      rw [srt 107 (by omega), Option.bind_some, if_neg (show ¬ nI 107 = 43 from by decide +kernel), if_pos (show nI 107 = 107 from by decide +kernel)]
      simp only [f_X2_kind, f_X2_colours, Option.bind_some]
      rw [px_l0, a1]
      simp only [Option.bind_some, hc1]
      cases b <;> rfl
    have k7 : f_X7_doOrder (nI 107) MOza MOon MOwy nu = some (if b then -nI 4 else nI 0, v, MOon, MOwy) := by
      unfold f_X7_doOrder
      rw [if_neg (show ¬ nI 107 = 43 from by decide +kernel), if_pos (show nI 107 = 107 from by decide +kernel), px_l0, v1]
      simp only [Option.bind_some, b1]
      cases b <;> rfl
    cases b with
    | false => exact ⟨_, _, _, _, _, _, _, _, _, _, _, _, k6, k7, Or.inl ⟨0, by omega, rfl, rfl, n, r, K, T, M, _, lay, ⟨hO', hL, fun q => by have := hc2.mpr q; cases this⟩, rfl, rfl, a2, v2, hLC, hLM⟩⟩
    | true => exact ⟨_, _, _, _, _, _, _, _, _, _, _, _, k6, k7, Or.inr ⟨4, by omega, by omega, rfl, rfl⟩⟩
end P47
