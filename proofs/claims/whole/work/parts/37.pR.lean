/-! ALL TOUCHES, AND THOSE OF LIKE COLOURS -/
def lk (w : Nat) (K T C : Nat → Nat) (lay : Nat → Option (Nat × Nat)) (a b : Nat) : Bool := tchB lay a b && (decide (w = 0) || decide (ccl K T C lay a = ccl K T C lay b))
def allN (w : Nat) (K T C : Nat → Nat) (lay : Nat → Option (Nat × Nat)) : Nat := smf (fun k => smf (fun d => bN (lk w K T C lay k (bes k (d + 1)))) 2) 150
section P37
variable {n r : Nat} {K T M C : Nat → Nat} {lay : Nat → Option (Nat × Nat)} {NWKa NWTa NWMa NWCa ow pa z on wy : Nat → Int32}
theorem lk_comm {w a b : Nat} : lk w K T C lay a b = lk w K T C lay b a := by
  unfold lk
  rw [tchB_comm, decide_eq_decide.mpr (eq_comm (a := ccl K T C lay a) (b := ccl K T C lay b))]
theorem lk_none {w a b : Nat} (h : armB lay a = false) : lk w K T C lay a b = false := by
  unfold lk
  cases ht : tchB lay a b with
  | false => rfl
  | true =>
    obtain ⟨i, d, j, e, h1, h2, h3, h4, h5⟩ := tchB_ex ht
    unfold armB at h
    rw [h1] at h
    exact absurd h3 (of_decide_eq_false h)
theorem allN_le {w : Nat} : allN w K T C lay ≤ 150 * (2 * 1) := smf_le (fun k _ => smf_le (fun d _ => bN_le _))
theorem sum_lk (hO : OKs n r K T M C) (hL : LY n M lay) (w : Nat) : smf (fun i => smf (fun d => smf (fun s => bN (lk w K T C lay (bes (M i) d) (bes (bes (M i) d) s))) 4) 4) n = 2 * allN w K T C lay := by
  unfold allN
  rw [← smf_two (G := fun a b => bN (lk w K T C lay a b)) (fun a b _ _ => by rw [lk_comm])]
  rw [smf_lay hL (fun i hi => (hO.2.2.1 i hi).2.2) (fun k _ hk => smf_zero (fun s _ => by rw [lk_none hk]; rfl))]
  refine smf_congr (fun i hi => smf_congr (fun d hd => ?_))
  rw [cp_d hd]
theorem w7_all (hO : OKs n r K T M C) (hL : LY n M lay) (hR : RM n r K T M C z) (hl : LM lay on wy) {w : Nat} (hw : w < 2) : f_X7_allTouches z on wy (nI w) = some (nI (allN w K T C lay)) := by
  have hn := hO.1
  have hr := hO.2.1
  have inner : ∀ k, k < 150 → ∀ (N0 d : Nat), d < 2 → f_X7_allTouches_b1 z on wy (nI w) (nI N0, nI k) (nI (N0 + smf (fun d => bN (lk w K T C lay k (bes k (d + 1)))) d), nI (d + 1)) = some (.inl (nI (N0 + smf (fun d => bN (lk w K T C lay k (bes k (d + 1)))) (d + 1)), nI (d + 1 + 1))) := by
    intro k hk N0 d hd
    have h2 := bes_lt k hk (d + 1) (by omega)
    rw [smf_s, ← Nat.add_assoc]
    generalize N0 + smf (fun d => bN (lk w K T C lay k (bes k (d + 1)))) d = N
    cases ht : tchB lay k (bes k (d + 1)) with
    | false =>
      simp (disch := omega) only [f_X7_allTouches_b1, g7_bes k hk (d + 1) (by omega), w7_touch hL hn hl hk h2, ht, lk, show ¬ 3 ≤ d + 1 from by omega, Bool.false_and, px_l0, px_l1, px_l2, px_l3, px_l4, px_l5, px_l6, px_l9, px_l10, px_l14, px_l15, px_l23, px_l24, px_l25, px_l26, px_l29, px_l30, px_l32, px_l43, px_l45, px_l48, px_l57, px_l59, px_l60, px_l64, px_l100, px_l107, px_l116, px_l149, px_l150, px_l348, px_l464, px_l600, px_sa, nI_leI, nI_ltI, nI_eq, nI_add, pk_sub, pk_mul, pk_div, px_rm, nI_clamp, px_ck, px_eqm, px_meq, px_mm, px_mlt, px_mle, px_lem, px_ltm, px_mlem, Option.bind_some, px_b0, px_b1, px_ckb, px_if, px_if', ↓reduceIte]
      rfl
    | true =>
      obtain ⟨i, a, j, b, h1, h2', h3, h4, h5⟩ := tchB_ex ht
      have q1 : armB lay k = true := by unfold armB; rw [h1]; exact decide_eq_true h3
      have q2 : armB lay (bes k (d + 1)) = true := by unfold armB; rw [h2']; exact decide_eq_true h4
      rcases (show w = 0 ∨ w = 1 by omega) with rfl | rfl
      · simp (disch := omega) only [f_X7_allTouches_b1, g7_bes k hk (d + 1) (by omega), w7_touch hL hn hl hk h2, ht, lk, show ¬ 3 ≤ d + 1 from by omega, Bool.true_and, Bool.true_eq_false, px_l0, px_l1, px_l2, px_l3, px_l4, px_l5, px_l6, px_l9, px_l10, px_l14, px_l15, px_l23, px_l24, px_l25, px_l26, px_l29, px_l30, px_l32, px_l43, px_l45, px_l48, px_l57, px_l59, px_l60, px_l64, px_l100, px_l107, px_l116, px_l149, px_l150, px_l348, px_l464, px_l600, px_sa, nI_leI, nI_ltI, nI_eq, nI_add, pk_sub, pk_mul, pk_div, px_rm, nI_clamp, px_ck, px_eqm, px_meq, px_mm, px_mlt, px_mle, px_lem, px_ltm, px_mlem, Option.bind_some, px_b0, px_b1, px_ckb, px_if, px_if', ↓reduceIte]
        rfl
      · have hc1 := ccl_lt hO hL hk q1
        have hc2 := ccl_lt hO hL h2 q2
        simp (disch := omega) only [f_X7_allTouches_b1, g7_bes k hk (d + 1) (by omega), w7_touch hL hn hl hk h2, ht, lk, w7_armCol hO hL hR hl hk q1, w7_armCol hO hL hR hl h2 q2, show ¬ 3 ≤ d + 1 from by omega, show ¬ 1 = 0 from by omega, Bool.true_and, Bool.true_eq_false, decide_false, Bool.false_or, px_l0, px_l1, px_l2, px_l3, px_l4, px_l5, px_l6, px_l9, px_l10, px_l14, px_l15, px_l23, px_l24, px_l25, px_l26, px_l29, px_l30, px_l32, px_l43, px_l45, px_l48, px_l57, px_l59, px_l60, px_l64, px_l100, px_l107, px_l116, px_l149, px_l150, px_l348, px_l464, px_l600, px_sa, nI_leI, nI_ltI, nI_eq, nI_add, pk_sub, pk_mul, pk_div, px_rm, nI_clamp, px_ck, px_eqm, px_meq, px_mm, px_mlt, px_mle, px_lem, px_ltm, px_mlem, Option.bind_some, px_b0, px_b1, px_ckb, px_if, px_if', ↓reduceIte]
  unfold f_X7_allTouches
  refine lp_detb (fun k => (nI (smf (fun k => smf (fun d => bN (lk w K T C lay k (bes k (d + 1)))) 2) k), nI k)) 150 (nI (allN w K T C lay), nI 150) ?_ ?_ (by decide) rfl
  · intro k hk
    have L1 := lp_det (f := f_X7_allTouches_b1 z on wy (nI w) (nI (smf (fun k => smf (fun d => bN (lk w K T C lay k (bes k (d + 1)))) 2) k), nI k)) _ 2 _ (inner k hk (smf (fun k => smf (fun d => bN (lk w K T C lay k (bes k (d + 1)))) 2) k)) (by simp (disch := omega) only [f_X7_allTouches_b1, Nat.le_refl, Nat.reduceAdd, px_l0, px_l1, px_l2, px_l3, px_l4, px_l5, px_l6, px_l9, px_l10, px_l14, px_l15, px_l23, px_l24, px_l25, px_l26, px_l29, px_l30, px_l32, px_l43, px_l45, px_l48, px_l57, px_l59, px_l60, px_l64, px_l100, px_l107, px_l116, px_l149, px_l150, px_l348, px_l464, px_l600, px_sa, nI_leI, nI_ltI, nI_eq, nI_add, pk_sub, pk_mul, pk_div, px_rm, nI_clamp, px_ck, px_eqm, px_meq, px_mm, px_mlt, px_mle, px_lem, px_ltm, px_mlem, Option.bind_some, px_b0, px_b1, px_ckb, px_if, px_if', ↓reduceIte]; rfl) (N := FU) (by decide) rfl
    rw [smf_s (f := fun k => smf (fun d => bN (lk w K T C lay k (bes k (d + 1)))) 2)]
    rw [show smf (fun d => bN (lk w K T C lay k (bes k (d + 1)))) 0 = 0 from rfl] at L1
    simp only [Nat.add_zero, Nat.zero_add] at L1
    simp (disch := omega) only [f_X7_allTouches_b2, show ¬ 150 ≤ k from by omega, px_l0, px_l1, px_l2, px_l3, px_l4, px_l5, px_l6, px_l9, px_l10, px_l14, px_l15, px_l23, px_l24, px_l25, px_l26, px_l29, px_l30, px_l32, px_l43, px_l45, px_l48, px_l57, px_l59, px_l60, px_l64, px_l100, px_l107, px_l116, px_l149, px_l150, px_l348, px_l464, px_l600, px_sa, nI_leI, nI_ltI, nI_eq, nI_add, pk_sub, pk_mul, pk_div, px_rm, nI_clamp, px_ck, px_eqm, px_meq, px_mm, px_mlt, px_mle, px_lem, px_ltm, px_mlem, Option.bind_some, px_b0, px_b1, px_ckb, px_if, px_if', ↓reduceIte]
    rw [L1]
    simp only [Option.bind_some]
  · simp (disch := omega) only [f_X7_allTouches_b2, Nat.le_refl, px_l0, px_l1, px_l2, px_l3, px_l4, px_l5, px_l6, px_l9, px_l10, px_l14, px_l15, px_l23, px_l24, px_l25, px_l26, px_l29, px_l30, px_l32, px_l43, px_l45, px_l48, px_l57, px_l59, px_l60, px_l64, px_l100, px_l107, px_l116, px_l149, px_l150, px_l348, px_l464, px_l600, px_sa, nI_leI, nI_ltI, nI_eq, nI_add, pk_sub, pk_mul, pk_div, px_rm, nI_clamp, px_ck, px_eqm, px_meq, px_mm, px_mlt, px_mle, px_lem, px_ltm, px_mlem, Option.bind_some, px_b0, px_b1, px_ckb, px_if, px_if', ↓reduceIte]
    rfl
theorem arm_lk (hL : LY n M lay) (hn : n ≤ 30) {i d : Nat} (hi : i < n) (hd : d < 4) (hM : M i < 150) {s : Nat} (hs : s < 4) : tchB lay (bes (M i) d) (bes (bes (M i) d) s) = armO lay (bes (bes (M i) d) s) (nI i) := by
  have h1 := hL.1 i d hi (by omega)
  rw [cp_d hd] at h1
  exact tch_armO hL hn h1 hi hd (bes_lt _ (bes_lt _ hM d hd) s hs)
theorem w5_all0 (hO : OKs n r K T M C) (hL : LY n M lay) (hR : RCa n K T M C NWKa NWTa NWMa NWCa) (hl : LC lay ow pa) : f_X5_touches (nI n) NWMa ow pa = some (nI (allN 0 K T C lay)) := by
  have hn := hO.1
  have hs : smf (fun i => tcO lay (M i) (nI i)) n = 2 * allN 0 K T C lay := by
    rw [← sum_lk hO hL 0]
    refine smf_congr (fun i hi => smf_congr (fun d hd => smf_congr (fun s hs => ?_)))
    unfold lk
    rw [arm_lk hL hn hi hd (hO.2.2.1 i hi).2.2 hs, decide_eq_true rfl, Bool.true_or, Bool.and_true]
  have hle : allN 0 K T C lay ≤ 150 * (2 * 1) := allN_le
  unfold f_X5_touches
  refine Eq.trans (lp_detb (fun i => (nI (smf (fun i => tcO lay (M i) (nI i)) i), nI i)) n (nI (2 * allN 0 K T C lay), nI n) ?_ ?_ (by show n < 1000; omega) rfl) ?_
  · intro i hi
    simp (disch := omega) only [f_X5_touches_b1, (hR.1 i hi).2.2, w5_at hL hn hl (hO.2.2.1 i hi).2.2, show ¬ n ≤ i from by omega, px_l0, px_l1, px_l2, px_l3, px_l4, px_l5, px_l6, px_l9, px_l10, px_l14, px_l15, px_l23, px_l24, px_l25, px_l26, px_l29, px_l30, px_l32, px_l43, px_l45, px_l48, px_l57, px_l59, px_l60, px_l64, px_l100, px_l107, px_l116, px_l149, px_l150, px_l348, px_l464, px_l600, px_sa, nI_leI, nI_ltI, nI_eq, nI_add, pk_sub, pk_mul, pk_div, px_rm, nI_clamp, px_ck, px_eqm, px_meq, px_mm, px_mlt, px_mle, px_lem, px_ltm, px_mlem, Option.bind_some, px_b0, px_b1, px_ckb, px_if, px_if', ↓reduceIte]
    rfl
  · simp (disch := omega) only [f_X5_touches_b1, Nat.le_refl, hs, px_l0, px_l1, px_l2, px_l3, px_l4, px_l5, px_l6, px_l9, px_l10, px_l14, px_l15, px_l23, px_l24, px_l25, px_l26, px_l29, px_l30, px_l32, px_l43, px_l45, px_l48, px_l57, px_l59, px_l60, px_l64, px_l100, px_l107, px_l116, px_l149, px_l150, px_l348, px_l464, px_l600, px_sa, nI_leI, nI_ltI, nI_eq, nI_add, pk_sub, pk_mul, pk_div, px_rm, nI_clamp, px_ck, px_eqm, px_meq, px_mm, px_mlt, px_mle, px_lem, px_ltm, px_mlem, Option.bind_some, px_b0, px_b1, px_ckb, px_if, px_if', ↓reduceIte]
  · simp (disch := omega) only [px_l0, px_l1, px_l2, px_l3, px_l4, px_l5, px_l6, px_l9, px_l10, px_l14, px_l15, px_l23, px_l24, px_l25, px_l26, px_l29, px_l30, px_l32, px_l43, px_l45, px_l48, px_l57, px_l59, px_l60, px_l64, px_l100, px_l107, px_l116, px_l149, px_l150, px_l348, px_l464, px_l600, px_sa, nI_leI, nI_ltI, nI_eq, nI_add, pk_sub, pk_mul, pk_div, px_rm, nI_clamp, px_ck, px_eqm, px_meq, px_mm, px_mlt, px_mle, px_lem, px_ltm, px_mlem, Option.bind_some, px_b0, px_b1, px_ckb, px_if, px_if', ↓reduceIte]
    rw [show 2 * allN 0 K T C lay / 2 = allN 0 K T C lay by omega]
theorem w5_lka (hO : OKs n r K T M C) (hL : LY n M lay) (hR : RCa n K T M C NWKa NWTa NWMa NWCa) (hl : LC lay ow pa) {i d : Nat} (hi : i < n) (hd : d < 4) :
    f_X5_likeTouchesOfArm NWKa NWTa NWMa NWCa ow pa (nI i) (nI d) = some (nI (smf (fun s => bN (lk 1 K T C lay (bes (M i) d) (bes (bes (M i) d) s))) 4)) := by
  have hn := hO.1
  have hMi := (hO.2.2.1 i hi).2.2
  have hb := bes_lt _ hMi d hd
  have hla := hL.1 i d hi (by omega)
  rw [cp_d hd] at hla
  have hca : ccl K T C lay (bes (M i) d) = col K T C i d := by unfold ccl; rw [hla]
  have hc1 := col_lt hO hi hd
  unfold f_X5_likeTouchesOfArm
  simp (disch := omega) only [(hR.1 i hi).2.2, g0_bes (M i) hMi d hd, w1_col hO hR hi hd, px_ck, nI_clamp, Option.bind_some]
  rw [px_l0]
  refine lp_detb (fun s => (nI (smf (fun s => bN (lk 1 K T C lay (bes (M i) d) (bes (bes (M i) d) s))) s), nI s)) 4 (nI (smf (fun s => bN (lk 1 K T C lay (bes (M i) d) (bes (bes (M i) d) s))) 4), nI 4) ?_ ?_ (by decide) rfl
  · intro s hs
    have h2 := bes_lt _ hb s hs
    have ht := arm_lk hL hn hi hd hMi hs
    rw [smf_s]
    generalize smf (fun s => bN (lk 1 K T C lay (bes (M i) d) (bes (bes (M i) d) s))) s = N
    cases ha : armO lay (bes (bes (M i) d) s) (nI i) with
    | false =>
      simp (disch := omega) only [f_X5_likeTouchesOfArm_b1, g0_bes _ hb s hs, w1_arm hL hn hl h2 (nI i), ht, ha, lk, show ¬ 4 ≤ s from by omega, Bool.false_and, px_l0, px_l1, px_l2, px_l3, px_l4, px_l5, px_l6, px_l9, px_l10, px_l14, px_l15, px_l23, px_l24, px_l25, px_l26, px_l29, px_l30, px_l32, px_l43, px_l45, px_l48, px_l57, px_l59, px_l60, px_l64, px_l100, px_l107, px_l116, px_l149, px_l150, px_l348, px_l464, px_l600, px_sa, nI_leI, nI_ltI, nI_eq, nI_add, pk_sub, pk_mul, pk_div, px_rm, nI_clamp, px_ck, px_eqm, px_meq, px_mm, px_mlt, px_mle, px_lem, px_ltm, px_mlem, Option.bind_some, px_b0, px_b1, px_ckb, px_if, px_if', ↓reduceIte]
      rfl
    | true =>
      obtain ⟨j, e, g1, g2, g3⟩ := armO_ex ha
      obtain ⟨e1, e2⟩ := (hl _ h2).2 j e g1
      obtain ⟨f1, -, -⟩ := hL.2 _ j e h2 g1
      have hcc : ccl K T C lay (bes (bes (M i) d) s) = col K T C j e := by unfold ccl; rw [g1]
      have hc2 := col_lt hO f1 g2
      by_cases hq : col K T C j e = col K T C i d
      · simp (disch := omega) only [f_X5_likeTouchesOfArm_b1, g0_bes _ hb s hs, w1_arm hL hn hl h2 (nI i), ht, ha, lk, w1_own h2, w1_part h2, e1, e2, w1_col hO hR f1 g2, hcc, hca, hq, show ¬ 4 ≤ s from by omega, Bool.true_eq_false, Bool.true_and, px_l0, px_l1, px_l2, px_l3, px_l4, px_l5, px_l6, px_l9, px_l10, px_l14, px_l15, px_l23, px_l24, px_l25, px_l26, px_l29, px_l30, px_l32, px_l43, px_l45, px_l48, px_l57, px_l59, px_l60, px_l64, px_l100, px_l107, px_l116, px_l149, px_l150, px_l348, px_l464, px_l600, px_sa, nI_leI, nI_ltI, nI_eq, nI_add, pk_sub, pk_mul, pk_div, px_rm, nI_clamp, px_ck, px_eqm, px_meq, px_mm, px_mlt, px_mle, px_lem, px_ltm, px_mlem, Option.bind_some, px_b0, px_b1, px_ckb, px_if, px_if', ↓reduceIte]
        rfl
      · have hq' : ¬ col K T C i d = col K T C j e := Ne.symm hq
        simp (disch := omega) only [f_X5_likeTouchesOfArm_b1, g0_bes _ hb s hs, w1_arm hL hn hl h2 (nI i), ht, ha, lk, w1_own h2, w1_part h2, e1, e2, w1_col hO hR f1 g2, hcc, hca, hq, hq', show ¬ 4 ≤ s from by omega, Bool.true_eq_false, Bool.true_and, px_l0, px_l1, px_l2, px_l3, px_l4, px_l5, px_l6, px_l9, px_l10, px_l14, px_l15, px_l23, px_l24, px_l25, px_l26, px_l29, px_l30, px_l32, px_l43, px_l45, px_l48, px_l57, px_l59, px_l60, px_l64, px_l100, px_l107, px_l116, px_l149, px_l150, px_l348, px_l464, px_l600, px_sa, nI_leI, nI_ltI, nI_eq, nI_add, pk_sub, pk_mul, pk_div, px_rm, nI_clamp, px_ck, px_eqm, px_meq, px_mm, px_mlt, px_mle, px_lem, px_ltm, px_mlem, Option.bind_some, px_b0, px_b1, px_ckb, px_if, px_if', ↓reduceIte]
        rfl
  · simp (disch := omega) only [f_X5_likeTouchesOfArm_b1, Nat.le_refl, px_l0, px_l1, px_l2, px_l3, px_l4, px_l5, px_l6, px_l9, px_l10, px_l14, px_l15, px_l23, px_l24, px_l25, px_l26, px_l29, px_l30, px_l32, px_l43, px_l45, px_l48, px_l57, px_l59, px_l60, px_l64, px_l100, px_l107, px_l116, px_l149, px_l150, px_l348, px_l464, px_l600, px_sa, nI_leI, nI_ltI, nI_eq, nI_add, pk_sub, pk_mul, pk_div, px_rm, nI_clamp, px_ck, px_eqm, px_meq, px_mm, px_mlt, px_mle, px_lem, px_ltm, px_mlem, Option.bind_some, px_b0, px_b1, px_ckb, px_if, px_if', ↓reduceIte]
theorem w5_all1 (hO : OKs n r K T M C) (hL : LY n M lay) (hR : RCa n K T M C NWKa NWTa NWMa NWCa) (hl : LC lay ow pa) : f_X5_touchesOfLikeColours (nI n) NWKa NWTa NWMa NWCa ow pa = some (nI (allN 1 K T C lay)) := by
  have hn := hO.1
  have hs := sum_lk hO hL 1
  have hle : allN 1 K T C lay ≤ 150 * (2 * 1) := allN_le
  unfold f_X5_touchesOfLikeColours
  refine Eq.trans (lp_detb (fun i => (nI (smf (fun i => smf (fun d => smf (fun s => bN (lk 1 K T C lay (bes (M i) d) (bes (bes (M i) d) s))) 4) 4) i), nI i)) n (nI (2 * allN 1 K T C lay), nI n) ?_ ?_ (by show n < 1000; omega) rfl) ?_
  · intro i hi
    rw [smf_s (f := fun i => smf (fun d => smf (fun s => bN (lk 1 K T C lay (bes (M i) d) (bes (bes (M i) d) s))) 4) 4)]
    generalize smf (fun i => smf (fun d => smf (fun s => bN (lk 1 K T C lay (bes (M i) d) (bes (bes (M i) d) s))) 4) 4) i = N
    have L1 := lp_det (f := f_X5_touchesOfLikeColours_b1 NWKa NWTa NWMa NWCa ow pa (nI N, nI i)) (fun d => (nI (N + smf (fun d => smf (fun s => bN (lk 1 K T C lay (bes (M i) d) (bes (bes (M i) d) s))) 4) d), nI d)) 4 (nI (N + smf (fun d => smf (fun s => bN (lk 1 K T C lay (bes (M i) d) (bes (bes (M i) d) s))) 4) 4), nI 4) (fun d hd => by
      simp (disch := omega) only [f_X5_touchesOfLikeColours_b1, w5_lka hO hL hR hl hi hd, show ¬ 4 ≤ d from by omega, px_l0, px_l1, px_l2, px_l3, px_l4, px_l5, px_l6, px_l9, px_l10, px_l14, px_l15, px_l23, px_l24, px_l25, px_l26, px_l29, px_l30, px_l32, px_l43, px_l45, px_l48, px_l57, px_l59, px_l60, px_l64, px_l100, px_l107, px_l116, px_l149, px_l150, px_l348, px_l464, px_l600, px_sa, nI_leI, nI_ltI, nI_eq, nI_add, pk_sub, pk_mul, pk_div, px_rm, nI_clamp, px_ck, px_eqm, px_meq, px_mm, px_mlt, px_mle, px_lem, px_ltm, px_mlem, Option.bind_some, px_b0, px_b1, px_ckb, px_if, px_if', ↓reduceIte]
      rw [smf_s (f := fun d => smf (fun s => bN (lk 1 K T C lay (bes (M i) d) (bes (bes (M i) d) s))) 4), Nat.add_assoc]) (by simp (disch := omega) only [f_X5_touchesOfLikeColours_b1, Nat.le_refl, px_l0, px_l1, px_l2, px_l3, px_l4, px_l5, px_l6, px_l9, px_l10, px_l14, px_l15, px_l23, px_l24, px_l25, px_l26, px_l29, px_l30, px_l32, px_l43, px_l45, px_l48, px_l57, px_l59, px_l60, px_l64, px_l100, px_l107, px_l116, px_l149, px_l150, px_l348, px_l464, px_l600, px_sa, nI_leI, nI_ltI, nI_eq, nI_add, pk_sub, pk_mul, pk_div, px_rm, nI_clamp, px_ck, px_eqm, px_meq, px_mm, px_mlt, px_mle, px_lem, px_ltm, px_mlem, Option.bind_some, px_b0, px_b1, px_ckb, px_if, px_if', ↓reduceIte]) (N := FU) (by decide) rfl
    rw [show N + smf (fun d => smf (fun s => bN (lk 1 K T C lay (bes (M i) d) (bes (bes (M i) d) s))) 4) 0 = N from rfl] at L1
    simp (disch := omega) only [f_X5_touchesOfLikeColours_b2, show ¬ n ≤ i from by omega, px_l0, px_l1, px_l2, px_l3, px_l4, px_l5, px_l6, px_l9, px_l10, px_l14, px_l15, px_l23, px_l24, px_l25, px_l26, px_l29, px_l30, px_l32, px_l43, px_l45, px_l48, px_l57, px_l59, px_l60, px_l64, px_l100, px_l107, px_l116, px_l149, px_l150, px_l348, px_l464, px_l600, px_sa, nI_leI, nI_ltI, nI_eq, nI_add, pk_sub, pk_mul, pk_div, px_rm, nI_clamp, px_ck, px_eqm, px_meq, px_mm, px_mlt, px_mle, px_lem, px_ltm, px_mlem, Option.bind_some, px_b0, px_b1, px_ckb, px_if, px_if', ↓reduceIte]
    rw [L1]
    simp only [Option.bind_some]
  · simp (disch := omega) only [f_X5_touchesOfLikeColours_b2, Nat.le_refl, hs, px_l0, px_l1, px_l2, px_l3, px_l4, px_l5, px_l6, px_l9, px_l10, px_l14, px_l15, px_l23, px_l24, px_l25, px_l26, px_l29, px_l30, px_l32, px_l43, px_l45, px_l48, px_l57, px_l59, px_l60, px_l64, px_l100, px_l107, px_l116, px_l149, px_l150, px_l348, px_l464, px_l600, px_sa, nI_leI, nI_ltI, nI_eq, nI_add, pk_sub, pk_mul, pk_div, px_rm, nI_clamp, px_ck, px_eqm, px_meq, px_mm, px_mlt, px_mle, px_lem, px_ltm, px_mlem, Option.bind_some, px_b0, px_b1, px_ckb, px_if, px_if', ↓reduceIte]
  · simp (disch := omega) only [px_l0, px_l1, px_l2, px_l3, px_l4, px_l5, px_l6, px_l9, px_l10, px_l14, px_l15, px_l23, px_l24, px_l25, px_l26, px_l29, px_l30, px_l32, px_l43, px_l45, px_l48, px_l57, px_l59, px_l60, px_l64, px_l100, px_l107, px_l116, px_l149, px_l150, px_l348, px_l464, px_l600, px_sa, nI_leI, nI_ltI, nI_eq, nI_add, pk_sub, pk_mul, pk_div, px_rm, nI_clamp, px_ck, px_eqm, px_meq, px_mm, px_mlt, px_mle, px_lem, px_ltm, px_mlem, Option.bind_some, px_b0, px_b1, px_ckb, px_if, px_if', ↓reduceIte]
    rw [show 2 * allN 1 K T C lay / 2 = allN 1 K T C lay by omega]
/-! crosses that touch none -/
def aloN (M : Nat → Nat) (lay : Nat → Option (Nat × Nat)) (i : Nat) : Nat := smf (fun i => bN (decide (tcO lay (M i) (nI i) = 0))) i
theorem w5_alo (hO : OKs n r K T M C) (hL : LY n M lay) (hR : RCa n K T M C NWKa NWTa NWMa NWCa) (hl : LC lay ow pa) : f_X5_crossesThatTouchNone (nI n) NWMa ow pa = some (nI (aloN M lay n)) := by
  have hn := hO.1
  unfold f_X5_crossesThatTouchNone
  refine lp_detb (fun i => (nI (aloN M lay i), nI i)) n (nI (aloN M lay n), nI n) ?_ ?_ (by show n < 1000; omega) rfl
  · intro i hi
    have hle : tcO lay (M i) (nI i) ≤ 16 := tcO_le
    simp (disch := omega) only [f_X5_crossesThatTouchNone_b1, (hR.1 i hi).2.2, w5_at hL hn hl (hO.2.2.1 i hi).2.2, show ¬ n ≤ i from by omega, px_l0, px_l1, px_l2, px_l3, px_l4, px_l5, px_l6, px_l9, px_l10, px_l14, px_l15, px_l23, px_l24, px_l25, px_l26, px_l29, px_l30, px_l32, px_l43, px_l45, px_l48, px_l57, px_l59, px_l60, px_l64, px_l100, px_l107, px_l116, px_l149, px_l150, px_l348, px_l464, px_l600, px_sa, nI_leI, nI_ltI, nI_eq, nI_add, pk_sub, pk_mul, pk_div, px_rm, nI_clamp, px_ck, px_eqm, px_meq, px_mm, px_mlt, px_mle, px_lem, px_ltm, px_mlem, Option.bind_some, px_b0, px_b1, px_ckb, px_if, px_if', ↓reduceIte]
    rw [show aloN M lay (i + 1) = aloN M lay i + bN (decide (tcO lay (M i) (nI i) = 0)) from rfl]
    by_cases h : tcO lay (M i) (nI i) = 0 <;> simp [h, bN]
  · simp (disch := omega) only [f_X5_crossesThatTouchNone_b1, Nat.le_refl, px_l0, px_l1, px_l2, px_l3, px_l4, px_l5, px_l6, px_l9, px_l10, px_l14, px_l15, px_l23, px_l24, px_l25, px_l26, px_l29, px_l30, px_l32, px_l43, px_l45, px_l48, px_l57, px_l59, px_l60, px_l64, px_l100, px_l107, px_l116, px_l149, px_l150, px_l348, px_l464, px_l600, px_sa, nI_leI, nI_ltI, nI_eq, nI_add, pk_sub, pk_mul, pk_div, px_rm, nI_clamp, px_ck, px_eqm, px_meq, px_mm, px_mlt, px_mle, px_lem, px_ltm, px_mlem, Option.bind_some, px_b0, px_b1, px_ckb, px_if, px_if', ↓reduceIte]
theorem w7_alo (hO : OKs n r K T M C) (hL : LY n M lay) (hR : RM n r K T M C z) (hl : LM lay on wy) : f_X7_alone z on wy = some (nI (aloN M lay n)) := by
  have hn := hO.1
  have h25 := hR.2.2.1
  unfold f_X7_alone
  refine lp_detb (fun i => (nI (aloN M lay i), nI i)) n (nI (aloN M lay n), nI n) ?_ ?_ (by show n < 1000; omega) rfl
  · intro i hi
    have hle : tcO lay (M i) (nI i) ≤ 16 := tcO_le
    simp (disch := omega) only [f_X7_alone_b1, h25, w7_of hO hL hR hl hi, show ¬ n ≤ i from by omega, px_l0, px_l1, px_l2, px_l3, px_l4, px_l5, px_l6, px_l9, px_l10, px_l14, px_l15, px_l23, px_l24, px_l25, px_l26, px_l29, px_l30, px_l32, px_l43, px_l45, px_l48, px_l57, px_l59, px_l60, px_l64, px_l100, px_l107, px_l116, px_l149, px_l150, px_l348, px_l464, px_l600, px_sa, nI_leI, nI_ltI, nI_eq, nI_add, pk_sub, pk_mul, pk_div, px_rm, nI_clamp, px_ck, px_eqm, px_meq, px_mm, px_mlt, px_mle, px_lem, px_ltm, px_mlem, Option.bind_some, px_b0, px_b1, px_ckb, px_if, px_if', ↓reduceIte]
    rfl
  · simp (disch := omega) only [f_X7_alone_b1, h25, Nat.le_refl, px_l0, px_l1, px_l2, px_l3, px_l4, px_l5, px_l6, px_l9, px_l10, px_l14, px_l15, px_l23, px_l24, px_l25, px_l26, px_l29, px_l30, px_l32, px_l43, px_l45, px_l48, px_l57, px_l59, px_l60, px_l64, px_l100, px_l107, px_l116, px_l149, px_l150, px_l348, px_l464, px_l600, px_sa, nI_leI, nI_ltI, nI_eq, nI_add, pk_sub, pk_mul, pk_div, px_rm, nI_clamp, px_ck, px_eqm, px_meq, px_mm, px_mlt, px_mle, px_lem, px_ltm, px_mlem, Option.bind_some, px_b0, px_b1, px_ckb, px_if, px_if', ↓reduceIte]
end P37
