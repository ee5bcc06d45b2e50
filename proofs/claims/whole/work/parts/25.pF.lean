/-! WHAT HINDERS A CROSS -/
def ffB (lay : Nat → Option (Nat × Nat)) (c : Nat) (x : Int32) : Bool := match lay c with
  | none => true
  | some (i, _) => decide (nI i = x)
def whyX (n ru : Nat) (K T C : Nat → Nat) (lay : Nat → Option (Nat × Nat)) (k t m : Nat) (x : Int32) : Nat :=
  if ffB lay m x then (if anyb (fun d => !ffB lay (bes m d) x) 4 then 2 else if wcB ru K T C lay k t m x then 3 else if x = -nI 1 then (if 30 ≤ n then 4 else 0) else 0) else 1
theorem whyX_le {n ru : Nat} {K T C : Nat → Nat} {lay : Nat → Option (Nat × Nat)} {k t m : Nat} {x : Int32} : whyX n ru K T C lay k t m x ≤ 4 := by
  unfold whyX
  repeat' split
  all_goals omega
section P25
variable {n ru : Nat} {K T M C : Nat → Nat} {lay : Nat → Option (Nat × Nat)} {NWKa NWTa NWMa NWCa ow pa z on wy : Nat → Int32}
theorem w5_arm (hL : LY n M lay) (hn : n ≤ 30) (hl : LC lay ow pa) {a : Nat} (ha : a < 150) (x : Int32) : f_X5_touchesOfArm ow pa (nI a) x = some (nI (smf (fun s => bN (armO lay (bes a s) x)) 4)) := by
  unfold f_X5_touchesOfArm
  refine lp_detb (fun s => (nI (smf (fun s => bN (armO lay (bes a s) x)) s), nI s)) 4 (nI (smf (fun s => bN (armO lay (bes a s) x)) 4), nI 4) ?_ ?_ (by decide) rfl
  · intro s hs
    have h2 := bes_lt a ha s hs
    cases hb : armO lay (bes a s) x <;> simp (disch := omega) only [f_X5_touchesOfArm_b1, g0_bes a ha s hs, w1_arm hL hn hl h2 x, hb, show ¬ 4 ≤ s from by omega, Bool.true_eq_false, smf, px_l0, px_l1, px_l2, px_l3, px_l4, px_l5, px_l6, px_l9, px_l10, px_l14, px_l15, px_l23, px_l24, px_l25, px_l26, px_l29, px_l30, px_l32, px_l43, px_l45, px_l48, px_l57, px_l59, px_l60, px_l64, px_l100, px_l107, px_l116, px_l149, px_l150, px_l348, px_l464, px_l600, px_sa, nI_leI, nI_ltI, nI_eq, nI_add, pk_sub, pk_mul, pk_div, px_rm, nI_clamp, px_ck, px_eqm, px_meq, px_mm, px_mlt, px_mle, px_lem, px_ltm, px_mlem, Option.bind_some, px_b0, px_b1, px_ckb, px_if, px_if', ↓reduceIte] <;> rfl
  · simp (disch := omega) only [f_X5_touchesOfArm_b1, Nat.le_refl, px_l0, px_l1, px_l2, px_l3, px_l4, px_l5, px_l6, px_l9, px_l10, px_l14, px_l15, px_l23, px_l24, px_l25, px_l26, px_l29, px_l30, px_l32, px_l43, px_l45, px_l48, px_l57, px_l59, px_l60, px_l64, px_l100, px_l107, px_l116, px_l149, px_l150, px_l348, px_l464, px_l600, px_sa, nI_leI, nI_ltI, nI_eq, nI_add, pk_sub, pk_mul, pk_div, px_rm, nI_clamp, px_ck, px_eqm, px_meq, px_mm, px_mlt, px_mle, px_lem, px_ltm, px_mlem, Option.bind_some, px_b0, px_b1, px_ckb, px_if, px_if', ↓reduceIte]
theorem w5_at (hL : LY n M lay) (hn : n ≤ 30) (hl : LC lay ow pa) {m : Nat} (hm : m < 150) (x : Int32) : f_X5_touchesAt ow pa (nI m) x = some (nI (tcO lay m x)) := by
  unfold f_X5_touchesAt
  refine lp_detb (fun d => (nI (smf (fun d => smf (fun s => bN (armO lay (bes (bes m d) s) x)) 4) d), nI d)) 4 (nI (tcO lay m x), nI 4) ?_ ?_ (by decide) rfl
  · intro d hd
    simp (disch := omega) only [f_X5_touchesAt_b1, g0_bes m hm d hd, w5_arm hL hn hl (bes_lt m hm d hd) x, show ¬ 4 ≤ d from by omega, smf, px_l0, px_l1, px_l2, px_l3, px_l4, px_l5, px_l6, px_l9, px_l10, px_l14, px_l15, px_l23, px_l24, px_l25, px_l26, px_l29, px_l30, px_l32, px_l43, px_l45, px_l48, px_l57, px_l59, px_l60, px_l64, px_l100, px_l107, px_l116, px_l149, px_l150, px_l348, px_l464, px_l600, px_sa, nI_leI, nI_ltI, nI_eq, nI_add, pk_sub, pk_mul, pk_div, px_rm, nI_clamp, px_ck, px_eqm, px_meq, px_mm, px_mlt, px_mle, px_lem, px_ltm, px_mlem, Option.bind_some, px_b0, px_b1, px_ckb, px_if, px_if', ↓reduceIte]
  · simp (disch := omega) only [f_X5_touchesAt_b1, Nat.le_refl, px_l0, px_l1, px_l2, px_l3, px_l4, px_l5, px_l6, px_l9, px_l10, px_l14, px_l15, px_l23, px_l24, px_l25, px_l26, px_l29, px_l30, px_l32, px_l43, px_l45, px_l48, px_l57, px_l59, px_l60, px_l64, px_l100, px_l107, px_l116, px_l149, px_l150, px_l348, px_l464, px_l600, px_sa, nI_leI, nI_ltI, nI_eq, nI_add, pk_sub, pk_mul, pk_div, px_rm, nI_clamp, px_ck, px_eqm, px_meq, px_mm, px_mlt, px_mle, px_lem, px_ltm, px_mlem, Option.bind_some, px_b0, px_b1, px_ckb, px_if, px_if', ↓reduceIte]
    rfl
theorem tcO_le {m : Nat} {x : Int32} : tcO lay m x ≤ 16 := smf_le (b := 4) (fun d _ => smf_le (b := 1) (fun s _ => bN_le _))
theorem w7_tc (hO : OKs n ru K T M C) (hL : LY n M lay) (hR : RM n ru K T M C z) (hl : LM lay on wy) {k t m : Nat} (hk : k < 6) (ht : t < 4) (hm : m < 150) :
    f_X7_touches z on wy (nI k) (nI t) (nI m) = some (if wcB ru K T C lay k t m (-nI 1) then -nI 1 else nI (tcO lay m (-nI 1))) := by
  obtain ⟨hn, hr, hb, hc⟩ := id hO
  have inner : ∀ d, d < 4 → ∀ (N0 : Nat) (b0 : Bool) (s : Nat), s < 4 → f_X7_touches_b1 z on wy (nI k) (nI t) (nI N0, nI (bN b0), nI d) (nI (bes m d)) (nI (N0 + smf (fun s => bN (armO lay (bes (bes m d) s) (-nI 1))) s), nI (bN (b0 || anyb (fun s => armO lay (bes (bes m d) s) (-nI 1) && clB ru (colBy C k t d) (ccl K T C lay (bes (bes m d) s))) s)), nI s) =
      some (.inl (nI (N0 + smf (fun s => bN (armO lay (bes (bes m d) s) (-nI 1))) (s + 1)), nI (bN (b0 || anyb (fun s => armO lay (bes (bes m d) s) (-nI 1) && clB ru (colBy C k t d) (ccl K T C lay (bes (bes m d) s))) (s + 1))), nI (s + 1))) := by
    intro d hd N0 b0 s hs
    have h1 := bes_lt m hm d hd
    have h2 := bes_lt _ h1 s hs
    simp only [anyb, smf]
    rw [← Bool.or_assoc, ← Nat.add_assoc]
    generalize (b0 || anyb (fun s => armO lay (bes (bes m d) s) (-nI 1) && clB ru (colBy C k t d) (ccl K T C lay (bes (bes m d) s))) s) = b
    generalize N0 + smf (fun s => bN (armO lay (bes (bes m d) s) (-nI 1))) s = N
    rw [armO_m1 hL hn h2]
    cases ha : armB lay (bes (bes m d) s) with
    | false =>
      simp (disch := omega) only [f_X7_touches_b1, g7_bes _ h1 s hs, w7_hasArm hL hl h2, ha, show ¬ 4 ≤ s from by omega, Bool.false_and, Bool.or_false, bN, Bool.false_eq_true, Nat.add_zero, px_l0, px_l1, px_l2, px_l3, px_l4, px_l5, px_l6, px_l9, px_l10, px_l14, px_l15, px_l23, px_l24, px_l25, px_l26, px_l29, px_l30, px_l32, px_l43, px_l45, px_l48, px_l57, px_l59, px_l60, px_l64, px_l100, px_l107, px_l116, px_l149, px_l150, px_l348, px_l464, px_l600, px_sa, nI_leI, nI_ltI, nI_eq, nI_add, pk_sub, pk_mul, pk_div, px_rm, nI_clamp, px_ck, px_eqm, px_meq, px_mm, px_mlt, px_mle, px_lem, px_ltm, px_mlem, Option.bind_some, px_b0, px_b1, px_ckb, px_if, px_if', ↓reduceIte]
    | true =>
      cases b with
      | true =>
        simp (disch := omega) only [f_X7_touches_b1, g7_bes _ h1 s hs, w7_hasArm hL hl h2, ha, show ¬ 4 ≤ s from by omega, Bool.true_or, Bool.true_eq_false, px_l0, px_l1, px_l2, px_l3, px_l4, px_l5, px_l6, px_l9, px_l10, px_l14, px_l15, px_l23, px_l24, px_l25, px_l26, px_l29, px_l30, px_l32, px_l43, px_l45, px_l48, px_l57, px_l59, px_l60, px_l64, px_l100, px_l107, px_l116, px_l149, px_l150, px_l348, px_l464, px_l600, px_sa, nI_leI, nI_ltI, nI_eq, nI_add, pk_sub, pk_mul, pk_div, px_rm, nI_clamp, px_ck, px_eqm, px_meq, px_mm, px_mlt, px_mle, px_lem, px_ltm, px_mlem, Option.bind_some, px_b0, px_b1, px_ckb, px_if, px_if', ↓reduceIte]
        rfl
      | false =>
        simp (disch := omega) only [f_X7_touches_b1, g7_bes _ h1 s hs, w7_hasArm hL hl h2, ha, w7_colBy hR hk ht hd, w7_armCol hO hL hR hl h2 ha, w7_clash hR hr (colBy_lt hO hk ht hd) (ccl_lt hO hL h2 ha), show ¬ 4 ≤ s from by omega, Bool.true_and, Bool.false_or, Bool.true_eq_false, px_l0, px_l1, px_l2, px_l3, px_l4, px_l5, px_l6, px_l9, px_l10, px_l14, px_l15, px_l23, px_l24, px_l25, px_l26, px_l29, px_l30, px_l32, px_l43, px_l45, px_l48, px_l57, px_l59, px_l60, px_l64, px_l100, px_l107, px_l116, px_l149, px_l150, px_l348, px_l464, px_l600, px_sa, nI_leI, nI_ltI, nI_eq, nI_add, pk_sub, pk_mul, pk_div, px_rm, nI_clamp, px_ck, px_eqm, px_meq, px_mm, px_mlt, px_mle, px_lem, px_ltm, px_mlem, Option.bind_some, px_b0, px_b1, px_ckb, px_if, px_if', ↓reduceIte]
        cases clB ru (colBy C k t d) (ccl K T C lay (bes (bes m d) s)) <;> simp [bN]
  have L : lp (f_X7_touches_b2 z on wy (nI k) (nI t) (nI m)) FU ((0 : Int32), (0 : Int32), (0 : Int32)) = some (nI (tcO lay m (-nI 1)), nI (bN (wcB ru K T C lay k t m (-nI 1))), nI 4) := by
    refine lp_det (fun d => (nI (smf (fun d => smf (fun s => bN (armO lay (bes (bes m d) s) (-nI 1))) 4) d), nI (bN (anyb (fun d => anyb (fun s => armO lay (bes (bes m d) s) (-nI 1) && clB ru (colBy C k t d) (ccl K T C lay (bes (bes m d) s))) 4) d)), nI d)) 4 _ ?_ ?_ (by decide) rfl
    · intro d hd
      have L1 := lp_det (f := f_X7_touches_b1 z on wy (nI k) (nI t) (nI (smf (fun d => smf (fun s => bN (armO lay (bes (bes m d) s) (-nI 1))) 4) d), nI (bN (anyb (fun d => anyb (fun s => armO lay (bes (bes m d) s) (-nI 1) && clB ru (colBy C k t d) (ccl K T C lay (bes (bes m d) s))) 4) d)), nI d) (nI (bes m d))) _ 4 _ (inner d hd (smf (fun d => smf (fun s => bN (armO lay (bes (bes m d) s) (-nI 1))) 4) d) (anyb (fun d => anyb (fun s => armO lay (bes (bes m d) s) (-nI 1) && clB ru (colBy C k t d) (ccl K T C lay (bes (bes m d) s))) 4) d)) (by simp (disch := omega) only [f_X7_touches_b1, Nat.le_refl, px_l0, px_l1, px_l2, px_l3, px_l4, px_l5, px_l6, px_l9, px_l10, px_l14, px_l15, px_l23, px_l24, px_l25, px_l26, px_l29, px_l30, px_l32, px_l43, px_l45, px_l48, px_l57, px_l59, px_l60, px_l64, px_l100, px_l107, px_l116, px_l149, px_l150, px_l348, px_l464, px_l600, px_sa, nI_leI, nI_ltI, nI_eq, nI_add, pk_sub, pk_mul, pk_div, px_rm, nI_clamp, px_ck, px_eqm, px_meq, px_mm, px_mlt, px_mle, px_lem, px_ltm, px_mlem, Option.bind_some, px_b0, px_b1, px_ckb, px_if, px_if', ↓reduceIte]; rfl) (N := FU) (by decide) rfl
      simp only [anyb, smf, Bool.or_false, Nat.add_zero] at L1 ⊢
      simp (disch := omega) only [f_X7_touches_b2, g7_bes m hm d hd, show ¬ 4 ≤ d from by omega, px_l0, px_l1, px_l2, px_l3, px_l4, px_l5, px_l6, px_l9, px_l10, px_l14, px_l15, px_l23, px_l24, px_l25, px_l26, px_l29, px_l30, px_l32, px_l43, px_l45, px_l48, px_l57, px_l59, px_l60, px_l64, px_l100, px_l107, px_l116, px_l149, px_l150, px_l348, px_l464, px_l600, px_sa, nI_leI, nI_ltI, nI_eq, nI_add, pk_sub, pk_mul, pk_div, px_rm, nI_clamp, px_ck, px_eqm, px_meq, px_mm, px_mlt, px_mle, px_lem, px_ltm, px_mlem, Option.bind_some, px_b0, px_b1, px_ckb, px_if, px_if', ↓reduceIte]
      rw [L1]
      rfl
    · simp (disch := omega) only [f_X7_touches_b2, Nat.le_refl, px_l0, px_l1, px_l2, px_l3, px_l4, px_l5, px_l6, px_l9, px_l10, px_l14, px_l15, px_l23, px_l24, px_l25, px_l26, px_l29, px_l30, px_l32, px_l43, px_l45, px_l48, px_l57, px_l59, px_l60, px_l64, px_l100, px_l107, px_l116, px_l149, px_l150, px_l348, px_l464, px_l600, px_sa, nI_leI, nI_ltI, nI_eq, nI_add, pk_sub, pk_mul, pk_div, px_rm, nI_clamp, px_ck, px_eqm, px_meq, px_mm, px_mlt, px_mle, px_lem, px_ltm, px_mlem, Option.bind_some, px_b0, px_b1, px_ckb, px_if, px_if', ↓reduceIte]
      rfl
  unfold f_X7_touches
  rw [L]
  cases wcB ru K T C lay k t m (-nI 1) <;> simp (disch := omega) only [Bool.true_eq_false, Bool.false_eq_true, px_l0, px_l1, px_l2, px_l3, px_l4, px_l5, px_l6, px_l9, px_l10, px_l14, px_l15, px_l23, px_l24, px_l25, px_l26, px_l29, px_l30, px_l32, px_l43, px_l45, px_l48, px_l57, px_l59, px_l60, px_l64, px_l100, px_l107, px_l116, px_l149, px_l150, px_l348, px_l464, px_l600, px_sa, nI_leI, nI_ltI, nI_eq, nI_add, pk_sub, pk_mul, pk_div, px_rm, nI_clamp, px_ck, px_eqm, px_meq, px_mm, px_mlt, px_mle, px_lem, px_ltm, px_mlem, Option.bind_some, px_b0, px_b1, px_ckb, px_if, px_if', ↓reduceIte]
theorem w1_ff (hL : LY n M lay) (hn : n ≤ 30) (hl : LC lay ow pa) {c : Nat} (hc : c < 150) (x : Int32) : f_X1_isFreeFor ow x (nI c) = some (nI (bN (ffB lay c x))) := by
  unfold f_X1_isFreeFor
  rw [w1_free hL hn hl hc]
  unfold frB ffB
  cases h : lay c with
  | none => simp (disch := omega) only [Option.isNone_none, Bool.true_eq_false, px_l0, px_l1, px_l2, px_l3, px_l4, px_l5, px_l6, px_l9, px_l10, px_l14, px_l15, px_l23, px_l24, px_l25, px_l26, px_l29, px_l30, px_l32, px_l43, px_l45, px_l48, px_l57, px_l59, px_l60, px_l64, px_l100, px_l107, px_l116, px_l149, px_l150, px_l348, px_l464, px_l600, px_sa, nI_leI, nI_ltI, nI_eq, nI_add, pk_sub, pk_mul, pk_div, px_rm, nI_clamp, px_ck, px_eqm, px_meq, px_mm, px_mlt, px_mle, px_lem, px_ltm, px_mlem, Option.bind_some, px_b0, px_b1, px_ckb, px_if, px_if', ↓reduceIte]; simp [ckP, bN]
  | some q =>
    obtain ⟨i, d⟩ := q
    obtain ⟨h1, h2⟩ := (hl c hc).2 i d h
    simp (disch := omega) only [Option.isNone_some, h1, px_l0, px_l1, px_l2, px_l3, px_l4, px_l5, px_l6, px_l9, px_l10, px_l14, px_l15, px_l23, px_l24, px_l25, px_l26, px_l29, px_l30, px_l32, px_l43, px_l45, px_l48, px_l57, px_l59, px_l60, px_l64, px_l100, px_l107, px_l116, px_l149, px_l150, px_l348, px_l464, px_l600, px_sa, nI_leI, nI_ltI, nI_eq, nI_add, pk_sub, pk_mul, pk_div, px_rm, nI_clamp, px_ck, px_eqm, px_meq, px_mm, px_mlt, px_mle, px_lem, px_ltm, px_mlem, Option.bind_some, px_b0, px_b1, px_ckb, px_if, px_if', ↓reduceIte]
theorem w1_why (hO : OKs n ru K T M C) (hL : LY n M lay) (hR : RCa n K T M C NWKa NWTa NWMa NWCa) (hl : LC lay ow pa) {k t m : Nat} (hk : k < 6) (ht : t < 4) (hm : m < 150) (x : Int32) :
    f_X1_whyNot (nI ru) (nI n) NWKa NWTa NWCa ow pa (nI k) (nI t) (nI m) x = some (nI (whyX n ru K T C lay k t m x)) := by
  obtain ⟨hn, hr, hb, hc⟩ := id hO
  have body : ∀ d, d < 4 → f_X1_whyNot_b1 ow (nI m) x (nI d) = some (if !ffB lay (bes m d) x then .inr (.inr (nI 2)) else .inl (nI (d + 1))) := by
    intro d hd
    cases h : ffB lay (bes m d) x <;> simp (disch := omega) only [f_X1_whyNot_b1, g0_bes m hm d hd, w1_ff hL hn hl (bes_lt m hm d hd) x, h, show ¬ 4 ≤ d from by omega, Bool.not_true, Bool.not_false, Bool.true_eq_false, Bool.false_eq_true, px_l0, px_l1, px_l2, px_l3, px_l4, px_l5, px_l6, px_l9, px_l10, px_l14, px_l15, px_l23, px_l24, px_l25, px_l26, px_l29, px_l30, px_l32, px_l43, px_l45, px_l48, px_l57, px_l59, px_l60, px_l64, px_l100, px_l107, px_l116, px_l149, px_l150, px_l348, px_l464, px_l600, px_sa, nI_leI, nI_ltI, nI_eq, nI_add, pk_sub, pk_mul, pk_div, px_rm, nI_clamp, px_ck, px_eqm, px_meq, px_mm, px_mlt, px_mle, px_lem, px_ltm, px_mlem, Option.bind_some, px_b0, px_b1, px_ckb, px_if, px_if', ↓reduceIte]
  unfold f_X1_whyNot whyX
  rw [w1_ff hL hn hl hm x]
  cases h : ffB lay m x with
  | false => simp (disch := omega) only [Bool.false_eq_true, px_l0, px_l1, px_l2, px_l3, px_l4, px_l5, px_l6, px_l9, px_l10, px_l14, px_l15, px_l23, px_l24, px_l25, px_l26, px_l29, px_l30, px_l32, px_l43, px_l45, px_l48, px_l57, px_l59, px_l60, px_l64, px_l100, px_l107, px_l116, px_l149, px_l150, px_l348, px_l464, px_l600, px_sa, nI_leI, nI_ltI, nI_eq, nI_add, pk_sub, pk_mul, pk_div, px_rm, nI_clamp, px_ck, px_eqm, px_meq, px_mm, px_mlt, px_mle, px_lem, px_ltm, px_mlem, Option.bind_some, px_b0, px_b1, px_ckb, px_if, px_if', ↓reduceIte]
  | true =>
    simp (disch := omega) only [Bool.true_eq_false, px_l0, px_l1, px_l2, px_l3, px_l4, px_l5, px_l6, px_l9, px_l10, px_l14, px_l15, px_l23, px_l24, px_l25, px_l26, px_l29, px_l30, px_l32, px_l43, px_l45, px_l48, px_l57, px_l59, px_l60, px_l64, px_l100, px_l107, px_l116, px_l149, px_l150, px_l348, px_l464, px_l600, px_sa, nI_leI, nI_ltI, nI_eq, nI_add, pk_sub, pk_mul, pk_div, px_rm, nI_clamp, px_ck, px_eqm, px_meq, px_mm, px_mlt, px_mle, px_lem, px_ltm, px_mlem, Option.bind_some, px_b0, px_b1, px_ckb, px_if, px_if', ↓reduceIte]
    rw [lp_any _ (nI 2) 4 body (by simp (disch := omega) only [f_X1_whyNot_b1, Nat.le_refl, px_l0, px_l1, px_l2, px_l3, px_l4, px_l5, px_l6, px_l9, px_l10, px_l14, px_l15, px_l23, px_l24, px_l25, px_l26, px_l29, px_l30, px_l32, px_l43, px_l45, px_l48, px_l57, px_l59, px_l60, px_l64, px_l100, px_l107, px_l116, px_l149, px_l150, px_l348, px_l464, px_l600, px_sa, nI_leI, nI_ltI, nI_eq, nI_add, pk_sub, pk_mul, pk_div, px_rm, nI_clamp, px_ck, px_eqm, px_meq, px_mm, px_mlt, px_mle, px_lem, px_ltm, px_mlem, Option.bind_some, px_b0, px_b1, px_ckb, px_if, px_if', ↓reduceIte]) (by decide)]
    cases h2 : anyb (fun d => !ffB lay (bes m d) x) 4 with
    | true => rfl
    | false =>
      simp (disch := omega) only [Bool.false_eq_true, Sum.elim_inl, w1_wc hO hL hR hl hk ht hm x, px_l0, px_l1, px_l2, px_l3, px_l4, px_l5, px_l6, px_l9, px_l10, px_l14, px_l15, px_l23, px_l24, px_l25, px_l26, px_l29, px_l30, px_l32, px_l43, px_l45, px_l48, px_l57, px_l59, px_l60, px_l64, px_l100, px_l107, px_l116, px_l149, px_l150, px_l348, px_l464, px_l600, px_sa, nI_leI, nI_ltI, nI_eq, nI_add, pk_sub, pk_mul, pk_div, px_rm, nI_clamp, px_ck, px_eqm, px_meq, px_mm, px_mlt, px_mle, px_lem, px_ltm, px_mlem, Option.bind_some, px_b0, px_b1, px_ckb, px_if, px_if', ↓reduceIte]
      cases h3 : wcB ru K T C lay k t m x with
      | true => rfl
      | false =>
        simp (disch := omega) only [Bool.false_eq_true, px_l0, px_l1, px_l2, px_l3, px_l4, px_l5, px_l6, px_l9, px_l10, px_l14, px_l15, px_l23, px_l24, px_l25, px_l26, px_l29, px_l30, px_l32, px_l43, px_l45, px_l48, px_l57, px_l59, px_l60, px_l64, px_l100, px_l107, px_l116, px_l149, px_l150, px_l348, px_l464, px_l600, px_sa, nI_leI, nI_ltI, nI_eq, nI_add, pk_sub, pk_mul, pk_div, px_rm, nI_clamp, px_ck, px_eqm, px_meq, px_mm, px_mlt, px_mle, px_lem, px_ltm, px_mlem, Option.bind_some, px_b0, px_b1, px_ckb, px_if, px_if', ↓reduceIte]
        by_cases h4 : x = -nI 1
        · by_cases h5 : n < 30
          · have h6 : ¬ 30 ≤ n := by omega
            simp [h4, h5, h6]
          · have h6 : 30 ≤ n := by omega
            simp [h4, h5, h6]
        · simp [h4]
theorem ffB_m1 (hL : LY n M lay) (hn : n ≤ 30) {c : Nat} (hc : c < 150) : ffB lay c (-nI 1) = frB lay c := by
  unfold ffB frB
  cases h : lay c with
  | none => rfl
  | some q =>
    obtain ⟨g1, g2, -⟩ := hL.2 c q.1 q.2 hc h
    exact decide_eq_false (fun h => (px_eqm (by omega) (by omega) (by omega)).mp h)
theorem w7_why (hO : OKs n ru K T M C) (hL : LY n M lay) (hR : RM n ru K T M C z) (hl : LM lay on wy) {k t m : Nat} (hk : k < 6) (ht : t < 4) (hm : m < 150) :
    f_X7_why z on wy (nI k) (nI t) (nI m) = some (nI (whyX n ru K T C lay k t m (-nI 1))) := by
  obtain ⟨hn, hr, hb, hc⟩ := id hO
  have on_lt : ∀ c, c < 150 → (on c < nI 0 ↔ frB lay c = true) := by
    intro c hc
    unfold frB
    cases h : lay c with
    | none =>
      rw [((hl c hc).1 h).1, px_ltm_0 (by omega) (by omega)]
      simp
    | some q =>
      obtain ⟨g1, g2, -⟩ := hL.2 c q.1 q.2 hc h
      rw [((hl c hc).2 q.1 q.2 h).1, nI_ltI (by omega) (by omega)]
      simp
  have body : ∀ d, d < 4 → f_X7_why_b1 on (nI m) (nI d) = some (if !ffB lay (bes m d) (-nI 1) then .inr (.inr (nI 2)) else .inl (nI (d + 1))) := by
    intro d hd
    have h2 := bes_lt m hm d hd
    rw [ffB_m1 hL hn h2]
    cases h : frB lay (bes m d) with
    | true => simp (disch := omega) only [f_X7_why_b1, g7_bes m hm d hd, show ¬ 4 ≤ d from by omega, Bool.not_true, Bool.false_eq_true, (on_lt _ h2), h, px_l0, px_l1, px_l2, px_l3, px_l4, px_l5, px_l6, px_l9, px_l10, px_l14, px_l15, px_l23, px_l24, px_l25, px_l26, px_l29, px_l30, px_l32, px_l43, px_l45, px_l48, px_l57, px_l59, px_l60, px_l64, px_l100, px_l107, px_l116, px_l149, px_l150, px_l348, px_l464, px_l600, px_sa, nI_leI, nI_ltI, nI_eq, nI_add, pk_sub, pk_mul, pk_div, px_rm, nI_clamp, px_ck, px_eqm, px_meq, px_mm, px_mlt, px_mle, px_lem, px_ltm, px_mlem, Option.bind_some, px_b0, px_b1, px_ckb, px_if, px_if', ↓reduceIte]
    | false => simp (disch := omega) only [f_X7_why_b1, g7_bes m hm d hd, show ¬ 4 ≤ d from by omega, Bool.not_false, Bool.false_eq_true, (on_lt _ h2), h, px_l0, px_l1, px_l2, px_l3, px_l4, px_l5, px_l6, px_l9, px_l10, px_l14, px_l15, px_l23, px_l24, px_l25, px_l26, px_l29, px_l30, px_l32, px_l43, px_l45, px_l48, px_l57, px_l59, px_l60, px_l64, px_l100, px_l107, px_l116, px_l149, px_l150, px_l348, px_l464, px_l600, px_sa, nI_leI, nI_ltI, nI_eq, nI_add, pk_sub, pk_mul, pk_div, px_rm, nI_clamp, px_ck, px_eqm, px_meq, px_mm, px_mlt, px_mle, px_lem, px_ltm, px_mlem, Option.bind_some, px_b0, px_b1, px_ckb, px_if, px_if', ↓reduceIte]
  unfold f_X7_why whyX
  rw [ffB_m1 hL hn hm]
  cases h : frB lay m with
  | false => simp (disch := omega) only [Bool.false_eq_true, (on_lt _ hm), h, px_l0, px_l1, px_l2, px_l3, px_l4, px_l5, px_l6, px_l9, px_l10, px_l14, px_l15, px_l23, px_l24, px_l25, px_l26, px_l29, px_l30, px_l32, px_l43, px_l45, px_l48, px_l57, px_l59, px_l60, px_l64, px_l100, px_l107, px_l116, px_l149, px_l150, px_l348, px_l464, px_l600, px_sa, nI_leI, nI_ltI, nI_eq, nI_add, pk_sub, pk_mul, pk_div, px_rm, nI_clamp, px_ck, px_eqm, px_meq, px_mm, px_mlt, px_mle, px_lem, px_ltm, px_mlem, Option.bind_some, px_b0, px_b1, px_ckb, px_if, px_if', ↓reduceIte]
  | true =>
    simp (disch := omega) only [(on_lt _ hm), h, px_l0, px_l1, px_l2, px_l3, px_l4, px_l5, px_l6, px_l9, px_l10, px_l14, px_l15, px_l23, px_l24, px_l25, px_l26, px_l29, px_l30, px_l32, px_l43, px_l45, px_l48, px_l57, px_l59, px_l60, px_l64, px_l100, px_l107, px_l116, px_l149, px_l150, px_l348, px_l464, px_l600, px_sa, nI_leI, nI_ltI, nI_eq, nI_add, pk_sub, pk_mul, pk_div, px_rm, nI_clamp, px_ck, px_eqm, px_meq, px_mm, px_mlt, px_mle, px_lem, px_ltm, px_mlem, Option.bind_some, px_b0, px_b1, px_ckb, px_if, px_if', ↓reduceIte]
    rw [lp_any _ (nI 2) 4 body (by simp (disch := omega) only [f_X7_why_b1, Nat.le_refl, px_l0, px_l1, px_l2, px_l3, px_l4, px_l5, px_l6, px_l9, px_l10, px_l14, px_l15, px_l23, px_l24, px_l25, px_l26, px_l29, px_l30, px_l32, px_l43, px_l45, px_l48, px_l57, px_l59, px_l60, px_l64, px_l100, px_l107, px_l116, px_l149, px_l150, px_l348, px_l464, px_l600, px_sa, nI_leI, nI_ltI, nI_eq, nI_add, pk_sub, pk_mul, pk_div, px_rm, nI_clamp, px_ck, px_eqm, px_meq, px_mm, px_mlt, px_mle, px_lem, px_ltm, px_mlem, Option.bind_some, px_b0, px_b1, px_ckb, px_if, px_if', ↓reduceIte]) (by decide)]
    cases h2 : anyb (fun d => !ffB lay (bes m d) (-nI 1)) 4 with
    | true => rfl
    | false =>
      simp (disch := omega) only [Bool.false_eq_true, Sum.elim_inl, w7_tc hO hL hR hl hk ht hm, px_l0, px_l1, px_l2, px_l3, px_l4, px_l5, px_l6, px_l9, px_l10, px_l14, px_l15, px_l23, px_l24, px_l25, px_l26, px_l29, px_l30, px_l32, px_l43, px_l45, px_l48, px_l57, px_l59, px_l60, px_l64, px_l100, px_l107, px_l116, px_l149, px_l150, px_l348, px_l464, px_l600, px_sa, nI_leI, nI_ltI, nI_eq, nI_add, pk_sub, pk_mul, pk_div, px_rm, nI_clamp, px_ck, px_eqm, px_meq, px_mm, px_mlt, px_mle, px_lem, px_ltm, px_mlem, Option.bind_some, px_b0, px_b1, px_ckb, px_if, px_if', ↓reduceIte]
      have h25 := hR.2.2.1
      cases h3 : wcB ru K T C lay k t m (-nI 1) with
      | true => simp (disch := omega) only [px_l0, px_l1, px_l2, px_l3, px_l4, px_l5, px_l6, px_l9, px_l10, px_l14, px_l15, px_l23, px_l24, px_l25, px_l26, px_l29, px_l30, px_l32, px_l43, px_l45, px_l48, px_l57, px_l59, px_l60, px_l64, px_l100, px_l107, px_l116, px_l149, px_l150, px_l348, px_l464, px_l600, px_sa, nI_leI, nI_ltI, nI_eq, nI_add, pk_sub, pk_mul, pk_div, px_rm, nI_clamp, px_ck, px_eqm, px_meq, px_mm, px_mlt, px_mle, px_lem, px_ltm, px_mlem, Option.bind_some, px_b0, px_b1, px_ckb, px_if, px_if', ↓reduceIte]
      | false =>
        have h9 : tcO lay m (-nI 1) ≤ 16 := tcO_le
        simp (disch := omega) only [Bool.false_eq_true, h25, Nat.zero_le, px_l0, px_l1, px_l2, px_l3, px_l4, px_l5, px_l6, px_l9, px_l10, px_l14, px_l15, px_l23, px_l24, px_l25, px_l26, px_l29, px_l30, px_l32, px_l43, px_l45, px_l48, px_l57, px_l59, px_l60, px_l64, px_l100, px_l107, px_l116, px_l149, px_l150, px_l348, px_l464, px_l600, px_sa, nI_leI, nI_ltI, nI_eq, nI_add, pk_sub, pk_mul, pk_div, px_rm, nI_clamp, px_ck, px_eqm, px_meq, px_mm, px_mlt, px_mle, px_lem, px_ltm, px_mlem, Option.bind_some, px_b0, px_b1, px_ckb, px_if, px_if', ↓reduceIte]
        by_cases h5 : n = 30
        · have h6 : 30 ≤ n := by omega
          simp [h5]
        · have h6 : ¬ 30 ≤ n := by omega
          simp [h5, h6]
theorem w7_ff (hL : LY n M lay) (hn : n ≤ 30) (hl : LM lay on wy) {i m : Nat} (hi : i < n) (hm : m < 150) :
    f_X7_isFreeFor on (nI i) (nI m) = some (nI (bN (ffB lay m (nI i) && !anyb (fun d => !ffB lay (bes m d) (nI i)) 4))) := by
  have cellB : ∀ c, c < 150 → (on c < nI 0 ∨ on c = nI i ↔ ffB lay c (nI i) = true) := by
    intro c hc
    unfold ffB
    cases h : lay c with
    | none =>
      rw [((hl c hc).1 h).1, px_ltm_0 (by omega) (by omega)]
      simp
    | some q =>
      obtain ⟨g1, g2, -⟩ := hL.2 c q.1 q.2 hc h
      rw [((hl c hc).2 q.1 q.2 h).1, nI_ltI (by omega) (by omega)]
      simp
  have body : ∀ (b0 : Bool) (d : Nat), d < 4 → f_X7_isFreeFor_b1 on (nI i) (nI m) (nI (bN (b0 && !anyb (fun d => !ffB lay (bes m d) (nI i)) d)), nI d) = some (.inl (nI (bN (b0 && !anyb (fun d => !ffB lay (bes m d) (nI i)) (d + 1))), nI (d + 1))) := by
    intro b0 d hd
    have h2 := bes_lt m hm d hd
    simp only [anyb, Bool.not_or, Bool.not_not]
    rw [← Bool.and_assoc]
    generalize (b0 && !anyb (fun d => !ffB lay (bes m d) (nI i)) d) = b
    cases b with
    | false => simp (disch := omega) only [f_X7_isFreeFor_b1, g7_bes m hm d hd, show ¬ 4 ≤ d from by omega, Bool.false_and, px_l0, px_l1, px_l2, px_l3, px_l4, px_l5, px_l6, px_l9, px_l10, px_l14, px_l15, px_l23, px_l24, px_l25, px_l26, px_l29, px_l30, px_l32, px_l43, px_l45, px_l48, px_l57, px_l59, px_l60, px_l64, px_l100, px_l107, px_l116, px_l149, px_l150, px_l348, px_l464, px_l600, px_sa, nI_leI, nI_ltI, nI_eq, nI_add, pk_sub, pk_mul, pk_div, px_rm, nI_clamp, px_ck, px_eqm, px_meq, px_mm, px_mlt, px_mle, px_lem, px_ltm, px_mlem, Option.bind_some, px_b0, px_b1, px_ckb, px_if, px_if', ↓reduceIte]; rfl
    | true =>
      simp (disch := omega) only [f_X7_isFreeFor_b1, g7_bes m hm d hd, show ¬ 4 ≤ d from by omega, Bool.true_and, Bool.true_eq_false, px_l0, px_l1, px_l2, px_l3, px_l4, px_l5, px_l6, px_l9, px_l10, px_l14, px_l15, px_l23, px_l24, px_l25, px_l26, px_l29, px_l30, px_l32, px_l43, px_l45, px_l48, px_l57, px_l59, px_l60, px_l64, px_l100, px_l107, px_l116, px_l149, px_l150, px_l348, px_l464, px_l600, px_sa, nI_leI, nI_ltI, nI_eq, nI_add, pk_sub, pk_mul, pk_div, px_rm, nI_clamp, px_ck, px_eqm, px_meq, px_mm, px_mlt, px_mle, px_lem, px_ltm, px_mlem, Option.bind_some, px_b0, px_b1, px_ckb, px_if, px_if', ↓reduceIte]
      have := cellB _ h2
      cases hf : ffB lay (bes m d) (nI i) with
      | true =>
        rw [hf] at this
        rcases this.mpr rfl with h | h
        · rw [if_pos h]; rfl
        · by_cases h' : on (bes m d) < nI 0
          · rw [if_pos h']; rfl
          · rw [if_neg h']; simp [h, bN]
      | false =>
        rw [hf] at this
        have h3 := (not_congr this).mpr (by simp)
        rw [not_or] at h3
        rw [if_neg h3.1]
        simp [h3.2, bN]
  unfold f_X7_isFreeFor
  have first : ((if on m < nI 0 then some (nI 1) else if on m = nI i then some (nI 1) else some (nI 0)) : Option Int32) = some (nI (bN (ffB lay m (nI i)))) := by
    have := cellB _ hm
    cases hf : ffB lay m (nI i) with
    | true =>
      rw [hf] at this
      rcases this.mpr rfl with h | h
      · rw [if_pos h]; rfl
      · by_cases h' : on m < nI 0
        · rw [if_pos h']; rfl
        · rw [if_neg h']; simp [h, bN]
    | false =>
      rw [hf] at this
      have h3 := (not_congr this).mpr (by simp)
      rw [not_or] at h3
      rw [if_neg h3.1]
      simp [h3.2, bN]
  have L1 := lp_det (f := f_X7_isFreeFor_b1 on (nI i) (nI m)) _ 4 _ (body (ffB lay m (nI i))) (by simp (disch := omega) only [f_X7_isFreeFor_b1, Nat.le_refl, px_l0, px_l1, px_l2, px_l3, px_l4, px_l5, px_l6, px_l9, px_l10, px_l14, px_l15, px_l23, px_l24, px_l25, px_l26, px_l29, px_l30, px_l32, px_l43, px_l45, px_l48, px_l57, px_l59, px_l60, px_l64, px_l100, px_l107, px_l116, px_l149, px_l150, px_l348, px_l464, px_l600, px_sa, nI_leI, nI_ltI, nI_eq, nI_add, pk_sub, pk_mul, pk_div, px_rm, nI_clamp, px_ck, px_eqm, px_meq, px_mm, px_mlt, px_mle, px_lem, px_ltm, px_mlem, Option.bind_some, px_b0, px_b1, px_ckb, px_if, px_if', ↓reduceIte]; rfl) (N := FU) (by decide) rfl
  simp only [anyb, Bool.not_false, Bool.and_true] at L1
  simp (disch := omega) only [px_l0, px_l1, px_l2, px_l3, px_l4, px_l5, px_l6, px_l9, px_l10, px_l14, px_l15, px_l23, px_l24, px_l25, px_l26, px_l29, px_l30, px_l32, px_l43, px_l45, px_l48, px_l57, px_l59, px_l60, px_l64, px_l100, px_l107, px_l116, px_l149, px_l150, px_l348, px_l464, px_l600, px_ck, nI_clamp]
  rw [first]
  show ((lp (f_X7_isFreeFor_b1 on (nI i) (nI m)) FU (nI (bN (ffB lay m (nI i))), nI 0)).bind _) = _
  rw [L1]
  simp (disch := omega) only [px_l0, px_l1, px_l2, px_l3, px_l4, px_l5, px_l6, px_l9, px_l10, px_l14, px_l15, px_l23, px_l24, px_l25, px_l26, px_l29, px_l30, px_l32, px_l43, px_l45, px_l48, px_l57, px_l59, px_l60, px_l64, px_l100, px_l107, px_l116, px_l149, px_l150, px_l348, px_l464, px_l600, px_sa, nI_leI, nI_ltI, nI_eq, nI_add, pk_sub, pk_mul, pk_div, px_rm, nI_clamp, px_ck, px_eqm, px_meq, px_mm, px_mlt, px_mle, px_lem, px_ltm, px_mlem, Option.bind_some, px_b0, px_b1, px_ckb, px_if, px_if', ↓reduceIte]
  rfl
end P25
