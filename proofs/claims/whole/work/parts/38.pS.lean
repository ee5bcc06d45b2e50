/-! PLACES -/
def PLb (n r : Nat) (K T C : Nat → Nat) (lay : Nat → Option (Nat × Nat)) (k q : Nat) : Nat := bN (decide (whyX n r K T C lay k (q % 4) (q / 4) (-nI 1) = 0))
def bpO (n r : Nat) (K T C : Nat → Nat) (lay : Nat → Option (Nat × Nat)) (k : Nat) : Nat → Option (Nat × Nat)
  | 0 => none
  | b + 1 => if whyX n r K T C lay k (b % 4) (b / 4) (-nI 1) = 0 then (match bpO n r K T C lay k b with
    | none => some (b, tcO lay (b / 4) (-nI 1))
    | some (j, v) => if tcO lay (b / 4) (-nI 1) ≤ v then some (j, v) else some (b, tcO lay (b / 4) (-nI 1))) else bpO n r K T C lay k b
def bpI (o : Option (Nat × Nat)) : Int32 := match o with
  | none => -nI 5
  | some (j, _) => nI j
def bpV (o : Option (Nat × Nat)) (x : Int32) : Int32 := match o with
  | none => x
  | some (_, v) => nI v
section P38
variable {n r : Nat} {K T M C : Nat → Nat} {lay : Nat → Option (Nat × Nat)} {NWKa NWTa NWMa NWCa ow pa z on wy : Nat → Int32}
theorem w5_places (hO : OKs n r K T M C) (hL : LY n M lay) (hR : RCa n K T M C NWKa NWTa NWMa NWCa) (hl : LC lay ow pa) {k : Nat} (hk : k < 6) : f_X5_countPlaces (nI r) (nI n) NWKa NWTa NWCa ow pa (nI k) = some (nI (smf (PLb n r K T C lay k) 600)) := by
  unfold f_X5_countPlaces
  refine lp_detb (fun c => (nI (smf (PLb n r K T C lay k) (4 * c)), nI c)) 150 (nI (smf (PLb n r K T C lay k) 600), nI 150) ?_ ?_ (by decide) rfl
  · intro c hc
    have L1 := lp_det (f := f_X5_countPlaces_b1 (nI r) (nI n) NWKa NWTa NWCa ow pa (nI k) (nI (smf (PLb n r K T C lay k) (4 * c)), nI c)) (fun t => (nI (smf (PLb n r K T C lay k) (4 * c + t)), nI t)) 4 (nI (smf (PLb n r K T C lay k) (4 * c + 4)), nI 4) (fun t ht => by
      have hw : whyX n r K T C lay k t c (-nI 1) ≤ 4 := whyX_le
      rw [← Nat.add_assoc, smf_s]
      generalize smf (PLb n r K T C lay k) (4 * c + t) = N
      unfold PLb
      rw [show (4 * c + t) % 4 = t by omega, show (4 * c + t) / 4 = c by omega]
      simp (disch := omega) only [f_X5_countPlaces_b1, w1_why hO hL hR hl hk ht hc, show ¬ 4 ≤ t from by omega, px_l0, px_l1, px_l2, px_l3, px_l4, px_l5, px_l6, px_l9, px_l10, px_l14, px_l15, px_l23, px_l24, px_l25, px_l26, px_l29, px_l30, px_l32, px_l43, px_l45, px_l48, px_l57, px_l59, px_l60, px_l64, px_l100, px_l107, px_l116, px_l149, px_l150, px_l348, px_l464, px_l600, px_sa, nI_leI, nI_ltI, nI_eq, nI_add, pk_sub, pk_mul, pk_div, px_rm, nI_clamp, px_ck, px_eqm, px_meq, px_mm, px_mlt, px_mle, px_lem, px_ltm, px_mlem, Option.bind_some, px_b0, px_b1, px_ckb, px_if, px_if', ↓reduceIte]
      by_cases h : whyX n r K T C lay k t c (-nI 1) = 0 <;> simp [h, bN]) (by simp (disch := omega) only [f_X5_countPlaces_b1, Nat.le_refl, px_l0, px_l1, px_l2, px_l3, px_l4, px_l5, px_l6, px_l9, px_l10, px_l14, px_l15, px_l23, px_l24, px_l25, px_l26, px_l29, px_l30, px_l32, px_l43, px_l45, px_l48, px_l57, px_l59, px_l60, px_l64, px_l100, px_l107, px_l116, px_l149, px_l150, px_l348, px_l464, px_l600, px_sa, nI_leI, nI_ltI, nI_eq, nI_add, pk_sub, pk_mul, pk_div, px_rm, nI_clamp, px_ck, px_eqm, px_meq, px_mm, px_mlt, px_mle, px_lem, px_ltm, px_mlem, Option.bind_some, px_b0, px_b1, px_ckb, px_if, px_if', ↓reduceIte]) (N := FU) (by decide) rfl
    simp (disch := omega) only [f_X5_countPlaces_b2, show ¬ 150 ≤ c from by omega, px_l0, px_l1, px_l2, px_l3, px_l4, px_l5, px_l6, px_l9, px_l10, px_l14, px_l15, px_l23, px_l24, px_l25, px_l26, px_l29, px_l30, px_l32, px_l43, px_l45, px_l48, px_l57, px_l59, px_l60, px_l64, px_l100, px_l107, px_l116, px_l149, px_l150, px_l348, px_l464, px_l600, px_sa, nI_leI, nI_ltI, nI_eq, nI_add, pk_sub, pk_mul, pk_div, px_rm, nI_clamp, px_ck, px_eqm, px_meq, px_mm, px_mlt, px_mle, px_lem, px_ltm, px_mlem, Option.bind_some, px_b0, px_b1, px_ckb, px_if, px_if', ↓reduceIte]
    rw [Nat.add_zero] at L1
    rw [L1]
    simp only [Option.bind_some]
    rfl
  · simp (disch := omega) only [f_X5_countPlaces_b2, Nat.le_refl, px_l0, px_l1, px_l2, px_l3, px_l4, px_l5, px_l6, px_l9, px_l10, px_l14, px_l15, px_l23, px_l24, px_l25, px_l26, px_l29, px_l30, px_l32, px_l43, px_l45, px_l48, px_l57, px_l59, px_l60, px_l64, px_l100, px_l107, px_l116, px_l149, px_l150, px_l348, px_l464, px_l600, px_sa, nI_leI, nI_ltI, nI_eq, nI_add, pk_sub, pk_mul, pk_div, px_rm, nI_clamp, px_ck, px_eqm, px_meq, px_mm, px_mlt, px_mle, px_lem, px_ltm, px_mlem, Option.bind_some, px_b0, px_b1, px_ckb, px_if, px_if', ↓reduceIte]
theorem w7_places (hO : OKs n r K T M C) (hL : LY n M lay) (hR : RM n r K T M C z) (hl : LM lay on wy) {k : Nat} (hk : k < 6) : ((lp (f_X7_places_b1 z on wy (nI k)) FU (nI 0, nI 0)).bind fun e4 => (some e4.1)) = some (nI (smf (PLb n r K T C lay k) 600)) := by
  refine lp_detb (fun q => (nI (smf (PLb n r K T C lay k) q), nI q)) 600 (nI (smf (PLb n r K T C lay k) 600), nI 600) ?_ ?_ (by decide) rfl
  · intro q hq
    have hw : whyX n r K T C lay k (q % 4) (q / 4) (-nI 1) ≤ 4 := whyX_le
    rw [smf_s]
    simp (disch := omega) only [f_X7_places_b1, w7_why hO hL hR hl hk (show q % 4 < 4 by omega) (show q / 4 < 150 by omega), show ¬ 600 ≤ q from by omega, px_l0, px_l1, px_l2, px_l3, px_l4, px_l5, px_l6, px_l9, px_l10, px_l14, px_l15, px_l23, px_l24, px_l25, px_l26, px_l29, px_l30, px_l32, px_l43, px_l45, px_l48, px_l57, px_l59, px_l60, px_l64, px_l100, px_l107, px_l116, px_l149, px_l150, px_l348, px_l464, px_l600, px_sa, nI_leI, nI_ltI, nI_eq, nI_add, pk_sub, pk_mul, pk_div, px_rm, nI_clamp, px_ck, px_eqm, px_meq, px_mm, px_mlt, px_mle, px_lem, px_ltm, px_mlem, Option.bind_some, px_b0, px_b1, px_ckb, px_if, px_if', ↓reduceIte]
    rfl
  · simp (disch := omega) only [f_X7_places_b1, Nat.le_refl, px_l0, px_l1, px_l2, px_l3, px_l4, px_l5, px_l6, px_l9, px_l10, px_l14, px_l15, px_l23, px_l24, px_l25, px_l26, px_l29, px_l30, px_l32, px_l43, px_l45, px_l48, px_l57, px_l59, px_l60, px_l64, px_l100, px_l107, px_l116, px_l149, px_l150, px_l348, px_l464, px_l600, px_sa, nI_leI, nI_ltI, nI_eq, nI_add, pk_sub, pk_mul, pk_div, px_rm, nI_clamp, px_ck, px_eqm, px_meq, px_mm, px_mlt, px_mle, px_lem, px_ltm, px_mlem, Option.bind_some, px_b0, px_b1, px_ckb, px_if, px_if', ↓reduceIte]
theorem why_nc {k t m : Nat} (h : whyX n r K T C lay k t m (-nI 1) = 0) : wcB r K T C lay k t m (-nI 1) = false := by
  cases hb : wcB r K T C lay k t m (-nI 1) with
  | false => rfl
  | true =>
    unfold whyX at h
    rw [hb] at h
    split at h
    · split at h
      · cases h
      · cases h
    · cases h
theorem bpO_in {k b j v : Nat} (h : bpO n r K T C lay k b = some (j, v)) : j < b ∧ v = tcO lay (j / 4) (-nI 1) := by
  induction b with
  | zero => cases h
  | succ b ih =>
    unfold bpO at h
    split at h
    · cases ho : bpO n r K T C lay k b with
      | none => rw [ho] at h; cases h; exact ⟨by omega, rfl⟩
      | some q =>
        rw [ho] at h ih
        obtain ⟨j', v'⟩ := q
        dsimp only at h
        split at h
        · have := ih h; exact ⟨by omega, this.2⟩
        · cases h; exact ⟨by omega, rfl⟩
    · have := ih h; exact ⟨by omega, this.2⟩
theorem w5_best (hO : OKs n r K T M C) (hL : LY n M lay) (hR : RCa n K T M C NWKa NWTa NWMa NWCa) (hl : LC lay ow pa) {k : Nat} (hk : k < 6) : f_X5_placeOfMostTouches (nI r) (nI n) NWKa NWTa NWCa ow pa (nI k) = some (bpI (bpO n r K T C lay k 600)) := by
  have hn := hO.1
  unfold f_X5_placeOfMostTouches
  refine lp_detb (fun q => (bpI (bpO n r K T C lay k q), bpV (bpO n r K T C lay k q) (-nI 1), nI q)) 600 (bpI (bpO n r K T C lay k 600), bpV (bpO n r K T C lay k 600) (-nI 1), nI 600) ?_ ?_ (by decide) rfl
  · intro q hq
    have hw : whyX n r K T C lay k (q % 4) (q / 4) (-nI 1) ≤ 4 := whyX_le
    have ht : tcO lay (q / 4) (-nI 1) ≤ 16 := tcO_le
    simp (disch := omega) only [f_X5_placeOfMostTouches_b1, w1_why hO hL hR hl hk (show q % 4 < 4 by omega) (show q / 4 < 150 by omega), w5_at hL hn hl (show q / 4 < 150 by omega), show ¬ 600 ≤ q from by omega, px_l0, px_l1, px_l2, px_l3, px_l4, px_l5, px_l6, px_l9, px_l10, px_l14, px_l15, px_l23, px_l24, px_l25, px_l26, px_l29, px_l30, px_l32, px_l43, px_l45, px_l48, px_l57, px_l59, px_l60, px_l64, px_l100, px_l107, px_l116, px_l149, px_l150, px_l348, px_l464, px_l600, px_sa, nI_leI, nI_ltI, nI_eq, nI_add, pk_sub, pk_mul, pk_div, px_rm, nI_clamp, px_ck, px_eqm, px_meq, px_mm, px_mlt, px_mle, px_lem, px_ltm, px_mlem, Option.bind_some, px_b0, px_b1, px_ckb, px_if, px_if', ↓reduceIte]
    by_cases h : whyX n r K T C lay k (q % 4) (q / 4) (-nI 1) = 0
    · cases ho : bpO n r K T C lay k q with
      | none =>
        rw [show bpO n r K T C lay k (q + 1) = some (q, tcO lay (q / 4) (-nI 1)) from by rw [bpO, if_pos h, ho]]
        simp (disch := omega) only [h, bpI, bpV, px_l0, px_l1, px_l2, px_l3, px_l4, px_l5, px_l6, px_l9, px_l10, px_l14, px_l15, px_l23, px_l24, px_l25, px_l26, px_l29, px_l30, px_l32, px_l43, px_l45, px_l48, px_l57, px_l59, px_l60, px_l64, px_l100, px_l107, px_l116, px_l149, px_l150, px_l348, px_l464, px_l600, px_sa, nI_leI, nI_ltI, nI_eq, nI_add, pk_sub, pk_mul, pk_div, px_rm, nI_clamp, px_ck, px_eqm, px_meq, px_mm, px_mlt, px_mle, px_lem, px_ltm, px_mlem, Option.bind_some, px_b0, px_b1, px_ckb, px_if, px_if', ↓reduceIte]
      | some e =>
        obtain ⟨j, v⟩ := e
        obtain ⟨-, hv⟩ := bpO_in ho
        have hv16 : v ≤ 16 := by rw [hv]; exact tcO_le
        by_cases hle : tcO lay (q / 4) (-nI 1) ≤ v
        · rw [show bpO n r K T C lay k (q + 1) = some (j, v) from by rw [bpO, if_pos h, ho]; exact if_pos hle]
          simp (disch := omega) only [h, bpI, bpV, hle, px_l0, px_l1, px_l2, px_l3, px_l4, px_l5, px_l6, px_l9, px_l10, px_l14, px_l15, px_l23, px_l24, px_l25, px_l26, px_l29, px_l30, px_l32, px_l43, px_l45, px_l48, px_l57, px_l59, px_l60, px_l64, px_l100, px_l107, px_l116, px_l149, px_l150, px_l348, px_l464, px_l600, px_sa, nI_leI, nI_ltI, nI_eq, nI_add, pk_sub, pk_mul, pk_div, px_rm, nI_clamp, px_ck, px_eqm, px_meq, px_mm, px_mlt, px_mle, px_lem, px_ltm, px_mlem, Option.bind_some, px_b0, px_b1, px_ckb, px_if, px_if', ↓reduceIte]
        · rw [show bpO n r K T C lay k (q + 1) = some (q, tcO lay (q / 4) (-nI 1)) from by rw [bpO, if_pos h, ho]; exact if_neg hle]
          simp (disch := omega) only [h, bpI, bpV, hle, px_l0, px_l1, px_l2, px_l3, px_l4, px_l5, px_l6, px_l9, px_l10, px_l14, px_l15, px_l23, px_l24, px_l25, px_l26, px_l29, px_l30, px_l32, px_l43, px_l45, px_l48, px_l57, px_l59, px_l60, px_l64, px_l100, px_l107, px_l116, px_l149, px_l150, px_l348, px_l464, px_l600, px_sa, nI_leI, nI_ltI, nI_eq, nI_add, pk_sub, pk_mul, pk_div, px_rm, nI_clamp, px_ck, px_eqm, px_meq, px_mm, px_mlt, px_mle, px_lem, px_ltm, px_mlem, Option.bind_some, px_b0, px_b1, px_ckb, px_if, px_if', ↓reduceIte]
    · rw [show bpO n r K T C lay k (q + 1) = bpO n r K T C lay k q from by rw [bpO, if_neg h]]
      simp (disch := omega) only [h, px_l0, px_l1, px_l2, px_l3, px_l4, px_l5, px_l6, px_l9, px_l10, px_l14, px_l15, px_l23, px_l24, px_l25, px_l26, px_l29, px_l30, px_l32, px_l43, px_l45, px_l48, px_l57, px_l59, px_l60, px_l64, px_l100, px_l107, px_l116, px_l149, px_l150, px_l348, px_l464, px_l600, px_sa, nI_leI, nI_ltI, nI_eq, nI_add, pk_sub, pk_mul, pk_div, px_rm, nI_clamp, px_ck, px_eqm, px_meq, px_mm, px_mlt, px_mle, px_lem, px_ltm, px_mlem, Option.bind_some, px_b0, px_b1, px_ckb, px_if, px_if', ↓reduceIte]
  · simp (disch := omega) only [f_X5_placeOfMostTouches_b1, Nat.le_refl, px_l0, px_l1, px_l2, px_l3, px_l4, px_l5, px_l6, px_l9, px_l10, px_l14, px_l15, px_l23, px_l24, px_l25, px_l26, px_l29, px_l30, px_l32, px_l43, px_l45, px_l48, px_l57, px_l59, px_l60, px_l64, px_l100, px_l107, px_l116, px_l149, px_l150, px_l348, px_l464, px_l600, px_sa, nI_leI, nI_ltI, nI_eq, nI_add, pk_sub, pk_mul, pk_div, px_rm, nI_clamp, px_ck, px_eqm, px_meq, px_mm, px_mlt, px_mle, px_lem, px_ltm, px_mlem, Option.bind_some, px_b0, px_b1, px_ckb, px_if, px_if', ↓reduceIte]
theorem w7_best (hO : OKs n r K T M C) (hL : LY n M lay) (hR : RM n r K T M C z) (hl : LM lay on wy) {k : Nat} (hk : k < 6) : lp (f_X7_bestPlace_b1 z on wy (nI k)) FU (-nI 5, -nI 5, nI 0) = some (bpI (bpO n r K T C lay k 600), bpV (bpO n r K T C lay k 600) (-nI 5), nI 600) := by
  have hn := hO.1
  refine lp_det (fun q => (bpI (bpO n r K T C lay k q), bpV (bpO n r K T C lay k q) (-nI 5), nI q)) 600 (bpI (bpO n r K T C lay k 600), bpV (bpO n r K T C lay k 600) (-nI 5), nI 600) ?_ ?_ (by decide) rfl
  · intro q hq
    have hw : whyX n r K T C lay k (q % 4) (q / 4) (-nI 1) ≤ 4 := whyX_le
    have ht : tcO lay (q / 4) (-nI 1) ≤ 16 := tcO_le
    simp (disch := omega) only [f_X7_bestPlace_b1, w7_why hO hL hR hl hk (show q % 4 < 4 by omega) (show q / 4 < 150 by omega), w7_tc hO hL hR hl hk (show q % 4 < 4 by omega) (show q / 4 < 150 by omega), show ¬ 600 ≤ q from by omega, px_l0, px_l1, px_l2, px_l3, px_l4, px_l5, px_l6, px_l9, px_l10, px_l14, px_l15, px_l23, px_l24, px_l25, px_l26, px_l29, px_l30, px_l32, px_l43, px_l45, px_l48, px_l57, px_l59, px_l60, px_l64, px_l100, px_l107, px_l116, px_l149, px_l150, px_l348, px_l464, px_l600, px_sa, nI_leI, nI_ltI, nI_eq, nI_add, pk_sub, pk_mul, pk_div, px_rm, nI_clamp, px_ck, px_eqm, px_meq, px_mm, px_mlt, px_mle, px_lem, px_ltm, px_mlem, Option.bind_some, px_b0, px_b1, px_ckb, px_if, px_if', ↓reduceIte]
    by_cases h : whyX n r K T C lay k (q % 4) (q / 4) (-nI 1) = 0
    · have hnc := why_nc h
      cases ho : bpO n r K T C lay k q with
      | none =>
        rw [show bpO n r K T C lay k (q + 1) = some (q, tcO lay (q / 4) (-nI 1)) from by rw [bpO, if_pos h, ho]]
        simp (disch := omega) only [h, hnc, Bool.false_eq_true, bpI, bpV, px_l0, px_l1, px_l2, px_l3, px_l4, px_l5, px_l6, px_l9, px_l10, px_l14, px_l15, px_l23, px_l24, px_l25, px_l26, px_l29, px_l30, px_l32, px_l43, px_l45, px_l48, px_l57, px_l59, px_l60, px_l64, px_l100, px_l107, px_l116, px_l149, px_l150, px_l348, px_l464, px_l600, px_sa, nI_leI, nI_ltI, nI_eq, nI_add, pk_sub, pk_mul, pk_div, px_rm, nI_clamp, px_ck, px_eqm, px_meq, px_mm, px_mlt, px_mle, px_lem, px_ltm, px_mlem, Option.bind_some, px_b0, px_b1, px_ckb, px_if, px_if', ↓reduceIte]
      | some e =>
        obtain ⟨j, v⟩ := e
        obtain ⟨-, hv⟩ := bpO_in ho
        have hv16 : v ≤ 16 := by rw [hv]; exact tcO_le
        by_cases hle : tcO lay (q / 4) (-nI 1) ≤ v
        · rw [show bpO n r K T C lay k (q + 1) = some (j, v) from by rw [bpO, if_pos h, ho]; exact if_pos hle]
          simp (disch := omega) only [h, hnc, Bool.false_eq_true, bpI, bpV, hle, px_l0, px_l1, px_l2, px_l3, px_l4, px_l5, px_l6, px_l9, px_l10, px_l14, px_l15, px_l23, px_l24, px_l25, px_l26, px_l29, px_l30, px_l32, px_l43, px_l45, px_l48, px_l57, px_l59, px_l60, px_l64, px_l100, px_l107, px_l116, px_l149, px_l150, px_l348, px_l464, px_l600, px_sa, nI_leI, nI_ltI, nI_eq, nI_add, pk_sub, pk_mul, pk_div, px_rm, nI_clamp, px_ck, px_eqm, px_meq, px_mm, px_mlt, px_mle, px_lem, px_ltm, px_mlem, Option.bind_some, px_b0, px_b1, px_ckb, px_if, px_if', ↓reduceIte]
        · rw [show bpO n r K T C lay k (q + 1) = some (q, tcO lay (q / 4) (-nI 1)) from by rw [bpO, if_pos h, ho]; exact if_neg hle]
          simp (disch := omega) only [h, hnc, Bool.false_eq_true, bpI, bpV, hle, px_l0, px_l1, px_l2, px_l3, px_l4, px_l5, px_l6, px_l9, px_l10, px_l14, px_l15, px_l23, px_l24, px_l25, px_l26, px_l29, px_l30, px_l32, px_l43, px_l45, px_l48, px_l57, px_l59, px_l60, px_l64, px_l100, px_l107, px_l116, px_l149, px_l150, px_l348, px_l464, px_l600, px_sa, nI_leI, nI_ltI, nI_eq, nI_add, pk_sub, pk_mul, pk_div, px_rm, nI_clamp, px_ck, px_eqm, px_meq, px_mm, px_mlt, px_mle, px_lem, px_ltm, px_mlem, Option.bind_some, px_b0, px_b1, px_ckb, px_if, px_if', ↓reduceIte]
    · rw [show bpO n r K T C lay k (q + 1) = bpO n r K T C lay k q from by rw [bpO, if_neg h]]
      simp (disch := omega) only [h, px_l0, px_l1, px_l2, px_l3, px_l4, px_l5, px_l6, px_l9, px_l10, px_l14, px_l15, px_l23, px_l24, px_l25, px_l26, px_l29, px_l30, px_l32, px_l43, px_l45, px_l48, px_l57, px_l59, px_l60, px_l64, px_l100, px_l107, px_l116, px_l149, px_l150, px_l348, px_l464, px_l600, px_sa, nI_leI, nI_ltI, nI_eq, nI_add, pk_sub, pk_mul, pk_div, px_rm, nI_clamp, px_ck, px_eqm, px_meq, px_mm, px_mlt, px_mle, px_lem, px_ltm, px_mlem, Option.bind_some, px_b0, px_b1, px_ckb, px_if, px_if', ↓reduceIte]
  · simp (disch := omega) only [f_X7_bestPlace_b1, Nat.le_refl, px_l0, px_l1, px_l2, px_l3, px_l4, px_l5, px_l6, px_l9, px_l10, px_l14, px_l15, px_l23, px_l24, px_l25, px_l26, px_l29, px_l30, px_l32, px_l43, px_l45, px_l48, px_l57, px_l59, px_l60, px_l64, px_l100, px_l107, px_l116, px_l149, px_l150, px_l348, px_l464, px_l600, px_sa, nI_leI, nI_ltI, nI_eq, nI_add, pk_sub, pk_mul, pk_div, px_rm, nI_clamp, px_ck, px_eqm, px_meq, px_mm, px_mlt, px_mle, px_lem, px_ltm, px_mlem, Option.bind_some, px_b0, px_b1, px_ckb, px_if, px_if', ↓reduceIte]
end P38
theorem e_places {NWru : Int32} {NWco : Int32} {NWKa : Nat → Int32} {NWTa : Nat → Int32} {NWMa : Nat → Int32} {NWCa : Nat → Int32} {CAow : Nat → Int32} {CApa : Nat → Int32} {MOza : Nat → Int32} {MOon : Nat → Int32} {MOwy : Nat → Int32} (hA : RA NWru NWco NWKa NWTa NWMa NWCa CAow CApa MOza MOon MOwy) (p0 : Int32) : ∃ o, f_X6_places NWru NWco NWKa NWTa NWCa CAow CApa p0 = some o ∧ f_X7_places MOza MOon MOwy p0 = some o := by
  obtain ⟨n, r, K, T, M, C, lay, hG, rfl, rfl, hRC, hRM, hLC, hLM⟩ := id hA
  obtain ⟨hO, hL, hN⟩ := id hG
  unfold f_X6_places f_X7_places
  have n10 : ¬ nI 1 = 0 := by decide +kernel
  have n00 : nI 0 = 0 := rfl
  rcases a_kind p0 with ⟨k, hk, rfl, c0, m0⟩ | ⟨c0, m0⟩
  · rw [c0, m0]
    simp only [Option.bind_some, if_neg n10, w5_places hO hL hRC hLC hk]
    exact ⟨_, rfl, w7_places hO hL hRM hLM hk⟩
  · rw [c0, m0]
    exact ⟨_, rfl, rfl⟩
theorem e_bestPlace {NWru : Int32} {NWco : Int32} {NWKa : Nat → Int32} {NWTa : Nat → Int32} {NWMa : Nat → Int32} {NWCa : Nat → Int32} {CAow : Nat → Int32} {CApa : Nat → Int32} {MOza : Nat → Int32} {MOon : Nat → Int32} {MOwy : Nat → Int32} (hA : RA NWru NWco NWKa NWTa NWMa NWCa CAow CApa MOza MOon MOwy) (p0 p1 : Int32) : ∃ o, f_X6_bestPlace NWru NWco NWKa NWTa NWCa CAow CApa p0 p1 = some o ∧ f_X7_bestPlace MOza MOon MOwy p0 p1 = some o := by
  obtain ⟨n, r, K, T, M, C, lay, hG, rfl, rfl, hRC, hRM, hLC, hLM⟩ := id hA
  obtain ⟨hO, hL, hN⟩ := id hG
  have hn := hO.1
  unfold f_X6_bestPlace f_X7_bestPlace
  have n10 : ¬ nI 1 = 0 := by decide +kernel
  have n00 : nI 0 = 0 := rfl
  have n11 : ¬ nI 1 = nI 0 := n10
  rcases a_kind p0 with ⟨k, hk, rfl, c0, m0⟩ | ⟨c0, m0⟩
  · rw [c0, m0]
    simp only [Option.bind_some, if_neg n10]
    rcases a_in p1 (b := 1) (by omega) with ⟨a, ha, rfl, h⟩ | ⟨h, h2⟩
    · rw [px_l0, px_l1, h]
      simp only [Option.bind_some]
      rw [if_neg (show ¬ nI 1 = nI 0 from n10), if_neg (show ¬ nI a < nI 0 from nI_pos (by omega)), if_pos (show nI a ≤ nI 1 from (nI_leI (by omega) (by omega)).mpr ha)]
      rw [w5_best hO hL hRC hLC hk]
      rw [px_l5, w7_best hO hL hRM hLM hk]
      simp only [Option.bind_some]
      cases ho : bpO n r K T C lay k 600 with
      | none =>
        refine ⟨-nI 5, ?_, ?_⟩
        · rw [if_pos (show bpI none < nI 0 by decide +kernel)]; rfl
        · rcases (show a = 0 ∨ a = 1 by omega) with rfl | rfl
          · rw [if_pos rfl]; rfl
          · rw [if_neg n11]; rfl
      | some e =>
        obtain ⟨j, v⟩ := e
        obtain ⟨hj, hv⟩ := bpO_in ho
        rcases (show a = 0 ∨ a = 1 by omega) with rfl | rfl
        · refine ⟨nI j, ?_, ?_⟩
          · rw [if_neg (show ¬ bpI (some (j, v)) < nI 0 from nI_pos (by omega)), if_pos rfl]; rfl
          · rw [if_pos rfl]; rfl
        · refine ⟨nI v, ?_, ?_⟩
          · rw [if_neg (show ¬ bpI (some (j, v)) < nI 0 from nI_pos (by omega)), if_neg n11]
            rw [show bpI (some (j, v)) = nI j from rfl, px_l4, pk_div (a := j) (d := 4) (by omega) (by omega) (by omega), w5_at hL hn hLC (show j / 4 < 150 by omega), ← hv]; rfl
          · rw [if_neg n11]; rfl
    · rw [px_l0, px_l1, h2]
      refine ⟨-2, ?_, ?_⟩
      · rcases h with h | h
        · rw [if_pos h]
        · have h1 : ¬ p1 ≤ nI 1 := fun q => by
            have q1 := Int32.le_iff_toInt_le.mp q
            have q2 := Int32.le_iff_toInt_le.mp h
            rw [nI_toInt (by omega)] at q1 q2
            omega
          by_cases h0 : p1 < nI 0
          · rw [if_pos h0]
          · rw [if_neg h0, if_neg h1]
      · simp only [Option.bind_some, ↓reduceIte]
  · rw [c0, m0]
    exact ⟨_, rfl, rfl⟩
