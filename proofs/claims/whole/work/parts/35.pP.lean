/-! SUMS -/
theorem smf_add {f g : Nat → Nat} {n : Nat} : smf (fun i => f i + g i) n = smf f n + smf g n := by
  induction n with
  | zero => rfl
  | succ n ih => simp only [smf, ih]; omega
theorem smf_s {f : Nat → Nat} {n : Nat} : smf f (n + 1) = smf f n + f n := rfl
theorem smf_zero {f : Nat → Nat} {n : Nat} (h : ∀ i, i < n → f i = 0) : smf f n = 0 := by
  induction n with
  | zero => rfl
  | succ n ih => simp only [smf, ih (fun i hi => h i (by omega)), h n (by omega)]
theorem smf_swap {f : Nat → Nat → Nat} {n m : Nat} : smf (fun a => smf (fun b => f a b) m) n = smf (fun b => smf (fun a => f a b) n) m := by
  induction n with
  | zero => exact (smf_zero (fun i _ => rfl)).symm
  | succ n ih => simp only [smf, ih, smf_add]
theorem smf_mulr {f : Nat → Nat} {c n : Nat} : smf (fun i => f i * c) n = smf f n * c := by
  induction n with
  | zero => simp [smf]
  | succ n ih => simp only [smf, ih, Nat.add_mul]
/-- one place alone counts -/
theorem smf_one {f : Nat → Nat} {n k : Nat} (hk : k < n) (h : ∀ i, i < n → i ≠ k → f i = 0) : smf f n = f k := by
  induction n with
  | zero => omega
  | succ n ih =>
    simp only [smf]
    by_cases hkn : k = n
    · subst hkn
      rw [smf_zero (fun i hi => h i (by omega) (by omega))]; omega
    · rw [ih (by omega) (fun i hi hik => h i (by omega) hik), h n (by omega) (by omega)]; omega
theorem smf_ext {f : Nat → Nat} {n m : Nat} (hnm : n ≤ m) (h : ∀ i, n ≤ i → i < m → f i = 0) : smf f m = smf f n := by
  induction m with
  | zero => rw [show n = 0 by omega]
  | succ m ih =>
    by_cases hn : n = m + 1
    · rw [hn]
    · simp only [smf]
      rw [ih (by omega) (fun i h1 h2 => h i h1 (by omega)), h m (by omega) (by omega)]; omega
/-- a sum over all cells of what is only on arms: over the crosses and their arms -/
theorem smf_lay {n : Nat} {M : Nat → Nat} {lay : Nat → Option (Nat × Nat)} (hL : LY n M lay) (hM : ∀ i, i < n → M i < 150) {F : Nat → Nat} (hF : ∀ k, k < 150 → armB lay k = false → F k = 0) :
    smf F 150 = smf (fun i => smf (fun d => F (cp (M i) d)) 4) n := by
  have e1 : smf F 150 = smf (fun k => smf (fun i => smf (fun d => bN (decide (cp (M i) d = k)) * F k) 4) n) 150 := by
    refine smf_congr (fun k hk => ?_)
    cases ha : armB lay k with
    | false => rw [hF k hk ha]; exact (smf_zero (fun i _ => smf_zero (fun d _ => Nat.mul_zero _))).symm
    | true =>
      obtain ⟨i, d, h, hd⟩ := armB_ex ha
      obtain ⟨h1, h2, h3⟩ := hL.2 k i d hk h
      rw [smf_one (k := i) h1 (fun j hj hji => smf_zero (fun e he => by
        rw [decide_eq_false (fun q => hji (by
          have := hL.1 j e hj (by omega)
          rw [q, h] at this
          exact (congrArg Prod.fst (Option.some.inj this)).symm))]
        exact Nat.zero_mul _)), smf_one (k := d) hd (fun e he hed => by
        rw [decide_eq_false (fun q => hed (by
          have := hL.1 i e h1 (by omega)
          rw [q, h] at this
          exact (congrArg Prod.snd (Option.some.inj this)).symm))]
        exact Nat.zero_mul _), decide_eq_true h3]
      exact (Nat.one_mul _).symm
  rw [e1, smf_swap]
  refine smf_congr (fun i hi => ?_)
  rw [smf_swap]
  refine smf_congr (fun d hd => ?_)
  rw [smf_one (k := cp (M i) d) (cp_lt (hM i hi) (by omega)) (fun k hk hkc => by rw [decide_eq_false (Ne.symm hkc)]; exact Nat.zero_mul _), decide_eq_true rfl]
  exact Nat.one_mul _
theorem bes_cnt0 : ∀ j, j < 150 → smf (fun k => bN (decide (bes k 0 = j))) 150 = 1 := by decide +kernel
theorem bes_cnt3 : ∀ j, j < 150 → smf (fun k => bN (decide (bes k 3 = j))) 150 = 1 := by decide +kernel
theorem smf_re {H : Nat → Nat} {s : Nat} (hs : s < 4) (hc : ∀ j, j < 150 → smf (fun k => bN (decide (bes k s = j))) 150 = 1) : smf (fun k => H (bes k s)) 150 = smf H 150 := by
  have e1 : smf (fun k => H (bes k s)) 150 = smf (fun k => smf (fun j => bN (decide (bes k s = j)) * H j) 150) 150 := by
    refine smf_congr (fun k hk => ?_)
    rw [smf_one (k := bes k s) (bes_lt k hk s hs) (fun j hj hjk => by rw [decide_eq_false (Ne.symm hjk)]; exact Nat.zero_mul _), decide_eq_true rfl]
    exact (Nat.one_mul _).symm
  rw [e1, smf_swap]
  refine smf_congr (fun j hj => ?_)
  rw [smf_mulr, hc j hj, Nat.one_mul]
/-- what is told of two cells beside one another, the same both ways: four sides are twice two -/
theorem smf_two {G : Nat → Nat → Nat} (hG : ∀ a b, a < 150 → b < 150 → G a b = G b a) : smf (fun k => smf (fun s => G k (bes k s)) 4) 150 = 2 * smf (fun k => smf (fun d => G k (bes k (d + 1))) 2) 150 := by
  have h4 : smf (fun k => smf (fun s => G k (bes k s)) 4) 150 = smf (fun k => G k (bes k 0)) 150 + smf (fun k => G k (bes k 1)) 150 + smf (fun k => G k (bes k 2)) 150 + smf (fun k => G k (bes k 3)) 150 := by
    rw [← smf_add, ← smf_add, ← smf_add]
    refine smf_congr (fun k _ => ?_)
    simp only [smf]; omega
  have h2 : smf (fun k => smf (fun d => G k (bes k (d + 1))) 2) 150 = smf (fun k => G k (bes k 1)) 150 + smf (fun k => G k (bes k 2)) 150 := by
    rw [← smf_add]
    refine smf_congr (fun k _ => ?_)
    show 0 + G k (bes k 1) + G k (bes k 2) = _
    omega
  have e0 : smf (fun k => G k (bes k 0)) 150 = smf (fun k => G k (bes k 2)) 150 := by
    rw [← smf_re (H := fun k => G k (bes k 2)) (s := 0) (by omega) bes_cnt0]
    refine smf_congr (fun k hk => ?_)
    have hb := bes_lt k hk 0 (by omega)
    have := bes_inv k hk 0 (by omega)
    rw [show (0 + 2) % 4 = 2 from rfl] at this
    rw [this]
    exact hG _ _ hk hb
  have e3 : smf (fun k => G k (bes k 3)) 150 = smf (fun k => G k (bes k 1)) 150 := by
    rw [← smf_re (H := fun k => G k (bes k 1)) (s := 3) (by omega) bes_cnt3]
    refine smf_congr (fun k hk => ?_)
    have hb := bes_lt k hk 3 (by omega)
    have := bes_inv k hk 3 (by omega)
    rw [show (3 + 2) % 4 = 1 from rfl] at this
    rw [this]
    exact hG _ _ hk hb
  rw [h4, h2, e0, e3]; omega
section P35
variable {n r : Nat} {K T M C : Nat → Nat} {lay : Nat → Option (Nat × Nat)} {NWKa NWTa NWMa NWCa ow pa z on wy : Nat → Int32}
/-! touches, counted by the reference -/
theorem tch_armO {a b i d : Nat} (hL : LY n M lay) (hn : n ≤ 30) (ha : lay a = some (i, d)) (hi : i < n) (hd : d < 4) (hb : b < 150) : tchB lay a b = armO lay b (nI i) := by
  unfold tchB armO
  rw [ha]
  cases h : lay b with
  | none => rfl
  | some q =>
    obtain ⟨g1, g2, -⟩ := hL.2 b q.1 q.2 hb h
    dsimp only
    have e : (¬ nI q.1 = nI i) ↔ (¬ i = q.1) := by rw [nI_eq (by omega) (by omega)]; exact not_congr eq_comm
    rw [decide_eq_decide.mpr e, decide_eq_true hd, Bool.true_and, Bool.and_comm]
theorem w7_at (hL : LY n M lay) (hn : n ≤ 30) (hl : LM lay on wy) {a : Nat} (ha : a < 150) : f_X7_touchesAt on wy (nI a) = some (nI (smf (fun s => bN (tchB lay a (bes a s))) 4)) := by
  unfold f_X7_touchesAt
  refine lp_detb (fun s => (nI (smf (fun s => bN (tchB lay a (bes a s))) s), nI s)) 4 (nI (smf (fun s => bN (tchB lay a (bes a s))) 4), nI 4) ?_ ?_ (by decide) rfl
  · intro s hs
    have h2 := bes_lt a ha s hs
    cases hb : tchB lay a (bes a s) <;> simp (disch := omega) only [f_X7_touchesAt_b1, g7_bes a ha s hs, w7_touch hL hn hl ha h2, hb, show ¬ 4 ≤ s from by omega, Bool.true_eq_false, smf, px_l0, px_l1, px_l2, px_l3, px_l4, px_l5, px_l6, px_l9, px_l10, px_l14, px_l15, px_l23, px_l24, px_l25, px_l26, px_l29, px_l30, px_l32, px_l43, px_l45, px_l48, px_l57, px_l59, px_l60, px_l64, px_l100, px_l107, px_l116, px_l149, px_l150, px_l348, px_l464, px_l600, px_sa, nI_leI, nI_ltI, nI_eq, nI_add, pk_sub, pk_mul, pk_div, px_rm, nI_clamp, px_ck, px_eqm, px_meq, px_mm, px_mlt, px_mle, px_lem, px_ltm, px_mlem, Option.bind_some, px_b0, px_b1, px_ckb, px_if, px_if', ↓reduceIte] <;> rfl
  · simp (disch := omega) only [f_X7_touchesAt_b1, Nat.le_refl, px_l0, px_l1, px_l2, px_l3, px_l4, px_l5, px_l6, px_l9, px_l10, px_l14, px_l15, px_l23, px_l24, px_l25, px_l26, px_l29, px_l30, px_l32, px_l43, px_l45, px_l48, px_l57, px_l59, px_l60, px_l64, px_l100, px_l107, px_l116, px_l149, px_l150, px_l348, px_l464, px_l600, px_sa, nI_leI, nI_ltI, nI_eq, nI_add, pk_sub, pk_mul, pk_div, px_rm, nI_clamp, px_ck, px_eqm, px_meq, px_mm, px_mlt, px_mle, px_lem, px_ltm, px_mlem, Option.bind_some, px_b0, px_b1, px_ckb, px_if, px_if', ↓reduceIte]
theorem arm_sum (hL : LY n M lay) (hn : n ≤ 30) {i d : Nat} (hi : i < n) (hd : d < 4) (hM : M i < 150) : smf (fun s => bN (tchB lay (bes (M i) d) (bes (bes (M i) d) s))) 4 = smf (fun s => bN (armO lay (bes (bes (M i) d) s) (nI i))) 4 := by
  refine smf_congr (fun s hs => ?_)
  have h1 := hL.1 i d hi (by omega)
  rw [cp_d hd] at h1
  rw [tch_armO hL hn h1 hi hd (bes_lt _ (bes_lt _ hM d hd) s hs)]
theorem w7_of (hO : OKs n r K T M C) (hL : LY n M lay) (hR : RM n r K T M C z) (hl : LM lay on wy) {i : Nat} (hi : i < n) : f_X7_touchesOf z on wy (nI i) = some (nI (tcO lay (M i) (nI i))) := by
  have hn := hO.1
  have hMi := (hO.2.2.1 i hi).2.2
  unfold f_X7_touchesOf
  refine lp_detb (fun d => (nI (smf (fun d => smf (fun s => bN (armO lay (bes (bes (M i) d) s) (nI i))) 4) d), nI d)) 4 (nI (tcO lay (M i) (nI i)), nI 4) ?_ ?_ (by decide) rfl
  · intro d hd
    simp (disch := omega) only [f_X7_touchesOf_b1, w7_mid hR hi hn, g7_bes (M i) hMi d hd, w7_at hL hn hl (bes_lt _ hMi d hd), arm_sum hL hn hi hd hMi, show ¬ 4 ≤ d from by omega, px_l0, px_l1, px_l2, px_l3, px_l4, px_l5, px_l6, px_l9, px_l10, px_l14, px_l15, px_l23, px_l24, px_l25, px_l26, px_l29, px_l30, px_l32, px_l43, px_l45, px_l48, px_l57, px_l59, px_l60, px_l64, px_l100, px_l107, px_l116, px_l149, px_l150, px_l348, px_l464, px_l600, px_sa, nI_leI, nI_ltI, nI_eq, nI_add, pk_sub, pk_mul, pk_div, px_rm, nI_clamp, px_ck, px_eqm, px_meq, px_mm, px_mlt, px_mle, px_lem, px_ltm, px_mlem, Option.bind_some, px_b0, px_b1, px_ckb, px_if, px_if', ↓reduceIte]
    rfl
  · simp (disch := omega) only [f_X7_touchesOf_b1, Nat.le_refl, px_l0, px_l1, px_l2, px_l3, px_l4, px_l5, px_l6, px_l9, px_l10, px_l14, px_l15, px_l23, px_l24, px_l25, px_l26, px_l29, px_l30, px_l32, px_l43, px_l45, px_l48, px_l57, px_l59, px_l60, px_l64, px_l100, px_l107, px_l116, px_l149, px_l150, px_l348, px_l464, px_l600, px_sa, nI_leI, nI_ltI, nI_eq, nI_add, pk_sub, pk_mul, pk_div, px_rm, nI_clamp, px_ck, px_eqm, px_meq, px_mm, px_mlt, px_mle, px_lem, px_ltm, px_mlem, Option.bind_some, px_b0, px_b1, px_ckb, px_if, px_if', ↓reduceIte]
    rfl
def faN (lay : Nat → Option (Nat × Nat)) (m : Nat) (x : Int32) (d : Nat) : Nat := smf (fun d => bN (decide (smf (fun s => bN (armO lay (bes (bes m d) s) x)) 4 = 0))) d
theorem arm_le {m d : Nat} {x : Int32} : smf (fun s => bN (armO lay (bes (bes m d) s) x)) 4 ≤ 4 := smf_le (b := 1) (fun s _ => bN_le _)
theorem w5_none (hO : OKs n r K T M C) (hL : LY n M lay) (hR : RCa n K T M C NWKa NWTa NWMa NWCa) (hl : LC lay ow pa) {i : Nat} (hi : i < n) : f_X5_armsThatTouchNone NWMa ow pa (nI i) = some (nI (faN lay (M i) (nI i) 4)) := by
  have hn := hO.1
  have hMi := (hO.2.2.1 i hi).2.2
  unfold f_X5_armsThatTouchNone
  refine lp_detb (fun d => (nI (faN lay (M i) (nI i) d), nI d)) 4 (nI (faN lay (M i) (nI i) 4), nI 4) ?_ ?_ (by decide) rfl
  · intro d hd
    have hle := arm_le (lay := lay) (m := M i) (d := d) (x := nI i)
    simp (disch := omega) only [f_X5_armsThatTouchNone_b1, (hR.1 i hi).2.2, g0_bes (M i) hMi d hd, w5_arm hL hn hl (bes_lt _ hMi d hd) (nI i), show ¬ 4 ≤ d from by omega, px_l0, px_l1, px_l2, px_l3, px_l4, px_l5, px_l6, px_l9, px_l10, px_l14, px_l15, px_l23, px_l24, px_l25, px_l26, px_l29, px_l30, px_l32, px_l43, px_l45, px_l48, px_l57, px_l59, px_l60, px_l64, px_l100, px_l107, px_l116, px_l149, px_l150, px_l348, px_l464, px_l600, px_sa, nI_leI, nI_ltI, nI_eq, nI_add, pk_sub, pk_mul, pk_div, px_rm, nI_clamp, px_ck, px_eqm, px_meq, px_mm, px_mlt, px_mle, px_lem, px_ltm, px_mlem, Option.bind_some, px_b0, px_b1, px_ckb, px_if, px_if', ↓reduceIte]
    rw [show faN lay (M i) (nI i) (d + 1) = faN lay (M i) (nI i) d + bN (decide (smf (fun s => bN (armO lay (bes (bes (M i) d) s) (nI i))) 4 = 0)) from rfl]
    generalize smf (fun s => bN (armO lay (bes (bes (M i) d) s) (nI i))) 4 = N
    cases N <;> simp [bN]
  · simp (disch := omega) only [f_X5_armsThatTouchNone_b1, Nat.le_refl, px_l0, px_l1, px_l2, px_l3, px_l4, px_l5, px_l6, px_l9, px_l10, px_l14, px_l15, px_l23, px_l24, px_l25, px_l26, px_l29, px_l30, px_l32, px_l43, px_l45, px_l48, px_l57, px_l59, px_l60, px_l64, px_l100, px_l107, px_l116, px_l149, px_l150, px_l348, px_l464, px_l600, px_sa, nI_leI, nI_ltI, nI_eq, nI_add, pk_sub, pk_mul, pk_div, px_rm, nI_clamp, px_ck, px_eqm, px_meq, px_mm, px_mlt, px_mle, px_lem, px_ltm, px_mlem, Option.bind_some, px_b0, px_b1, px_ckb, px_if, px_if', ↓reduceIte]
theorem w7_free (hO : OKs n r K T M C) (hL : LY n M lay) (hR : RM n r K T M C z) (hl : LM lay on wy) {i : Nat} (hi : i < n) : f_X7_freeArms z on wy (nI i) = some (nI (faN lay (M i) (nI i) 4)) := by
  have hn := hO.1
  have hMi := (hO.2.2.1 i hi).2.2
  unfold f_X7_freeArms
  refine lp_detb (fun d => (nI (faN lay (M i) (nI i) d), nI d)) 4 (nI (faN lay (M i) (nI i) 4), nI 4) ?_ ?_ (by decide) rfl
  · intro d hd
    have hle := arm_le (lay := lay) (m := M i) (d := d) (x := nI i)
    simp (disch := omega) only [f_X7_freeArms_b1, w7_mid hR hi hn, g7_bes (M i) hMi d hd, w7_at hL hn hl (bes_lt _ hMi d hd), arm_sum hL hn hi hd hMi, show ¬ 4 ≤ d from by omega, px_l0, px_l1, px_l2, px_l3, px_l4, px_l5, px_l6, px_l9, px_l10, px_l14, px_l15, px_l23, px_l24, px_l25, px_l26, px_l29, px_l30, px_l32, px_l43, px_l45, px_l48, px_l57, px_l59, px_l60, px_l64, px_l100, px_l107, px_l116, px_l149, px_l150, px_l348, px_l464, px_l600, px_sa, nI_leI, nI_ltI, nI_eq, nI_add, pk_sub, pk_mul, pk_div, px_rm, nI_clamp, px_ck, px_eqm, px_meq, px_mm, px_mlt, px_mle, px_lem, px_ltm, px_mlem, Option.bind_some, px_b0, px_b1, px_ckb, px_if, px_if', ↓reduceIte]
    rw [show faN lay (M i) (nI i) (d + 1) = faN lay (M i) (nI i) d + bN (decide (smf (fun s => bN (armO lay (bes (bes (M i) d) s) (nI i))) 4 = 0)) from rfl]
    skip
    try (generalize smf (fun s => bN (armO lay (bes (bes (M i) d) s) (nI i))) 4 = N; cases N <;> simp [bN])
  · simp (disch := omega) only [f_X7_freeArms_b1, Nat.le_refl, px_l0, px_l1, px_l2, px_l3, px_l4, px_l5, px_l6, px_l9, px_l10, px_l14, px_l15, px_l23, px_l24, px_l25, px_l26, px_l29, px_l30, px_l32, px_l43, px_l45, px_l48, px_l57, px_l59, px_l60, px_l64, px_l100, px_l107, px_l116, px_l149, px_l150, px_l348, px_l464, px_l600, px_sa, nI_leI, nI_ltI, nI_eq, nI_add, pk_sub, pk_mul, pk_div, px_rm, nI_clamp, px_ck, px_eqm, px_meq, px_mm, px_mlt, px_mle, px_lem, px_ltm, px_mlem, Option.bind_some, px_b0, px_b1, px_ckb, px_if, px_if', ↓reduceIte]
/-! ways to turn -/
def wtN (ru : Nat) (K T M C : Nat → Nat) (lay : Nat → Option (Nat × Nat)) (i : Nat) (d : Nat) : Nat := smf (fun t => bN (!wcB ru K T C lay (K i) t (M i) (nI i))) d
theorem w5_ways (hO : OKs n r K T M C) (hL : LY n M lay) (hR : RCa n K T M C NWKa NWTa NWMa NWCa) (hl : LC lay ow pa) {i : Nat} (hi : i < n) : f_X5_waysToTurn (nI r) NWKa NWTa NWMa NWCa ow pa (nI i) = some (nI (wtN r K T M C lay i 4)) := by
  have hn := hO.1
  obtain ⟨b1, b2, b3⟩ := hO.2.2.1 i hi
  unfold f_X5_waysToTurn
  refine lp_detb (fun d => (nI (wtN r K T M C lay i d), nI d)) 4 (nI (wtN r K T M C lay i 4), nI 4) ?_ ?_ (by decide) rfl
  · intro t ht
    simp (disch := omega) only [f_X5_waysToTurn_b1, (hR.1 i hi).1, (hR.1 i hi).2.2, w1_wc hO hL hR hl b1 ht b3 (nI i), show ¬ 4 ≤ t from by omega, px_l0, px_l1, px_l2, px_l3, px_l4, px_l5, px_l6, px_l9, px_l10, px_l14, px_l15, px_l23, px_l24, px_l25, px_l26, px_l29, px_l30, px_l32, px_l43, px_l45, px_l48, px_l57, px_l59, px_l60, px_l64, px_l100, px_l107, px_l116, px_l149, px_l150, px_l348, px_l464, px_l600, px_sa, nI_leI, nI_ltI, nI_eq, nI_add, pk_sub, pk_mul, pk_div, px_rm, nI_clamp, px_ck, px_eqm, px_meq, px_mm, px_mlt, px_mle, px_lem, px_ltm, px_mlem, Option.bind_some, px_b0, px_b1, px_ckb, px_if, px_if', ↓reduceIte]
    unfold wtN
    simp only [smf]
    cases wcB r K T C lay (K i) t (M i) (nI i) <;> simp [bN]
  · simp (disch := omega) only [f_X5_waysToTurn_b1, Nat.le_refl, px_l0, px_l1, px_l2, px_l3, px_l4, px_l5, px_l6, px_l9, px_l10, px_l14, px_l15, px_l23, px_l24, px_l25, px_l26, px_l29, px_l30, px_l32, px_l43, px_l45, px_l48, px_l57, px_l59, px_l60, px_l64, px_l100, px_l107, px_l116, px_l149, px_l150, px_l348, px_l464, px_l600, px_sa, nI_leI, nI_ltI, nI_eq, nI_add, pk_sub, pk_mul, pk_div, px_rm, nI_clamp, px_ck, px_eqm, px_meq, px_mm, px_mlt, px_mle, px_lem, px_ltm, px_mlem, Option.bind_some, px_b0, px_b1, px_ckb, px_if, px_if', ↓reduceIte]
theorem udN_udN {f : Nat → Nat} {i a b : Nat} : udN (udN f i a) i b = udN f i b := by
  funext j; unfold udN; split <;> rfl
theorem udN_self {f : Nat → Nat} {i : Nat} : udN f i (f i) = f := by
  funext j; unfold udN; split
  · rename_i h; rw [h]
  · rfl
theorem w7_ways (hG : GG n r K T M C lay) (hR : RM n r K T M C z) (hl : LM lay on wy) {i : Nat} (hi : i < n) :
    ∃ v, f_X7_waysToTurn z on wy (nI i) = some (nI (wtN r K T M C lay i 4), v) ∧ RM n r K T M C v := by
  obtain ⟨hO, hL, hN⟩ := id hG
  have hn := hO.1
  have hTi := (hO.2.2.1 i hi).2.1
  obtain ⟨⟨s1, s2, s3⟩, h1, h2, t0, h3⟩ := lp_inv (f := f_X7_waysToTurn_b1 on wy (nI i)) (fun t s => s.1 = nI (wtN r K T M C lay i t) ∧ s.2.1 = nI t ∧ ∃ t0, RM n r K (udN T i t0) M C s.2.2) 4 (fun s => s.1 = nI (wtN r K T M C lay i 4) ∧ ∃ t0, RM n r K (udN T i t0) M C s.2.2) (by
    rintro t ⟨s1, s2, s3⟩ ht ⟨g1, g2, t0, g3⟩
    dsimp only at g1 g2 g3
    subst g1; subst g2
    have hR' := g3.turn (v := t) hi
    rw [udN_udN] at hR'
    obtain ⟨b, b1, b2⟩ := w7_ac (hO.turn (i := i) ht) hL hR' hl
    have hb : b = wcB r K T C lay (K i) t (M i) (nI i) := Bool.eq_iff_iff.mpr (b2.trans (turn_hc hG hi).symm)
    refine Or.inl ⟨(nI (wtN r K T M C lay i (t + 1)), nI (t + 1), upd s3 (26 + 3 * i + 1) (nI t)), ?_, rfl, rfl, t, hR'⟩
    simp (disch := omega) only [f_X7_waysToTurn_b1, b1, show ¬ 4 ≤ t from by omega, px_l0, px_l1, px_l2, px_l3, px_l4, px_l5, px_l6, px_l9, px_l10, px_l14, px_l15, px_l23, px_l24, px_l25, px_l26, px_l29, px_l30, px_l32, px_l43, px_l45, px_l48, px_l57, px_l59, px_l60, px_l64, px_l100, px_l107, px_l116, px_l149, px_l150, px_l348, px_l464, px_l600, px_sa, nI_leI, nI_ltI, nI_eq, nI_add, pk_sub, pk_mul, pk_div, px_rm, nI_clamp, px_ck, px_eqm, px_meq, px_mm, px_mlt, px_mle, px_lem, px_ltm, px_mlem, Option.bind_some, px_b0, px_b1, px_ckb, px_if, px_if', ↓reduceIte]
    rw [hb]
    unfold wtN
    simp only [smf]
    cases wcB r K T C lay (K i) t (M i) (nI i) <;> simp [bN]) (by
    rintro ⟨s1, s2, s3⟩ ⟨g1, g2, t0, g3⟩
    dsimp only at g1 g2 g3
    subst g1; subst g2
    refine ⟨(nI (wtN r K T M C lay i 4), nI 4, s3), ?_, rfl, t0, g3⟩
    simp (disch := omega) only [f_X7_waysToTurn_b1, Nat.le_refl, px_l0, px_l1, px_l2, px_l3, px_l4, px_l5, px_l6, px_l9, px_l10, px_l14, px_l15, px_l23, px_l24, px_l25, px_l26, px_l29, px_l30, px_l32, px_l43, px_l45, px_l48, px_l57, px_l59, px_l60, px_l64, px_l100, px_l107, px_l116, px_l149, px_l150, px_l348, px_l464, px_l600, px_sa, nI_leI, nI_ltI, nI_eq, nI_add, pk_sub, pk_mul, pk_div, px_rm, nI_clamp, px_ck, px_eqm, px_meq, px_mm, px_mlt, px_mle, px_lem, px_ltm, px_mlem, Option.bind_some, px_b0, px_b1, px_ckb, px_if, px_if', ↓reduceIte]) FU 0 (nI 0, nI 0, z) (Nat.zero_le _) (by decide) ⟨rfl, rfl, T i, by rw [udN_self]; exact hR⟩
  dsimp only at h2 h3
  subst h2
  have hR' := h3.turn (v := T i) hi
  rw [udN_udN, udN_self] at hR'
  refine ⟨upd s3 (26 + 3 * i + 1) (nI (T i)), ?_, hR'⟩
  simp (disch := omega) only [f_X7_waysToTurn, w7_turns hR hn hi, h1, px_l0, px_l1, px_l2, px_l3, px_l4, px_l5, px_l6, px_l9, px_l10, px_l14, px_l15, px_l23, px_l24, px_l25, px_l26, px_l29, px_l30, px_l32, px_l43, px_l45, px_l48, px_l57, px_l59, px_l60, px_l64, px_l100, px_l107, px_l116, px_l149, px_l150, px_l348, px_l464, px_l600, px_sa, nI_leI, nI_ltI, nI_eq, nI_add, pk_sub, pk_mul, pk_div, px_rm, nI_clamp, px_ck, px_eqm, px_meq, px_mm, px_mlt, px_mle, px_lem, px_ltm, px_mlem, Option.bind_some, px_b0, px_b1, px_ckb, px_if, px_if', ↓reduceIte]
end P35
