/-! CLASHES -/
def wcB (ru : Nat) (K T C : Nat → Nat) (lay : Nat → Option (Nat × Nat)) (k t m : Nat) (x : Int32) : Bool :=
  anyb (fun d => anyb (fun s => armO lay (bes (bes m d) s) x && clB ru (colBy C k t d) (ccl K T C lay (bes (bes m d) s))) 4) 4
/-- two crosses (a middle, the colours of its directions) clash somewhere -/
def PCl (ru m1 : Nat) (f1 : Nat → Nat) (m2 : Nat) (f2 : Nat → Nat) : Prop := ∃ d e s, d < 4 ∧ e < 4 ∧ s < 4 ∧ bes (cp m1 d) s = cp m2 e ∧ clB ru (f1 d) (f2 e) = true
def HC (n ru : Nat) (K T M C : Nat → Nat) : Prop := ∃ i j, i < n ∧ j < n ∧ i ≠ j ∧ PCl ru (M i) (col K T C i) (M j) (col K T C j)
theorem PCl.symm {ru m1 m2 : Nat} {f1 f2 : Nat → Nat} (h1 : m1 < 150) (h : PCl ru m1 f1 m2 f2) : PCl ru m2 f2 m1 f1 := by
  obtain ⟨d, e, s, hd, he, hs, h2, h3⟩ := h
  refine ⟨e, d, (s + 2) % 4, he, hd, by omega, ?_, by rw [clB_comm]; exact h3⟩
  rw [← h2]
  exact bes_inv _ (cp_lt h1 (by omega)) s hs
/-- sums of two loops, one in the other -/
def tcO (lay : Nat → Option (Nat × Nat)) (m : Nat) (x : Int32) : Nat := smf (fun d => smf (fun s => bN (armO lay (bes (bes m d) s) x)) 4) 4
section P24
variable {n ru : Nat} {K T M C : Nat → Nat} {lay : Nat → Option (Nat × Nat)} {NWKa NWTa NWMa NWCa ow pa z on wy : Nat → Int32}
theorem armO_ex {c : Nat} {x : Int32} (h : armO lay c x = true) : ∃ i d, lay c = some (i, d) ∧ d < 4 ∧ ¬ nI i = x := by
  unfold armO at h
  cases hl : lay c with
  | none => rw [hl] at h; cases h
  | some q =>
    rw [hl] at h
    simp only [Bool.and_eq_true, decide_eq_true_eq] at h
    exact ⟨q.1, q.2, rfl, h.2, h.1⟩
theorem armO_in {c i d : Nat} {x : Int32} (h : lay c = some (i, d)) (hd : d < 4) (hx : ¬ nI i = x) : armO lay c x = true := by
  unfold armO; rw [h]; simp [hd, hx]
theorem armO_m1 (hL : LY n M lay) (hn : n ≤ 30) {c : Nat} (hc : c < 150) : armO lay c (-nI 1) = armB lay c := by
  unfold armO armB
  cases hl : lay c with
  | none => rfl
  | some q =>
    obtain ⟨g1, g2, -⟩ := hL.2 c q.1 q.2 hc hl
    dsimp only
    rw [decide_eq_true (p := ¬ nI q.1 = -nI 1) (fun h => (px_eqm (by omega) (by omega) (by omega)).mp h)]
    rfl
theorem wcB_iff (hL : LY n M lay) (hM : ∀ i, i < n → M i < 150) {k t m : Nat} (hm : m < 150) {x : Int32} : wcB ru K T C lay k t m x = true ↔ ∃ j, j < n ∧ ¬ nI j = x ∧ PCl ru m (colBy C k t) (M j) (col K T C j) := by
  unfold wcB
  rw [anyb_iff]
  constructor
  · rintro ⟨d, hd, h⟩
    rw [anyb_iff] at h
    obtain ⟨s, hs, h⟩ := h
    rw [Bool.and_eq_true] at h
    obtain ⟨j, e, h1, h2, h3⟩ := armO_ex h.1
    have hb := bes_lt _ (bes_lt m hm d hd) s hs
    obtain ⟨g1, g2, g3⟩ := hL.2 _ j e hb h1
    refine ⟨j, g1, h3, d, e, s, hd, h2, hs, ?_, ?_⟩
    · rw [cp_d hd, g3]
    · have := h.2
      unfold ccl at this
      rw [h1] at this
      exact this
  · rintro ⟨j, hj, hx, d, e, s, hd, he, hs, h1, h2⟩
    refine ⟨d, hd, anyb_iff.mpr ⟨s, hs, ?_⟩⟩
    rw [cp_d hd] at h1
    have hl := hL.1 j e hj (by omega)
    rw [← h1] at hl
    rw [Bool.and_eq_true]
    refine ⟨armO_in hl he hx, ?_⟩
    unfold ccl
    rw [hl]
    exact h2
theorem w1_wc (hO : OKs n ru K T M C) (hL : LY n M lay) (hR : RCa n K T M C NWKa NWTa NWMa NWCa) (hl : LC lay ow pa) {k t m : Nat} (hk : k < 6) (ht : t < 4) (hm : m < 150) (x : Int32) :
    f_X1_wouldClash (nI ru) NWKa NWTa NWCa ow pa (nI k) (nI t) (nI m) x = some (nI (bN (wcB ru K T C lay k t m x))) := by
  obtain ⟨hn, hr, hb, hc⟩ := id hO
  have inner : ∀ (d : Nat), d < 4 → ∀ s, s < 4 → f_X1_wouldClash_b1 (nI ru) NWKa NWTa NWCa ow pa x (nI (colBy C k t d)) (nI (bes m d)) (nI s) = some (if armO lay (bes (bes m d) s) x && clB ru (colBy C k t d) (ccl K T C lay (bes (bes m d) s)) then .inr (.inr (nI 1)) else .inl (nI (s + 1))) := by
    intro d hd s hs
    have h1 := bes_lt m hm d hd
    have h2 := bes_lt _ h1 s hs
    cases ha : armO lay (bes (bes m d) s) x with
    | false => simp (disch := omega) only [f_X1_wouldClash_b1, g0_bes _ h1 s hs, w1_arm hL hn hl h2 x, ha, show ¬ 4 ≤ s from by omega, Bool.false_and, Bool.false_eq_true, px_l0, px_l1, px_l2, px_l3, px_l4, px_l5, px_l6, px_l9, px_l10, px_l14, px_l15, px_l23, px_l24, px_l25, px_l26, px_l29, px_l30, px_l32, px_l43, px_l45, px_l48, px_l57, px_l59, px_l60, px_l64, px_l100, px_l107, px_l116, px_l149, px_l150, px_l348, px_l464, px_l600, px_sa, nI_leI, nI_ltI, nI_eq, nI_add, pk_sub, pk_mul, pk_div, px_rm, nI_clamp, px_ck, px_eqm, px_meq, px_mm, px_mlt, px_mle, px_lem, px_ltm, px_mlem, Option.bind_some, px_b0, px_b1, px_ckb, px_if, px_if', ↓reduceIte]
    | true =>
      obtain ⟨j, e, g1, g2, g3⟩ := armO_ex ha
      obtain ⟨e1, e2⟩ := (hl _ h2).2 j e g1
      obtain ⟨f1, -, -⟩ := hL.2 _ j e h2 g1
      have hcc : ccl K T C lay (bes (bes m d) s) = col K T C j e := by unfold ccl; rw [g1]
      simp (disch := omega) only [f_X1_wouldClash_b1, g0_bes _ h1 s hs, w1_arm hL hn hl h2 x, ha, show ¬ 4 ≤ s from by omega, e1, e2, w1_col hO hR f1 g2, w1_clash hr (colBy_lt hO hk ht hd) (col_lt hO f1 g2), hcc, Bool.true_and, Bool.true_eq_false, px_l0, px_l1, px_l2, px_l3, px_l4, px_l5, px_l6, px_l9, px_l10, px_l14, px_l15, px_l23, px_l24, px_l25, px_l26, px_l29, px_l30, px_l32, px_l43, px_l45, px_l48, px_l57, px_l59, px_l60, px_l64, px_l100, px_l107, px_l116, px_l149, px_l150, px_l348, px_l464, px_l600, px_sa, nI_leI, nI_ltI, nI_eq, nI_add, pk_sub, pk_mul, pk_div, px_rm, nI_clamp, px_ck, px_eqm, px_meq, px_mm, px_mlt, px_mle, px_lem, px_ltm, px_mlem, Option.bind_some, px_b0, px_b1, px_ckb, px_if, px_if', ↓reduceIte]
      cases clB ru (colBy C k t d) (col K T C j e) <;> simp
  have outer : ∀ d, d < 4 → f_X1_wouldClash_b2 (nI ru) NWKa NWTa NWCa ow pa (nI k) (nI t) (nI m) x (nI d) = some (if anyb (fun s => armO lay (bes (bes m d) s) x && clB ru (colBy C k t d) (ccl K T C lay (bes (bes m d) s))) 4 then .inr (.inr (nI 1)) else .inl (nI (d + 1))) := by
    intro d hd
    simp (disch := omega) only [f_X1_wouldClash_b2, w4_col hR.2 hk ht hd, g0_bes m hm d hd, show ¬ 4 ≤ d from by omega, px_l0, px_l1, px_l2, px_l3, px_l4, px_l5, px_l6, px_l9, px_l10, px_l14, px_l15, px_l23, px_l24, px_l25, px_l26, px_l29, px_l30, px_l32, px_l43, px_l45, px_l48, px_l57, px_l59, px_l60, px_l64, px_l100, px_l107, px_l116, px_l149, px_l150, px_l348, px_l464, px_l600, px_sa, nI_leI, nI_ltI, nI_eq, nI_add, pk_sub, pk_mul, pk_div, px_rm, nI_clamp, px_ck, px_eqm, px_meq, px_mm, px_mlt, px_mle, px_lem, px_ltm, px_mlem, Option.bind_some, px_b0, px_b1, px_ckb, px_if, px_if', ↓reduceIte]
    rw [lp_any _ (nI 1) 4 (inner d hd) (by simp (disch := omega) only [f_X1_wouldClash_b1, Nat.le_refl, px_l0, px_l1, px_l2, px_l3, px_l4, px_l5, px_l6, px_l9, px_l10, px_l14, px_l15, px_l23, px_l24, px_l25, px_l26, px_l29, px_l30, px_l32, px_l43, px_l45, px_l48, px_l57, px_l59, px_l60, px_l64, px_l100, px_l107, px_l116, px_l149, px_l150, px_l348, px_l464, px_l600, px_sa, nI_leI, nI_ltI, nI_eq, nI_add, pk_sub, pk_mul, pk_div, px_rm, nI_clamp, px_ck, px_eqm, px_meq, px_mm, px_mlt, px_mle, px_lem, px_ltm, px_mlem, Option.bind_some, px_b0, px_b1, px_ckb, px_if, px_if', ↓reduceIte]) (by decide)]
    split <;> rfl
  unfold f_X1_wouldClash
  show (lp _ FU (nI 0)).bind _ = _
  rw [lp_any _ (nI 1) 4 outer (by simp (disch := omega) only [f_X1_wouldClash_b2, Nat.le_refl, px_l0, px_l1, px_l2, px_l3, px_l4, px_l5, px_l6, px_l9, px_l10, px_l14, px_l15, px_l23, px_l24, px_l25, px_l26, px_l29, px_l30, px_l32, px_l43, px_l45, px_l48, px_l57, px_l59, px_l60, px_l64, px_l100, px_l107, px_l116, px_l149, px_l150, px_l348, px_l464, px_l600, px_sa, nI_leI, nI_ltI, nI_eq, nI_add, pk_sub, pk_mul, pk_div, px_rm, nI_clamp, px_ck, px_eqm, px_meq, px_mm, px_mlt, px_mle, px_lem, px_ltm, px_mlem, Option.bind_some, px_b0, px_b1, px_ckb, px_if, px_if', ↓reduceIte]) (by decide)]
  unfold wcB
  split
  · rename_i h; rw [h]; rfl
  · rename_i h; rw [Bool.not_eq_true] at h; rw [h]; rfl
theorem w1_hc (hO : OKs n ru K T M C) (hL : LY n M lay) (hR : RCa n K T M C NWKa NWTa NWMa NWCa) (hl : LC lay ow pa) :
    ∃ b : Bool, f_X1_hasClash (nI ru) (nI n) NWKa NWTa NWMa NWCa ow pa = some (nI (bN b)) ∧ (b = true ↔ HC n ru K T M C) := by
  obtain ⟨hn, hr, hb, hc⟩ := id hO
  refine ⟨anyb (fun i => wcB ru K T C lay (K i) (T i) (M i) (nI i)) n, ?_, ?_⟩
  · have body : ∀ i, i < n → f_X1_hasClash_b1 (nI ru) (nI n) NWKa NWTa NWMa NWCa ow pa (nI i) = some (if wcB ru K T C lay (K i) (T i) (M i) (nI i) then .inr (.inr (nI 1)) else .inl (nI (i + 1))) := by
      intro i hi
      obtain ⟨b1, b2, b3⟩ := hb i hi
      obtain ⟨r1, r2, r3⟩ := hR.1 i hi
      simp (disch := omega) only [f_X1_hasClash_b1, r1, r2, r3, w1_wc hO hL hR hl b1 b2 b3, show ¬ n ≤ i from by omega, px_l0, px_l1, px_l2, px_l3, px_l4, px_l5, px_l6, px_l9, px_l10, px_l14, px_l15, px_l23, px_l24, px_l25, px_l26, px_l29, px_l30, px_l32, px_l43, px_l45, px_l48, px_l57, px_l59, px_l60, px_l64, px_l100, px_l107, px_l116, px_l149, px_l150, px_l348, px_l464, px_l600, px_sa, nI_leI, nI_ltI, nI_eq, nI_add, pk_sub, pk_mul, pk_div, px_rm, nI_clamp, px_ck, px_eqm, px_meq, px_mm, px_mlt, px_mle, px_lem, px_ltm, px_mlem, Option.bind_some, px_b0, px_b1, px_ckb, px_if, px_if', ↓reduceIte]
      cases wcB ru K T C lay (K i) (T i) (M i) (nI i) <;> simp
    unfold f_X1_hasClash
    show (lp _ FU (nI 0)).bind _ = _
    rw [lp_any _ (nI 1) n body (by simp (disch := omega) only [f_X1_hasClash_b1, Nat.le_refl, px_l0, px_l1, px_l2, px_l3, px_l4, px_l5, px_l6, px_l9, px_l10, px_l14, px_l15, px_l23, px_l24, px_l25, px_l26, px_l29, px_l30, px_l32, px_l43, px_l45, px_l48, px_l57, px_l59, px_l60, px_l64, px_l100, px_l107, px_l116, px_l149, px_l150, px_l348, px_l464, px_l600, px_sa, nI_leI, nI_ltI, nI_eq, nI_add, pk_sub, pk_mul, pk_div, px_rm, nI_clamp, px_ck, px_eqm, px_meq, px_mm, px_mlt, px_mle, px_lem, px_ltm, px_mlem, Option.bind_some, px_b0, px_b1, px_ckb, px_if, px_if', ↓reduceIte]) (Nat.lt_of_le_of_lt hn (by decide))]
    split
    · rename_i h; rw [h]; rfl
    · rename_i h; rw [Bool.not_eq_true] at h; rw [h]; rfl
  · rw [anyb_iff]
    constructor
    · rintro ⟨i, hi, h⟩
      rw [wcB_iff hL (fun i hi => (hb i hi).2.2) (hb i hi).2.2] at h
      obtain ⟨j, hj, hx, h⟩ := h
      exact ⟨i, j, hi, hj, fun q => hx (by rw [q]), h⟩
    · rintro ⟨i, j, hi, hj, hij, h⟩
      refine ⟨i, hi, (wcB_iff hL (fun i hi => (hb i hi).2.2) (hb i hi).2.2).mpr ⟨j, hj, fun q => hij ?_, h⟩⟩
      exact ((nI_eq (by omega) (by omega)).mp q).symm
/-! the reference -/
def acB (ru : Nat) (K T C : Nat → Nat) (lay : Nat → Option (Nat × Nat)) : Bool := anyb (fun k => anyb (fun d => tchB lay k (bes k (d + 1)) && clB ru (ccl K T C lay k) (ccl K T C lay (bes k (d + 1)))) 2) 150
theorem tchB_ex {a b : Nat} (h : tchB lay a b = true) : ∃ i d j e, lay a = some (i, d) ∧ lay b = some (j, e) ∧ d < 4 ∧ e < 4 ∧ i ≠ j := by
  unfold tchB at h
  cases h1 : lay a with
  | none => rw [h1] at h; cases h
  | some q =>
    cases h2 : lay b with
    | none => rw [h1, h2] at h; cases h
    | some r =>
      rw [h1, h2] at h
      simp only [Bool.and_eq_true, decide_eq_true_eq] at h
      exact ⟨q.1, q.2, r.1, r.2, rfl, rfl, h.1, h.2.1, h.2.2⟩
theorem tchB_in {a b i d j e : Nat} (h1 : lay a = some (i, d)) (h2 : lay b = some (j, e)) (hd : d < 4) (he : e < 4) (hij : i ≠ j) : tchB lay a b = true := by
  unfold tchB; rw [h1, h2]; simp [hd, he, hij]
theorem tchB_comm {a b : Nat} : tchB lay a b = tchB lay b a := by
  cases h : tchB lay b a with
  | true =>
    obtain ⟨i, d, j, e, h1, h2, h3, h4, h5⟩ := tchB_ex h
    exact tchB_in h2 h1 h4 h3 (Ne.symm h5)
  | false =>
    cases h' : tchB lay a b with
    | false => rfl
    | true =>
      obtain ⟨i, d, j, e, h1, h2, h3, h4, h5⟩ := tchB_ex h'
      rw [tchB_in h2 h1 h4 h3 (Ne.symm h5)] at h; cases h
theorem acB_iff (hL : LY n M lay) (hM : ∀ i, i < n → M i < 150) : acB ru K T C lay = true ↔ HC n ru K T M C := by
  unfold acB
  rw [anyb_iff]
  constructor
  · rintro ⟨k, hk, h⟩
    rw [anyb_iff] at h
    obtain ⟨d, hd, h⟩ := h
    rw [Bool.and_eq_true] at h
    obtain ⟨i, a, j, b, h1, h2, h3, h4, h5⟩ := tchB_ex h.1
    obtain ⟨g1, g2, g3⟩ := hL.2 k i a hk h1
    obtain ⟨f1, f2, f3⟩ := hL.2 _ j b (bes_lt k hk (d + 1) (by omega)) h2
    refine ⟨i, j, g1, f1, h5, a, b, d + 1, h3, h4, by omega, by rw [g3, f3], ?_⟩
    have := h.2
    unfold ccl at this
    rw [h1, h2] at this
    exact this
  · rintro ⟨i, j, hi, hj, hij, a, b, s, ha, hb, hs, h1, h2⟩
    have hMi := hM i hi
    have hMj := hM j hj
    have hci := cp_lt hMi (show a ≤ 4 by omega)
    have hcj := cp_lt hMj (show b ≤ 4 by omega)
    have li := hL.1 i a hi (by omega)
    have lj := hL.1 j b hj (by omega)
    have hs' : s = 1 ∨ s = 2 ∨ s = 0 ∨ s = 3 := by omega
    have fwd : ∀ d, d < 2 → s = d + 1 → ∃ k, k < 150 ∧ anyb (fun d => tchB lay k (bes k (d + 1)) && clB ru (ccl K T C lay k) (ccl K T C lay (bes k (d + 1)))) 2 = true := by
      intro d hd hsd
      refine ⟨cp (M i) a, hci, anyb_iff.mpr ⟨d, hd, ?_⟩⟩
      rw [Bool.and_eq_true, ← hsd, h1]
      refine ⟨tchB_in li lj ha hb hij, ?_⟩
      unfold ccl
      rw [li, lj]
      exact h2
    have bwd : ∀ d, d < 2 → (s + 2) % 4 = d + 1 → ∃ k, k < 150 ∧ anyb (fun d => tchB lay k (bes k (d + 1)) && clB ru (ccl K T C lay k) (ccl K T C lay (bes k (d + 1)))) 2 = true := by
      intro d hd hsd
      refine ⟨cp (M j) b, hcj, anyb_iff.mpr ⟨d, hd, ?_⟩⟩
      have e1 : bes (cp (M j) b) (d + 1) = cp (M i) a := by rw [← h1, ← hsd]; exact bes_inv _ hci s hs
      rw [Bool.and_eq_true, e1]
      refine ⟨tchB_in lj li hb ha (Ne.symm hij), ?_⟩
      unfold ccl
      rw [li, lj]
      dsimp only
      rw [clB_comm]
      exact h2
    rcases hs' with h | h | h | h
    · exact fwd 0 (by omega) h
    · exact fwd 1 (by omega) h
    · exact bwd 1 (by omega) (by rw [h])
    · exact bwd 0 (by omega) (by rw [h])
theorem w7_ac (hO : OKs n ru K T M C) (hL : LY n M lay) (hR : RM n ru K T M C z) (hl : LM lay on wy) :
    ∃ b : Bool, f_X7_areClashing z on wy = some (nI (bN b)) ∧ (b = true ↔ HC n ru K T M C) := by
  obtain ⟨hn, hr, hb, hc⟩ := id hO
  refine ⟨acB ru K T C lay, ?_, acB_iff hL (fun i hi => (hb i hi).2.2)⟩
  have inner : ∀ k, k < 150 → ∀ b0 : Bool, ∀ d, d < 2 → f_X7_areClashing_b1 z on wy (nI (bN b0), nI k) (nI (bN (b0 || anyb (fun d => tchB lay k (bes k (d + 1)) && clB ru (ccl K T C lay k) (ccl K T C lay (bes k (d + 1)))) d)), nI (d + 1)) =
      some (.inl (nI (bN (b0 || anyb (fun d => tchB lay k (bes k (d + 1)) && clB ru (ccl K T C lay k) (ccl K T C lay (bes k (d + 1)))) (d + 1))), nI (d + 1 + 1))) := by
    intro k hk b0 d hd
    have h2 := bes_lt k hk (d + 1) (by omega)
    simp only [anyb]
    rw [← Bool.or_assoc]
    generalize (b0 || anyb (fun d => tchB lay k (bes k (d + 1)) && clB ru (ccl K T C lay k) (ccl K T C lay (bes k (d + 1)))) d) = b
    cases b with
    | true => simp (disch := omega) only [f_X7_areClashing_b1, g7_bes k hk (d + 1) (by omega), show ¬ 3 ≤ d + 1 from by omega, Bool.true_or, Bool.true_eq_false, px_l0, px_l1, px_l2, px_l3, px_l4, px_l5, px_l6, px_l9, px_l10, px_l14, px_l15, px_l23, px_l24, px_l25, px_l26, px_l29, px_l30, px_l32, px_l43, px_l45, px_l48, px_l57, px_l59, px_l60, px_l64, px_l100, px_l107, px_l116, px_l149, px_l150, px_l348, px_l464, px_l600, px_sa, nI_leI, nI_ltI, nI_eq, nI_add, pk_sub, pk_mul, pk_div, px_rm, nI_clamp, px_ck, px_eqm, px_meq, px_mm, px_mlt, px_mle, px_lem, px_ltm, px_mlem, Option.bind_some, px_b0, px_b1, px_ckb, px_if, px_if', ↓reduceIte]; rfl
    | false =>
      cases ht : tchB lay k (bes k (d + 1)) with
      | false => simp (disch := omega) only [f_X7_areClashing_b1, g7_bes k hk (d + 1) (by omega), w7_touch hL hn hl hk h2, ht, show ¬ 3 ≤ d + 1 from by omega, Bool.false_or, Bool.false_and, px_l0, px_l1, px_l2, px_l3, px_l4, px_l5, px_l6, px_l9, px_l10, px_l14, px_l15, px_l23, px_l24, px_l25, px_l26, px_l29, px_l30, px_l32, px_l43, px_l45, px_l48, px_l57, px_l59, px_l60, px_l64, px_l100, px_l107, px_l116, px_l149, px_l150, px_l348, px_l464, px_l600, px_sa, nI_leI, nI_ltI, nI_eq, nI_add, pk_sub, pk_mul, pk_div, px_rm, nI_clamp, px_ck, px_eqm, px_meq, px_mm, px_mlt, px_mle, px_lem, px_ltm, px_mlem, Option.bind_some, px_b0, px_b1, px_ckb, px_if, px_if', ↓reduceIte]; rfl
      | true =>
        obtain ⟨i, a, j, b, h1, h2', h3, h4, h5⟩ := tchB_ex ht
        have q1 : armB lay k = true := by unfold armB; rw [h1]; exact decide_eq_true h3
        have q2 : armB lay (bes k (d + 1)) = true := by unfold armB; rw [h2']; exact decide_eq_true h4
        simp (disch := omega) only [f_X7_areClashing_b1, g7_bes k hk (d + 1) (by omega), w7_touch hL hn hl hk h2, ht, w7_armCol hO hL hR hl hk q1, w7_armCol hO hL hR hl h2 q2, w7_clash hR hr (ccl_lt hO hL hk q1) (ccl_lt hO hL h2 q2), show ¬ 3 ≤ d + 1 from by omega, Bool.false_or, Bool.true_and, Bool.true_eq_false, px_l0, px_l1, px_l2, px_l3, px_l4, px_l5, px_l6, px_l9, px_l10, px_l14, px_l15, px_l23, px_l24, px_l25, px_l26, px_l29, px_l30, px_l32, px_l43, px_l45, px_l48, px_l57, px_l59, px_l60, px_l64, px_l100, px_l107, px_l116, px_l149, px_l150, px_l348, px_l464, px_l600, px_sa, nI_leI, nI_ltI, nI_eq, nI_add, pk_sub, pk_mul, pk_div, px_rm, nI_clamp, px_ck, px_eqm, px_meq, px_mm, px_mlt, px_mle, px_lem, px_ltm, px_mlem, Option.bind_some, px_b0, px_b1, px_ckb, px_if, px_if', ↓reduceIte]
        cases clB ru (ccl K T C lay k) (ccl K T C lay (bes k (d + 1))) <;> simp [bN]
  unfold f_X7_areClashing
  have L : lp (f_X7_areClashing_b2 z on wy) FU ((0 : Int32), (0 : Int32)) = some (nI (bN (acB ru K T C lay)), nI 150) := by
    refine lp_det (fun k => (nI (bN (anyb (fun k => anyb (fun d => tchB lay k (bes k (d + 1)) && clB ru (ccl K T C lay k) (ccl K T C lay (bes k (d + 1)))) 2) k)), nI k)) 150 _ ?_ ?_ (by decide) rfl
    · intro k hk
      have L1 := lp_det (f := f_X7_areClashing_b1 z on wy (nI (bN (anyb (fun k => anyb (fun d => tchB lay k (bes k (d + 1)) && clB ru (ccl K T C lay k) (ccl K T C lay (bes k (d + 1)))) 2) k)), nI k)) _ 2 _ (inner k hk (anyb (fun k => anyb (fun d => tchB lay k (bes k (d + 1)) && clB ru (ccl K T C lay k) (ccl K T C lay (bes k (d + 1)))) 2) k)) (by simp (disch := omega) only [f_X7_areClashing_b1, Nat.le_refl, px_l0, px_l1, px_l2, px_l3, px_l4, px_l5, px_l6, px_l9, px_l10, px_l14, px_l15, px_l23, px_l24, px_l25, px_l26, px_l29, px_l30, px_l32, px_l43, px_l45, px_l48, px_l57, px_l59, px_l60, px_l64, px_l100, px_l107, px_l116, px_l149, px_l150, px_l348, px_l464, px_l600, px_sa, nI_leI, nI_ltI, nI_eq, nI_add, pk_sub, pk_mul, pk_div, px_rm, nI_clamp, px_ck, px_eqm, px_meq, px_mm, px_mlt, px_mle, px_lem, px_ltm, px_mlem, Option.bind_some, px_b0, px_b1, px_ckb, px_if, px_if', ↓reduceIte]; rfl) (N := FU) (by decide) rfl
      simp only [anyb, Bool.or_false] at L1 ⊢
      simp (disch := omega) only [f_X7_areClashing_b2, show ¬ 150 ≤ k from by omega, px_l0, px_l1, px_l2, px_l3, px_l4, px_l5, px_l6, px_l9, px_l10, px_l14, px_l15, px_l23, px_l24, px_l25, px_l26, px_l29, px_l30, px_l32, px_l43, px_l45, px_l48, px_l57, px_l59, px_l60, px_l64, px_l100, px_l107, px_l116, px_l149, px_l150, px_l348, px_l464, px_l600, px_sa, nI_leI, nI_ltI, nI_eq, nI_add, pk_sub, pk_mul, pk_div, px_rm, nI_clamp, px_ck, px_eqm, px_meq, px_mm, px_mlt, px_mle, px_lem, px_ltm, px_mlem, Option.bind_some, px_b0, px_b1, px_ckb, px_if, px_if', ↓reduceIte]
      rw [L1]
      rfl
    · simp (disch := omega) only [f_X7_areClashing_b2, Nat.le_refl, px_l0, px_l1, px_l2, px_l3, px_l4, px_l5, px_l6, px_l9, px_l10, px_l14, px_l15, px_l23, px_l24, px_l25, px_l26, px_l29, px_l30, px_l32, px_l43, px_l45, px_l48, px_l57, px_l59, px_l60, px_l64, px_l100, px_l107, px_l116, px_l149, px_l150, px_l348, px_l464, px_l600, px_sa, nI_leI, nI_ltI, nI_eq, nI_add, pk_sub, pk_mul, pk_div, px_rm, nI_clamp, px_ck, px_eqm, px_meq, px_mm, px_mlt, px_mle, px_lem, px_ltm, px_mlem, Option.bind_some, px_b0, px_b1, px_ckb, px_if, px_if', ↓reduceIte]
      rfl
  rw [L]
  simp (disch := omega) only [px_l0, px_l1, px_l2, px_l3, px_l4, px_l5, px_l6, px_l9, px_l10, px_l14, px_l15, px_l23, px_l24, px_l25, px_l26, px_l29, px_l30, px_l32, px_l43, px_l45, px_l48, px_l57, px_l59, px_l60, px_l64, px_l100, px_l107, px_l116, px_l149, px_l150, px_l348, px_l464, px_l600, px_sa, nI_leI, nI_ltI, nI_eq, nI_add, pk_sub, pk_mul, pk_div, px_rm, nI_clamp, px_ck, px_eqm, px_meq, px_mm, px_mlt, px_mle, px_lem, px_ltm, px_mlem, Option.bind_some, px_b0, px_b1, px_ckb, px_if, px_if', ↓reduceIte]
end P24
