/-! COLOURS, ARMS, TOUCHES: as numbers, and as the two programs tell them -/
def colBy (C : Nat → Nat) (k t d : Nat) : Nat := C (4 * k + (d + 4 - t) % 4)
def col (K T C : Nat → Nat) (i d : Nat) : Nat := colBy C (K i) (T i) d
def clB (ru x y : Nat) : Bool := if ru = 0 then decide (¬ x = y) else if ru = 1 then decide (x = y) else false
def armO (lay : Nat → Option (Nat × Nat)) (c : Nat) (x : Int32) : Bool := match lay c with
  | some (i, d) => decide (¬ nI i = x) && decide (d < 4)
  | none => false
def armB (lay : Nat → Option (Nat × Nat)) (c : Nat) : Bool := match lay c with
  | some (_, d) => decide (d < 4)
  | none => false
def ccl (K T C : Nat → Nat) (lay : Nat → Option (Nat × Nat)) (c : Nat) : Nat := match lay c with
  | some (i, d) => col K T C i d
  | none => 0
def frB (lay : Nat → Option (Nat × Nat)) (c : Nat) : Bool := (lay c).isNone
def tchB (lay : Nat → Option (Nat × Nat)) (a b : Nat) : Bool := match lay a, lay b with
  | some (i, d), some (j, e) => decide (d < 4) && (decide (e < 4) && decide (¬ i = j))
  | _, _ => false
theorem clB_comm {ru x y : Nat} : clB ru x y = clB ru y x := by
  unfold clB
  by_cases h : x = y
  · subst h; rfl
  · simp [h, Ne.symm h]
section P23
variable {n ru : Nat} {K T M C : Nat → Nat} {lay : Nat → Option (Nat × Nat)} {NWKa NWTa NWMa NWCa ow pa z on wy : Nat → Int32}
/-- the class's rows -/
def RCa (n : Nat) (K T M C : Nat → Nat) (NWKa NWTa NWMa NWCa : Nat → Int32) : Prop := (∀ i, i < n → NWKa i = nI (K i) ∧ NWTa i = nI (T i) ∧ NWMa i = nI (M i)) ∧ ∀ i, i < 24 → NWCa i = nI (C i)
theorem w4_col (hC : ∀ i, i < 24 → NWCa i = nI (C i)) {k t d : Nat} (hk : k < 6) (ht : t < 4) (hd : d < 4) : f_X4_colourTowards NWCa (nI d) (nI k) (nI t) = some (nI (colBy C k t d)) := by
  simp (disch := omega) only [f_X4_colourTowards, colBy, hC (4 * k + (d + 4 - t) % 4) (by omega), px_l0, px_l1, px_l2, px_l3, px_l4, px_l5, px_l6, px_l9, px_l10, px_l14, px_l15, px_l23, px_l24, px_l25, px_l26, px_l29, px_l30, px_l32, px_l43, px_l45, px_l48, px_l57, px_l59, px_l60, px_l64, px_l100, px_l107, px_l116, px_l149, px_l150, px_l348, px_l464, px_l600, px_sa, nI_leI, nI_ltI, nI_eq, nI_add, pk_sub, pk_mul, pk_div, px_rm, nI_clamp, px_ck, px_eqm, px_meq, px_mm, px_mlt, px_mle, px_lem, px_ltm, px_mlem, Option.bind_some, px_b0, px_b1, px_ckb, px_if, px_if', ↓reduceIte]
theorem w1_col (hO : OKs n ru K T M C) (hR : RCa n K T M C NWKa NWTa NWMa NWCa) {i d : Nat} (hi : i < n) (hd : d < 4) : f_X1_colourShown NWKa NWTa NWCa (nI i) (nI d) = some (nI (col K T C i d)) := by
  obtain ⟨hn, hr, hb, hc⟩ := hO
  obtain ⟨b1, b2, b3⟩ := hb i hi
  obtain ⟨r1, r2, r3⟩ := hR.1 i hi
  simp (disch := omega) only [f_X1_colourShown, r1, r2, w4_col hR.2 b1 b2 hd, px_l0, px_l1, px_l2, px_l3, px_l4, px_l5, px_l6, px_l9, px_l10, px_l14, px_l15, px_l23, px_l24, px_l25, px_l26, px_l29, px_l30, px_l32, px_l43, px_l45, px_l48, px_l57, px_l59, px_l60, px_l64, px_l100, px_l107, px_l116, px_l149, px_l150, px_l348, px_l464, px_l600, px_sa, nI_leI, nI_ltI, nI_eq, nI_add, pk_sub, pk_mul, pk_div, px_rm, nI_clamp, px_ck, px_eqm, px_meq, px_mm, px_mlt, px_mle, px_lem, px_ltm, px_mlem, Option.bind_some, px_b0, px_b1, px_ckb, px_if, px_if', ↓reduceIte]
  rfl
theorem w1_clash (hr : ru ≤ 2) {x y : Nat} (hx : x < 6) (hy : y < 6) : f_X1_coloursClash (nI ru) (nI x) (nI y) = some (nI (bN (clB ru x y))) := by
  have h3 : ru = 0 ∨ ru = 1 ∨ ru = 2 := by omega
  rcases h3 with rfl | rfl | rfl
  · simp (disch := omega) only [f_X1_coloursClash, px_l0, px_l1, px_l2, px_l3, px_l4, px_l5, px_l6, px_l9, px_l10, px_l14, px_l15, px_l23, px_l24, px_l25, px_l26, px_l29, px_l30, px_l32, px_l43, px_l45, px_l48, px_l57, px_l59, px_l60, px_l64, px_l100, px_l107, px_l116, px_l149, px_l150, px_l348, px_l464, px_l600, px_sa, nI_leI, nI_ltI, nI_eq, nI_add, pk_sub, pk_mul, pk_div, px_rm, nI_clamp, px_ck, px_eqm, px_meq, px_mm, px_mlt, px_mle, px_lem, px_ltm, px_mlem, Option.bind_some, px_b0, px_b1, px_ckb, px_if, px_if', ↓reduceIte]
    by_cases h : x = y <;> simp [h, clB, bN, ckP]
  · simp (disch := omega) only [f_X1_coloursClash, show ¬ (1 = 0) from by decide, px_l0, px_l1, px_l2, px_l3, px_l4, px_l5, px_l6, px_l9, px_l10, px_l14, px_l15, px_l23, px_l24, px_l25, px_l26, px_l29, px_l30, px_l32, px_l43, px_l45, px_l48, px_l57, px_l59, px_l60, px_l64, px_l100, px_l107, px_l116, px_l149, px_l150, px_l348, px_l464, px_l600, px_sa, nI_leI, nI_ltI, nI_eq, nI_add, pk_sub, pk_mul, pk_div, px_rm, nI_clamp, px_ck, px_eqm, px_meq, px_mm, px_mlt, px_mle, px_lem, px_ltm, px_mlem, Option.bind_some, px_b0, px_b1, px_ckb, px_if, px_if', ↓reduceIte]
    by_cases h : x = y <;> simp [h, clB, bN, ckP]
  · simp (disch := omega) only [f_X1_coloursClash, show ¬ (2 = 0) from by decide, show ¬ (2 = 1) from by decide, px_l0, px_l1, px_l2, px_l3, px_l4, px_l5, px_l6, px_l9, px_l10, px_l14, px_l15, px_l23, px_l24, px_l25, px_l26, px_l29, px_l30, px_l32, px_l43, px_l45, px_l48, px_l57, px_l59, px_l60, px_l64, px_l100, px_l107, px_l116, px_l149, px_l150, px_l348, px_l464, px_l600, px_sa, nI_leI, nI_ltI, nI_eq, nI_add, pk_sub, pk_mul, pk_div, px_rm, nI_clamp, px_ck, px_eqm, px_meq, px_mm, px_mlt, px_mle, px_lem, px_ltm, px_mlem, Option.bind_some, px_b0, px_b1, px_ckb, px_if, px_if', ↓reduceIte]
    rfl
theorem w1_arm (hL : LY n M lay) (hn : n ≤ 30) (hl : LC lay ow pa) {c : Nat} (hc : c < 150) (x : Int32) : f_X1_hasArmOfOther ow pa (nI c) x = some (nI (bN (armO lay c x))) := by
  unfold armO
  cases h : lay c with
  | none =>
    have h1 := ((hl c hc).1 h).1
    simp (disch := omega) only [f_X1_hasArmOfOther, h1, px_l0, px_l1, px_l2, px_l3, px_l4, px_l5, px_l6, px_l9, px_l10, px_l14, px_l15, px_l23, px_l24, px_l25, px_l26, px_l29, px_l30, px_l32, px_l43, px_l45, px_l48, px_l57, px_l59, px_l60, px_l64, px_l100, px_l107, px_l116, px_l149, px_l150, px_l348, px_l464, px_l600, px_sa, nI_leI, nI_ltI, nI_eq, nI_add, pk_sub, pk_mul, pk_div, px_rm, nI_clamp, px_ck, px_eqm, px_meq, px_mm, px_mlt, px_mle, px_lem, px_ltm, px_mlem, Option.bind_some, px_b0, px_b1, px_ckb, px_if, px_if', ↓reduceIte]
    simp [bN, ckP]
  | some q =>
    obtain ⟨i, d⟩ := q
    obtain ⟨h1, h2⟩ := (hl c hc).2 i d h
    obtain ⟨g1, g2, -⟩ := hL.2 c i d hc h
    simp (disch := omega) only [f_X1_hasArmOfOther, h1, h2, px_l0, px_l1, px_l2, px_l3, px_l4, px_l5, px_l6, px_l9, px_l10, px_l14, px_l15, px_l23, px_l24, px_l25, px_l26, px_l29, px_l30, px_l32, px_l43, px_l45, px_l48, px_l57, px_l59, px_l60, px_l64, px_l100, px_l107, px_l116, px_l149, px_l150, px_l348, px_l464, px_l600, px_sa, nI_leI, nI_ltI, nI_eq, nI_add, pk_sub, pk_mul, pk_div, px_rm, nI_clamp, px_ck, px_eqm, px_meq, px_mm, px_mlt, px_mle, px_lem, px_ltm, px_mlem, Option.bind_some, px_b0, px_b1, px_ckb, px_if, px_if', ↓reduceIte]
    by_cases hx : nI i = x
    · simp [hx, bN, ckP]
    · by_cases hd : d = 4
      · simp [hx, hd, bN, ckP]
      · have hd' : d < 4 := by omega
        simp [hx, hd, hd', bN, ckP]
theorem w1_free (hL : LY n M lay) (hn : n ≤ 30) (hl : LC lay ow pa) {c : Nat} (hc : c < 150) : f_X1_isFree ow (nI c) = some (nI (bN (frB lay c))) := by
  unfold frB
  cases h : lay c with
  | none =>
    have h1 := ((hl c hc).1 h).1
    simp (disch := omega) only [f_X1_isFree, h1, px_l0, px_l1, px_l2, px_l3, px_l4, px_l5, px_l6, px_l9, px_l10, px_l14, px_l15, px_l23, px_l24, px_l25, px_l26, px_l29, px_l30, px_l32, px_l43, px_l45, px_l48, px_l57, px_l59, px_l60, px_l64, px_l100, px_l107, px_l116, px_l149, px_l150, px_l348, px_l464, px_l600, px_sa, nI_leI, nI_ltI, nI_eq, nI_add, pk_sub, pk_mul, pk_div, px_rm, nI_clamp, px_ck, px_eqm, px_meq, px_mm, px_mlt, px_mle, px_lem, px_ltm, px_mlem, Option.bind_some, px_b0, px_b1, px_ckb, px_if, px_if', ↓reduceIte]
    simp [bN, ckP]
  | some q =>
    obtain ⟨i, d⟩ := q
    obtain ⟨h1, h2⟩ := (hl c hc).2 i d h
    obtain ⟨g1, g2, -⟩ := hL.2 c i d hc h
    simp (disch := omega) only [f_X1_isFree, h1, h2, px_l0, px_l1, px_l2, px_l3, px_l4, px_l5, px_l6, px_l9, px_l10, px_l14, px_l15, px_l23, px_l24, px_l25, px_l26, px_l29, px_l30, px_l32, px_l43, px_l45, px_l48, px_l57, px_l59, px_l60, px_l64, px_l100, px_l107, px_l116, px_l149, px_l150, px_l348, px_l464, px_l600, px_sa, nI_leI, nI_ltI, nI_eq, nI_add, pk_sub, pk_mul, pk_div, px_rm, nI_clamp, px_ck, px_eqm, px_meq, px_mm, px_mlt, px_mle, px_lem, px_ltm, px_mlem, Option.bind_some, px_b0, px_b1, px_ckb, px_if, px_if', ↓reduceIte]
    simp [bN, ckP]
theorem w1_own {c : Nat} (hc : c < 150) : f_X1_ownerOf ow (nI c) = some (ow c) := by
  simp (disch := omega) only [f_X1_ownerOf, px_l0, px_l1, px_l2, px_l3, px_l4, px_l5, px_l6, px_l9, px_l10, px_l14, px_l15, px_l23, px_l24, px_l25, px_l26, px_l29, px_l30, px_l32, px_l43, px_l45, px_l48, px_l57, px_l59, px_l60, px_l64, px_l100, px_l107, px_l116, px_l149, px_l150, px_l348, px_l464, px_l600, px_sa, nI_leI, nI_ltI, nI_eq, nI_add, pk_sub, pk_mul, pk_div, px_rm, nI_clamp, px_ck, px_eqm, px_meq, px_mm, px_mlt, px_mle, px_lem, px_ltm, px_mlem, Option.bind_some, px_b0, px_b1, px_ckb, px_if, px_if', ↓reduceIte]
theorem w1_part {c : Nat} (hc : c < 150) : f_X1_partOn pa (nI c) = some (pa c) := by
  simp (disch := omega) only [f_X1_partOn, px_l0, px_l1, px_l2, px_l3, px_l4, px_l5, px_l6, px_l9, px_l10, px_l14, px_l15, px_l23, px_l24, px_l25, px_l26, px_l29, px_l30, px_l32, px_l43, px_l45, px_l48, px_l57, px_l59, px_l60, px_l64, px_l100, px_l107, px_l116, px_l149, px_l150, px_l348, px_l464, px_l600, px_sa, nI_leI, nI_ltI, nI_eq, nI_add, pk_sub, pk_mul, pk_div, px_rm, nI_clamp, px_ck, px_eqm, px_meq, px_mm, px_mlt, px_mle, px_lem, px_ltm, px_mlem, Option.bind_some, px_b0, px_b1, px_ckb, px_if, px_if', ↓reduceIte]
/-! the reference -/
theorem w7_in {v a b : Nat} (hv : v < 2 ^ 31) (ha : a < 2 ^ 31) (hb : b < 2 ^ 31) : f_X7_in (nI v) (nI a) (nI b) = some (nI (bN (decide (a ≤ v) && decide (v ≤ b)))) := by
  simp (disch := omega) only [f_X7_in, px_l0, px_l1, px_l2, px_l3, px_l4, px_l5, px_l6, px_l9, px_l10, px_l14, px_l15, px_l23, px_l24, px_l25, px_l26, px_l29, px_l30, px_l32, px_l43, px_l45, px_l48, px_l57, px_l59, px_l60, px_l64, px_l100, px_l107, px_l116, px_l149, px_l150, px_l348, px_l464, px_l600, px_sa, nI_leI, nI_ltI, nI_eq, nI_add, pk_sub, pk_mul, pk_div, px_rm, nI_clamp, px_ck, px_eqm, px_meq, px_mm, px_mlt, px_mle, px_lem, px_ltm, px_mlem, Option.bind_some, px_b0, px_b1, px_ckb, px_if, px_if', ↓reduceIte]
  by_cases h1 : v < a
  · have h2 : ¬ a ≤ v := by omega
    simp [h1, h2, bN, ckP]
  · have h2 : a ≤ v := by omega
    by_cases h3 : b < v
    · have h4 : ¬ v ≤ b := by omega
      simp [h1, h2, h3, h4, bN, ckP]
    · have h4 : v ≤ b := by omega
      simp [h1, h2, h3, h4, bN, ckP]
theorem w7_inm {v b : Nat} (hv : v < 2 ^ 31) (h0 : 0 < v) : f_X7_in (-nI v) (nI 0) (nI b) = some (nI 0) := by
  simp (disch := omega) only [f_X7_in, px_l0, px_l1, px_l2, px_l3, px_l4, px_l5, px_l6, px_l9, px_l10, px_l14, px_l15, px_l23, px_l24, px_l25, px_l26, px_l29, px_l30, px_l32, px_l43, px_l45, px_l48, px_l57, px_l59, px_l60, px_l64, px_l100, px_l107, px_l116, px_l149, px_l150, px_l348, px_l464, px_l600, px_sa, nI_leI, nI_ltI, nI_eq, nI_add, pk_sub, pk_mul, pk_div, px_rm, nI_clamp, px_ck, px_eqm, px_meq, px_mm, px_mlt, px_mle, px_lem, px_ltm, px_mlem, Option.bind_some, px_b0, px_b1, px_ckb, px_if, px_if', ↓reduceIte]
  simp [ckP]
theorem w7_hasArm (hL : LY n M lay) (hl : LM lay on wy) {c : Nat} (hc : c < 150) : f_X7_hasArm wy (nI c) = some (nI (bN (armB lay c))) := by
  unfold armB
  cases h : lay c with
  | none =>
    have h1 := ((hl c hc).1 h).2
    simp (disch := omega) only [f_X7_hasArm, h1, w7_inm, px_l0, px_l1, px_l2, px_l3, px_l4, px_l5, px_l6, px_l9, px_l10, px_l14, px_l15, px_l23, px_l24, px_l25, px_l26, px_l29, px_l30, px_l32, px_l43, px_l45, px_l48, px_l57, px_l59, px_l60, px_l64, px_l100, px_l107, px_l116, px_l149, px_l150, px_l348, px_l464, px_l600, px_sa, nI_leI, nI_ltI, nI_eq, nI_add, pk_sub, pk_mul, pk_div, px_rm, nI_clamp, px_ck, px_eqm, px_meq, px_mm, px_mlt, px_mle, px_lem, px_ltm, px_mlem, Option.bind_some, px_b0, px_b1, px_ckb, px_if, px_if', ↓reduceIte]
    simp [bN, ckP]
  | some q =>
    obtain ⟨i, d⟩ := q
    obtain ⟨h1, h2⟩ := (hl c hc).2 i d h
    obtain ⟨g1, g2, -⟩ := hL.2 c i d hc h
    simp (disch := omega) only [f_X7_hasArm, h1, h2, w7_in, px_l0, px_l1, px_l2, px_l3, px_l4, px_l5, px_l6, px_l9, px_l10, px_l14, px_l15, px_l23, px_l24, px_l25, px_l26, px_l29, px_l30, px_l32, px_l43, px_l45, px_l48, px_l57, px_l59, px_l60, px_l64, px_l100, px_l107, px_l116, px_l149, px_l150, px_l348, px_l464, px_l600, px_sa, nI_leI, nI_ltI, nI_eq, nI_add, pk_sub, pk_mul, pk_div, px_rm, nI_clamp, px_ck, px_eqm, px_meq, px_mm, px_mlt, px_mle, px_lem, px_ltm, px_mlem, Option.bind_some, px_b0, px_b1, px_ckb, px_if, px_if', ↓reduceIte]
    by_cases hd : d < 4
    · have h3 : d ≤ 3 := by omega
      simp [hd, h3]
    · have h3 : ¬ d ≤ 3 := by omega
      simp [hd, h3]
theorem w7_colBy (hR : RM n ru K T M C z) {k t d : Nat} (hk : k < 6) (ht : t < 4) (hd : d < 4) : f_X7_colourBy z (nI k) (nI t) (nI d) = some (nI (colBy C k t d)) := by
  simp (disch := omega) only [f_X7_colourBy, colBy, hR.1 (4 * k + (d + 4 - t) % 4) (by omega), px_l0, px_l1, px_l2, px_l3, px_l4, px_l5, px_l6, px_l9, px_l10, px_l14, px_l15, px_l23, px_l24, px_l25, px_l26, px_l29, px_l30, px_l32, px_l43, px_l45, px_l48, px_l57, px_l59, px_l60, px_l64, px_l100, px_l107, px_l116, px_l149, px_l150, px_l348, px_l464, px_l600, px_sa, nI_leI, nI_ltI, nI_eq, nI_add, pk_sub, pk_mul, pk_div, px_rm, nI_clamp, px_ck, px_eqm, px_meq, px_mm, px_mlt, px_mle, px_lem, px_ltm, px_mlem, Option.bind_some, px_b0, px_b1, px_ckb, px_if, px_if', ↓reduceIte]
theorem w7_kind (hR : RM n ru K T M C z) (hn : n ≤ 30) {i : Nat} (hi : i < n) : f_X7_kindOf z (nI i) = some (nI (K i)) := by
  simp (disch := omega) only [f_X7_kindOf, px_l0, px_l1, px_l2, px_l3, px_l4, px_l5, px_l6, px_l9, px_l10, px_l14, px_l15, px_l23, px_l24, px_l25, px_l26, px_l29, px_l30, px_l32, px_l43, px_l45, px_l48, px_l57, px_l59, px_l60, px_l64, px_l100, px_l107, px_l116, px_l149, px_l150, px_l348, px_l464, px_l600, px_sa, nI_leI, nI_ltI, nI_eq, nI_add, pk_sub, pk_mul, pk_div, px_rm, nI_clamp, px_ck, px_eqm, px_meq, px_mm, px_mlt, px_mle, px_lem, px_ltm, px_mlem, Option.bind_some, px_b0, px_b1, px_ckb, px_if, px_if', ↓reduceIte, (hR.2.2.2 i hi).1]
theorem w7_turns (hR : RM n ru K T M C z) (hn : n ≤ 30) {i : Nat} (hi : i < n) : f_X7_turnsOf z (nI i) = some (nI (T i)) := by
  simp (disch := omega) only [f_X7_turnsOf, px_l0, px_l1, px_l2, px_l3, px_l4, px_l5, px_l6, px_l9, px_l10, px_l14, px_l15, px_l23, px_l24, px_l25, px_l26, px_l29, px_l30, px_l32, px_l43, px_l45, px_l48, px_l57, px_l59, px_l60, px_l64, px_l100, px_l107, px_l116, px_l149, px_l150, px_l348, px_l464, px_l600, px_sa, nI_leI, nI_ltI, nI_eq, nI_add, pk_sub, pk_mul, pk_div, px_rm, nI_clamp, px_ck, px_eqm, px_meq, px_mm, px_mlt, px_mle, px_lem, px_ltm, px_mlem, Option.bind_some, px_b0, px_b1, px_ckb, px_if, px_if', ↓reduceIte, (hR.2.2.2 i hi).2.1]
theorem w7_col (hO : OKs n ru K T M C) (hR : RM n ru K T M C z) {i d : Nat} (hi : i < n) (hd : d < 4) : f_X7_colourOf z (nI i) (nI d) = some (nI (col K T C i d)) := by
  obtain ⟨hn, hr, hb, hc⟩ := hO
  obtain ⟨b1, b2, b3⟩ := hb i hi
  simp (disch := omega) only [f_X7_colourOf, w7_kind hR hn hi, w7_turns hR hn hi, w7_colBy hR b1 b2 hd, px_l0, px_l1, px_l2, px_l3, px_l4, px_l5, px_l6, px_l9, px_l10, px_l14, px_l15, px_l23, px_l24, px_l25, px_l26, px_l29, px_l30, px_l32, px_l43, px_l45, px_l48, px_l57, px_l59, px_l60, px_l64, px_l100, px_l107, px_l116, px_l149, px_l150, px_l348, px_l464, px_l600, px_sa, nI_leI, nI_ltI, nI_eq, nI_add, pk_sub, pk_mul, pk_div, px_rm, nI_clamp, px_ck, px_eqm, px_meq, px_mm, px_mlt, px_mle, px_lem, px_ltm, px_mlem, Option.bind_some, px_b0, px_b1, px_ckb, px_if, px_if', ↓reduceIte]
  rfl
theorem armB_ex {c : Nat} (h : armB lay c = true) : ∃ i d, lay c = some (i, d) ∧ d < 4 := by
  unfold armB at h
  cases hl : lay c with
  | none => rw [hl] at h; cases h
  | some q => rw [hl] at h; exact ⟨q.1, q.2, rfl, of_decide_eq_true h⟩
theorem w7_armCol (hO : OKs n ru K T M C) (hL : LY n M lay) (hR : RM n ru K T M C z) (hl : LM lay on wy) {c : Nat} (hc : c < 150) (ha : armB lay c = true) : f_X7_armColour z on wy (nI c) = some (nI (ccl K T C lay c)) := by
  obtain ⟨i, d, h, hd⟩ := armB_ex ha
  obtain ⟨h1, h2⟩ := (hl c hc).2 i d h
  obtain ⟨g1, g2, -⟩ := hL.2 c i d hc h
  simp (disch := omega) only [f_X7_armColour, ccl, h, h1, h2, w7_col hO hR g1 hd, px_l0, px_l1, px_l2, px_l3, px_l4, px_l5, px_l6, px_l9, px_l10, px_l14, px_l15, px_l23, px_l24, px_l25, px_l26, px_l29, px_l30, px_l32, px_l43, px_l45, px_l48, px_l57, px_l59, px_l60, px_l64, px_l100, px_l107, px_l116, px_l149, px_l150, px_l348, px_l464, px_l600, px_sa, nI_leI, nI_ltI, nI_eq, nI_add, pk_sub, pk_mul, pk_div, px_rm, nI_clamp, px_ck, px_eqm, px_meq, px_mm, px_mlt, px_mle, px_lem, px_ltm, px_mlem, Option.bind_some, px_b0, px_b1, px_ckb, px_if, px_if', ↓reduceIte]
theorem w7_clash (hR : RM n ru K T M C z) (hr : ru ≤ 2) {x y : Nat} (hx : x < 6) (hy : y < 6) : f_X7_clash z (nI x) (nI y) = some (nI (bN (clB ru x y))) := by
  have h24 := hR.2.1
  have h3 : ru = 0 ∨ ru = 1 ∨ ru = 2 := by omega
  rcases h3 with rfl | rfl | rfl
  · simp (disch := omega) only [f_X7_clash, h24, px_l0, px_l1, px_l2, px_l3, px_l4, px_l5, px_l6, px_l9, px_l10, px_l14, px_l15, px_l23, px_l24, px_l25, px_l26, px_l29, px_l30, px_l32, px_l43, px_l45, px_l48, px_l57, px_l59, px_l60, px_l64, px_l100, px_l107, px_l116, px_l149, px_l150, px_l348, px_l464, px_l600, px_sa, nI_leI, nI_ltI, nI_eq, nI_add, pk_sub, pk_mul, pk_div, px_rm, nI_clamp, px_ck, px_eqm, px_meq, px_mm, px_mlt, px_mle, px_lem, px_ltm, px_mlem, Option.bind_some, px_b0, px_b1, px_ckb, px_if, px_if', ↓reduceIte]
    by_cases h : x = y <;> simp [h, clB, bN, ckP]
  · simp (disch := omega) only [f_X7_clash, h24, show ¬ (1 = 0) from by decide, px_l0, px_l1, px_l2, px_l3, px_l4, px_l5, px_l6, px_l9, px_l10, px_l14, px_l15, px_l23, px_l24, px_l25, px_l26, px_l29, px_l30, px_l32, px_l43, px_l45, px_l48, px_l57, px_l59, px_l60, px_l64, px_l100, px_l107, px_l116, px_l149, px_l150, px_l348, px_l464, px_l600, px_sa, nI_leI, nI_ltI, nI_eq, nI_add, pk_sub, pk_mul, pk_div, px_rm, nI_clamp, px_ck, px_eqm, px_meq, px_mm, px_mlt, px_mle, px_lem, px_ltm, px_mlem, Option.bind_some, px_b0, px_b1, px_ckb, px_if, px_if', ↓reduceIte]
    by_cases h : x = y <;> simp [h, clB, bN, ckP]
  · simp (disch := omega) only [f_X7_clash, h24, show ¬ (2 = 0) from by decide, show ¬ (2 = 1) from by decide, px_l0, px_l1, px_l2, px_l3, px_l4, px_l5, px_l6, px_l9, px_l10, px_l14, px_l15, px_l23, px_l24, px_l25, px_l26, px_l29, px_l30, px_l32, px_l43, px_l45, px_l48, px_l57, px_l59, px_l60, px_l64, px_l100, px_l107, px_l116, px_l149, px_l150, px_l348, px_l464, px_l600, px_sa, nI_leI, nI_ltI, nI_eq, nI_add, pk_sub, pk_mul, pk_div, px_rm, nI_clamp, px_ck, px_eqm, px_meq, px_mm, px_mlt, px_mle, px_lem, px_ltm, px_mlem, Option.bind_some, px_b0, px_b1, px_ckb, px_if, px_if', ↓reduceIte]
    simp [clB, bN, ckP]
theorem w7_touch (hL : LY n M lay) (hn : n ≤ 30) (hl : LM lay on wy) {a b : Nat} (ha : a < 150) (hb : b < 150) : f_X7_touch on wy (nI a) (nI b) = some (nI (bN (tchB lay a b))) := by
  unfold f_X7_touch
  rw [w7_hasArm hL hl ha, w7_hasArm hL hl hb]
  unfold tchB
  cases h1 : lay a with
  | none => simp (disch := omega) only [armB, h1, px_l0, px_l1, px_l2, px_l3, px_l4, px_l5, px_l6, px_l9, px_l10, px_l14, px_l15, px_l23, px_l24, px_l25, px_l26, px_l29, px_l30, px_l32, px_l43, px_l45, px_l48, px_l57, px_l59, px_l60, px_l64, px_l100, px_l107, px_l116, px_l149, px_l150, px_l348, px_l464, px_l600, px_sa, nI_leI, nI_ltI, nI_eq, nI_add, pk_sub, pk_mul, pk_div, px_rm, nI_clamp, px_ck, px_eqm, px_meq, px_mm, px_mlt, px_mle, px_lem, px_ltm, px_mlem, Option.bind_some, px_b0, px_b1, px_ckb, px_if, px_if', ↓reduceIte]; simp [bN, ckP]
  | some q =>
    obtain ⟨i, d⟩ := q
    obtain ⟨e1, e2⟩ := (hl a ha).2 i d h1
    obtain ⟨g1, g2, -⟩ := hL.2 a i d ha h1
    cases h2 : lay b with
    | none => simp (disch := omega) only [armB, h1, h2, px_l0, px_l1, px_l2, px_l3, px_l4, px_l5, px_l6, px_l9, px_l10, px_l14, px_l15, px_l23, px_l24, px_l25, px_l26, px_l29, px_l30, px_l32, px_l43, px_l45, px_l48, px_l57, px_l59, px_l60, px_l64, px_l100, px_l107, px_l116, px_l149, px_l150, px_l348, px_l464, px_l600, px_sa, nI_leI, nI_ltI, nI_eq, nI_add, pk_sub, pk_mul, pk_div, px_rm, nI_clamp, px_ck, px_eqm, px_meq, px_mm, px_mlt, px_mle, px_lem, px_ltm, px_mlem, Option.bind_some, px_b0, px_b1, px_ckb, px_if, px_if', ↓reduceIte]; by_cases hd : d < 4 <;> simp [bN, ckP, hd]
    | some q =>
      obtain ⟨j, e⟩ := q
      obtain ⟨e3, e4⟩ := (hl b hb).2 j e h2
      obtain ⟨g3, g4, -⟩ := hL.2 b j e hb h2
      simp (disch := omega) only [armB, h1, h2, e1, e3, px_l0, px_l1, px_l2, px_l3, px_l4, px_l5, px_l6, px_l9, px_l10, px_l14, px_l15, px_l23, px_l24, px_l25, px_l26, px_l29, px_l30, px_l32, px_l43, px_l45, px_l48, px_l57, px_l59, px_l60, px_l64, px_l100, px_l107, px_l116, px_l149, px_l150, px_l348, px_l464, px_l600, px_sa, nI_leI, nI_ltI, nI_eq, nI_add, pk_sub, pk_mul, pk_div, px_rm, nI_clamp, px_ck, px_eqm, px_meq, px_mm, px_mlt, px_mle, px_lem, px_ltm, px_mlem, Option.bind_some, px_b0, px_b1, px_ckb, px_if, px_if', ↓reduceIte]
      by_cases hd : d < 4 <;> by_cases he : e < 4 <;> by_cases hij : i = j <;> simp [bN, ckP, hd, he, hij]
theorem col_lt (hO : OKs n ru K T M C) {i d : Nat} (hi : i < n) (hd : d < 4) : col K T C i d < 6 := by
  obtain ⟨hn, hr, hb, hc⟩ := hO
  obtain ⟨b1, b2, b3⟩ := hb i hi
  exact hc _ (by omega)
theorem colBy_lt (hO : OKs n ru K T M C) {k t d : Nat} (hk : k < 6) (ht : t < 4) (hd : d < 4) : colBy C k t d < 6 := by
  obtain ⟨hn, hr, hb, hc⟩ := hO
  exact hc _ (by omega)
theorem ccl_lt (hO : OKs n ru K T M C) (hL : LY n M lay) {c : Nat} (hc : c < 150) (ha : armB lay c = true) : ccl K T C lay c < 6 := by
  obtain ⟨i, d, h, hd⟩ := armB_ex ha
  obtain ⟨g1, g2, -⟩ := hL.2 c i d hc h
  unfold ccl
  rw [h]
  exact col_lt hO g1 hd
end P23
