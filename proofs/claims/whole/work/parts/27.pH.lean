/-! A CHANGE'S BEGIN AND END; ARGUMENTS -/
section P27
variable {n r : Nat} {K T M C : Nat → Nat} {lay : Nat → Option (Nat × Nat)} {z on wy : Nat → Int32}
theorem c6_begin (NWru NWco : Int32) (NWKa NWTa NWMa NWCa : Nat → Int32) (BEru BEco : Int32) (BEKa BETa BEMa BECa : Nat → Int32) :
    ∃ b : Int32 × Int32 × (Nat → Int32) × (Nat → Int32) × (Nat → Int32) × (Nat → Int32), f_X6_beginChange NWru NWco NWKa NWTa NWMa NWCa BEru BEco BEKa BETa BEMa BECa = some b ∧ b.1 = NWru ∧ b.2.1 = NWco ∧ (∀ i, i < 30 → b.2.2.1 i = NWKa i) ∧ (∀ i, i < 30 → b.2.2.2.1 i = NWTa i) ∧ (∀ i, i < 30 → b.2.2.2.2.1 i = NWMa i) ∧ ∀ i, i < 24 → b.2.2.2.2.2 i = NWCa i :=
  ⟨_, rfl, rfl, rfl, fun i hi => px_cpy (n := 30) hi (by omega), fun i hi => px_cpy (n := 30) hi (by omega), fun i hi => px_cpy (n := 30) hi (by omega), fun i hi => px_cpy (n := 24) hi (by omega)⟩
theorem c6_good {NWru NWco : Int32} {NWKa NWTa NWMa NWCa : Nat → Int32} {BEru BEco : Int32} {BEKa BETa BEMa BECa CAow CApa : Nat → Int32} {PAco : Int32} {PAv : PV} {a : Nat} (ha : a < 2 ^ 31) {c : Int32 × PV} (h : f_X3_add BEru BEco BEKa BETa BEMa BECa PAco PAv = some c) :
    f_X6_endChange NWru NWco NWKa NWTa NWMa NWCa BEru BEco BEKa BETa BEMa BECa CAow CApa PAco PAv (nI a) = some (nI a, NWru, NWco, NWKa, NWTa, NWMa, NWCa, CAow, CApa, c.1, c.2) := by
  simp (disch := omega) only [f_X6_endChange, h, Nat.zero_le, px_l0, px_l1, px_l2, px_l3, px_l4, px_l5, px_l6, px_l9, px_l10, px_l14, px_l15, px_l23, px_l24, px_l25, px_l26, px_l29, px_l30, px_l32, px_l43, px_l45, px_l48, px_l57, px_l59, px_l60, px_l64, px_l100, px_l107, px_l116, px_l149, px_l150, px_l348, px_l464, px_l600, px_sa, nI_leI, nI_ltI, nI_eq, nI_add, pk_sub, pk_mul, pk_div, px_rm, nI_clamp, px_ck, px_eqm, px_meq, px_mm, px_mlt, px_mle, px_lem, px_ltm, px_mlem, Option.bind_some, px_b0, px_b1, px_ckb, px_if, px_if', ↓reduceIte]
theorem c6_bad (hG : GG n r K T M C lay) {BEru BEco : Int32} {BEKa BETa BEMa BECa : Nat → Int32} (h1 : BEru = nI r) (h2 : BEco = nI n) (h3 : RCa n K T M C BEKa BETa BEMa BECa) (NWru NWco : Int32) (NWKa NWTa NWMa NWCa CAow CApa : Nat → Int32) (PAco : Int32) (PAv : PV) {b : Nat} (hb : 0 < b ∧ b < 2 ^ 31) :
    ∃ (ka ta ma ca ow pa : Nat → Int32), f_X6_endChange NWru NWco NWKa NWTa NWMa NWCa BEru BEco BEKa BETa BEMa BECa CAow CApa PAco PAv (-nI b) = some (-nI b, nI r, nI n, ka, ta, ma, ca, ow, pa, PAco, PAv) ∧ RCa n K T M C ka ta ma ca ∧ LC lay ow pa := by
  subst h1; subst h2
  obtain ⟨hO, hL, hN⟩ := hG
  have hR : RCa n K T M C (va_cpy BEKa NWKa (0 : Int32).toNatClampNeg (0 : Int32).toNatClampNeg (30 : Int32).toNatClampNeg) (va_cpy BETa NWTa (0 : Int32).toNatClampNeg (0 : Int32).toNatClampNeg (30 : Int32).toNatClampNeg) (va_cpy BEMa NWMa (0 : Int32).toNatClampNeg (0 : Int32).toNatClampNeg (30 : Int32).toNatClampNeg) (va_cpy BECa NWCa (0 : Int32).toNatClampNeg (0 : Int32).toNatClampNeg (24 : Int32).toNatClampNeg) :=
    h3.congr hO.1 (fun i hi => px_cpy (n := 30) hi (by omega)) (fun i hi => px_cpy (n := 30) hi (by omega)) (fun i hi => px_cpy (n := 30) hi (by omega)) (fun i hi => px_cpy (n := 24) hi (by omega))
  obtain ⟨w, w1, w2⟩ := lay_X1 hO.1 (fun i hi => (hO.2.2.1 i hi).2.2) hL (fun i hi => (hR.1 i hi).2.2) CAow CApa
  refine ⟨_, _, _, _, w.1, w.2, ?_, hR, w2⟩
  unfold f_X6_endChange
  rw [if_neg (by rw [px_l0, px_lem (by omega) hb.2 hb.1]; exact id)]
  simp only [f_X4_copyFrom, Option.bind_some]
  rw [w1]
  rfl
theorem c7_good {n' r' : Nat} {K' T' M' C' : Nat → Nat} {lay' : Nat → Option (Nat × Nat)} (hO : OKs n' r' K' T' M' C') (hL : LY n' M' lay') (hN : ¬ HC n' r' K' T' M' C') {z' : Nat → Int32} (hR : RM n' r' K' T' M' C' z') {as : Nat → Int32} {MOst : Int32} {MObe : Nat → Int32} {c : Int32 × (Nat → Int32)} (h : f_X7_record as MOst MObe = some c) (on wy : Nat → Int32) :
    ∃ w : (Nat → Int32) × (Nat → Int32), f_X7_canStay MOst z' as MObe on wy = some (nI 1, c.1, z', c.2, w.1, w.2) ∧ LM lay' w.1 w.2 := by
  obtain ⟨w, w1, w2⟩ := lay_X7 hO.1 (fun i hi => (hO.2.2.1 i hi).2.2) hL hR on wy
  obtain ⟨b, b1, b2⟩ := w7_ac hO hL hR w2
  have hb : b = false := by
    cases b with
    | false => rfl
    | true => exact absurd (b2.mp rfl) hN
  subst hb
  refine ⟨w, ?_, w2⟩
  unfold f_X7_canStay
  simp only [w1, b1, h, Option.bind_some]
  rfl
theorem c7_bad (hG : GG n r K T M C lay) (hR0 : RM n r K T M C z) {n' r' : Nat} {K' T' M' C' : Nat → Nat} {lay' : Nat → Option (Nat × Nat)} (hO : OKs n' r' K' T' M' C') (hL : LY n' M' lay') (hN : HC n' r' K' T' M' C') {z' : Nat → Int32} (hR : RM n' r' K' T' M' C' z') {as : Nat → Int32} (has : ∀ i, i < 116 → as i = z i) (MOst : Int32) (MObe : Nat → Int32) (on wy : Nat → Int32) :
    ∃ (v on' wy' : Nat → Int32), f_X7_canStay MOst z' as MObe on wy = some (nI 0, MOst, v, MObe, on', wy') ∧ RM n r K T M C v ∧ LM lay on' wy' := by
  obtain ⟨w, w1, w2⟩ := lay_X7 hO.1 (fun i hi => (hO.2.2.1 i hi).2.2) hL hR on wy
  obtain ⟨b, b1, b2⟩ := w7_ac hO hL hR w2
  rw [b2.mpr hN] at b1
  obtain ⟨v, v1, v2⟩ := c7_back as z' w.1 w.2
  have hRv : RM n r K T M C v := hR0.congr hG.1.1 (fun i hi => (v1 i hi).trans (has i hi))
  obtain ⟨u, u1, u2⟩ := lay_X7 hG.1.1 (fun i hi => (hG.1.2.2.1 i hi).2.2) hG.2.1 hRv w.1 w.2
  refine ⟨v, u.1, u.2, ?_, hRv, u2⟩
  unfold f_X7_canStay
  simp only [w1, b1, v2, u1, Option.bind_some]
  rfl
/-! arguments -/
theorem a_in (p : Int32) {b : Nat} (hb : b < 2 ^ 30) : (∃ k, k ≤ b ∧ p = nI k ∧ f_X7_in p (nI 0) (nI b) = some (nI 1)) ∨ ((p < nI 0 ∨ nI (b + 1) ≤ p) ∧ f_X7_in p (nI 0) (nI b) = some (nI 0)) := by
  rcases pk_ix p (n := b + 1) (by omega) with h | h | ⟨k, hk, rfl⟩
  · refine Or.inr ⟨Or.inl h, ?_⟩
    unfold f_X7_in
    rw [if_pos (show p < nI 0 from h)]
    simp (disch := omega) only [px_l0, px_l1, px_l2, px_l3, px_l4, px_l5, px_l6, px_l9, px_l10, px_l14, px_l15, px_l23, px_l24, px_l25, px_l26, px_l29, px_l30, px_l32, px_l43, px_l45, px_l48, px_l57, px_l59, px_l60, px_l64, px_l100, px_l107, px_l116, px_l149, px_l150, px_l348, px_l464, px_l600, px_sa, nI_leI, nI_ltI, nI_eq, nI_add, pk_sub, pk_mul, pk_div, px_rm, nI_clamp, px_ck, px_eqm, px_meq, px_mm, px_mlt, px_mle, px_lem, px_ltm, px_mlem, Option.bind_some, px_b0, px_b1, px_ckb, px_if, px_if', ↓reduceIte]
    simp [ckP]
  · refine Or.inr ⟨Or.inr h, ?_⟩
    unfold f_X7_in
    have h1 : nI b < p := Int32.lt_iff_toInt_lt.mpr (by
      have := Int32.le_iff_toInt_le.mp h
      rw [nI_toInt (by omega)] at this ⊢
      omega)
    have h0 : ¬ p < nI 0 := fun q => by
      have q1 := Int32.lt_iff_toInt_lt.mp q
      have q2 := Int32.le_iff_toInt_le.mp h
      rw [nI_toInt (by omega)] at q1 q2
      omega
    rw [if_neg h0, if_pos h1]
    simp (disch := omega) only [px_l0, px_l1, px_l2, px_l3, px_l4, px_l5, px_l6, px_l9, px_l10, px_l14, px_l15, px_l23, px_l24, px_l25, px_l26, px_l29, px_l30, px_l32, px_l43, px_l45, px_l48, px_l57, px_l59, px_l60, px_l64, px_l100, px_l107, px_l116, px_l149, px_l150, px_l348, px_l464, px_l600, px_sa, nI_leI, nI_ltI, nI_eq, nI_add, pk_sub, pk_mul, pk_div, px_rm, nI_clamp, px_ck, px_eqm, px_meq, px_mm, px_mlt, px_mle, px_lem, px_ltm, px_mlem, Option.bind_some, px_b0, px_b1, px_ckb, px_if, px_if', ↓reduceIte]
    simp [ckP]
  · refine Or.inl ⟨k, by omega, rfl, ?_⟩
    rw [w7_in (by omega) (by omega) (by omega)]
    rw [decide_eq_true (Nat.zero_le k), decide_eq_true (show k ≤ b by omega)]
    rfl
theorem px_rng {p : Int32} {b : Nat} (h : p < nI 0 ∨ nI b ≤ p) : (if p < 0 then some (0 : Int32) else if nI b ≤ p then some 0 else some 1) = some (nI 0) := by
  rcases h with h | h
  · exact if_pos h
  · by_cases h0 : p < 0
    · rw [if_pos h0]; rfl
    · rw [if_neg h0, if_pos h]; rfl
theorem px_rng1 {k b : Nat} (h : k < b) (hb : b < 2 ^ 31) : (if nI k < 0 then some (0 : Int32) else if nI b ≤ nI k then some 0 else some 1) = some (nI 1) := by
  rw [if_neg (nI_pos (by omega)), if_neg (nI_ge h hb)]; rfl
theorem px_ck1 {β : Type} {g : Int32 → Option β} : ((some (nI 1)).bind fun t => ckP (t = 0 ∨ t = 1) (g t)) = g (nI 1) := rfl
theorem px_ck0 {β : Type} {g : Int32 → Option β} : ((some (nI 0)).bind fun t => ckP (t = 0 ∨ t = 1) (g t)) = g (nI 0) := rfl
theorem a_kind (p : Int32) : (∃ k, k < 6 ∧ p = nI k ∧ f_X6_isKind p = some (nI 1) ∧ f_X7_isKind p = some (nI 1)) ∨ (f_X6_isKind p = some (nI 0) ∧ f_X7_isKind p = some (nI 0)) := by
  rcases a_in p (b := 5) (by omega) with ⟨k, hk, rfl, h⟩ | ⟨h, h2⟩
  · refine Or.inl ⟨k, by omega, rfl, ?_, ?_⟩
    · unfold f_X6_isKind
      rw [show (6 : Int32) = nI 6 from rfl, px_rng1 (show k < 6 by omega) (by omega), px_ck1]
    · unfold f_X7_isKind
      rw [show (5 : Int32) = nI 5 from rfl, px_l0, h]
      exact px_ck1
  · refine Or.inr ⟨?_, ?_⟩
    · unfold f_X6_isKind
      rw [show (6 : Int32) = nI 6 from rfl, px_rng h, px_ck0]
    · unfold f_X7_isKind
      rw [show (5 : Int32) = nI 5 from rfl, px_l0, h2]
      exact px_ck0
theorem a_cell (p : Int32) : (∃ k, k < 150 ∧ p = nI k ∧ f_X6_isCell p = some (nI 1) ∧ f_X7_isCell p = some (nI 1)) ∨ (f_X6_isCell p = some (nI 0) ∧ f_X7_isCell p = some (nI 0)) := by
  rcases a_in p (b := 149) (by omega) with ⟨k, hk, rfl, h⟩ | ⟨h, h2⟩
  · refine Or.inl ⟨k, by omega, rfl, ?_, ?_⟩
    · unfold f_X6_isCell
      rw [show (150 : Int32) = nI 150 from rfl, px_rng1 (show k < 150 by omega) (by omega), px_ck1]
    · unfold f_X7_isCell
      rw [show (149 : Int32) = nI 149 from rfl, px_l0, h]
      exact px_ck1
  · refine Or.inr ⟨?_, ?_⟩
    · unfold f_X6_isCell
      rw [show (150 : Int32) = nI 150 from rfl, px_rng h, px_ck0]
    · unfold f_X7_isCell
      rw [show (149 : Int32) = nI 149 from rfl, px_l0, h2]
      exact px_ck0
theorem a_dir (p : Int32) : (∃ k, k < 4 ∧ p = nI k ∧ f_X6_isDirection p = some (nI 1) ∧ f_X7_in p 0 3 = some (nI 1)) ∨ (f_X6_isDirection p = some (nI 0) ∧ f_X7_in p 0 3 = some (nI 0)) := by
  rcases a_in p (b := 3) (by omega) with ⟨k, hk, rfl, h⟩ | ⟨h, h2⟩
  · refine Or.inl ⟨k, by omega, rfl, ?_, h⟩
    unfold f_X6_isDirection
    rw [show (4 : Int32) = nI 4 from rfl, px_rng1 (show k < 4 by omega) (by omega), px_ck1]
  · refine Or.inr ⟨?_, h2⟩
    unfold f_X6_isDirection
    rw [show (4 : Int32) = nI 4 from rfl, px_rng h, px_ck0]
theorem a_cross (hn : n ≤ 30) (h25 : z 25 = nI n) (p : Int32) : (∃ k, k < n ∧ p = nI k ∧ f_X6_isCross (nI n) p = some (nI 1) ∧ f_X7_isCross z p = some (nI 1)) ∨ (f_X6_isCross (nI n) p = some (nI 0) ∧ f_X7_isCross z p = some (nI 0)) := by
  have e7 : f_X7_isCross z p = (f_X7_in p (nI 0) (nI n - nI 1)).bind fun r2 => ckP (r2 = 0 ∨ r2 = 1) (some r2) := by
    unfold f_X7_isCross
    simp (disch := omega) only [px_l25, px_l0, px_l1, px_ck, nI_clamp, h25]
  rw [e7]
  rcases Nat.eq_zero_or_pos n with rfl | h0
  · refine Or.inr ⟨?_, ?_⟩
    · unfold f_X6_isCross
      rw [px_rng (by
        rcases Int32.lt_or_le p (nI 0) with h | h
        · exact Or.inl h
        · exact Or.inr h), px_ck0]
    · rw [show nI 0 - nI 1 = -nI 1 from by decide +kernel]
      have e : f_X7_in p (nI 0) (-nI 1) = some (nI 0) := by
        unfold f_X7_in
        rcases Int32.lt_or_le p (nI 0) with h | h
        · rw [if_pos h]; rfl
        · rw [if_neg (Int32.not_lt.mpr h), if_pos (Int32.lt_iff_toInt_lt.mpr (by
            have := Int32.le_iff_toInt_le.mp h
            rw [nI_toInt (by omega)] at this
            rw [px_toInt_neg (by omega)]
            omega))]; rfl
      rw [e]; exact px_ck0
  · rw [pk_sub (show 1 ≤ n from h0)]
    rcases a_in p (b := n - 1) (by omega) with ⟨k, hk, rfl, h⟩ | ⟨h, h2⟩
    · refine Or.inl ⟨k, by omega, rfl, ?_, ?_⟩
      · unfold f_X6_isCross
        rw [px_rng1 (show k < n by omega) (by omega), px_ck1]
      · rw [h]; exact px_ck1
    · rw [show n - 1 + 1 = n by omega] at h
      refine Or.inr ⟨?_, ?_⟩
      · unfold f_X6_isCross
        rw [px_rng h, px_ck0]
      · rw [h2]; exact px_ck0
end P27
