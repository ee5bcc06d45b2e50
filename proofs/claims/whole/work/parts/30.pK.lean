theorem RM.rule {n r v : Nat} {K T M C : Nat → Nat} {z : Nat → Int32} (h : RM n r K T M C z) : RM n v K T M C (upd z 24 (nI v)) := by
  obtain ⟨h1, h2, h3, h4⟩ := h
  refine ⟨fun i hi => ?_, rfl, ?_, fun i hi => ?_⟩
  · rw [px_upd, if_neg (by omega)]; exact h1 i hi
  · rw [px_upd, if_neg (by omega)]; exact h3
  · rw [px_upd, px_upd, px_upd, if_neg (by omega), if_neg (by omega), if_neg (by omega)]; exact h4 i hi
theorem e_setRule {NWru : Int32} {NWco : Int32} {NWKa : Nat → Int32} {NWTa : Nat → Int32} {NWMa : Nat → Int32} {NWCa : Nat → Int32} {BEru : Int32} {BEco : Int32} {BEKa : Nat → Int32} {BETa : Nat → Int32} {BEMa : Nat → Int32} {BECa : Nat → Int32} {CAow : Nat → Int32} {CApa : Nat → Int32} {PAco : Int32} {PAv : PV} {MOst : Int32} {MOza : Nat → Int32} {MOas : Nat → Int32} {MObe : Nat → Int32} {MOon : Nat → Int32} {MOwy : Nat → Int32} (hA : RA NWru NWco NWKa NWTa NWMa NWCa CAow CApa MOza MOon MOwy) (hH : RH PAco PAv MOst MObe) (p0 : Int32) :
    ∃ oc om, f_X6_setRule NWru NWco NWKa NWTa NWMa NWCa BEru BEco BEKa BETa BEMa BECa CAow CApa PAco PAv p0 = some oc ∧ f_X7_setRule MOst MOza MOas MObe MOon MOwy p0 = some om ∧ oc.1 = om.1 ∧ RA oc.2.1 oc.2.2.1 oc.2.2.2.1 oc.2.2.2.2.1 oc.2.2.2.2.2.1 oc.2.2.2.2.2.2.1 oc.2.2.2.2.2.2.2.2.2.2.2.2.2.1 oc.2.2.2.2.2.2.2.2.2.2.2.2.2.2.1 om.2.2.1 om.2.2.2.2.2.1 om.2.2.2.2.2.2 ∧ RH oc.2.2.2.2.2.2.2.2.2.2.2.2.2.2.2.1 oc.2.2.2.2.2.2.2.2.2.2.2.2.2.2.2.2 om.2.1 om.2.2.2.2.1 := by
  have same := And.intro hA hH
  unfold f_X6_setRule f_X7_setRule
  rcases a_in p0 (b := 2) (by omega) with ⟨v, hv, rfl, m2⟩ | ⟨h2, m2⟩
  · obtain ⟨n, r, K, T, M, C, lay, hG, rfl, rfl, hRC, hRM, hLC, hLM⟩ := id hA
    obtain ⟨hO, hL, hN⟩ := id hG
    have hr := hO.2.1
    simp (disch := omega) only [m2, hRM.2.1, show ¬ (1 = 0) from by decide, show v < 3 from by omega, Nat.not_lt_zero, px_l0, px_l1, px_l2, px_l3, px_l4, px_l5, px_l6, px_l9, px_l10, px_l14, px_l15, px_l23, px_l24, px_l25, px_l26, px_l29, px_l30, px_l32, px_l43, px_l45, px_l48, px_l57, px_l59, px_l60, px_l64, px_l100, px_l107, px_l116, px_l149, px_l150, px_l348, px_l464, px_l600, px_sa, nI_leI, nI_ltI, nI_eq, nI_add, pk_sub, pk_mul, pk_div, px_rm, nI_clamp, px_ck, px_eqm, px_meq, px_mm, px_mlt, px_mle, px_lem, px_ltm, px_mlem, Option.bind_some, px_b0, px_b1, px_ckb, px_if, px_if', ↓reduceIte]
    by_cases hv2 : v = r
    · subst hv2
      simp only [eq_self, ↓reduceIte]
      exact ⟨_, _, rfl, rfl, rfl, same⟩
    · have hv3 : ¬ r = v := fun q => hv2 q.symm
      simp only [hv2, hv3, ↓reduceIte]
      obtain ⟨b, b0, b1, b2, b3, b4, b5, b6⟩ := c6_begin (nI r) (nI n) NWKa NWTa NWMa NWCa BEru BEco BEKa BETa BEMa BECa
      obtain ⟨w, w0, w1⟩ := c7_aside MOza MOas
      have hO' : OKs n v K T M C := ⟨hO.1, hv, hO.2.2⟩
      have hRM' := hRM.rule (v := v)
      obtain ⟨hc, hc1, hc2⟩ := w1_hc hO' hL hRC hLC
      simp only [b0, w0, hc1, Option.bind_some]
      have hRV : RV b.1 b.2.1 b.2.2.1 b.2.2.2.1 b.2.2.2.2.1 b.2.2.2.2.2 w := by
        rw [b1, b2]
        exact hA.rv.congr b3 b4 b5 b6 w1
      cases hc with
      | false =>
        have hN' : ¬ HC n v K T M C := fun q => by have := hc2.mpr q; cases this
        obtain ⟨c, m, x1, x2, x3⟩ := RH_add hRV hH
        obtain ⟨u, u1, u2⟩ := c7_good hO' hL hN' hRM' x2 MOon MOwy
        simp (disch := omega) only [u1, c6_good (show r < 2 ^ 31 by omega) x1, show ¬ (1 = 0) from by decide, bN, Bool.false_eq_true, px_l0, px_l1, px_l2, px_l3, px_l4, px_l5, px_l6, px_l9, px_l10, px_l14, px_l15, px_l23, px_l24, px_l25, px_l26, px_l29, px_l30, px_l32, px_l43, px_l45, px_l48, px_l57, px_l59, px_l60, px_l64, px_l100, px_l107, px_l116, px_l149, px_l150, px_l348, px_l464, px_l600, px_sa, nI_leI, nI_ltI, nI_eq, nI_add, pk_sub, pk_mul, pk_div, px_rm, nI_clamp, px_ck, px_eqm, px_meq, px_mm, px_mlt, px_mle, px_lem, px_ltm, px_mlem, Option.bind_some, px_b0, px_b1, px_ckb, px_if, px_if', ↓reduceIte]
        exact ⟨_, _, rfl, rfl, rfl, ⟨n, v, K, T, M, _, lay, ⟨hO', hL, hN'⟩, rfl, rfl, hRC, hRM', hLC, u2⟩, x3⟩
      | true =>
        have hN' := hc2.mp rfl
        obtain ⟨v', on', wy', u1, u2, u3⟩ := c7_bad hG hRM hO' hL hN' hRM' w1 MOst MObe MOon MOwy
        obtain ⟨ka, ta, ma, ca, ow, pa, y1, y2, y3⟩ := c6_bad hG b1 b2 (hRC.congr hO.1 b3 b4 b5 b6) (nI v) (nI n) NWKa NWTa NWMa NWCa CAow CApa PAco PAv (b := 4) (by omega)
        simp (disch := omega) only [u1, y1, show ¬ (1 = 0) from by decide, bN, px_l0, px_l1, px_l2, px_l3, px_l4, px_l5, px_l6, px_l9, px_l10, px_l14, px_l15, px_l23, px_l24, px_l25, px_l26, px_l29, px_l30, px_l32, px_l43, px_l45, px_l48, px_l57, px_l59, px_l60, px_l64, px_l100, px_l107, px_l116, px_l149, px_l150, px_l348, px_l464, px_l600, px_sa, nI_leI, nI_ltI, nI_eq, nI_add, pk_sub, pk_mul, pk_div, px_rm, nI_clamp, px_ck, px_eqm, px_meq, px_mm, px_mlt, px_mle, px_lem, px_ltm, px_mlem, Option.bind_some, px_b0, px_b1, px_ckb, px_if, px_if', ↓reduceIte]
        exact ⟨_, _, rfl, rfl, rfl, ⟨n, r, K, T, M, C, lay, hG, rfl, rfl, y2, u2, y3, u3⟩, hH⟩
  · have m2' : f_X7_in p0 0 2 = some (nI 0) := m2
    simp only [m2', Option.bind_some]
    rcases h2 with h2 | h2
    · simp only [if_pos (show p0 < 0 from h2)]
      exact ⟨_, _, rfl, rfl, rfl, same⟩
    · have h3 : ¬ p0 < 3 := Int32.not_lt.mpr h2
      by_cases h4 : p0 < 0
      · simp only [h4, ↓reduceIte]
        exact ⟨_, _, rfl, rfl, rfl, same⟩
      · simp only [h3, h4, ↓reduceIte]
        exact ⟨_, _, rfl, rfl, rfl, same⟩
theorem a_in1 (p : Int32) : (∃ k, 1 ≤ k ∧ k ≤ 3 ∧ p = nI k ∧ f_X7_in p 1 3 = some (nI 1)) ∨ ((p < 1 ∨ (¬ p < 1 ∧ ¬ p < 4)) ∧ f_X7_in p 1 3 = some (nI 0)) := by
  have z0 : f_X7_in (nI 0) 1 3 = some (nI 0) := by decide +kernel
  rcases pk_ix p (n := 4) (by omega) with h | h | ⟨k, hk, rfl⟩
  · have h1 : p < 1 := Int32.lt_iff_toInt_lt.mpr (by
      have := Int32.lt_iff_toInt_lt.mp h
      rw [show (0 : Int32).toInt = 0 from by decide +kernel] at this
      rw [show (1 : Int32).toInt = 1 from by decide +kernel]
      omega)
    refine Or.inr ⟨Or.inl h1, ?_⟩
    unfold f_X7_in
    rw [if_pos h1]; rfl
  · have g := Int32.le_iff_toInt_le.mp h
    rw [nI_toInt (by omega)] at g
    have h1 : ¬ p < 1 := fun q => by
      have := Int32.lt_iff_toInt_lt.mp q
      rw [show (1 : Int32).toInt = 1 from by decide +kernel] at this
      omega
    have h2 : ¬ p < 4 := fun q => by
      have := Int32.lt_iff_toInt_lt.mp q
      rw [show (4 : Int32).toInt = 4 from by decide +kernel] at this
      omega
    have h3 : 3 < p := Int32.lt_iff_toInt_lt.mpr (by
      rw [show (3 : Int32).toInt = 3 from by decide +kernel]
      omega)
    refine Or.inr ⟨Or.inr ⟨h1, h2⟩, ?_⟩
    unfold f_X7_in
    rw [if_neg h1, if_pos h3]; rfl
  · rcases (show k = 0 ∨ k = 1 ∨ k = 2 ∨ k = 3 by omega) with rfl | rfl | rfl | rfl
    · exact Or.inr ⟨Or.inl (by decide +kernel), z0⟩
    · exact Or.inl ⟨1, by omega, by omega, rfl, by decide +kernel⟩
    · exact Or.inl ⟨2, by omega, by omega, rfl, by decide +kernel⟩
    · exact Or.inl ⟨3, by omega, by omega, rfl, by decide +kernel⟩
/-- one number of one cross is another -/
def udN (f : Nat → Nat) (i v : Nat) : Nat → Nat := fun j => if j = i then v else f j
theorem udN_ne {f : Nat → Nat} {i v j : Nat} (h : j ≠ i) : udN f i v j = f j := if_neg h
theorem udN_eq {f : Nat → Nat} {i v : Nat} : udN f i v i = v := if_pos rfl
theorem RM.turn {n r i v : Nat} {K T M C : Nat → Nat} {z : Nat → Int32} (hi : i < n) (h : RM n r K T M C z) : RM n r K (udN T i v) M C (upd z (26 + 3 * i + 1) (nI v)) := by
  obtain ⟨h1, h2, h3, h4⟩ := h
  refine ⟨fun j hj => ?_, ?_, ?_, fun j hj => ?_⟩
  · rw [px_upd, if_neg (by omega)]; exact h1 j hj
  · rw [px_upd, if_neg (by omega)]; exact h2
  · rw [px_upd, if_neg (by omega)]; exact h3
  · rw [px_upd, px_upd, px_upd, if_neg (by omega), if_neg (show ¬ 26 + 3 * j + 2 = 26 + 3 * i + 1 by omega)]
    obtain ⟨a, b, c⟩ := h4 j hj
    refine ⟨a, ?_, c⟩
    by_cases hji : j = i
    · subst hji; rw [if_pos rfl, udN_eq]
    · rw [if_neg (by omega), udN_ne hji]; exact b
theorem RM.move {n r i v : Nat} {K T M C : Nat → Nat} {z : Nat → Int32} (hi : i < n) (h : RM n r K T M C z) : RM n r K T (udN M i v) C (upd z (26 + 3 * i + 2) (nI v)) := by
  obtain ⟨h1, h2, h3, h4⟩ := h
  refine ⟨fun j hj => ?_, ?_, ?_, fun j hj => ?_⟩
  · rw [px_upd, if_neg (by omega)]; exact h1 j hj
  · rw [px_upd, if_neg (by omega)]; exact h2
  · rw [px_upd, if_neg (by omega)]; exact h3
  · rw [px_upd, px_upd, px_upd, if_neg (by omega), if_neg (show ¬ 26 + 3 * j + 1 = 26 + 3 * i + 2 by omega)]
    obtain ⟨a, b, c⟩ := h4 j hj
    refine ⟨a, b, ?_⟩
    by_cases hji : j = i
    · subst hji; rw [if_pos rfl, udN_eq]
    · rw [if_neg (by omega), udN_ne hji]; exact c
theorem px_updu {f : Nat → Int32} {F : Nat → Nat} {k v : Nat} {j : Nat} (h : f j = nI (F j)) : upd f k (nI v) j = nI (udN F k v j) := by
  rw [px_upd]; unfold udN
  split
  · rfl
  · exact h
theorem RCa.turn {n i v : Nat} {K T M C : Nat → Nat} {a b c d : Nat → Int32} (h : RCa n K T M C a b c d) : RCa n K (udN T i v) M C a (upd b i (nI v)) c d :=
  ⟨fun j hj => ⟨(h.1 j hj).1, px_updu (h.1 j hj).2.1, (h.1 j hj).2.2⟩, h.2⟩
theorem RCa.move {n i v : Nat} {K T M C : Nat → Nat} {a b c d : Nat → Int32} (h : RCa n K T M C a b c d) : RCa n K T (udN M i v) C a b (upd c i (nI v)) d :=
  ⟨fun j hj => ⟨(h.1 j hj).1, (h.1 j hj).2.1, px_updu (h.1 j hj).2.2⟩, h.2⟩
/-- a cross turned: what its turning clashes with -/
theorem turn_hc {n r : Nat} {K T M C : Nat → Nat} {lay : Nat → Option (Nat × Nat)} (hG : GG n r K T M C lay) {i v : Nat} (hi : i < n) : (wcB r K T C lay (K i) v (M i) (nI i) = true ↔ HC n r K (udN T i v) M C) := by
  obtain ⟨hO, hL, hN⟩ := hG
  have hM : ∀ j, j < n → M j < 150 := fun j hj => (hO.2.2.1 j hj).2.2
  have hn := hO.1
  rw [wcB_iff hL hM (hM i hi), HC_mod (n := n) (K := K) (T := T) (M := M) (i := i) hi (fun j hj _ => hj) (hM i hi) (fun _ _ _ => rfl) (fun j _ hji d _ => by unfold col; rw [udN_ne hji]) hM hN]
  have e : col K (udN T i v) C i = colBy C (K i) v := by funext d; unfold col; rw [udN_eq]
  rw [e]
  constructor
  · rintro ⟨j, hj, hx, h⟩
    exact ⟨j, hj, fun q => hx (by rw [q]), h⟩
  · rintro ⟨j, hj, hji, h⟩
    exact ⟨j, hj, fun q => hji ((nI_eq (by omega) (by omega)).mp q), h⟩
theorem OKs.turn {n r i v : Nat} {K T M C : Nat → Nat} (hv : v < 4) (h : OKs n r K T M C) : OKs n r K (udN T i v) M C := by
  obtain ⟨h1, h2, h3, h4⟩ := h
  refine ⟨h1, h2, fun j hj => ?_, h4⟩
  obtain ⟨a, b, c⟩ := h3 j hj
  refine ⟨a, ?_, c⟩
  unfold udN
  split
  · exact hv
  · exact b
/-- a turn, as the class carries it out -/
theorem c1_turn {n r : Nat} {K T M C : Nat → Nat} {lay : Nat → Option (Nat × Nat)} (hG : GG n r K T M C lay) {NWKa NWTa NWMa NWCa ow pa : Nat → Int32} (hRC : RCa n K T M C NWKa NWTa NWMa NWCa) (hLC : LC lay ow pa) {i q : Nat} (hi : i < n) (hq : q < 4) :
    ∃ b : Bool, (b = true ↔ HC n r K (udN T i ((T i + q) % 4)) M C) ∧ f_X1_turnFurther (nI r) NWKa NWTa NWMa NWCa ow pa (nI i) (nI q) = some (if b then (-nI 4, NWTa) else (nI ((T i + q) % 4), upd NWTa i (nI ((T i + q) % 4)))) := by
  obtain ⟨hO, hL, hN⟩ := id hG
  have hn := hO.1
  obtain ⟨b1, b2, b3⟩ := hO.2.2.1 i hi
  obtain ⟨r1, r2, r3⟩ := hRC.1 i hi
  refine ⟨wcB r K T C lay (K i) ((T i + q) % 4) (M i) (nI i), turn_hc hG hi, ?_⟩
  have hw := w1_wc hO hL hRC hLC b1 (show (T i + q) % 4 < 4 by omega) b3 (nI i)
  simp (disch := omega) only [f_X1_turnFurther, r1, r2, r3, hw, px_l0, px_l1, px_l2, px_l3, px_l4, px_l5, px_l6, px_l9, px_l10, px_l14, px_l15, px_l23, px_l24, px_l25, px_l26, px_l29, px_l30, px_l32, px_l43, px_l45, px_l48, px_l57, px_l59, px_l60, px_l64, px_l100, px_l107, px_l116, px_l149, px_l150, px_l348, px_l464, px_l600, px_sa, nI_leI, nI_ltI, nI_eq, nI_add, pk_sub, pk_mul, pk_div, px_rm, nI_clamp, px_ck, px_eqm, px_meq, px_mm, px_mlt, px_mle, px_lem, px_ltm, px_mlem, Option.bind_some, px_b0, px_b1, px_ckb, px_if, px_if', ↓reduceIte]
  cases wcB r K T C lay (K i) ((T i + q) % 4) (M i) (nI i) <;> simp
theorem e_turn {NWru : Int32} {NWco : Int32} {NWKa : Nat → Int32} {NWTa : Nat → Int32} {NWMa : Nat → Int32} {NWCa : Nat → Int32} {BEru : Int32} {BEco : Int32} {BEKa : Nat → Int32} {BETa : Nat → Int32} {BEMa : Nat → Int32} {BECa : Nat → Int32} {CAow : Nat → Int32} {CApa : Nat → Int32} {PAco : Int32} {PAv : PV} {MOst : Int32} {MOza : Nat → Int32} {MOas : Nat → Int32} {MObe : Nat → Int32} {MOon : Nat → Int32} {MOwy : Nat → Int32} (hA : RA NWru NWco NWKa NWTa NWMa NWCa CAow CApa MOza MOon MOwy) (hH : RH PAco PAv MOst MObe) (p0 p1 : Int32) :
    ∃ oc om, f_X6_turn NWru NWco NWKa NWTa NWMa NWCa BEru BEco BEKa BETa BEMa BECa CAow CApa PAco PAv p0 p1 = some oc ∧ f_X7_turn MOst MOza MOas MObe MOon MOwy p0 p1 = some om ∧ oc.1 = om.1 ∧ RA oc.2.1 oc.2.2.1 oc.2.2.2.1 oc.2.2.2.2.1 oc.2.2.2.2.2.1 oc.2.2.2.2.2.2.1 oc.2.2.2.2.2.2.2.2.2.2.2.2.2.1 oc.2.2.2.2.2.2.2.2.2.2.2.2.2.2.1 om.2.2.1 om.2.2.2.2.2.1 om.2.2.2.2.2.2 ∧ RH oc.2.2.2.2.2.2.2.2.2.2.2.2.2.2.2.1 oc.2.2.2.2.2.2.2.2.2.2.2.2.2.2.2.2 om.2.1 om.2.2.2.2.1 := by
  have same := And.intro hA hH
  obtain ⟨n, r, K, T, M, C, lay, hG, rfl, rfl, hRC, hRM, hLC, hLM⟩ := id hA
  obtain ⟨hO, hL, hN⟩ := id hG
  have hn := hO.1
  unfold f_X6_turn f_X7_turn
  rcases a_cross hn hRM.2.2.1 p0 with ⟨i, hi, rfl, c0, m0⟩ | ⟨c0, m0⟩
  · rcases a_in1 p1 with ⟨q, hq1, hq, rfl, m1⟩ | ⟨h1, m1⟩
    · have m1' : f_X7_in (nI q) (nI 1) (nI 3) = some (nI 1) := m1
      obtain ⟨b, b0, b1, b2, b3, b4, b5, b6⟩ := c6_begin (nI r) (nI n) NWKa NWTa NWMa NWCa BEru BEco BEKa BETa BEMa BECa
      obtain ⟨w, w0, w1⟩ := c7_aside MOza MOas
      obtain ⟨hc, hc2, hc1⟩ := c1_turn hG hRC hLC hi (show q < 4 by omega)
      have hO' := hO.turn (i := i) (show (T i + q) % 4 < 4 by omega)
      have hRM' := hRM.turn (v := (T i + q) % 4) hi
      have hRV : RV b.1 b.2.1 b.2.2.1 b.2.2.2.1 b.2.2.2.2.1 b.2.2.2.2.2 w := by
        rw [b1, b2]
        exact hA.rv.congr b3 b4 b5 b6 w1
      have hT := (hO.2.2.1 i hi).2.1
      simp (disch := omega) only [c0, m0, m1', b0, w0, hc1, w7_turns hRM hn hi, show ¬ (1 = 0) from by decide, show ¬ q < 1 from by omega, show q < 4 from by omega, px_l0, px_l1, px_l2, px_l3, px_l4, px_l5, px_l6, px_l9, px_l10, px_l14, px_l15, px_l23, px_l24, px_l25, px_l26, px_l29, px_l30, px_l32, px_l43, px_l45, px_l48, px_l57, px_l59, px_l60, px_l64, px_l100, px_l107, px_l116, px_l149, px_l150, px_l348, px_l464, px_l600, px_sa, nI_leI, nI_ltI, nI_eq, nI_add, pk_sub, pk_mul, pk_div, px_rm, nI_clamp, px_ck, px_eqm, px_meq, px_mm, px_mlt, px_mle, px_lem, px_ltm, px_mlem, Option.bind_some, px_b0, px_b1, px_ckb, px_if, px_if', ↓reduceIte]
      cases hc with
      | false =>
        have hN' : ¬ HC n r K (udN T i ((T i + q) % 4)) M C := fun z => by have := hc2.mpr z; cases this
        obtain ⟨c, m, x1, x2, x3⟩ := RH_add hRV hH
        obtain ⟨u, u1, u2⟩ := c7_good hO' hL hN' hRM' x2 MOon MOwy
        simp (disch := omega) only [u1, c6_good (show (T i + q) % 4 < 2 ^ 31 by omega) x1, w7_turns hRM' hn hi, udN_eq, show ¬ (1 = 0) from by decide, Bool.false_eq_true, px_l0, px_l1, px_l2, px_l3, px_l4, px_l5, px_l6, px_l9, px_l10, px_l14, px_l15, px_l23, px_l24, px_l25, px_l26, px_l29, px_l30, px_l32, px_l43, px_l45, px_l48, px_l57, px_l59, px_l60, px_l64, px_l100, px_l107, px_l116, px_l149, px_l150, px_l348, px_l464, px_l600, px_sa, nI_leI, nI_ltI, nI_eq, nI_add, pk_sub, pk_mul, pk_div, px_rm, nI_clamp, px_ck, px_eqm, px_meq, px_mm, px_mlt, px_mle, px_lem, px_ltm, px_mlem, Option.bind_some, px_b0, px_b1, px_ckb, px_if, px_if', ↓reduceIte]
        exact ⟨_, _, rfl, rfl, rfl, ⟨n, r, K, _, M, C, lay, ⟨hO', hL, hN'⟩, rfl, rfl, hRC.turn, hRM', hLC, u2⟩, x3⟩
      | true =>
        have hN' := hc2.mp rfl
        obtain ⟨v', on', wy', u1, u2, u3⟩ := c7_bad hG hRM hO' hL hN' hRM' w1 MOst MObe MOon MOwy
        obtain ⟨ka, ta, ma, ca, ow, pa, y1, y2, y3⟩ := c6_bad hG b1 b2 (hRC.congr hO.1 b3 b4 b5 b6) (nI r) (nI n) NWKa NWTa NWMa NWCa CAow CApa PAco PAv (b := 4) (by omega)
        simp (disch := omega) only [u1, y1, show ¬ (1 = 0) from by decide, px_l0, px_l1, px_l2, px_l3, px_l4, px_l5, px_l6, px_l9, px_l10, px_l14, px_l15, px_l23, px_l24, px_l25, px_l26, px_l29, px_l30, px_l32, px_l43, px_l45, px_l48, px_l57, px_l59, px_l60, px_l64, px_l100, px_l107, px_l116, px_l149, px_l150, px_l348, px_l464, px_l600, px_sa, nI_leI, nI_ltI, nI_eq, nI_add, pk_sub, pk_mul, pk_div, px_rm, nI_clamp, px_ck, px_eqm, px_meq, px_mm, px_mlt, px_mle, px_lem, px_ltm, px_mlem, Option.bind_some, px_b0, px_b1, px_ckb, px_if, px_if', ↓reduceIte]
        exact ⟨_, _, rfl, rfl, rfl, ⟨n, r, K, T, M, C, lay, hG, rfl, rfl, y2, u2, y3, u3⟩, hH⟩
    · rw [c0, m0]
      simp only [Option.bind_some, m1]
      rcases h1 with h1 | ⟨h1, h2⟩
      · simp only [h1, ↓reduceIte]
        exact ⟨_, _, rfl, rfl, rfl, same⟩
      · simp only [h1, h2, ↓reduceIte]
        exact ⟨_, _, rfl, rfl, rfl, same⟩
  · rw [c0, m0]
    exact ⟨_, _, rfl, rfl, rfl, same⟩
