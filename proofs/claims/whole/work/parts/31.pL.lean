section P31
variable {n r : Nat} {K T M C : Nat → Nat} {lay : Nat → Option (Nat × Nat)} {NWKa NWTa NWMa NWCa ow pa z on wy : Nat → Int32}
/-! move -/
theorem move_hc (hG : GG n r K T M C lay) {i v : Nat} (hi : i < n) (hv : v < 150) : (wcB r K T C lay (K i) (T i) v (nI i) = true ↔ HC n r K T (udN M i v) C) := by
  obtain ⟨hO, hL, hN⟩ := hG
  have hM : ∀ j, j < n → M j < 150 := fun j hj => (hO.2.2.1 j hj).2.2
  have hn := hO.1
  rw [wcB_iff hL hM hv, HC_mod (n := n) (K := K) (T := T) (M := M) (M' := udN M i v) (i := i) hi (fun j hj _ => hj) (by rw [udN_eq]; exact hv) (fun j _ hji => udN_ne hji) (fun j _ hji d _ => rfl) hM hN, udN_eq]
  have e : col K T C i = colBy C (K i) (T i) := rfl
  rw [e]
  constructor
  · rintro ⟨j, hj, hx, h⟩
    exact ⟨j, hj, fun q => hx (by rw [q]), h⟩
  · rintro ⟨j, hj, hji, h⟩
    exact ⟨j, hj, fun q => hji ((nI_eq (by omega) (by omega)).mp q), h⟩
theorem OKs.move {i v : Nat} (hv : v < 150) (h : OKs n r K T M C) : OKs n r K T (udN M i v) C := by
  obtain ⟨h1, h2, h3, h4⟩ := h
  refine ⟨h1, h2, fun j hj => ?_, h4⟩
  obtain ⟨a, b, c⟩ := h3 j hj
  refine ⟨a, b, ?_⟩
  unfold udN
  split
  · exact hv
  · exact c
theorem move_ly (hG : GG n r K T M C lay) {i v : Nat} (hi : i < n) (hv : v < 150) (hf : ffA lay v (nI i) = true) : ∃ lay', LY n (udN M i v) lay' := by
  obtain ⟨hO, hL, hN⟩ := hG
  have hn := hO.1
  refine LY.ex (fun j hj => ((hO.move (i := i) hv).2.2.1 j hj).2.2) (NO_mod (x := nI i) hL hO.1 hi (fun j hj _ => hj) (fun j hj hji q => hji ((nI_eq (by omega) (by omega)).mp q)) (fun j _ hji => udN_ne hji) (by rw [udN_eq]; exact hv) (fun j hj => (hO.2.2.1 j hj).2.2) (by rw [udN_eq]; exact hf))
theorem c1_move (hG : GG n r K T M C lay) (hRC : RCa n K T M C NWKa NWTa NWMa NWCa) (hLC : LC lay ow pa) {i v : Nat} (hi : i < n) (hv : v < 150) :
    (ffA lay v (nI i) = false ∨ HC n r K T (udN M i v) C → f_X1_moveTo (nI r) (nI n) NWKa NWTa NWMa NWCa ow pa (nI i) (nI v) = some (-nI 4, NWMa, ow, pa)) ∧
    (ffA lay v (nI i) = true → ¬ HC n r K T (udN M i v) C → ∀ lay', LY n (udN M i v) lay' → ∃ w : (Nat → Int32) × (Nat → Int32), f_X1_moveTo (nI r) (nI n) NWKa NWTa NWMa NWCa ow pa (nI i) (nI v) = some (nI (M i), upd NWMa i (nI v), w.1, w.2) ∧ LC lay' w.1 w.2) := by
  obtain ⟨hO, hL, hN⟩ := id hG
  have hn := hO.1
  obtain ⟨b1, b2, b3⟩ := hO.2.2.1 i hi
  obtain ⟨r1, r2, r3⟩ := hRC.1 i hi
  have hw := w1_why hO hL hRC hLC b1 b2 hv (nI i)
  have hne : ¬ nI i = -nI 1 := fun q => (px_eqm (by omega) (by omega) (by omega)).mp q
  have hz : (whyX n r K T C lay (K i) (T i) v (nI i) = 0) ↔ (ffA lay v (nI i) = true ∧ wcB r K T C lay (K i) (T i) v (nI i) = false) := by
    unfold whyX ffA
    cases ffB lay v (nI i) <;> cases anyb (fun d => !ffB lay (bes v d) (nI i)) 4 <;> cases wcB r K T C lay (K i) (T i) v (nI i) <;> simp [hne]
  have hwl : whyX n r K T C lay (K i) (T i) v (nI i) ≤ 4 := whyX_le
  constructor
  · intro h
    have h0 : ¬ whyX n r K T C lay (K i) (T i) v (nI i) = 0 := by
      rw [hz]
      rintro ⟨h1, h2⟩
      rcases h with h | h
      · rw [h1] at h; cases h
      · rw [(move_hc hG hi hv).mpr h] at h2; cases h2
    simp (disch := omega) only [f_X1_moveTo, r1, r2, r3, hw, h0, px_l0, px_l1, px_l2, px_l3, px_l4, px_l5, px_l6, px_l9, px_l10, px_l14, px_l15, px_l23, px_l24, px_l25, px_l26, px_l29, px_l30, px_l32, px_l43, px_l45, px_l48, px_l57, px_l59, px_l60, px_l64, px_l100, px_l107, px_l116, px_l149, px_l150, px_l348, px_l464, px_l600, px_sa, nI_leI, nI_ltI, nI_eq, nI_add, pk_sub, pk_mul, pk_div, px_rm, nI_clamp, px_ck, px_eqm, px_meq, px_mm, px_mlt, px_mle, px_lem, px_ltm, px_mlem, Option.bind_some, px_b0, px_b1, px_ckb, px_if, px_if', ↓reduceIte]
  · intro h1 h2 lay' hL'
    have h3 : wcB r K T C lay (K i) (T i) v (nI i) = false := by
      cases hb : wcB r K T C lay (K i) (T i) v (nI i) with
      | false => rfl
      | true => exact absurd ((move_hc hG hi hv).mp hb) h2
    have h0 := hz.mpr ⟨h1, h3⟩
    obtain ⟨w, w1, w2⟩ := lay_X1 hO.1 (fun j hj => ((hO.move (i := i) hv).2.2.1 j hj).2.2) hL' (fun j hj => ((hRC.move (i := i) (v := v)).1 j hj).2.2) ow pa
    refine ⟨w, ?_, w2⟩
    simp (disch := omega) only [f_X1_moveTo, r1, r2, r3, hw, h0, w1, px_l0, px_l1, px_l2, px_l3, px_l4, px_l5, px_l6, px_l9, px_l10, px_l14, px_l15, px_l23, px_l24, px_l25, px_l26, px_l29, px_l30, px_l32, px_l43, px_l45, px_l48, px_l57, px_l59, px_l60, px_l64, px_l100, px_l107, px_l116, px_l149, px_l150, px_l348, px_l464, px_l600, px_sa, nI_leI, nI_ltI, nI_eq, nI_add, pk_sub, pk_mul, pk_div, px_rm, nI_clamp, px_ck, px_eqm, px_meq, px_mm, px_mlt, px_mle, px_lem, px_ltm, px_mlem, Option.bind_some, px_b0, px_b1, px_ckb, px_if, px_if', ↓reduceIte]
theorem e_move {NWru : Int32} {NWco : Int32} {NWKa : Nat → Int32} {NWTa : Nat → Int32} {NWMa : Nat → Int32} {NWCa : Nat → Int32} {BEru : Int32} {BEco : Int32} {BEKa : Nat → Int32} {BETa : Nat → Int32} {BEMa : Nat → Int32} {BECa : Nat → Int32} {CAow : Nat → Int32} {CApa : Nat → Int32} {PAco : Int32} {PAv : PV} {MOst : Int32} {MOza : Nat → Int32} {MOas : Nat → Int32} {MObe : Nat → Int32} {MOon : Nat → Int32} {MOwy : Nat → Int32} (hA : RA NWru NWco NWKa NWTa NWMa NWCa CAow CApa MOza MOon MOwy) (hH : RH PAco PAv MOst MObe) (p0 p1 : Int32) :
    ∃ oc om, f_X6_move NWru NWco NWKa NWTa NWMa NWCa BEru BEco BEKa BETa BEMa BECa CAow CApa PAco PAv p0 p1 = some oc ∧ f_X7_move MOst MOza MOas MObe MOon MOwy p0 p1 = some om ∧ oc.1 = om.1 ∧ RA oc.2.1 oc.2.2.1 oc.2.2.2.1 oc.2.2.2.2.1 oc.2.2.2.2.2.1 oc.2.2.2.2.2.2.1 oc.2.2.2.2.2.2.2.2.2.2.2.2.2.1 oc.2.2.2.2.2.2.2.2.2.2.2.2.2.2.1 om.2.2.1 om.2.2.2.2.2.1 om.2.2.2.2.2.2 ∧ RH oc.2.2.2.2.2.2.2.2.2.2.2.2.2.2.2.1 oc.2.2.2.2.2.2.2.2.2.2.2.2.2.2.2.2 om.2.1 om.2.2.2.2.1 := by
  have same := And.intro hA hH
  obtain ⟨n, r, K, T, M, C, lay, hG, rfl, rfl, hRC, hRM, hLC, hLM⟩ := id hA
  obtain ⟨hO, hL, hN⟩ := id hG
  have hn := hO.1
  unfold f_X6_move f_X7_move
  rcases a_cross hn hRM.2.2.1 p0 with ⟨i, hi, rfl, c0, m0⟩ | ⟨c0, m0⟩
  · rcases a_cell p1 with ⟨v, hv, rfl, c1, m1⟩ | ⟨c1, m1⟩
    · have r3 := (hRC.1 i hi).2.2
      have hMi := (hO.2.2.1 i hi).2.2
      simp (disch := omega) only [c0, m0, c1, m1, r3, w7_mid hRM hi hn, show ¬ (1 = 0) from by decide, px_l0, px_l1, px_l2, px_l3, px_l4, px_l5, px_l6, px_l9, px_l10, px_l14, px_l15, px_l23, px_l24, px_l25, px_l26, px_l29, px_l30, px_l32, px_l43, px_l45, px_l48, px_l57, px_l59, px_l60, px_l64, px_l100, px_l107, px_l116, px_l149, px_l150, px_l348, px_l464, px_l600, px_sa, nI_leI, nI_ltI, nI_eq, nI_add, pk_sub, pk_mul, pk_div, px_rm, nI_clamp, px_ck, px_eqm, px_meq, px_mm, px_mlt, px_mle, px_lem, px_ltm, px_mlem, Option.bind_some, px_b0, px_b1, px_ckb, px_if, px_if', ↓reduceIte]
      by_cases hv2 : M i = v
      · simp only [hv2, ↓reduceIte]
        exact ⟨_, _, rfl, rfl, rfl, same⟩
      · obtain ⟨b, b0, b1, b2, b3, b4, b5, b6⟩ := c6_begin (nI r) (nI n) NWKa NWTa NWMa NWCa BEru BEco BEKa BETa BEMa BECa
        obtain ⟨w, w0, w1⟩ := c7_aside MOza MOas
        obtain ⟨k1, k2⟩ := c1_move hG hRC hLC hi hv
        have hff := w7_ff hL hn hLM hi hv
        have hRM' := hRM.move (v := v) hi
        have hO' := hO.move (i := i) hv
        have hRV : RV b.1 b.2.1 b.2.2.1 b.2.2.2.1 b.2.2.2.2.1 b.2.2.2.2.2 w := by
          rw [b1, b2]
          exact hA.rv.congr b3 b4 b5 b6 w1
        obtain ⟨ka, ta, ma, ca, ow', pa', y1, y2, y3⟩ := c6_bad hG b1 b2 (hRC.congr hO.1 b3 b4 b5 b6) (nI r) (nI n) NWKa NWTa NWMa NWCa CAow CApa PAco PAv (b := 4) (by omega)
        have hff' : f_X7_isFreeFor MOon (nI i) (nI v) = some (nI (bN (ffA lay v (nI i)))) := hff
        simp (disch := omega) only [hv2, hff', b0, px_l0, px_l1, px_l2, px_l3, px_l4, px_l5, px_l6, px_l9, px_l10, px_l14, px_l15, px_l23, px_l24, px_l25, px_l26, px_l29, px_l30, px_l32, px_l43, px_l45, px_l48, px_l57, px_l59, px_l60, px_l64, px_l100, px_l107, px_l116, px_l149, px_l150, px_l348, px_l464, px_l600, px_sa, nI_leI, nI_ltI, nI_eq, nI_add, pk_sub, pk_mul, pk_div, px_rm, nI_clamp, px_ck, px_eqm, px_meq, px_mm, px_mlt, px_mle, px_lem, px_ltm, px_mlem, Option.bind_some, px_b0, px_b1, px_ckb, px_if, px_if', ↓reduceIte]
        cases hf : ffA lay v (nI i) with
        | false =>
          simp (disch := omega) only [k1 (Or.inl hf), y1, px_l0, px_l1, px_l2, px_l3, px_l4, px_l5, px_l6, px_l9, px_l10, px_l14, px_l15, px_l23, px_l24, px_l25, px_l26, px_l29, px_l30, px_l32, px_l43, px_l45, px_l48, px_l57, px_l59, px_l60, px_l64, px_l100, px_l107, px_l116, px_l149, px_l150, px_l348, px_l464, px_l600, px_sa, nI_leI, nI_ltI, nI_eq, nI_add, pk_sub, pk_mul, pk_div, px_rm, nI_clamp, px_ck, px_eqm, px_meq, px_mm, px_mlt, px_mle, px_lem, px_ltm, px_mlem, Option.bind_some, px_b0, px_b1, px_ckb, px_if, px_if', ↓reduceIte]
          exact ⟨_, _, rfl, rfl, rfl, ⟨n, r, K, T, M, C, lay, hG, rfl, rfl, y2, hRM, y3, hLM⟩, hH⟩
        | true =>
          obtain ⟨lay', hL'⟩ := move_ly hG hi hv hf
          by_cases hN' : HC n r K T (udN M i v) C
          · obtain ⟨v', on', wy', u1, u2, u3⟩ := c7_bad hG hRM hO' hL' hN' hRM' w1 MOst MObe MOon MOwy
            simp (disch := omega) only [k1 (Or.inr hN'), y1, w0, u1, Bool.true_eq_false, px_l0, px_l1, px_l2, px_l3, px_l4, px_l5, px_l6, px_l9, px_l10, px_l14, px_l15, px_l23, px_l24, px_l25, px_l26, px_l29, px_l30, px_l32, px_l43, px_l45, px_l48, px_l57, px_l59, px_l60, px_l64, px_l100, px_l107, px_l116, px_l149, px_l150, px_l348, px_l464, px_l600, px_sa, nI_leI, nI_ltI, nI_eq, nI_add, pk_sub, pk_mul, pk_div, px_rm, nI_clamp, px_ck, px_eqm, px_meq, px_mm, px_mlt, px_mle, px_lem, px_ltm, px_mlem, Option.bind_some, px_b0, px_b1, px_ckb, px_if, px_if', ↓reduceIte]
            exact ⟨_, _, rfl, rfl, rfl, ⟨n, r, K, T, M, C, lay, hG, rfl, rfl, y2, u2, y3, u3⟩, hH⟩
          · obtain ⟨c, m, x1, x2, x3⟩ := RH_add hRV hH
            obtain ⟨u, u1, u2⟩ := c7_good hO' hL' hN' hRM' x2 MOon MOwy
            obtain ⟨q, q1, q2⟩ := k2 hf hN' lay' hL'
            simp (disch := omega) only [q1, w0, u1, c6_good (show M i < 2 ^ 31 by omega) x1, Bool.true_eq_false, show ¬ (1 = 0) from by decide, px_l0, px_l1, px_l2, px_l3, px_l4, px_l5, px_l6, px_l9, px_l10, px_l14, px_l15, px_l23, px_l24, px_l25, px_l26, px_l29, px_l30, px_l32, px_l43, px_l45, px_l48, px_l57, px_l59, px_l60, px_l64, px_l100, px_l107, px_l116, px_l149, px_l150, px_l348, px_l464, px_l600, px_sa, nI_leI, nI_ltI, nI_eq, nI_add, pk_sub, pk_mul, pk_div, px_rm, nI_clamp, px_ck, px_eqm, px_meq, px_mm, px_mlt, px_mle, px_lem, px_ltm, px_mlem, Option.bind_some, px_b0, px_b1, px_ckb, px_if, px_if', ↓reduceIte]
            exact ⟨_, _, rfl, rfl, rfl, ⟨n, r, K, T, _, C, lay', ⟨hO', hL', hN'⟩, rfl, rfl, hRC.move, hRM', q2, u2⟩, x3⟩
    · rw [c0, m0]
      simp only [Option.bind_some, c1, m1]
      exact ⟨_, _, rfl, rfl, rfl, same⟩
  · rw [c0, m0]
    exact ⟨_, _, rfl, rfl, rfl, same⟩
/-! lay -/
abbrev LGG (n r : Nat) (K T M C : Nat → Nat) (k t m : Nat) (lay' : Nat → Option (Nat × Nat)) : Prop := GG (n + 1) r (udN K n k) (udN T n t) (udN M n m) C lay'
theorem lay_gg (hG : GG n r K T M C lay) {k t m : Nat} (hk : k < 6) (ht : t < 4) (hm : m < 150) (h0 : whyX n r K T C lay k t m (-nI 1) = 0) : n < 30 ∧ ∃ lay', LGG n r K T M C k t m lay' := by
  obtain ⟨hO, hL, hN⟩ := hG
  have hn := hO.1
  have hz : ffA lay m (-nI 1) = true ∧ wcB r K T C lay k t m (-nI 1) = false ∧ ¬ 30 ≤ n := by
    unfold whyX at h0
    unfold ffA
    cases h1 : ffB lay m (-nI 1) <;> cases h2 : anyb (fun d => !ffB lay (bes m d) (-nI 1)) 4 <;> cases h3 : wcB r K T C lay k t m (-nI 1) <;> rw [h1, h2, h3] at h0 <;> simp at h0 ⊢ <;> omega
  obtain ⟨z1, z2, z3⟩ := hz
  have hO' : OKs (n + 1) r (udN K n k) (udN T n t) (udN M n m) C := by
    refine ⟨by omega, hO.2.1, fun j hj => ?_, hO.2.2.2⟩
    by_cases hjn : j = n
    · subst hjn; rw [udN_eq, udN_eq, udN_eq]; exact ⟨hk, ht, hm⟩
    · rw [udN_ne hjn, udN_ne hjn, udN_ne hjn]; exact hO.2.2.1 j (by omega)
  have hM : ∀ j, j < n → M j < 150 := fun j hj => (hO.2.2.1 j hj).2.2
  have hx : ∀ j, j < n → ¬ nI j = -nI 1 := fun j hj q => (px_eqm (by omega) (by omega) (by omega)).mp q
  have hNO : NO (n + 1) (udN M n m) := NO_mod (x := -nI 1) (i := n) hL hn (Nat.lt_succ_self n) (fun j hj hji => by omega) (fun j hj hji => hx j (by omega)) (fun j _ hji => udN_ne hji) (by rw [udN_eq]; exact hm) hM (by rw [udN_eq]; exact z1)
  obtain ⟨lay', hL'⟩ := LY.ex (fun j hj => (hO'.2.2.1 j hj).2.2) hNO
  refine ⟨by omega, lay', hO', hL', fun hq => ?_⟩
  rw [HC_mod (n := n) (K := K) (T := T) (M := M) (M' := udN M n m) (K' := udN K n k) (T' := udN T n t) (i := n) (Nat.lt_succ_self n) (fun j hj hji => by omega) (by rw [udN_eq]; exact hm) (fun j _ hji => udN_ne hji) (fun j _ hji d _ => by unfold col; rw [udN_ne hji, udN_ne hji]) hM hN, udN_eq] at hq
  obtain ⟨j, hj, hji, hp⟩ := hq
  have e : col (udN K n k) (udN T n t) C n = colBy C k t := by funext d; unfold col; rw [udN_eq, udN_eq]
  rw [e] at hp
  have := (wcB_iff (ru := r) (K := K) (T := T) (C := C) (x := -nI 1) (k := k) (t := t) hL hM hm).mpr ⟨j, by omega, hx j (by omega), hp⟩
  rw [z2] at this; cases this
theorem RCa.put {k t m : Nat} (h : RCa n K T M C NWKa NWTa NWMa NWCa) : RCa (n + 1) (udN K n k) (udN T n t) (udN M n m) C (upd NWKa n (nI k)) (upd NWTa n (nI t)) (upd NWMa n (nI m)) NWCa := by
  refine ⟨fun j hj => ?_, h.2⟩
  by_cases hjn : j = n
  · subst hjn; rw [udN_eq, udN_eq, udN_eq, px_ueq, px_ueq, px_ueq]; exact ⟨rfl, rfl, rfl⟩
  · rw [udN_ne hjn, udN_ne hjn, udN_ne hjn, px_une hjn, px_une hjn, px_une hjn]; exact h.1 j (by omega)
theorem RM.put {k t m : Nat} (h : RM n r K T M C z) : RM (n + 1) r (udN K n k) (udN T n t) (udN M n m) C (upd (upd (upd (upd z (26 + 3 * n) (nI k)) (26 + 3 * n + 1) (nI t)) (26 + 3 * n + 2) (nI m)) 25 (nI (n + 1))) := by
  obtain ⟨h1, h2, h3, h4⟩ := h
  refine ⟨fun j hj => ?_, ?_, ?_, fun j hj => ?_⟩
  · rw [px_une (by omega), px_une (by omega), px_une (by omega), px_une (by omega)]; exact h1 j hj
  · rw [px_une (by omega), px_une (by omega), px_une (by omega), px_une (by omega)]; exact h2
  · rw [px_ueq]
  · by_cases hjn : j = n
    · subst hjn
      rw [udN_eq, udN_eq, udN_eq]
      refine ⟨?_, ?_, ?_⟩
      · rw [px_une (by omega), px_une (by omega), px_une (by omega), px_ueq]
      · rw [px_une (by omega), px_une (by omega), px_ueq]
      · rw [px_une (by omega), px_ueq]
    · obtain ⟨a, b, c⟩ := h4 j (by omega)
      rw [udN_ne hjn, udN_ne hjn, udN_ne hjn]
      refine ⟨?_, ?_, ?_⟩
      · rw [px_une (by omega), px_une (by omega), px_une (by omega), px_une (by omega)]; exact a
      · rw [px_une (by omega), px_une (by omega), px_une (by omega), px_une (by omega)]; exact b
      · rw [px_une (by omega), px_une (by omega), px_une (by omega), px_une (by omega)]; exact c
theorem c1_lay0 (hG : GG n r K T M C lay) (hRC : RCa n K T M C NWKa NWTa NWMa NWCa) (hLC : LC lay ow pa) {k t m : Nat} (hk : k < 6) (ht : t < 4) (hm : m < 150) (h0 : whyX n r K T C lay k t m (-nI 1) = 0) (hn : n < 30) {lay' : Nat → Option (Nat × Nat)} (hG' : LGG n r K T M C k t m lay') :
    ∃ w : (Nat → Int32) × (Nat → Int32), f_X1_layCross (nI r) (nI n) NWKa NWTa NWMa NWCa ow pa (nI k) (nI t) (nI m) = some (nI n, nI (n + 1), upd NWKa n (nI k), upd NWTa n (nI t), upd NWMa n (nI m), w.1, w.2) ∧ LC lay' w.1 w.2 := by
  obtain ⟨hO, hL, hN⟩ := id hG
  have hw := w1_why hO hL hRC hLC hk ht hm (-nI 1)
  obtain ⟨w, w1, w2⟩ := lay_X1 hG'.1.1 (fun j hj => (hG'.1.2.2.1 j hj).2.2) hG'.2.1 (fun j hj => ((hRC.put (k := k) (t := t) (m := m)).1 j hj).2.2) ow pa
  refine ⟨w, ?_, w2⟩
  simp (disch := omega) only [f_X1_layCross, hw, h0, w1, px_l0, px_l1, px_l2, px_l3, px_l4, px_l5, px_l6, px_l9, px_l10, px_l14, px_l15, px_l23, px_l24, px_l25, px_l26, px_l29, px_l30, px_l32, px_l43, px_l45, px_l48, px_l57, px_l59, px_l60, px_l64, px_l100, px_l107, px_l116, px_l149, px_l150, px_l348, px_l464, px_l600, px_sa, nI_leI, nI_ltI, nI_eq, nI_add, pk_sub, pk_mul, pk_div, px_rm, nI_clamp, px_ck, px_eqm, px_meq, px_mm, px_mlt, px_mle, px_lem, px_ltm, px_mlem, Option.bind_some, px_b0, px_b1, px_ckb, px_if, px_if', ↓reduceIte]
theorem c1_lay1 (hG : GG n r K T M C lay) (hRC : RCa n K T M C NWKa NWTa NWMa NWCa) (hLC : LC lay ow pa) {k t m : Nat} (hk : k < 6) (ht : t < 4) (hm : m < 150) (h0 : ¬ whyX n r K T C lay k t m (-nI 1) = 0) :
    f_X1_layCross (nI r) (nI n) NWKa NWTa NWMa NWCa ow pa (nI k) (nI t) (nI m) = some (-nI (if whyX n r K T C lay k t m (-nI 1) = 4 then 3 else 4), nI n, NWKa, NWTa, NWMa, ow, pa) := by
  obtain ⟨hO, hL, hN⟩ := id hG
  have hw := w1_why hO hL hRC hLC hk ht hm (-nI 1)
  have hl : whyX n r K T C lay k t m (-nI 1) ≤ 4 := whyX_le
  simp (disch := omega) only [f_X1_layCross, hw, h0, px_l0, px_l1, px_l2, px_l3, px_l4, px_l5, px_l6, px_l9, px_l10, px_l14, px_l15, px_l23, px_l24, px_l25, px_l26, px_l29, px_l30, px_l32, px_l43, px_l45, px_l48, px_l57, px_l59, px_l60, px_l64, px_l100, px_l107, px_l116, px_l149, px_l150, px_l348, px_l464, px_l600, px_sa, nI_leI, nI_ltI, nI_eq, nI_add, pk_sub, pk_mul, pk_div, px_rm, nI_clamp, px_ck, px_eqm, px_meq, px_mm, px_mlt, px_mle, px_lem, px_ltm, px_mlem, Option.bind_some, px_b0, px_b1, px_ckb, px_if, px_if', ↓reduceIte]
  split <;> rfl
theorem c7_add (hR : RM n r K T M C z) {k t m : Nat} (hn : n < 30) {lay' : Nat → Option (Nat × Nat)} (hG' : LGG n r K T M C k t m lay') (on wy : Nat → Int32) :
    ∃ (v : Nat → Int32) (w : (Nat → Int32) × (Nat → Int32)), f_X7_add z on wy (nI k) (nI t) (nI m) = some (v, w.1, w.2) ∧ RM (n + 1) r (udN K n k) (udN T n t) (udN M n m) C v ∧ LM lay' w.1 w.2 := by
  have hR' := hR.put (k := k) (t := t) (m := m)
  obtain ⟨w, w1, w2⟩ := lay_X7 hG'.1.1 (fun j hj => (hG'.1.2.2.1 j hj).2.2) hG'.2.1 hR' on wy
  refine ⟨_, w, ?_, hR', w2⟩
  have h25 := hR.2.2.1
  simp (disch := omega) only [f_X7_add, h25, w1, px_l0, px_l1, px_l2, px_l3, px_l4, px_l5, px_l6, px_l9, px_l10, px_l14, px_l15, px_l23, px_l24, px_l25, px_l26, px_l29, px_l30, px_l32, px_l43, px_l45, px_l48, px_l57, px_l59, px_l60, px_l64, px_l100, px_l107, px_l116, px_l149, px_l150, px_l348, px_l464, px_l600, px_sa, nI_leI, nI_ltI, nI_eq, nI_add, pk_sub, pk_mul, pk_div, px_rm, nI_clamp, px_ck, px_eqm, px_meq, px_mm, px_mlt, px_mle, px_lem, px_ltm, px_mlem, Option.bind_some, px_b0, px_b1, px_ckb, px_if, px_if', ↓reduceIte, px_une, px_ueq]
theorem c7_noLay (hG : GG n r K T M C lay) (hR : RM n r K T M C z) (hLM : LM lay on wy) {k t m : Nat} (hk : k < 6) (ht : t < 4) (hm : m < 150) :
    f_X7_noLay z on wy (nI k) (nI t) (nI m) = some (if whyX n r K T C lay k t m (-nI 1) = 0 then nI 0 else -nI (if whyX n r K T C lay k t m (-nI 1) = 4 then 3 else 4)) := by
  obtain ⟨hO, hL, hN⟩ := id hG
  have hw := w7_why hO hL hR hLM hk ht hm
  have hl : whyX n r K T C lay k t m (-nI 1) ≤ 4 := whyX_le
  have a1 : f_X7_isKind (nI k) = some (nI 1) := by
    rcases a_kind (nI k) with ⟨k', h1, h2, h3, h4⟩ | ⟨h3, h4⟩
    · exact h4
    · exfalso
      unfold f_X6_isKind at h3
      rw [show (6 : Int32) = nI 6 from rfl, px_rng1 hk (by omega), px_ck1] at h3
      exact absurd (Option.some.inj h3) (by decide +kernel)
  have a2 : f_X7_isCell (nI m) = some (nI 1) := by
    rcases a_cell (nI m) with ⟨k', h1, h2, h3, h4⟩ | ⟨h3, h4⟩
    · exact h4
    · exfalso
      unfold f_X6_isCell at h3
      rw [show (150 : Int32) = nI 150 from rfl, px_rng1 hm (by omega), px_ck1] at h3
      exact absurd (Option.some.inj h3) (by decide +kernel)
  have a3 : f_X7_in (nI t) (nI 0) (nI 3) = some (nI 1) := by
    rw [w7_in (by omega) (by omega) (by omega), decide_eq_true (Nat.zero_le t), decide_eq_true (show t ≤ 3 by omega)]; rfl
  simp (disch := omega) only [f_X7_noLay, a1, a2, a3, hw, show ¬ (1 = 0) from by decide, px_l0, px_l1, px_l2, px_l3, px_l4, px_l5, px_l6, px_l9, px_l10, px_l14, px_l15, px_l23, px_l24, px_l25, px_l26, px_l29, px_l30, px_l32, px_l43, px_l45, px_l48, px_l57, px_l59, px_l60, px_l64, px_l100, px_l107, px_l116, px_l149, px_l150, px_l348, px_l464, px_l600, px_sa, nI_leI, nI_ltI, nI_eq, nI_add, pk_sub, pk_mul, pk_div, px_rm, nI_clamp, px_ck, px_eqm, px_meq, px_mm, px_mlt, px_mle, px_lem, px_ltm, px_mlem, Option.bind_some, px_b0, px_b1, px_ckb, px_if, px_if', ↓reduceIte]
  rcases (show whyX n r K T C lay k t m (-nI 1) = 0 ∨ whyX n r K T C lay k t m (-nI 1) = 1 ∨ whyX n r K T C lay k t m (-nI 1) = 2 ∨ whyX n r K T C lay k t m (-nI 1) = 3 ∨ whyX n r K T C lay k t m (-nI 1) = 4 by omega) with h | h | h | h | h <;> rw [h] <;> rfl
theorem e_lay {NWru : Int32} {NWco : Int32} {NWKa : Nat → Int32} {NWTa : Nat → Int32} {NWMa : Nat → Int32} {NWCa : Nat → Int32} {BEru : Int32} {BEco : Int32} {BEKa : Nat → Int32} {BETa : Nat → Int32} {BEMa : Nat → Int32} {BECa : Nat → Int32} {CAow : Nat → Int32} {CApa : Nat → Int32} {PAco : Int32} {PAv : PV} {MOst : Int32} {MOza : Nat → Int32} {MObe : Nat → Int32} {MOon : Nat → Int32} {MOwy : Nat → Int32} (hA : RA NWru NWco NWKa NWTa NWMa NWCa CAow CApa MOza MOon MOwy) (hH : RH PAco PAv MOst MObe) (p0 p1 p2 : Int32) :
    ∃ oc om, f_X6_lay NWru NWco NWKa NWTa NWMa NWCa BEru BEco BEKa BETa BEMa BECa CAow CApa PAco PAv p0 p1 p2 = some oc ∧ f_X7_lay MOst MOza MObe MOon MOwy p0 p1 p2 = some om ∧ oc.1 = om.1 ∧ RA oc.2.1 oc.2.2.1 oc.2.2.2.1 oc.2.2.2.2.1 oc.2.2.2.2.2.1 oc.2.2.2.2.2.2.1 oc.2.2.2.2.2.2.2.2.2.2.2.2.2.1 oc.2.2.2.2.2.2.2.2.2.2.2.2.2.2.1 om.2.2.1 om.2.2.2.2.1 om.2.2.2.2.2 ∧ RH oc.2.2.2.2.2.2.2.2.2.2.2.2.2.2.2.1 oc.2.2.2.2.2.2.2.2.2.2.2.2.2.2.2.2 om.2.1 om.2.2.2.1 := by
  have same := And.intro hA hH
  obtain ⟨n, r, K, T, M, C, lay, hG, rfl, rfl, hRC, hRM, hLC, hLM⟩ := id hA
  obtain ⟨hO, hL, hN⟩ := id hG
  have hn := hO.1
  unfold f_X6_lay f_X7_lay
  rcases a_kind p0 with ⟨k, hk, rfl, c0, m0⟩ | ⟨c0, m0⟩
  · rcases a_cell p2 with ⟨m, hm, rfl, c1, m1⟩ | ⟨c1, m1⟩
    · rcases a_dir p1 with ⟨t, ht, rfl, c2, m2⟩ | ⟨c2, m2⟩
      · obtain ⟨b, b0, b1, b2, b3, b4, b5, b6⟩ := c6_begin (nI r) (nI n) NWKa NWTa NWMa NWCa BEru BEco BEKa BETa BEMa BECa
        have hnl := c7_noLay hG hRM hLM hk ht hm
        by_cases h0 : whyX n r K T C lay k t m (-nI 1) = 0
        · obtain ⟨hn30, lay', hG'⟩ := lay_gg hG hk ht hm h0
          obtain ⟨w, w1, w2⟩ := c1_lay0 hG hRC hLC hk ht hm h0 hn30 hG'
          obtain ⟨v, u, u1, u2, u3⟩ := c7_add hRM hn30 hG' MOon MOwy
          have hRV : RV b.1 b.2.1 b.2.2.1 b.2.2.2.1 b.2.2.2.2.1 b.2.2.2.2.2 MOza := by
            rw [b1, b2]
            exact hA.rv.congr b3 b4 b5 b6 (fun _ _ => rfl)
          obtain ⟨c, q, x1, x2, x3⟩ := RH_add hRV hH
          rw [if_pos h0] at hnl
          simp (disch := omega) only [c0, c1, c2, b0, hnl, w1, u1, x2, c6_good (show n < 2 ^ 31 by omega) x1, u2.2.2.1, show ¬ (1 = 0) from by decide, Nat.le_refl, px_l0, px_l1, px_l2, px_l3, px_l4, px_l5, px_l6, px_l9, px_l10, px_l14, px_l15, px_l23, px_l24, px_l25, px_l26, px_l29, px_l30, px_l32, px_l43, px_l45, px_l48, px_l57, px_l59, px_l60, px_l64, px_l100, px_l107, px_l116, px_l149, px_l150, px_l348, px_l464, px_l600, px_sa, nI_leI, nI_ltI, nI_eq, nI_add, pk_sub, pk_mul, pk_div, px_rm, nI_clamp, px_ck, px_eqm, px_meq, px_mm, px_mlt, px_mle, px_lem, px_ltm, px_mlem, Option.bind_some, px_b0, px_b1, px_ckb, px_if, px_if', ↓reduceIte]
          refine ⟨_, _, rfl, rfl, ?_, ⟨n + 1, r, _, _, _, C, lay', hG', rfl, rfl, hRC.put, u2, w2, u3⟩, x3⟩
          dsimp only
          rw [Nat.add_sub_cancel]
        · have hb : 0 < (if whyX n r K T C lay k t m (-nI 1) = 4 then 3 else 4) ∧ (if whyX n r K T C lay k t m (-nI 1) = 4 then 3 else 4) < 2 ^ 31 := by split <;> omega
          obtain ⟨ka, ta, ma, ca, ow', pa', y1, y2, y3⟩ := c6_bad hG b1 b2 (hRC.congr hO.1 b3 b4 b5 b6) (nI r) (nI n) NWKa NWTa NWMa NWCa CAow CApa PAco PAv hb
          rw [if_neg h0] at hnl
          have k1 := c1_lay1 hG hRC hLC hk ht hm h0
          generalize (if whyX n r K T C lay k t m (-nI 1) = 4 then 3 else 4) = e at *
          simp (disch := omega) only [c0, c1, c2, b0, hnl, k1, y1, show ¬ (1 = 0) from by decide, px_l0, px_l1, px_l2, px_l3, px_l4, px_l5, px_l6, px_l9, px_l10, px_l14, px_l15, px_l23, px_l24, px_l25, px_l26, px_l29, px_l30, px_l32, px_l43, px_l45, px_l48, px_l57, px_l59, px_l60, px_l64, px_l100, px_l107, px_l116, px_l149, px_l150, px_l348, px_l464, px_l600, px_sa, nI_leI, nI_ltI, nI_eq, nI_add, pk_sub, pk_mul, pk_div, px_rm, nI_clamp, px_ck, px_eqm, px_meq, px_mm, px_mlt, px_mle, px_lem, px_ltm, px_mlem, Option.bind_some, px_b0, px_b1, px_ckb, px_if, px_if', ↓reduceIte]
          exact ⟨_, _, rfl, rfl, rfl, ⟨n, r, K, T, M, C, lay, hG, rfl, rfl, y2, hRM, y3, hLM⟩, hH⟩
      · unfold f_X7_noLay
        rw [c0, m0]
        simp only [Option.bind_some, c1, m1, c2, m2]
        exact ⟨_, _, rfl, rfl, rfl, same⟩
    · unfold f_X7_noLay
      rw [c0, m0]
      simp only [Option.bind_some, c1, m1]
      exact ⟨_, _, rfl, rfl, rfl, same⟩
  · unfold f_X7_noLay
    rw [c0, m0]
    exact ⟨_, _, rfl, rfl, rfl, same⟩
end P31
