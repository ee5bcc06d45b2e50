section P32
variable {n r : Nat} {K T M C : Nat → Nat} {lay : Nat → Option (Nat × Nat)} {NWKa NWTa NWMa NWCa ow pa z on wy : Nat → Int32}
/-! take -/
theorem tkF_lt {f : Nat → Nat} {i q : Nat} (h : q < i) : tkF f i q = f q := if_pos h
theorem tkF_ge {f : Nat → Nat} {i q : Nat} (h : ¬ q < i) : tkF f i q = f (q + 1) := if_neg h
theorem take_gg (hG : GG n r K T M C lay) {i : Nat} (hi : i < n) : ∃ lay', GG (n - 1) r (tkF K i) (tkF T i) (tkF M i) C lay' := by
  obtain ⟨hO, hL, hN⟩ := hG
  have hO' : OKs (n - 1) r (tkF K i) (tkF T i) (tkF M i) C := by
    have hn := hO.1
    refine ⟨by omega, hO.2.1, fun j hj => ?_, hO.2.2.2⟩
    rw [tkF_eq, tkF_eq, tkF_eq]
    exact hO.2.2.1 _ (tk_idx hi hj)
  obtain ⟨lay', hL'⟩ := LY.ex (fun j hj => (hO'.2.2.1 j hj).2.2) (NO_tk hi hL.no)
  exact ⟨lay', hO', hL', HC_tk hi hN⟩
/-- a row while cross i is taken out of it: the places below j - 1 are done -/
def tkI (F : Nat → Nat) (i j n : Nat) (a : Nat → Int32) : Prop := ∀ q, q < n → a q = nI (if q + 1 < j then tkF F i q else F q)
theorem tkI_0 {F : Nat → Nat} {i n : Nat} {a : Nat → Int32} (h : ∀ q, q < n → a q = nI (F q)) : tkI F i (i + 1) n a := by
  intro q hq
  rw [h q hq]
  split
  · rw [tkF_lt (by omega)]
  · rfl
theorem tkI_s {F : Nat → Nat} {i j n : Nat} {a : Nat → Int32} (hij : i < j) (hj : j < n) (h : tkI F i j n a) : tkI F i (j + 1) n (upd a (j - 1) (a j)) := by
  intro q hq
  rw [px_upd]
  by_cases hqj : q = j - 1
  · rw [if_pos hqj, h j hj, if_neg (by omega), if_pos (by omega), tkF_ge (by omega), show q + 1 = j by omega]
  · rw [if_neg hqj, h q hq]
    by_cases h1 : q + 1 < j
    · rw [if_pos h1, if_pos (by omega)]
    · rw [if_neg h1, if_neg (by omega)]
theorem tkI_e {F : Nat → Nat} {i n : Nat} {a : Nat → Int32} (h : tkI F i n n a) : ∀ q, q < n - 1 → a q = nI (tkF F i q) := by
  intro q hq
  rw [h q (by omega), if_pos (by omega)]
theorem c1_take (hG : GG n r K T M C lay) (hRC : RCa n K T M C NWKa NWTa NWMa NWCa) {i : Nat} (hi : i < n) {lay' : Nat → Option (Nat × Nat)} (hG' : GG (n - 1) r (tkF K i) (tkF T i) (tkF M i) C lay') :
    ∃ (ka ta ma : Nat → Int32) (w : (Nat → Int32) × (Nat → Int32)), f_X1_takeAway (nI n) NWKa NWTa NWMa ow pa (nI i) = some (nI (n - 1), nI (n - 1), ka, ta, ma, w.1, w.2) ∧ RCa (n - 1) (tkF K i) (tkF T i) (tkF M i) C ka ta ma NWCa ∧ LC lay' w.1 w.2 := by
  have hn := hG.1.1
  obtain ⟨⟨s1, s2, s3, s4⟩, h1, h2, h3, h4⟩ := lp_inv (f := f_X1_takeAway_b1 (nI n)) (fun k s => s.1 = nI (i + 1 + k) ∧ tkI K i (i + 1 + k) n s.2.1 ∧ tkI T i (i + 1 + k) n s.2.2.1 ∧ tkI M i (i + 1 + k) n s.2.2.2) (n - 1 - i) (fun s => tkI K i n n s.2.1 ∧ tkI T i n n s.2.2.1 ∧ tkI M i n n s.2.2.2) (by
    rintro k ⟨s1, s2, s3, s4⟩ hk ⟨g1, g2, g3, g4⟩
    dsimp only at g1 g2 g3 g4
    subst g1
    refine Or.inl ⟨(nI (i + 1 + k + 1), upd s2 (i + 1 + k - 1) (s2 (i + 1 + k)), upd s3 (i + 1 + k - 1) (s3 (i + 1 + k)), upd s4 (i + 1 + k - 1) (s4 (i + 1 + k))), ?_, rfl, tkI_s (j := i + 1 + k) (by omega) (by omega) g2, tkI_s (j := i + 1 + k) (by omega) (by omega) g3, tkI_s (j := i + 1 + k) (by omega) (by omega) g4⟩
    simp (disch := omega) only [f_X1_takeAway_b1, show ¬ n ≤ i + 1 + k from by omega, px_l0, px_l1, px_l2, px_l3, px_l4, px_l5, px_l6, px_l9, px_l10, px_l14, px_l15, px_l23, px_l24, px_l25, px_l26, px_l29, px_l30, px_l32, px_l43, px_l45, px_l48, px_l57, px_l59, px_l60, px_l64, px_l100, px_l107, px_l116, px_l149, px_l150, px_l348, px_l464, px_l600, px_sa, nI_leI, nI_ltI, nI_eq, nI_add, pk_sub, pk_mul, pk_div, px_rm, nI_clamp, px_ck, px_eqm, px_meq, px_mm, px_mlt, px_mle, px_lem, px_ltm, px_mlem, Option.bind_some, px_b0, px_b1, px_ckb, px_if, px_if', ↓reduceIte]) (by
    rintro ⟨s1, s2, s3, s4⟩ ⟨g1, g2, g3, g4⟩
    dsimp only at g1 g2 g3 g4
    subst g1
    rw [show i + 1 + (n - 1 - i) = n by omega] at g2 g3 g4 ⊢
    exact ⟨(nI n, s2, s3, s4), by simp (disch := omega) only [f_X1_takeAway_b1, Nat.le_refl, px_l0, px_l1, px_l2, px_l3, px_l4, px_l5, px_l6, px_l9, px_l10, px_l14, px_l15, px_l23, px_l24, px_l25, px_l26, px_l29, px_l30, px_l32, px_l43, px_l45, px_l48, px_l57, px_l59, px_l60, px_l64, px_l100, px_l107, px_l116, px_l149, px_l150, px_l348, px_l464, px_l600, px_sa, nI_leI, nI_ltI, nI_eq, nI_add, pk_sub, pk_mul, pk_div, px_rm, nI_clamp, px_ck, px_eqm, px_meq, px_mm, px_mlt, px_mle, px_lem, px_ltm, px_mlem, Option.bind_some, px_b0, px_b1, px_ckb, px_if, px_if', ↓reduceIte], g2, g3, g4⟩) FU 0 (nI (i + 1), NWKa, NWTa, NWMa) (Nat.zero_le _) (Nat.lt_of_le_of_lt (by omega : n - 1 - i - 0 ≤ 30) (by decide))
    ⟨rfl, tkI_0 (fun q hq => (hRC.1 q hq).1), tkI_0 (fun q hq => (hRC.1 q hq).2.1), tkI_0 (fun q hq => (hRC.1 q hq).2.2)⟩
  dsimp only at h2 h3 h4
  have hR' : RCa (n - 1) (tkF K i) (tkF T i) (tkF M i) C s2 s3 s4 NWCa := ⟨fun q hq => ⟨tkI_e h2 q hq, tkI_e h3 q hq, tkI_e h4 q hq⟩, hRC.2⟩
  obtain ⟨w, w1, w2⟩ := lay_X1 hG'.1.1 (fun j hj => (hG'.1.2.2.1 j hj).2.2) hG'.2.1 (fun j hj => (hR'.1 j hj).2.2) ow pa
  refine ⟨s2, s3, s4, w, ?_, hR', w2⟩
  simp (disch := omega) only [f_X1_takeAway, h1, w1, px_l0, px_l1, px_l2, px_l3, px_l4, px_l5, px_l6, px_l9, px_l10, px_l14, px_l15, px_l23, px_l24, px_l25, px_l26, px_l29, px_l30, px_l32, px_l43, px_l45, px_l48, px_l57, px_l59, px_l60, px_l64, px_l100, px_l107, px_l116, px_l149, px_l150, px_l348, px_l464, px_l600, px_sa, nI_leI, nI_ltI, nI_eq, nI_add, pk_sub, pk_mul, pk_div, px_rm, nI_clamp, px_ck, px_eqm, px_meq, px_mm, px_mlt, px_mle, px_lem, px_ltm, px_mlem, Option.bind_some, px_b0, px_b1, px_ckb, px_if, px_if', ↓reduceIte]
theorem c7_take (hG : GG n r K T M C lay) (hR : RM n r K T M C z) {i : Nat} (hi : i < n) {lay' : Nat → Option (Nat × Nat)} (hG' : GG (n - 1) r (tkF K i) (tkF T i) (tkF M i) C lay') (on wy : Nat → Int32) :
    ∃ (v : Nat → Int32) (w : (Nat → Int32) × (Nat → Int32)), f_X7_remove z on wy (nI i) = some (v, w.1, w.2) ∧ RM (n - 1) r (tkF K i) (tkF T i) (tkF M i) C v ∧ LM lay' w.1 w.2 := by
  have hn := hG.1.1
  have h25 := hR.2.2.1
  obtain ⟨⟨s1, s2⟩, h1, h2, h3⟩ := lp_inv (f := f_X7_remove_b1) (fun k s => s.1 = nI (26 + 3 * i + k) ∧ s.2 25 = nI (n - 1) ∧ ∀ q, q ≠ 25 → s.2 q = if 26 + 3 * i ≤ q ∧ q < 26 + 3 * i + k then z (q + 3) else z q) (3 * (n - 1 - i)) (fun s => s.2 25 = nI (n - 1) ∧ ∀ q, q ≠ 25 → s.2 q = if 26 + 3 * i ≤ q ∧ q < 26 + 3 * (n - 1) then z (q + 3) else z q) (by
    rintro k ⟨s1, s2⟩ hk ⟨g1, g2, g3⟩
    dsimp only at g1 g2 g3
    subst g1
    refine Or.inl ⟨(nI (26 + 3 * i + k + 1), upd s2 (26 + 3 * i + k) (s2 (26 + 3 * i + k + 3))), ?_, rfl, ?_, fun q hq => ?_⟩
    · simp (disch := omega) only [f_X7_remove_b1, g2, show ¬ 26 + 3 * (n - 1) ≤ 26 + 3 * i + k from by omega, px_l0, px_l1, px_l2, px_l3, px_l4, px_l5, px_l6, px_l9, px_l10, px_l14, px_l15, px_l23, px_l24, px_l25, px_l26, px_l29, px_l30, px_l32, px_l43, px_l45, px_l48, px_l57, px_l59, px_l60, px_l64, px_l100, px_l107, px_l116, px_l149, px_l150, px_l348, px_l464, px_l600, px_sa, nI_leI, nI_ltI, nI_eq, nI_add, pk_sub, pk_mul, pk_div, px_rm, nI_clamp, px_ck, px_eqm, px_meq, px_mm, px_mlt, px_mle, px_lem, px_ltm, px_mlem, Option.bind_some, px_b0, px_b1, px_ckb, px_if, px_if', ↓reduceIte]
    · dsimp only
      rw [px_une (by omega)]; exact g2
    · dsimp only
      by_cases hqk : q = 26 + 3 * i + k
      · subst hqk
        rw [px_ueq, if_pos (by omega), g3 _ (by omega), if_neg (by omega)]
      · rw [px_une hqk, g3 q hq]
        by_cases h4 : 26 + 3 * i ≤ q ∧ q < 26 + 3 * i + k
        · rw [if_pos h4, if_pos (by omega)]
        · rw [if_neg h4, if_neg (by omega)]) (by
    rintro ⟨s1, s2⟩ ⟨g1, g2, g3⟩
    dsimp only at g1 g2 g3
    subst g1
    refine ⟨(nI (26 + 3 * i + 3 * (n - 1 - i)), s2), ?_, g2, fun q hq => ?_⟩
    · simp (disch := omega) only [f_X7_remove_b1, g2, show 26 + 3 * (n - 1) ≤ 26 + 3 * i + 3 * (n - 1 - i) from by omega, px_l0, px_l1, px_l2, px_l3, px_l4, px_l5, px_l6, px_l9, px_l10, px_l14, px_l15, px_l23, px_l24, px_l25, px_l26, px_l29, px_l30, px_l32, px_l43, px_l45, px_l48, px_l57, px_l59, px_l60, px_l64, px_l100, px_l107, px_l116, px_l149, px_l150, px_l348, px_l464, px_l600, px_sa, nI_leI, nI_ltI, nI_eq, nI_add, pk_sub, pk_mul, pk_div, px_rm, nI_clamp, px_ck, px_eqm, px_meq, px_mm, px_mlt, px_mle, px_lem, px_ltm, px_mlem, Option.bind_some, px_b0, px_b1, px_ckb, px_if, px_if', ↓reduceIte]
    · dsimp only
      rw [g3 q hq, show 26 + 3 * i + 3 * (n - 1 - i) = 26 + 3 * (n - 1) by omega]) FU 0 (nI (26 + 3 * i), upd z 25 (nI (n - 1))) (Nat.zero_le _) (Nat.lt_of_le_of_lt (by omega : 3 * (n - 1 - i) - 0 ≤ 90) (by decide))
    ⟨rfl, show upd z 25 (nI (n - 1)) 25 = nI (n - 1) from px_ueq, fun q hq => by dsimp only; rw [px_une hq, if_neg (by omega)]⟩
  dsimp only at h2 h3
  have hR' : RM (n - 1) r (tkF K i) (tkF T i) (tkF M i) C s2 := by
    refine ⟨fun q hq => ?_, ?_, h2, fun q hq => ?_⟩
    · rw [h3 q (by omega), if_neg (by omega)]; exact hR.1 q hq
    · rw [h3 24 (by omega), if_neg (by omega)]; exact hR.2.1
    · rw [h3 (26 + 3 * q) (by omega), h3 (26 + 3 * q + 1) (by omega), h3 (26 + 3 * q + 2) (by omega)]
      by_cases hqi : q < i
      · rw [if_neg (by omega), if_neg (by omega), if_neg (by omega), tkF_lt hqi, tkF_lt hqi, tkF_lt hqi]
        exact hR.2.2.2 q (by omega)
      · rw [if_pos (by omega), if_pos (by omega), if_pos (by omega), tkF_ge hqi, tkF_ge hqi, tkF_ge hqi]
        have := hR.2.2.2 (q + 1) (by omega)
        rw [show 26 + 3 * (q + 1) = 26 + 3 * q + 3 by omega, show 26 + 3 * q + 3 + 1 = 26 + 3 * q + 1 + 3 by omega, show 26 + 3 * q + 3 + 2 = 26 + 3 * q + 2 + 3 by omega] at this
        exact this
  obtain ⟨w, w1, w2⟩ := lay_X7 hG'.1.1 (fun j hj => (hG'.1.2.2.1 j hj).2.2) hG'.2.1 hR' on wy
  refine ⟨s2, w, ?_, hR', w2⟩
  simp (disch := omega) only [f_X7_remove, h25, h1, w1, px_l0, px_l1, px_l2, px_l3, px_l4, px_l5, px_l6, px_l9, px_l10, px_l14, px_l15, px_l23, px_l24, px_l25, px_l26, px_l29, px_l30, px_l32, px_l43, px_l45, px_l48, px_l57, px_l59, px_l60, px_l64, px_l100, px_l107, px_l116, px_l149, px_l150, px_l348, px_l464, px_l600, px_sa, nI_leI, nI_ltI, nI_eq, nI_add, pk_sub, pk_mul, pk_div, px_rm, nI_clamp, px_ck, px_eqm, px_meq, px_mm, px_mlt, px_mle, px_lem, px_ltm, px_mlem, Option.bind_some, px_b0, px_b1, px_ckb, px_if, px_if', ↓reduceIte]
theorem e_take {NWru : Int32} {NWco : Int32} {NWKa : Nat → Int32} {NWTa : Nat → Int32} {NWMa : Nat → Int32} {NWCa : Nat → Int32} {BEru : Int32} {BEco : Int32} {BEKa : Nat → Int32} {BETa : Nat → Int32} {BEMa : Nat → Int32} {BECa : Nat → Int32} {CAow : Nat → Int32} {CApa : Nat → Int32} {PAco : Int32} {PAv : PV} {MOst : Int32} {MOza : Nat → Int32} {MObe : Nat → Int32} {MOon : Nat → Int32} {MOwy : Nat → Int32} (hA : RA NWru NWco NWKa NWTa NWMa NWCa CAow CApa MOza MOon MOwy) (hH : RH PAco PAv MOst MObe) (p0 : Int32) :
    ∃ oc om, f_X6_take NWru NWco NWKa NWTa NWMa NWCa BEru BEco BEKa BETa BEMa BECa CAow CApa PAco PAv p0 = some oc ∧ f_X7_take MOst MOza MObe MOon MOwy p0 = some om ∧ oc.1 = om.1 ∧ RA oc.2.1 oc.2.2.1 oc.2.2.2.1 oc.2.2.2.2.1 oc.2.2.2.2.2.1 oc.2.2.2.2.2.2.1 oc.2.2.2.2.2.2.2.2.2.2.2.2.2.1 oc.2.2.2.2.2.2.2.2.2.2.2.2.2.2.1 om.2.2.1 om.2.2.2.2.1 om.2.2.2.2.2 ∧ RH oc.2.2.2.2.2.2.2.2.2.2.2.2.2.2.2.1 oc.2.2.2.2.2.2.2.2.2.2.2.2.2.2.2.2 om.2.1 om.2.2.2.1 := by
  have same := And.intro hA hH
  obtain ⟨n, r, K, T, M, C, lay, hG, rfl, rfl, hRC, hRM, hLC, hLM⟩ := id hA
  have hn := hG.1.1
  unfold f_X6_take f_X7_take
  rcases a_cross hn hRM.2.2.1 p0 with ⟨i, hi, rfl, c0, m0⟩ | ⟨c0, m0⟩
  · obtain ⟨b, b0, b1, b2, b3, b4, b5, b6⟩ := c6_begin (nI r) (nI n) NWKa NWTa NWMa NWCa BEru BEco BEKa BETa BEMa BECa
    have hRV : RV b.1 b.2.1 b.2.2.1 b.2.2.2.1 b.2.2.2.2.1 b.2.2.2.2.2 MOza := by
      rw [b1, b2]
      exact hA.rv.congr b3 b4 b5 b6 (fun _ _ => rfl)
    obtain ⟨c, q, x1, x2, x3⟩ := RH_add hRV hH
    obtain ⟨lay', hG'⟩ := take_gg hG hi
    obtain ⟨ka, ta, ma, w, w1, w2, w3⟩ := c1_take (ow := CAow) (pa := CApa) hG hRC hi hG'
    obtain ⟨v, u, u1, u2, u3⟩ := c7_take hG hRM hi hG' MOon MOwy
    simp (disch := omega) only [c0, m0, b0, w1, u1, x2, c6_good (show n - 1 < 2 ^ 31 by omega) x1, u2.2.2.1, show ¬ (1 = 0) from by decide, px_l0, px_l1, px_l2, px_l3, px_l4, px_l5, px_l6, px_l9, px_l10, px_l14, px_l15, px_l23, px_l24, px_l25, px_l26, px_l29, px_l30, px_l32, px_l43, px_l45, px_l48, px_l57, px_l59, px_l60, px_l64, px_l100, px_l107, px_l116, px_l149, px_l150, px_l348, px_l464, px_l600, px_sa, nI_leI, nI_ltI, nI_eq, nI_add, pk_sub, pk_mul, pk_div, px_rm, nI_clamp, px_ck, px_eqm, px_meq, px_mm, px_mlt, px_mle, px_lem, px_ltm, px_mlem, Option.bind_some, px_b0, px_b1, px_ckb, px_if, px_if', ↓reduceIte]
    exact ⟨_, _, rfl, rfl, rfl, ⟨n - 1, r, _, _, _, C, lay', hG', rfl, rfl, w2, u2, w3, u3⟩, x3⟩
  · rw [c0, m0]
    exact ⟨_, _, rfl, rfl, rfl, same⟩
/-! shift -/
theorem shift_gg (hG : GG n r K T M C lay) {co ro : Nat} (h1 : co < 15) (h2 : ro < 10) : ∃ lay', GG n r K T (fun i => sh (M i) co ro) C lay' := by
  obtain ⟨hO, hL, hN⟩ := hG
  have hM : ∀ j, j < n → M j < 150 := fun j hj => (hO.2.2.1 j hj).2.2
  have hO' : OKs n r K T (fun i => sh (M i) co ro) C := ⟨hO.1, hO.2.1, fun j hj => ⟨(hO.2.2.1 j hj).1, (hO.2.2.1 j hj).2.1, sh_lt⟩, hO.2.2.2⟩
  obtain ⟨lay', hL'⟩ := LY.ex (fun j hj => (hO'.2.2.1 j hj).2.2) (NO_sh hM h1 h2 hL.no)
  exact ⟨lay', hO', hL', HC_sh hM h1 h2 hN⟩
theorem c1_shift (hG : GG n r K T M C lay) (hRC : RCa n K T M C NWKa NWTa NWMa NWCa) {co ro : Nat} (h1 : co < 15) (h2 : ro < 10) {lay' : Nat → Option (Nat × Nat)} (hG' : GG n r K T (fun i => sh (M i) co ro) C lay') :
    ∃ (ma : Nat → Int32) (w : (Nat → Int32) × (Nat → Int32)), f_X1_shiftAll (nI n) NWMa ow pa (nI co) (nI ro) = some (ma, w.1, w.2) ∧ RCa n K T (fun i => sh (M i) co ro) C NWKa NWTa ma NWCa ∧ LC lay' w.1 w.2 := by
  have hn := hG.1.1
  have hM : ∀ j, j < n → M j < 150 := fun j hj => (hG.1.2.2.1 j hj).2.2
  obtain ⟨⟨s1, s2⟩, g1, g2⟩ := lp_inv (f := f_X1_shiftAll_b1 (nI n) (nI co) (nI ro)) (fun k s => s.1 = nI k ∧ ∀ q, q < n → s.2 q = nI (if q < k then sh (M q) co ro else M q)) n (fun s => ∀ q, q < n → s.2 q = nI (sh (M q) co ro)) (by
    rintro k ⟨s1, s2⟩ hk ⟨g1, g2⟩
    dsimp only at g1 g2
    subst g1
    refine Or.inl ⟨(nI (k + 1), upd s2 k (nI (sh (M k) co ro))), ?_, rfl, fun q hq => ?_⟩
    · have e := g2 k hk
      rw [if_neg (Nat.lt_irrefl k)] at e
      simp (disch := omega) only [f_X1_shiftAll_b1, e, g0_sh (hM k hk) h1 h2, show ¬ n ≤ k from by omega, px_l0, px_l1, px_l2, px_l3, px_l4, px_l5, px_l6, px_l9, px_l10, px_l14, px_l15, px_l23, px_l24, px_l25, px_l26, px_l29, px_l30, px_l32, px_l43, px_l45, px_l48, px_l57, px_l59, px_l60, px_l64, px_l100, px_l107, px_l116, px_l149, px_l150, px_l348, px_l464, px_l600, px_sa, nI_leI, nI_ltI, nI_eq, nI_add, pk_sub, pk_mul, pk_div, px_rm, nI_clamp, px_ck, px_eqm, px_meq, px_mm, px_mlt, px_mle, px_lem, px_ltm, px_mlem, Option.bind_some, px_b0, px_b1, px_ckb, px_if, px_if', ↓reduceIte]
    · dsimp only
      by_cases hqk : q = k
      · subst hqk; rw [px_ueq, if_pos (by omega)]
      · rw [px_une hqk, g2 q hq]
        by_cases h4 : q < k
        · rw [if_pos h4, if_pos (by omega)]
        · rw [if_neg h4, if_neg (by omega)]) (by
    rintro ⟨s1, s2⟩ ⟨g1, g2⟩
    dsimp only at g1 g2
    subst g1
    refine ⟨(nI n, s2), ?_, fun q hq => ?_⟩
    · simp (disch := omega) only [f_X1_shiftAll_b1, Nat.le_refl, px_l0, px_l1, px_l2, px_l3, px_l4, px_l5, px_l6, px_l9, px_l10, px_l14, px_l15, px_l23, px_l24, px_l25, px_l26, px_l29, px_l30, px_l32, px_l43, px_l45, px_l48, px_l57, px_l59, px_l60, px_l64, px_l100, px_l107, px_l116, px_l149, px_l150, px_l348, px_l464, px_l600, px_sa, nI_leI, nI_ltI, nI_eq, nI_add, pk_sub, pk_mul, pk_div, px_rm, nI_clamp, px_ck, px_eqm, px_meq, px_mm, px_mlt, px_mle, px_lem, px_ltm, px_mlem, Option.bind_some, px_b0, px_b1, px_ckb, px_if, px_if', ↓reduceIte]
    · dsimp only
      rw [g2 q hq, if_pos hq]) FU 0 (nI 0, NWMa) (Nat.zero_le _) (Nat.lt_of_le_of_lt (by omega : n - 0 ≤ 30) (by decide)) ⟨rfl, fun q hq => by dsimp only; rw [(hRC.1 q hq).2.2, if_neg (Nat.not_lt_zero q)]⟩
  dsimp only at g2
  have hR' : RCa n K T (fun i => sh (M i) co ro) C NWKa NWTa s2 NWCa := ⟨fun q hq => ⟨(hRC.1 q hq).1, (hRC.1 q hq).2.1, g2 q hq⟩, hRC.2⟩
  obtain ⟨w, w1, w2⟩ := lay_X1 hG'.1.1 (fun j hj => (hG'.1.2.2.1 j hj).2.2) hG'.2.1 (fun j hj => (hR'.1 j hj).2.2) ow pa
  refine ⟨s2, w, ?_, hR', w2⟩
  simp (disch := omega) only [f_X1_shiftAll, g1, w1, px_l0, px_l1, px_l2, px_l3, px_l4, px_l5, px_l6, px_l9, px_l10, px_l14, px_l15, px_l23, px_l24, px_l25, px_l26, px_l29, px_l30, px_l32, px_l43, px_l45, px_l48, px_l57, px_l59, px_l60, px_l64, px_l100, px_l107, px_l116, px_l149, px_l150, px_l348, px_l464, px_l600, px_sa, nI_leI, nI_ltI, nI_eq, nI_add, pk_sub, pk_mul, pk_div, px_rm, nI_clamp, px_ck, px_eqm, px_meq, px_mm, px_mlt, px_mle, px_lem, px_ltm, px_mlem, Option.bind_some, px_b0, px_b1, px_ckb, px_if, px_if', ↓reduceIte]
theorem c7_shift (hG : GG n r K T M C lay) (hR : RM n r K T M C z) {co ro : Nat} (h1 : co < 15) (h2 : ro < 10) {lay' : Nat → Option (Nat × Nat)} (hG' : GG n r K T (fun i => sh (M i) co ro) C lay') :
    ∃ (v : Nat → Int32), lp (f_X7_shift_b1 (nI co) (nI ro)) FU (nI 0, z) = some (nI n, v) ∧ RM n r K T (fun i => sh (M i) co ro) C v := by
  have hn := hG.1.1
  have hM : ∀ j, j < n → M j < 150 := fun j hj => (hG.1.2.2.1 j hj).2.2
  obtain ⟨⟨s1, s2⟩, g1, g2, g3, g4⟩ := lp_inv (f := f_X7_shift_b1 (nI co) (nI ro)) (fun k s => s.1 = nI k ∧ (∀ q, q < 26 → s.2 q = z q) ∧ ∀ q, q < n → s.2 (26 + 3 * q) = nI (K q) ∧ s.2 (26 + 3 * q + 1) = nI (T q) ∧ s.2 (26 + 3 * q + 2) = nI (if q < k then sh (M q) co ro else M q)) n (fun s => s.1 = nI n ∧ (∀ q, q < 26 → s.2 q = z q) ∧ ∀ q, q < n → s.2 (26 + 3 * q) = nI (K q) ∧ s.2 (26 + 3 * q + 1) = nI (T q) ∧ s.2 (26 + 3 * q + 2) = nI (sh (M q) co ro)) (by
    rintro k ⟨s1, s2⟩ hk ⟨g1, g2, g3⟩
    dsimp only at g1 g2 g3
    subst g1
    refine Or.inl ⟨(nI (k + 1), upd s2 (26 + 3 * k + 2) (nI (sh (M k) co ro))), ?_, rfl, fun q hq => ?_, fun q hq => ?_⟩
    · have e := (g3 k hk).2.2
      rw [if_neg (Nat.lt_irrefl k)] at e
      have e25 : s2 25 = nI n := (g2 25 (by omega)).trans hR.2.2.1
      have em : f_X7_middleOf s2 (nI k) = some (nI (M k)) := by simp (disch := omega) only [f_X7_middleOf, e, px_l0, px_l1, px_l2, px_l3, px_l4, px_l5, px_l6, px_l9, px_l10, px_l14, px_l15, px_l23, px_l24, px_l25, px_l26, px_l29, px_l30, px_l32, px_l43, px_l45, px_l48, px_l57, px_l59, px_l60, px_l64, px_l100, px_l107, px_l116, px_l149, px_l150, px_l348, px_l464, px_l600, px_sa, nI_leI, nI_ltI, nI_eq, nI_add, pk_sub, pk_mul, pk_div, px_rm, nI_clamp, px_ck, px_eqm, px_meq, px_mm, px_mlt, px_mle, px_lem, px_ltm, px_mlem, Option.bind_some, px_b0, px_b1, px_ckb, px_if, px_if', ↓reduceIte]
      simp (disch := omega) only [f_X7_shift_b1, e25, em, g7_sh (hM k hk) h1 h2, show ¬ n ≤ k from by omega, px_l0, px_l1, px_l2, px_l3, px_l4, px_l5, px_l6, px_l9, px_l10, px_l14, px_l15, px_l23, px_l24, px_l25, px_l26, px_l29, px_l30, px_l32, px_l43, px_l45, px_l48, px_l57, px_l59, px_l60, px_l64, px_l100, px_l107, px_l116, px_l149, px_l150, px_l348, px_l464, px_l600, px_sa, nI_leI, nI_ltI, nI_eq, nI_add, pk_sub, pk_mul, pk_div, px_rm, nI_clamp, px_ck, px_eqm, px_meq, px_mm, px_mlt, px_mle, px_lem, px_ltm, px_mlem, Option.bind_some, px_b0, px_b1, px_ckb, px_if, px_if', ↓reduceIte]
    · dsimp only
      rw [px_une (by omega)]; exact g2 q hq
    · dsimp only
      obtain ⟨a, b, c⟩ := g3 q hq
      rw [px_une (show 26 + 3 * q ≠ 26 + 3 * k + 2 by omega), px_une (show 26 + 3 * q + 1 ≠ 26 + 3 * k + 2 by omega)]
      refine ⟨a, b, ?_⟩
      by_cases hqk : q = k
      · subst hqk; rw [px_ueq, if_pos (by omega)]
      · rw [px_une (by omega), c]
        by_cases h4 : q < k
        · rw [if_pos h4, if_pos (by omega)]
        · rw [if_neg h4, if_neg (by omega)]) (by
    rintro ⟨s1, s2⟩ ⟨g1, g2, g3⟩
    dsimp only at g1 g2 g3
    subst g1
    have e25 : s2 25 = nI n := (g2 25 (by omega)).trans hR.2.2.1
    refine ⟨(nI n, s2), ?_, rfl, g2, fun q hq => ?_⟩
    · simp (disch := omega) only [f_X7_shift_b1, e25, Nat.le_refl, px_l0, px_l1, px_l2, px_l3, px_l4, px_l5, px_l6, px_l9, px_l10, px_l14, px_l15, px_l23, px_l24, px_l25, px_l26, px_l29, px_l30, px_l32, px_l43, px_l45, px_l48, px_l57, px_l59, px_l60, px_l64, px_l100, px_l107, px_l116, px_l149, px_l150, px_l348, px_l464, px_l600, px_sa, nI_leI, nI_ltI, nI_eq, nI_add, pk_sub, pk_mul, pk_div, px_rm, nI_clamp, px_ck, px_eqm, px_meq, px_mm, px_mlt, px_mle, px_lem, px_ltm, px_mlem, Option.bind_some, px_b0, px_b1, px_ckb, px_if, px_if', ↓reduceIte]
    · dsimp only
      obtain ⟨a, b, c⟩ := g3 q hq
      rw [if_pos hq] at c
      exact ⟨a, b, c⟩) FU 0 (nI 0, z) (Nat.zero_le _) (Nat.lt_of_le_of_lt (by omega : n - 0 ≤ 30) (by decide)) ⟨rfl, fun _ _ => rfl, fun q hq => by
      dsimp only
      rw [if_neg (Nat.not_lt_zero q)]
      exact hR.2.2.2 q hq⟩
  dsimp only at g2 g3 g4
  subst g2
  exact ⟨s2, g1, fun q hq => (g3 q (by omega)).trans (hR.1 q hq), (g3 24 (by omega)).trans hR.2.1, (g3 25 (by omega)).trans hR.2.2.1, g4⟩
theorem e_shift {NWru : Int32} {NWco : Int32} {NWKa : Nat → Int32} {NWTa : Nat → Int32} {NWMa : Nat → Int32} {NWCa : Nat → Int32} {BEru : Int32} {BEco : Int32} {BEKa : Nat → Int32} {BETa : Nat → Int32} {BEMa : Nat → Int32} {BECa : Nat → Int32} {CAow : Nat → Int32} {CApa : Nat → Int32} {PAco : Int32} {PAv : PV} {MOst : Int32} {MOza : Nat → Int32} {MObe : Nat → Int32} {MOon : Nat → Int32} {MOwy : Nat → Int32} (hA : RA NWru NWco NWKa NWTa NWMa NWCa CAow CApa MOza MOon MOwy) (hH : RH PAco PAv MOst MObe) (p0 p1 : Int32) :
    ∃ oc om, f_X6_shift NWru NWco NWKa NWTa NWMa NWCa BEru BEco BEKa BETa BEMa BECa CAow CApa PAco PAv p0 p1 = some oc ∧ f_X7_shift MOst MOza MObe MOon MOwy p0 p1 = some om ∧ oc.1 = om.1 ∧ RA oc.2.1 oc.2.2.1 oc.2.2.2.1 oc.2.2.2.2.1 oc.2.2.2.2.2.1 oc.2.2.2.2.2.2.1 oc.2.2.2.2.2.2.2.2.2.2.2.2.2.1 oc.2.2.2.2.2.2.2.2.2.2.2.2.2.2.1 om.2.2.1 om.2.2.2.2.1 om.2.2.2.2.2 ∧ RH oc.2.2.2.2.2.2.2.2.2.2.2.2.2.2.2.1 oc.2.2.2.2.2.2.2.2.2.2.2.2.2.2.2.2 om.2.1 om.2.2.2.1 := by
  have same := And.intro hA hH
  unfold f_X6_shift f_X7_shift
  rcases a_in p0 (b := 14) (by omega) with ⟨co, hco, rfl, m0⟩ | ⟨h0, m0⟩
  · rcases a_in p1 (b := 9) (by omega) with ⟨ro, hro, rfl, m1⟩ | ⟨h1, m1⟩
    · obtain ⟨n, r, K, T, M, C, lay, hG, rfl, rfl, hRC, hRM, hLC, hLM⟩ := id hA
      have hn := hG.1.1
      obtain ⟨b, b0, b1, b2, b3, b4, b5, b6⟩ := c6_begin (nI r) (nI n) NWKa NWTa NWMa NWCa BEru BEco BEKa BETa BEMa BECa
      have hRV : RV b.1 b.2.1 b.2.2.1 b.2.2.2.1 b.2.2.2.2.1 b.2.2.2.2.2 MOza := by
        rw [b1, b2]
        exact hA.rv.congr b3 b4 b5 b6 (fun _ _ => rfl)
      obtain ⟨c, q, x1, x2, x3⟩ := RH_add hRV hH
      obtain ⟨lay', hG'⟩ := shift_gg hG (show co < 15 by omega) (show ro < 10 by omega)
      obtain ⟨ma, w, w1, w2, w3⟩ := c1_shift (ow := CAow) (pa := CApa) hG hRC (show co < 15 by omega) (show ro < 10 by omega) hG'
      obtain ⟨v, v1, v2⟩ := c7_shift hG hRM (show co < 15 by omega) (show ro < 10 by omega) hG'
      obtain ⟨u, u1, u2⟩ := lay_X7 hG'.1.1 (fun j hj => (hG'.1.2.2.1 j hj).2.2) hG'.2.1 v2 MOon MOwy
      simp (disch := omega) only [m0, m1, b0, w1, v1, u1, x2, c6_good (show n < 2 ^ 31 by omega) x1, v2.2.2.1, show ¬ (1 = 0) from by decide, show ¬ 15 ≤ co from by omega, show ro < 10 from by omega, Nat.not_lt_zero, px_l0, px_l1, px_l2, px_l3, px_l4, px_l5, px_l6, px_l9, px_l10, px_l14, px_l15, px_l23, px_l24, px_l25, px_l26, px_l29, px_l30, px_l32, px_l43, px_l45, px_l48, px_l57, px_l59, px_l60, px_l64, px_l100, px_l107, px_l116, px_l149, px_l150, px_l348, px_l464, px_l600, px_sa, nI_leI, nI_ltI, nI_eq, nI_add, pk_sub, pk_mul, pk_div, px_rm, nI_clamp, px_ck, px_eqm, px_meq, px_mm, px_mlt, px_mle, px_lem, px_ltm, px_mlem, Option.bind_some, px_b0, px_b1, px_ckb, px_if, px_if', ↓reduceIte]
      exact ⟨_, _, rfl, rfl, rfl, ⟨n, r, _, _, _, C, lay', hG', rfl, rfl, w2, v2, w3, u2⟩, x3⟩
    · have m1' : f_X7_in p1 0 9 = some (nI 0) := m1
      simp (disch := omega) only [m0, m1, show ¬ (1 = 0) from by decide, show ¬ 15 ≤ co from by omega, Nat.not_lt_zero, px_l0, px_l1, px_l2, px_l3, px_l4, px_l5, px_l6, px_l9, px_l10, px_l14, px_l15, px_l23, px_l24, px_l25, px_l26, px_l29, px_l30, px_l32, px_l43, px_l45, px_l48, px_l57, px_l59, px_l60, px_l64, px_l100, px_l107, px_l116, px_l149, px_l150, px_l348, px_l464, px_l600, px_sa, nI_leI, nI_ltI, nI_eq, nI_add, pk_sub, pk_mul, pk_div, px_rm, nI_clamp, px_ck, px_eqm, px_meq, px_mm, px_mlt, px_mle, px_lem, px_ltm, px_mlem, Option.bind_some, px_b0, px_b1, px_ckb, px_if, px_if', ↓reduceIte]
      rcases h1 with h1 | h1
      · simp only [h1, ↓reduceIte]
        exact ⟨_, _, rfl, rfl, rfl, same⟩
      · have h3 : ¬ p1 < nI 10 := Int32.not_lt.mpr h1
        have h3' : ¬ p1 < (10 : Int32) := h3
        by_cases h4 : p1 < nI 0
        · simp only [h4, ↓reduceIte]
          exact ⟨_, _, rfl, rfl, rfl, same⟩
        · simp only [h3, h3', h4, ↓reduceIte]
          exact ⟨_, _, rfl, rfl, rfl, same⟩
  · have m0' : f_X7_in p0 0 14 = some (nI 0) := m0
    simp only [m0', Option.bind_some]
    rcases h0 with h0 | h0
    · simp only [if_pos (show p0 < 0 from h0)]
      exact ⟨_, _, rfl, rfl, rfl, same⟩
    · by_cases h4 : p0 < 0
      · simp only [h4, ↓reduceIte]
        exact ⟨_, _, rfl, rfl, rfl, same⟩
      · have h5 : (15 : Int32) ≤ p0 := h0
        simp only [h5, h4, ↓reduceIte]
        exact ⟨_, _, rfl, rfl, rfl, same⟩
end P32
