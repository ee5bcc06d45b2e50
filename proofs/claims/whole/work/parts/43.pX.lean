/-! BOTH COUNTS OF GROUPS ARE ONE; THE TOTALS -/
def lbC (lay : Nat → Option (Nat × Nat)) (L : Nat → Nat) (x : Nat) : Nat := match lay x with
  | some (i, _) => L i
  | none => 0
section P43
variable {n r : Nat} {K T M C : Nat → Nat} {lay : Nat → Option (Nat × Nat)} {NWKa NWTa NWMa NWCa ow pa z on wy : Nat → Int32}
theorem lbC_of {L : Nat → Nat} {x i d : Nat} (h : lay x = some (i, d)) : lbC lay L x = L i := by unfold lbC; rw [h]
theorem lb_A (hO : OKs n r K T M C) (hL : LY n M lay) {L : Nat → Nat} (hP : ∀ a b, a < n → b < a → atB lay (M a) (nI a) b = true → L a = L b) : ∀ x s, x < 150 → s < 4 → frB lay x = false → frB lay (bes x s) = false → lbC lay L (bes x s) = lbC lay L x := by
  intro x s hx hs h1 h2
  have hn := hO.1
  have hM : ∀ i, i < n → M i < 150 := fun i hi => (hO.2.2.1 i hi).2.2
  obtain ⟨i, d, e1⟩ := fr_ex h1
  obtain ⟨j, e, e2⟩ := fr_ex h2
  rw [lbC_of e1, lbC_of e2]
  obtain ⟨g1, g2, g3⟩ := hL.2 x i d hx e1
  obtain ⟨g4, g5, g6⟩ := hL.2 _ j e (bes_lt x hx s hs) e2
  by_cases hij : i = j
  · rw [hij]
  · have hd : d < 4 := by
      rcases (show d < 4 ∨ d = 4 by omega) with h | h
      · exact h
      · exfalso
        subst h
        rw [cp_4] at g3
        have := hL.1 i s g1 (by omega)
        rw [cp_d hs, g3, e2] at this
        exact hij (congrArg Prod.fst (Option.some.inj this)).symm
    have he : e < 4 := by
      rcases (show e < 4 ∨ e = 4 by omega) with h | h
      · exact h
      · exfalso
        subst h
        rw [cp_4] at g6
        have := hL.1 j ((s + 2) % 4) g4 (by omega)
        rw [cp_d (by omega), g6, bes_inv x hx s hs, e1] at this
        exact hij (congrArg Prod.fst (Option.some.inj this))
    have hat : atB lay (M i) (nI i) j = true := (atB_iff hL hn hM g1 g4).mpr ⟨hij, d, e, s, hd, he, hs, by rw [g3, g6]⟩
    rcases Nat.lt_or_ge j i with h | h
    · exact (hP i j g1 h hat).symm
    · exact hP j i g4 (by omega) (atB_comm hL hn hM g1 g4 hat)
theorem lb_B (hO : OKs n r K T M C) (hL : LY n M lay) {L : Nat → Nat} (hC : conn n M lay L) : ∀ X, clsd lay X → ∀ x y, x < 150 → y < 150 → frB lay x = false → frB lay y = false → lbC lay L x = lbC lay L y → X x = true → X y = true := by
  intro X hX x y hx hy h1 h2 h3 h4
  have hM : ∀ i, i < n → M i < 150 := fun i hi => (hO.2.2.1 i hi).2.2
  obtain ⟨i, d, e1⟩ := fr_ex h1
  obtain ⟨j, e, e2⟩ := fr_ex h2
  rw [lbC_of e1, lbC_of e2] at h3
  obtain ⟨g1, g2, g3⟩ := hL.2 x i d hx e1
  obtain ⟨g4, g5, g6⟩ := hL.2 y j e hy e2
  rw [← g3] at h4
  rw [← g6]
  exact (cl_mid hL hM hX g4 g5).mpr (hC X hX i j g1 g4 h3 ((cl_mid hL hM hX g1 g2).mp h4))
theorem lb_count (hO : OKs n r K T M C) (hL : LY n M lay) {L : Nat → Nat} (h : LBL n L) {S : Nat → Bool} (h1 : ∀ c, S c = true → c < 150 ∧ frB lay c = false) (h2 : ∀ x, x < 150 → frB lay x = false → ∃ c, S c = true ∧ lbC lay L c = lbC lay L x) (h3 : ∀ c c', S c = true → S c' = true → lbC lay L c = lbC lay L c' → c = c') : smf (fun c => bN (S c)) 150 = fixN n L := by
  have hM : ∀ i, i < n → M i < 150 := fun i hi => (hO.2.2.1 i hi).2.2
  have e1 : smf (fun c => bN (S c)) 150 = smf (fun c => smf (fun i => bN (S c && decide (lbC lay L c = i))) n) 150 := by
    refine smf_congr (fun c hc => ?_)
    cases hS : S c with
    | false => exact (smf_zero (fun i _ => rfl)).symm
    | true =>
      obtain ⟨i, d, q1⟩ := fr_ex (h1 c hS).2
      obtain ⟨g1, -, -⟩ := hL.2 c i d hc q1
      rw [smf_one (k := lbC lay L c) (by rw [lbC_of q1]; exact (h i g1).1) (fun j _ hj => by rw [decide_eq_false (Ne.symm hj)]; rfl), decide_eq_true rfl]
      rfl
  rw [e1, smf_swap]
  unfold fixN
  refine smf_congr (fun i hi => ?_)
  by_cases hf : L i = i
  · rw [decide_eq_true hf]
    have hl := hL.1 i 4 hi (by omega)
    rw [cp_4] at hl
    obtain ⟨c, c1, c2⟩ := h2 (M i) (hM i hi) (fr_of hl)
    rw [lbC_of hl, hf] at c2
    rw [smf_one (k := c) (h1 c c1).1 (fun c' _ hc' => by
      cases hS : S c' with
      | false => rfl
      | true =>
        rw [decide_eq_false (fun q => hc' (h3 c' c hS c1 (q.trans c2.symm)))]
        rfl), c1, decide_eq_true c2]
    rfl
  · rw [decide_eq_false hf]
    refine smf_zero (fun c hc => ?_)
    cases hS : S c with
    | false => rfl
    | true =>
      obtain ⟨j, d, q1⟩ := fr_ex (h1 c hS).2
      obtain ⟨g1, -, -⟩ := hL.2 c j d hc q1
      rw [decide_eq_false (fun q => hf (by
        rw [lbC_of q1] at q
        rw [← q]; exact (h j g1).2))]
      rfl
theorem gr_both (hO : OKs n r K T M C) (hL : LY n M lay) (hl : LC lay ow pa) (hR : RM n r K T M C z) (hm : LM lay on wy) (re qu mk : Nat → Int32) :
    ∃ (a : Nat) (re' qu' mk' : Nat → Int32), f_X5_countRegions ow re qu (nI 0) = some (nI a, re', qu') ∧ f_X7_groups z on wy mk = some (nI a, mk') := by
  obtain ⟨L, mk', a1, a2, a3, a4⟩ := gm_all hO hL hR hm mk
  obtain ⟨S, re', qu', b1, b2, b3, b4⟩ := gr_count hL hO.1 hl (lb_A hO hL a4) (lb_B hO hL a3) re qu
  refine ⟨fixN n L, re', qu', mk', ?_, a1⟩
  rw [b1, lb_count hO hL a2 b2 b3 b4]
end P43
theorem e_total {NWru : Int32} {NWco : Int32} {NWKa : Nat → Int32} {NWTa : Nat → Int32} {NWMa : Nat → Int32} {NWCa : Nat → Int32} {CAow : Nat → Int32} {CApa : Nat → Int32} {SVre : Nat → Int32} {SVqu : Nat → Int32} {TXle : Int32} {PAco : Int32} {MOst : Int32} {MOln : Int32} {MOza : Nat → Int32} {MOon : Nat → Int32} {MOwy : Nat → Int32} {MOmk : Nat → Int32} {MOqu : Nat → Int32} {PAv : PV} {MObe : Nat → Int32} {TXsi MOtx : Nat → Int32} (hA : RA NWru NWco NWKa NWTa NWMa NWCa CAow CApa MOza MOon MOwy) (hH : RH PAco PAv MOst MObe) (hT : RT TXle TXsi MOln MOtx) (p0 : Int32) : ∃ oc om, f_X6_total NWru NWco NWKa NWTa NWMa NWCa CAow CApa SVre SVqu TXle PAco p0 = some oc ∧ f_X7_total MOst MOln MOza MOon MOwy MOmk MOqu p0 = some om ∧ oc.1 = om.1 := by
  obtain ⟨n, r, K, T, M, C, lay, hG, rfl, rfl, hRC, hRM, hLC, hLM⟩ := id hA
  obtain ⟨hO, hL, hN⟩ := id hG
  obtain ⟨h, hh, rfl, rfl, -⟩ := hH
  obtain ⟨k, hk, rfl, rfl, -⟩ := hT
  have hn := hO.1
  have e24 : MOza (24 : Int32).toNatClampNeg = nI r := hRM.2.1
  have e25 : MOza (25 : Int32).toNatClampNeg = nI n := hRM.2.2.1
  have k24 : ∀ {t : Option (Int32 × (Nat → Int32) × (Nat → Int32))}, ck 24 116 t = t := fun {t} => px_ck (i := 24) (N := 116) (by omega) (by omega)
  have k25 : ∀ {t : Option (Int32 × (Nat → Int32) × (Nat → Int32))}, ck 25 116 t = t := fun {t} => px_ck (i := 25) (N := 116) (by omega) (by omega)
  unfold f_X6_total f_X7_total
  by_cases h0 : p0 = 0
  · simp only [if_pos h0, k25, e25]
    exact ⟨_, _, rfl, rfl, rfl⟩
  by_cases h1 : p0 = 1
  · simp only [if_neg h0, if_pos h1, k24, e24]
    exact ⟨_, _, rfl, rfl, rfl⟩
  by_cases h2 : p0 = 2
  · simp only [if_neg h0, if_neg h1, if_pos h2, k25, e25]
    exact ⟨_, _, rfl, rfl, rfl⟩
  by_cases h3 : p0 = 3
  · have e7 : f_X7_allTouches MOza MOon MOwy 0 = _ := w7_all hO hL hRM hLM (w := 0) (by omega)
    simp only [if_neg h0, if_neg h1, if_neg h2, if_pos h3, w5_all0 hO hL hRC hLC, e7, Option.bind_some]
    exact ⟨_, _, rfl, rfl, rfl⟩
  by_cases h4 : p0 = 4
  · have e7 : f_X7_allTouches MOza MOon MOwy 1 = _ := w7_all hO hL hRM hLM (w := 1) (by omega)
    simp only [if_neg h0, if_neg h1, if_neg h2, if_neg h3, if_pos h4, w5_all1 hO hL hRC hLC, e7, Option.bind_some]
    exact ⟨_, _, rfl, rfl, rfl⟩
  by_cases h5 : p0 = 5
  · obtain ⟨a, g, re1, qu1, re2, qu2, mk1, qv1, x, c1, c2, u, c3, c4⟩ := rg_all hL hn hLC hLM SVre SVqu MOmk MOqu
    have c1' : f_X5_countRegions CAow SVre SVqu 1 = _ := c1
    have e7 : f_X7_regions MOon MOmk MOqu 0 = some (nI a, mk1, qv1) := by
      unfold f_X7_regions
      rw [px_l0, c3, Option.bind_some, c4]
      rfl
    simp only [if_neg h0, if_neg h1, if_neg h2, if_neg h3, if_neg h4, if_pos h5, c1', e7, Option.bind_some]
    exact ⟨_, _, rfl, rfl, rfl⟩
  by_cases h6 : p0 = 6
  · obtain ⟨a, g, re1, qu1, re2, qu2, mk1, qv1, x, c1, c2, u, c3, c4⟩ := rg_all hL hn hLC hLM SVre SVqu MOmk MOqu
    have e7 : f_X7_regions MOon MOmk MOqu 1 = some (nI g, mk1, qv1) := by
      unfold f_X7_regions
      rw [px_l0, c3, Option.bind_some, c4]
      rfl
    simp only [if_neg h0, if_neg h1, if_neg h2, if_neg h3, if_neg h4, if_neg h5, if_pos h6, c2, e7, Option.bind_some]
    exact ⟨_, _, rfl, rfl, rfl⟩
  by_cases h7 : p0 = 7
  · obtain ⟨a, re', qu', mk', c1, c2⟩ := gr_both hO hL hLC hRM hLM SVre SVqu MOmk
    have c1' : f_X5_countRegions CAow SVre SVqu 0 = _ := c1
    simp only [if_neg h0, if_neg h1, if_neg h2, if_neg h3, if_neg h4, if_neg h5, if_neg h6, if_pos h7, c1', c2, Option.bind_some]
    exact ⟨_, _, rfl, rfl, rfl⟩
  by_cases h8 : p0 = 8
  · simp only [if_neg h0, if_neg h1, if_neg h2, if_neg h3, if_neg h4, if_neg h5, if_neg h6, if_neg h7, if_pos h8, w5_alo hO hL hRC hLC, w7_alo hO hL hRM hLM, Option.bind_some]
    exact ⟨_, _, rfl, rfl, rfl⟩
  by_cases h9 : p0 = 9
  · simp only [if_neg h0, if_neg h1, if_neg h2, if_neg h3, if_neg h4, if_neg h5, if_neg h6, if_neg h7, if_neg h8, if_pos h9, f_X3_count, Option.bind_some]
    exact ⟨_, _, rfl, rfl, rfl⟩
  by_cases h10 : p0 = 10
  · simp only [if_neg h0, if_neg h1, if_neg h2, if_neg h3, if_neg h4, if_neg h5, if_neg h6, if_neg h7, if_neg h8, if_neg h9, if_pos h10, f_X2_length, Option.bind_some]
    exact ⟨_, _, rfl, rfl, rfl⟩
  simp only [if_neg h0, if_neg h1, if_neg h2, if_neg h3, if_neg h4, if_neg h5, if_neg h6, if_neg h7, if_neg h8, if_neg h9, if_neg h10]
  exact ⟨_, _, rfl, rfl, rfl⟩
