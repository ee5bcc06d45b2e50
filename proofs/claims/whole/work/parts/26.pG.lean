/-! STATES IN RELATION -/
def RV (ru co : Int32) (Ka Ta Ma Ca : Nat → Int32) (z : Nat → Int32) : Prop := ∃ (n r : Nat) (K T M C : Nat → Nat), OKs n r K T M C ∧ NO n M ∧ ¬ HC n r K T M C ∧ ru = nI r ∧ co = nI n ∧ RCa n K T M C Ka Ta Ma Ca ∧ RM n r K T M C z
def GG (n r : Nat) (K T M C : Nat → Nat) (lay : Nat → Option (Nat × Nat)) : Prop := OKs n r K T M C ∧ LY n M lay ∧ ¬ HC n r K T M C
def RA (NWru NWco : Int32) (NWKa NWTa NWMa NWCa CAow CApa : Nat → Int32) (MOza MOon MOwy : Nat → Int32) : Prop := ∃ (n r : Nat) (K T M C : Nat → Nat) (lay : Nat → Option (Nat × Nat)), GG n r K T M C lay ∧ NWru = nI r ∧ NWco = nI n ∧ RCa n K T M C NWKa NWTa NWMa NWCa ∧ RM n r K T M C MOza ∧ LC lay CAow CApa ∧ LM lay MOon MOwy
def pvi (v : PV) (j : Nat) : SA := match j with
  | 0 => v.1
  | 1 => v.2.1
  | 2 => v.2.2.1
  | _ => v.2.2.2
def RVs (e : SA) (z : Nat → Int32) : Prop := RV e.2.1 e.2.2.1 e.2.2.2.1 e.2.2.2.2.1 e.2.2.2.2.2.1 e.2.2.2.2.2.2 z
def RH (PAco : Int32) (PAv : PV) (MOst : Int32) (MObe : Nat → Int32) : Prop := ∃ h : Nat, h ≤ 4 ∧ PAco = nI h ∧ MOst = nI h ∧ ∀ j, j < h → RVs (pvi PAv j) (fun i => MObe (116 * j + i))
def RS (XXhs SNru SNco : Int32) (SNKa SNTa SNMa SNCa : Nat → Int32) (MOik : Int32) (MOke : Nat → Int32) : Prop := (XXhs = nI 0 ∧ MOik = nI 0) ∨ (XXhs = nI 1 ∧ MOik = nI 1 ∧ RV SNru SNco SNKa SNTa SNMa SNCa MOke)
def RT (TXle : Int32) (TXsi : Nat → Int32) (MOln : Int32) (MOtx : Nat → Int32) : Prop := ∃ k : Nat, k ≤ 60 ∧ TXle = nI k ∧ MOln = nI k ∧ ∀ i, i < k → TXsi i = MOtx i ∧ ∃ v : Nat, v ≤ 65535 ∧ MOtx i = nI v
theorem RM.congr {n r : Nat} {K T M C : Nat → Nat} {z w : Nat → Int32} (hn : n ≤ 30) (h : RM n r K T M C z) (hw : ∀ i, i < 116 → w i = z i) : RM n r K T M C w := by
  obtain ⟨h1, h2, h3, h4⟩ := h
  refine ⟨fun i hi => (hw i (by omega)).trans (h1 i hi), (hw 24 (by omega)).trans h2, (hw 25 (by omega)).trans h3, fun i hi => ?_⟩
  obtain ⟨a, b, c⟩ := h4 i hi
  exact ⟨(hw _ (by omega)).trans a, (hw _ (by omega)).trans b, (hw _ (by omega)).trans c⟩
theorem RCa.congr {n : Nat} {K T M C : Nat → Nat} {a b c d a' b' c' d' : Nat → Int32} (hn : n ≤ 30) (h : RCa n K T M C a b c d) (h1 : ∀ i, i < 30 → a' i = a i) (h2 : ∀ i, i < 30 → b' i = b i) (h3 : ∀ i, i < 30 → c' i = c i) (h4 : ∀ i, i < 24 → d' i = d i) : RCa n K T M C a' b' c' d' :=
  ⟨fun i hi => ⟨(h1 i (by omega)).trans (h.1 i hi).1, (h2 i (by omega)).trans (h.1 i hi).2.1, (h3 i (by omega)).trans (h.1 i hi).2.2⟩, fun i hi => (h4 i hi).trans (h.2 i hi)⟩
theorem RV.congr {ru co : Int32} {a b c d a' b' c' d' z w : Nat → Int32} (h : RV ru co a b c d z) (h1 : ∀ i, i < 30 → a' i = a i) (h2 : ∀ i, i < 30 → b' i = b i) (h3 : ∀ i, i < 30 → c' i = c i) (h4 : ∀ i, i < 24 → d' i = d i) (hw : ∀ i, i < 116 → w i = z i) : RV ru co a' b' c' d' w := by
  obtain ⟨n, r, K, T, M, C, g1, g2, g3, g4, g5, g6, g7⟩ := h
  exact ⟨n, r, K, T, M, C, g1, g2, g3, g4, g5, g6.congr g1.1 h1 h2 h3 h4, g7.congr g1.1 hw⟩
theorem RA.rv {NWru NWco : Int32} {NWKa NWTa NWMa NWCa CAow CApa : Nat → Int32} {MOza MOon MOwy : Nat → Int32} (h : RA NWru NWco NWKa NWTa NWMa NWCa CAow CApa MOza MOon MOwy) : RV NWru NWco NWKa NWTa NWMa NWCa MOza := by
  obtain ⟨n, r, K, T, M, C, lay, ⟨g1, g2, g3⟩, g4, g5, g6, g7, g8, g9⟩ := h
  exact ⟨n, r, K, T, M, C, g1, g2.no, g3, g4, g5, g6, g7⟩
/-- a state of values, laid out by both -/
theorem RV.out {ru co : Int32} {Ka Ta Ma Ca z : Nat → Int32} (h : RV ru co Ka Ta Ma Ca z) (ow pa on wy : Nat → Int32) : ∃ c m : (Nat → Int32) × (Nat → Int32), f_X1_layOut co Ma ow pa = some c ∧ f_X7_draw z on wy = some m ∧ RA ru co Ka Ta Ma Ca c.1 c.2 z m.1 m.2 := by
  obtain ⟨n, r, K, T, M, C, g1, g2, g3, rfl, rfl, g6, g7⟩ := h
  have hM : ∀ i, i < n → M i < 150 := fun i hi => (g1.2.2.1 i hi).2.2
  obtain ⟨lay, hL⟩ := LY.ex hM g2
  obtain ⟨c, c1, c2⟩ := lay_X1 g1.1 hM hL (fun i hi => (g6.1 i hi).2.2) ow pa
  obtain ⟨m, m1, m2⟩ := lay_X7 g1.1 hM hL g7 on wy
  exact ⟨c, m, c1, m1, n, r, K, T, M, C, lay, ⟨g1, hL, g3⟩, rfl, rfl, g6, g7, c2, m2⟩
/-! copies -/
theorem px_cpy {f g : Nat → Int32} {n i : Nat} (hi : i < n) (hn : n < 2 ^ 31) : va_cpy f g (0 : Int32).toNatClampNeg (0 : Int32).toNatClampNeg (nI n).toNatClampNeg i = f i := by
  rw [px_l0, nI_clamp (by omega), nI_clamp hn, pk_cpy_in (by omega) (by omega)]
  simp
theorem px_cpyloop {f : Int32 × (Nat → Int32) → Option ((Int32 × (Nat → Int32)) ⊕ (Int32 × (Nat → Int32)))} (src : Nat → Int32) (e : Nat) (he : e < 1000)
    (hs : ∀ i t, i < e → f (nI i, t) = some (.inl (nI (i + 1), upd t i (src i)))) (hx : ∀ t, f (nI e, t) = some (.inr (nI e, t))) (t0 : Nat → Int32) :
    ∃ w : Nat → Int32, lp f FU (nI 0, t0) = some (nI e, w) ∧ ∀ i, i < e → w i = src i := by
  obtain ⟨r, h1, h2⟩ := lp_inv (f := f) (fun i s => s.1 = nI i ∧ ∀ k, k < i → s.2 k = src k) e (fun r => r.1 = nI e ∧ ∀ k, k < e → r.2 k = src k) (by
    rintro i ⟨s1, s2⟩ hi ⟨h1, h2⟩
    dsimp only at h1 h2
    subst h1
    refine Or.inl ⟨_, hs i s2 hi, rfl, fun k hk => ?_⟩
    dsimp only
    rw [px_upd]
    split
    · rename_i h; rw [h]
    · exact h2 k (by omega)) (by
    rintro ⟨s1, s2⟩ ⟨h1, h2⟩
    dsimp only at h1 h2
    subst h1
    exact ⟨_, hx s2, rfl, h2⟩) FU 0 (nI 0, t0) (Nat.zero_le _) (by show e - 0 < 1000; omega) ⟨rfl, fun k hk => absurd hk (Nat.not_lt_zero k)⟩
  exact ⟨r.2, by rw [h1, ← h2.1], h2.2⟩
theorem c7_aside (z t : Nat → Int32) : ∃ w : Nat → Int32, f_X7_putAside z t = some w ∧ ∀ i, i < 116 → w i = z i := by
  obtain ⟨w, h1, h2⟩ := px_cpyloop (f := f_X7_putAside_b1 z) z 116 (by omega) (fun i t hi => by simp (disch := omega) only [f_X7_putAside_b1, show ¬ 116 ≤ i from by omega, px_l0, px_l1, px_l2, px_l3, px_l4, px_l5, px_l6, px_l9, px_l10, px_l14, px_l15, px_l23, px_l24, px_l25, px_l26, px_l29, px_l30, px_l32, px_l43, px_l45, px_l48, px_l57, px_l59, px_l60, px_l64, px_l100, px_l107, px_l116, px_l149, px_l150, px_l348, px_l464, px_l600, px_sa, nI_leI, nI_ltI, nI_eq, nI_add, pk_sub, pk_mul, pk_div, px_rm, nI_clamp, px_ck, px_eqm, px_meq, px_mm, px_mlt, px_mle, px_lem, px_ltm, px_mlem, Option.bind_some, px_b0, px_b1, px_ckb, px_if, px_if', ↓reduceIte]) (fun t => by simp (disch := omega) only [f_X7_putAside_b1, Nat.le_refl, px_l0, px_l1, px_l2, px_l3, px_l4, px_l5, px_l6, px_l9, px_l10, px_l14, px_l15, px_l23, px_l24, px_l25, px_l26, px_l29, px_l30, px_l32, px_l43, px_l45, px_l48, px_l57, px_l59, px_l60, px_l64, px_l100, px_l107, px_l116, px_l149, px_l150, px_l348, px_l464, px_l600, px_sa, nI_leI, nI_ltI, nI_eq, nI_add, pk_sub, pk_mul, pk_div, px_rm, nI_clamp, px_ck, px_eqm, px_meq, px_mm, px_mlt, px_mle, px_lem, px_ltm, px_mlem, Option.bind_some, px_b0, px_b1, px_ckb, px_if, px_if', ↓reduceIte]) t
  refine ⟨w, ?_, h2⟩
  unfold f_X7_putAside
  rw [px_l0, h1]; rfl
theorem c7_back (as z on wy : Nat → Int32) : ∃ w : Nat → Int32, (∀ i, i < 116 → w i = as i) ∧ f_X7_putBack z as on wy = (f_X7_draw w on wy).bind fun r5 => some (w, r5.1, r5.2) := by
  obtain ⟨w, h1, h2⟩ := px_cpyloop (f := f_X7_putBack_b1 as) as 116 (by omega) (fun i t hi => by simp (disch := omega) only [f_X7_putBack_b1, show ¬ 116 ≤ i from by omega, px_l0, px_l1, px_l2, px_l3, px_l4, px_l5, px_l6, px_l9, px_l10, px_l14, px_l15, px_l23, px_l24, px_l25, px_l26, px_l29, px_l30, px_l32, px_l43, px_l45, px_l48, px_l57, px_l59, px_l60, px_l64, px_l100, px_l107, px_l116, px_l149, px_l150, px_l348, px_l464, px_l600, px_sa, nI_leI, nI_ltI, nI_eq, nI_add, pk_sub, pk_mul, pk_div, px_rm, nI_clamp, px_ck, px_eqm, px_meq, px_mm, px_mlt, px_mle, px_lem, px_ltm, px_mlem, Option.bind_some, px_b0, px_b1, px_ckb, px_if, px_if', ↓reduceIte]) (fun t => by simp (disch := omega) only [f_X7_putBack_b1, Nat.le_refl, px_l0, px_l1, px_l2, px_l3, px_l4, px_l5, px_l6, px_l9, px_l10, px_l14, px_l15, px_l23, px_l24, px_l25, px_l26, px_l29, px_l30, px_l32, px_l43, px_l45, px_l48, px_l57, px_l59, px_l60, px_l64, px_l100, px_l107, px_l116, px_l149, px_l150, px_l348, px_l464, px_l600, px_sa, nI_leI, nI_ltI, nI_eq, nI_add, pk_sub, pk_mul, pk_div, px_rm, nI_clamp, px_ck, px_eqm, px_meq, px_mm, px_mlt, px_mle, px_lem, px_ltm, px_mlem, Option.bind_some, px_b0, px_b1, px_ckb, px_if, px_if', ↓reduceIte]) z
  refine ⟨w, h2, ?_⟩
  unfold f_X7_putBack
  rw [px_l0, h1, Option.bind_some]
theorem RVs_cp {BEru BEco : Int32} {BEKa BETa BEMa BECa FRa : Nat → Int32} (h : RV BEru BEco BEKa BETa BEMa BECa FRa) (e : SA) {w : Nat → Int32} (hw : ∀ i, i < 116 → w i = FRa i) : RVs (pv_cp e BEru BEco BEKa BETa BEMa BECa) w :=
  RV.congr h (fun i hi => px_cpy (n := 30) hi (by omega)) (fun i hi => px_cpy (n := 30) hi (by omega)) (fun i hi => px_cpy (n := 30) hi (by omega)) (fun i hi => px_cpy (n := 24) hi (by omega)) hw
theorem RH_add {BEru BEco : Int32} {BEKa BETa BEMa BECa FRa : Nat → Int32} {PAco : Int32} {PAv : PV} {MOst : Int32} {MObe : Nat → Int32} (h : RV BEru BEco BEKa BETa BEMa BECa FRa) (hH : RH PAco PAv MOst MObe) :
    ∃ (c : Int32 × PV) (m : Int32 × (Nat → Int32)), f_X3_add BEru BEco BEKa BETa BEMa BECa PAco PAv = some c ∧ f_X7_record FRa MOst MObe = some m ∧ RH c.1 c.2 m.1 m.2 := by
  obtain ⟨k, hk, rfl, rfl, hv⟩ := hH
  -- one more state behind the first k (k < 4)
  have key : ∀ (k : Nat) (v : PV) (be : Nat → Int32), k < 4 → (∀ j, j < k → RVs (pvi v j) (fun i => be (116 * j + i))) →
      ∃ (v' : PV) (w : Nat → Int32), pv_set v (nI k) (fun e => pv_cp e BEru BEco BEKa BETa BEMa BECa) = some v' ∧ (lp (f_X7_record_b2 FRa (nI k, be)) FU (nI 0, be) = some (nI 116, w)) ∧ RH (nI (k + 1)) v' (nI (k + 1)) w := by
    intro k v be hk hv
    obtain ⟨r, h1, h2⟩ := lp_inv (f := f_X7_record_b2 FRa (nI k, be)) (fun i s => s.1 = nI i ∧ ∀ q, s.2 q = if 116 * k ≤ q ∧ q < 116 * k + i then FRa (q - 116 * k) else be q) 116 (fun r => r.1 = nI 116 ∧ ∀ q, r.2 q = if 116 * k ≤ q ∧ q < 116 * k + 116 then FRa (q - 116 * k) else be q) (by
      rintro i ⟨s1, s2⟩ hi ⟨h1, h2⟩
      dsimp only at h1 h2
      subst h1
      refine Or.inl ⟨(nI (i + 1), upd s2 (116 * k + i) (FRa i)), ?_, rfl, fun q => ?_⟩
      · simp (disch := omega) only [f_X7_record_b2, show ¬ 116 ≤ i from by omega, px_l0, px_l1, px_l2, px_l3, px_l4, px_l5, px_l6, px_l9, px_l10, px_l14, px_l15, px_l23, px_l24, px_l25, px_l26, px_l29, px_l30, px_l32, px_l43, px_l45, px_l48, px_l57, px_l59, px_l60, px_l64, px_l100, px_l107, px_l116, px_l149, px_l150, px_l348, px_l464, px_l600, px_sa, nI_leI, nI_ltI, nI_eq, nI_add, pk_sub, pk_mul, pk_div, px_rm, nI_clamp, px_ck, px_eqm, px_meq, px_mm, px_mlt, px_mle, px_lem, px_ltm, px_mlem, Option.bind_some, px_b0, px_b1, px_ckb, px_if, px_if', ↓reduceIte]
      · dsimp only
        rw [px_upd]
        by_cases hq : q = 116 * k + i
        · rw [if_pos hq, if_pos (by omega), hq]
          congr 1; omega
        · rw [if_neg hq, h2 q]
          by_cases hq2 : 116 * k ≤ q ∧ q < 116 * k + i
          · rw [if_pos hq2, if_pos (by omega)]
          · rw [if_neg hq2, if_neg (by omega)]) (by
      rintro ⟨s1, s2⟩ ⟨h1, h2⟩
      dsimp only at h1 h2
      subst h1
      exact ⟨(nI 116, s2), by simp (disch := omega) only [f_X7_record_b2, Nat.le_refl, px_l0, px_l1, px_l2, px_l3, px_l4, px_l5, px_l6, px_l9, px_l10, px_l14, px_l15, px_l23, px_l24, px_l25, px_l26, px_l29, px_l30, px_l32, px_l43, px_l45, px_l48, px_l57, px_l59, px_l60, px_l64, px_l100, px_l107, px_l116, px_l149, px_l150, px_l348, px_l464, px_l600, px_sa, nI_leI, nI_ltI, nI_eq, nI_add, pk_sub, pk_mul, pk_div, px_rm, nI_clamp, px_ck, px_eqm, px_meq, px_mm, px_mlt, px_mle, px_lem, px_ltm, px_mlem, Option.bind_some, px_b0, px_b1, px_ckb, px_if, px_if', ↓reduceIte], rfl, h2⟩) FU 0 (nI 0, be) (Nat.zero_le _) (by decide) ⟨rfl, fun q => by dsimp only; rw [if_neg (by omega)]⟩
    obtain ⟨r1, r2⟩ := r
    obtain ⟨h2, h3⟩ := h2
    dsimp only at h2 h3
    subst h2
    have new : RVs (pv_cp (pvi v k) BEru BEco BEKa BETa BEMa BECa) (fun i => r2 (116 * k + i)) := RVs_cp h _ (fun i hi => by
      rw [h3, if_pos (by omega)]
      congr 1; omega)
    have old : ∀ j, j < k → RVs (pvi v j) (fun i => r2 (116 * j + i)) := fun j hj => by
      refine RV.congr (hv j hj) (fun _ _ => rfl) (fun _ _ => rfl) (fun _ _ => rfl) (fun _ _ => rfl) (fun i hi => ?_)
      rw [h3, if_neg (by omega)]
    have hk' : k = 0 ∨ k = 1 ∨ k = 2 ∨ k = 3 := by omega
    rcases hk' with rfl | rfl | rfl | rfl
    · refine ⟨_, r2, rfl, h1, 1, by omega, rfl, rfl, fun j hj => ?_⟩
      rw [show j = 0 by omega]; exact new
    · refine ⟨_, r2, rfl, h1, 2, by omega, rfl, rfl, fun j hj => ?_⟩
      rcases (show j = 0 ∨ j = 1 by omega) with rfl | rfl
      · exact old 0 (by omega)
      · exact new
    · refine ⟨_, r2, rfl, h1, 3, by omega, rfl, rfl, fun j hj => ?_⟩
      rcases (show j = 0 ∨ j = 1 ∨ j = 2 by omega) with rfl | rfl | rfl
      · exact old 0 (by omega)
      · exact old 1 (by omega)
      · exact new
    · refine ⟨_, r2, rfl, h1, 4, by omega, rfl, rfl, fun j hj => ?_⟩
      rcases (show j = 0 ∨ j = 1 ∨ j = 2 ∨ j = 3 by omega) with rfl | rfl | rfl | rfl
      · exact old 0 (by omega)
      · exact old 1 (by omega)
      · exact old 2 (by omega)
      · exact new
  rcases Nat.lt_or_ge k 4 with hlt | hge
  · obtain ⟨v', w, a1, a2, a3⟩ := key k PAv MObe hlt hv
    refine ⟨(nI (k + 1), v'), (nI (k + 1), w), ?_, ?_, a3⟩
    · unfold f_X3_add
      rw [if_neg (by rw [px_l4, nI_eq (by omega) (by omega)]; omega)]
      show ((pv_set PAv (nI k) _).bind _) = _
      rw [a1]
      show some (nI k + 1, v') = _
      rw [px_l1, nI_add]
    · unfold f_X7_record
      rw [if_neg (by rw [px_l4, nI_eq (by omega) (by omega)]; omega)]
      show ((lp (f_X7_record_b2 FRa (nI k, MObe)) FU (nI 0, MObe)).bind _) = _
      rw [a2]
      show some (nI k + 1, w) = _
      rw [px_l1, nI_add]
  · have hk4 : k = 4 := by omega
    subst hk4
    obtain ⟨r, h1, h2⟩ := lp_inv (f := f_X7_record_b1) (fun i s => s.1 = nI i ∧ ∀ q, s.2 q = if q < i then MObe (116 + q) else MObe q) 348 (fun r => r.1 = nI 348 ∧ ∀ q, r.2 q = if q < 348 then MObe (116 + q) else MObe q) (by
      rintro i ⟨s1, s2⟩ hi ⟨h1, h2⟩
      dsimp only at h1 h2
      subst h1
      refine Or.inl ⟨(nI (i + 1), upd s2 i (s2 (116 + i))), ?_, rfl, fun q => ?_⟩
      · simp (disch := omega) only [f_X7_record_b1, show ¬ 348 ≤ i from by omega, px_l0, px_l1, px_l2, px_l3, px_l4, px_l5, px_l6, px_l9, px_l10, px_l14, px_l15, px_l23, px_l24, px_l25, px_l26, px_l29, px_l30, px_l32, px_l43, px_l45, px_l48, px_l57, px_l59, px_l60, px_l64, px_l100, px_l107, px_l116, px_l149, px_l150, px_l348, px_l464, px_l600, px_sa, nI_leI, nI_ltI, nI_eq, nI_add, pk_sub, pk_mul, pk_div, px_rm, nI_clamp, px_ck, px_eqm, px_meq, px_mm, px_mlt, px_mle, px_lem, px_ltm, px_mlem, Option.bind_some, px_b0, px_b1, px_ckb, px_if, px_if', ↓reduceIte]
      · dsimp only
        rw [px_upd]
        by_cases hq : q = i
        · rw [if_pos hq, if_pos (by omega), hq, h2, if_neg (by omega)]
        · rw [if_neg hq, h2 q]
          by_cases hq2 : q < i
          · rw [if_pos hq2, if_pos (by omega)]
          · rw [if_neg hq2, if_neg (by omega)]) (by
      rintro ⟨s1, s2⟩ ⟨h1, h2⟩
      dsimp only at h1 h2
      subst h1
      exact ⟨(nI 348, s2), by simp (disch := omega) only [f_X7_record_b1, Nat.le_refl, px_l0, px_l1, px_l2, px_l3, px_l4, px_l5, px_l6, px_l9, px_l10, px_l14, px_l15, px_l23, px_l24, px_l25, px_l26, px_l29, px_l30, px_l32, px_l43, px_l45, px_l48, px_l57, px_l59, px_l60, px_l64, px_l100, px_l107, px_l116, px_l149, px_l150, px_l348, px_l464, px_l600, px_sa, nI_leI, nI_ltI, nI_eq, nI_add, pk_sub, pk_mul, pk_div, px_rm, nI_clamp, px_ck, px_eqm, px_meq, px_mm, px_mlt, px_mle, px_lem, px_ltm, px_mlem, Option.bind_some, px_b0, px_b1, px_ckb, px_if, px_if', ↓reduceIte], rfl, h2⟩) FU 0 (nI 0, MObe) (Nat.zero_le _) (by decide) ⟨rfl, fun q => by dsimp only; rw [if_neg (by omega)]⟩
    obtain ⟨r1, r2⟩ := r
    obtain ⟨h2, h3⟩ := h2
    dsimp only at h2 h3
    subst h2
    have e2 : ∀ j i, j < 3 → i < 116 → r2 (116 * j + i) = MObe (116 * (j + 1) + i) := fun j i hj hi => by
      rw [h3 (116 * j + i), if_pos (show 116 * j + i < 348 by omega)]
      exact congrArg MObe (by omega)
    have sh3 : ∀ j, j < 3 → RVs (pvi (PAv.2.1, PAv.2.2.1, PAv.2.2.2, PAv.1) j) (fun i => r2 (116 * j + i)) := by
      intro j hj
      have e1 : pvi (PAv.2.1, PAv.2.2.1, PAv.2.2.2, PAv.1) j = pvi PAv (j + 1) := by
        rcases (show j = 0 ∨ j = 1 ∨ j = 2 by omega) with rfl | rfl | rfl <;> rfl
      rw [e1]
      exact RV.congr (hv (j + 1) (by omega)) (fun _ _ => rfl) (fun _ _ => rfl) (fun _ _ => rfl) (fun _ _ => rfl) (fun i hi => e2 j i hj hi)
    obtain ⟨v', w, a1, a2, a3⟩ := key 3 _ r2 (by omega) sh3
    refine ⟨(nI 4, v'), (nI 4, w), ?_, ?_, a3⟩
    · unfold f_X3_add
      rw [if_pos (show nI 4 = (4 : Int32) from rfl)]
      simp only [f_X3_dropOldest, Option.bind_some]
      rw [show nI 4 - 1 = nI 3 from by decide +kernel, a1, Option.bind_some, px_l1, nI_add]
    · unfold f_X7_record
      rw [if_pos (show nI 4 = (4 : Int32) from rfl)]
      rw [px_l0, h1]
      simp only [Option.bind_some]
      rw [show nI 4 - 1 = nI 3 from by decide +kernel, a2, Option.bind_some, px_l1, nI_add]
