/-! NEIGHBOURS -/
/-- whether on cell b lies an arm of cross j, and j isn't x -/
def tO (lay : Nat → Option (Nat × Nat)) (b : Nat) (x : Int32) (j : Nat) : Bool := match lay b with
  | some (i, d) => (decide (¬ nI i = x) && decide (d < 4)) && decide (i = j)
  | none => false
def atB (lay : Nat → Option (Nat × Nat)) (m : Nat) (x : Int32) (j : Nat) : Bool := anyb (fun d => anyb (fun s => tO lay (bes (bes m d) s) x j) 4) 4
def NBI (S : Nat → Bool) (c : Int32) (v : Nat → Int32) : Prop := c = nI (smf (fun k => bN (S k)) 30) ∧ ∀ k, k < 30 → v k = nI (bN (S k))
theorem NBI.congr {S S' : Nat → Bool} {c : Int32} {v : Nat → Int32} (h : NBI S c v) (e : ∀ k, S' k = S k) : NBI S' c v := by
  rw [show S' = S from funext e]; exact h
theorem smf_put {S : Nat → Bool} {k n : Nat} (hk : k < n) (h : S k = false) : smf (fun j => bN (S j || decide (k = j))) n = smf (fun j => bN (S j)) n + 1 := by
  rw [show smf (fun j => bN (S j)) n + 1 = smf (fun j => bN (S j)) n + smf (fun j => bN (decide (k = j))) n from by
    rw [smf_one (f := fun j => bN (decide (k = j))) hk (fun i _ hik => by rw [decide_eq_false (Ne.symm hik)]; rfl), decide_eq_true rfl]; rfl]
  rw [← smf_add]
  refine smf_congr (fun j _ => ?_)
  by_cases hj : k = j
  · subst hj; rw [h, decide_eq_true rfl]; rfl
  · rw [decide_eq_false hj, Bool.or_false]; rfl
section P36
variable {n r : Nat} {K T M C : Nat → Nat} {lay : Nat → Option (Nat × Nat)} {NWKa NWTa NWMa NWCa ow pa z on wy : Nat → Int32}
theorem tO_none {b j : Nat} {x : Int32} (h : armO lay b x = false) : tO lay b x j = false := by
  unfold armO at h
  unfold tO
  cases hl : lay b with
  | none => rfl
  | some q => rw [hl] at h; dsimp only at h ⊢; rw [h]; rfl
theorem tO_some {b j k e : Nat} {x : Int32} (h : lay b = some (k, e)) (he : e < 4) (hx : ¬ nI k = x) : tO lay b x j = decide (k = j) := by
  unfold tO
  rw [h]
  dsimp only
  rw [decide_eq_true hx, decide_eq_true he]; rfl
theorem nb_step (hL : LY n M lay) (hn : n ≤ 30) (hl : LC lay ow pa) {a s : Nat} (ha : a < 150) (hs : s < 4) (x : Int32) {S : Nat → Bool} {c : Int32} {v : Nat → Int32} (h : NBI S c v) :
    ∃ q : Int32 × Int32 × (Nat → Int32), f_X5_neighboursOf_b2 ow pa x (nI a) (c, nI s, v) = some (.inl q) ∧ q.2.1 = nI (s + 1) ∧ NBI (fun j => S j || tO lay (bes a s) x j) q.1 q.2.2 := by
  have h2 := bes_lt a ha s hs
  obtain ⟨h3, h4⟩ := h
  have hle : smf (fun k => bN (S k)) 30 ≤ 30 * 1 := smf_le (fun i _ => bN_le _)
  cases hb : armO lay (bes a s) x with
  | false =>
    refine ⟨(c, nI (s + 1), v), ?_, rfl, NBI.congr ⟨h3, h4⟩ (fun k => by rw [tO_none hb, Bool.or_false])⟩
    simp (disch := omega) only [f_X5_neighboursOf_b2, g0_bes a ha s hs, w1_arm hL hn hl h2 x, hb, show ¬ 4 ≤ s from by omega, Bool.false_eq_true, px_l0, px_l1, px_l2, px_l3, px_l4, px_l5, px_l6, px_l9, px_l10, px_l14, px_l15, px_l23, px_l24, px_l25, px_l26, px_l29, px_l30, px_l32, px_l43, px_l45, px_l48, px_l57, px_l59, px_l60, px_l64, px_l100, px_l107, px_l116, px_l149, px_l150, px_l348, px_l464, px_l600, px_sa, nI_leI, nI_ltI, nI_eq, nI_add, pk_sub, pk_mul, pk_div, px_rm, nI_clamp, px_ck, px_eqm, px_meq, px_mm, px_mlt, px_mle, px_lem, px_ltm, px_mlem, Option.bind_some, px_b0, px_b1, px_ckb, px_if, px_if', ↓reduceIte]
  | true =>
    obtain ⟨k, e, g1, g2, g3⟩ := armO_ex hb
    obtain ⟨f1, -, -⟩ := hL.2 _ k e h2 g1
    have ho := ((hl _ h2).2 k e g1).1
    cases hk : S k with
    | true =>
      refine ⟨(c, nI (s + 1), v), ?_, rfl, NBI.congr ⟨h3, h4⟩ (fun j => by
        rw [tO_some g1 g2 g3]
        by_cases hj : k = j
        · subst hj; rw [hk]; rfl
        · rw [decide_eq_false hj, Bool.or_false])⟩
      simp (disch := omega) only [f_X5_neighboursOf_b2, g0_bes a ha s hs, w1_arm hL hn hl h2 x, hb, w1_own h2, ho, h4 k (by omega), hk, show ¬ 4 ≤ s from by omega, Bool.true_eq_false, px_l0, px_l1, px_l2, px_l3, px_l4, px_l5, px_l6, px_l9, px_l10, px_l14, px_l15, px_l23, px_l24, px_l25, px_l26, px_l29, px_l30, px_l32, px_l43, px_l45, px_l48, px_l57, px_l59, px_l60, px_l64, px_l100, px_l107, px_l116, px_l149, px_l150, px_l348, px_l464, px_l600, px_sa, nI_leI, nI_ltI, nI_eq, nI_add, pk_sub, pk_mul, pk_div, px_rm, nI_clamp, px_ck, px_eqm, px_meq, px_mm, px_mlt, px_mle, px_lem, px_ltm, px_mlem, Option.bind_some, px_b0, px_b1, px_ckb, px_if, px_if', ↓reduceIte]
    | false =>
      refine ⟨(c + 1, nI (s + 1), upd v k (nI 1)), ?_, rfl, ?_, fun j hj => ?_⟩
      · simp (disch := omega) only [f_X5_neighboursOf_b2, g0_bes a ha s hs, w1_arm hL hn hl h2 x, hb, w1_own h2, ho, h4 k (by omega), hk, px_z1, show ¬ 4 ≤ s from by omega, Bool.true_eq_false, px_l0, px_l1, px_l2, px_l3, px_l4, px_l5, px_l6, px_l9, px_l10, px_l14, px_l15, px_l23, px_l24, px_l25, px_l26, px_l29, px_l30, px_l32, px_l43, px_l45, px_l48, px_l57, px_l59, px_l60, px_l64, px_l100, px_l107, px_l116, px_l149, px_l150, px_l348, px_l464, px_l600, px_sa, nI_leI, nI_ltI, nI_eq, nI_add, pk_sub, pk_mul, pk_div, px_rm, nI_clamp, px_ck, px_eqm, px_meq, px_mm, px_mlt, px_mle, px_lem, px_ltm, px_mlem, Option.bind_some, px_b0, px_b1, px_ckb, px_if, px_if', ↓reduceIte]
      · dsimp only
        rw [smf_congr (q := fun j => bN (S j || decide (k = j))) (fun j _ => by rw [tO_some g1 g2 g3]), smf_put (by omega) hk, h3, px_l1, nI_add]
      · dsimp only
        rw [px_upd, tO_some g1 g2 g3]
        by_cases hj2 : j = k
        · subst hj2; rw [if_pos rfl, decide_eq_true rfl, Bool.or_true]; rfl
        · rw [if_neg hj2, decide_eq_false (Ne.symm hj2), Bool.or_false]; exact h4 j hj
theorem w5_nb (hO : OKs n r K T M C) (hL : LY n M lay) (hR : RCa n K T M C NWKa NWTa NWMa NWCa) (hl : LC lay ow pa) {i : Nat} (hi : i < n) (me : Nat → Int32) :
    ∃ v, f_X5_neighboursOf NWMa ow pa me (nI i) = some (nI (smf (fun k => bN (atB lay (M i) (nI i) k)) 30), v) := by
  have hn := hO.1
  have hMi := (hO.2.2.1 i hi).2.2
  obtain ⟨w, w1, w2⟩ := px_cpyloop (f := f_X5_neighboursOf_b1) (fun _ => nI 0) 30 (by omega) (fun i t hi => by simp (disch := omega) only [f_X5_neighboursOf_b1, show ¬ 30 ≤ i from by omega, px_z0, px_l0, px_l1, px_l2, px_l3, px_l4, px_l5, px_l6, px_l9, px_l10, px_l14, px_l15, px_l23, px_l24, px_l25, px_l26, px_l29, px_l30, px_l32, px_l43, px_l45, px_l48, px_l57, px_l59, px_l60, px_l64, px_l100, px_l107, px_l116, px_l149, px_l150, px_l348, px_l464, px_l600, px_sa, nI_leI, nI_ltI, nI_eq, nI_add, pk_sub, pk_mul, pk_div, px_rm, nI_clamp, px_ck, px_eqm, px_meq, px_mm, px_mlt, px_mle, px_lem, px_ltm, px_mlem, Option.bind_some, px_b0, px_b1, px_ckb, px_if, px_if', ↓reduceIte]) (fun t => by simp (disch := omega) only [f_X5_neighboursOf_b1, Nat.le_refl, px_l0, px_l1, px_l2, px_l3, px_l4, px_l5, px_l6, px_l9, px_l10, px_l14, px_l15, px_l23, px_l24, px_l25, px_l26, px_l29, px_l30, px_l32, px_l43, px_l45, px_l48, px_l57, px_l59, px_l60, px_l64, px_l100, px_l107, px_l116, px_l149, px_l150, px_l348, px_l464, px_l600, px_sa, nI_leI, nI_ltI, nI_eq, nI_add, pk_sub, pk_mul, pk_div, px_rm, nI_clamp, px_ck, px_eqm, px_meq, px_mm, px_mlt, px_mle, px_lem, px_ltm, px_mlem, Option.bind_some, px_b0, px_b1, px_ckb, px_if, px_if', ↓reduceIte]) me
  obtain ⟨q, q1, q2⟩ := lp_inv (f := f_X5_neighboursOf_b3 NWMa ow pa (nI i)) (fun d s => s.2.1 = nI d ∧ NBI (fun j => anyb (fun d => anyb (fun s => tO lay (bes (bes (M i) d) s) (nI i) j) 4) d) s.1 s.2.2) 4 (fun s => NBI (fun j => anyb (fun d => anyb (fun s => tO lay (bes (bes (M i) d) s) (nI i) j) 4) 4) s.1 s.2.2) (by
    rintro d ⟨s1, s2, s3⟩ hd ⟨h1, h2⟩
    dsimp only at h1 h2
    subst h1
    have hb := bes_lt _ hMi d hd
    obtain ⟨q, q1, q2⟩ := lp_inv (f := f_X5_neighboursOf_b2 ow pa (nI i) (nI (bes (M i) d))) (fun s t => t.2.1 = nI s ∧ NBI (fun j => anyb (fun d => anyb (fun s => tO lay (bes (bes (M i) d) s) (nI i) j) 4) d || anyb (fun s => tO lay (bes (bes (M i) d) s) (nI i) j) s) t.1 t.2.2) 4 (fun t => NBI (fun j => anyb (fun d => anyb (fun s => tO lay (bes (bes (M i) d) s) (nI i) j) 4) d || anyb (fun s => tO lay (bes (bes (M i) d) s) (nI i) j) 4) t.1 t.2.2) (by
      rintro s ⟨t1, t2, t3⟩ hs ⟨h3, h4⟩
      dsimp only at h3 h4
      subst h3
      obtain ⟨q, q1, q2, q3⟩ := nb_step hL hn hl hb hs (nI i) h4
      exact Or.inl ⟨q, q1, q2, q3.congr (fun k => by rw [Bool.or_assoc]; rfl)⟩) (by
      rintro ⟨t1, t2, t3⟩ ⟨h3, h4⟩
      dsimp only at h3 h4
      subst h3
      exact ⟨(t1, nI 4, t3), by simp (disch := omega) only [f_X5_neighboursOf_b2, Nat.le_refl, px_l0, px_l1, px_l2, px_l3, px_l4, px_l5, px_l6, px_l9, px_l10, px_l14, px_l15, px_l23, px_l24, px_l25, px_l26, px_l29, px_l30, px_l32, px_l43, px_l45, px_l48, px_l57, px_l59, px_l60, px_l64, px_l100, px_l107, px_l116, px_l149, px_l150, px_l348, px_l464, px_l600, px_sa, nI_leI, nI_ltI, nI_eq, nI_add, pk_sub, pk_mul, pk_div, px_rm, nI_clamp, px_ck, px_eqm, px_meq, px_mm, px_mlt, px_mle, px_lem, px_ltm, px_mlem, Option.bind_some, px_b0, px_b1, px_ckb, px_if, px_if', ↓reduceIte], h4⟩) FU 0 (s1, nI 0, s3) (Nat.zero_le _) (by decide) ⟨rfl, h2.congr (fun k => Bool.or_false _)⟩
    refine Or.inl ⟨(q.1, nI (d + 1), q.2.2), ?_, rfl, q2⟩
    simp (disch := omega) only [f_X5_neighboursOf_b3, (hR.1 i hi).2.2, g0_bes (M i) hMi d hd, q1, show ¬ 4 ≤ d from by omega, px_l0, px_l1, px_l2, px_l3, px_l4, px_l5, px_l6, px_l9, px_l10, px_l14, px_l15, px_l23, px_l24, px_l25, px_l26, px_l29, px_l30, px_l32, px_l43, px_l45, px_l48, px_l57, px_l59, px_l60, px_l64, px_l100, px_l107, px_l116, px_l149, px_l150, px_l348, px_l464, px_l600, px_sa, nI_leI, nI_ltI, nI_eq, nI_add, pk_sub, pk_mul, pk_div, px_rm, nI_clamp, px_ck, px_eqm, px_meq, px_mm, px_mlt, px_mle, px_lem, px_ltm, px_mlem, Option.bind_some, px_b0, px_b1, px_ckb, px_if, px_if', ↓reduceIte]) (by
    rintro ⟨s1, s2, s3⟩ ⟨h1, h2⟩
    dsimp only at h1 h2
    subst h1
    exact ⟨(s1, nI 4, s3), by simp (disch := omega) only [f_X5_neighboursOf_b3, Nat.le_refl, px_l0, px_l1, px_l2, px_l3, px_l4, px_l5, px_l6, px_l9, px_l10, px_l14, px_l15, px_l23, px_l24, px_l25, px_l26, px_l29, px_l30, px_l32, px_l43, px_l45, px_l48, px_l57, px_l59, px_l60, px_l64, px_l100, px_l107, px_l116, px_l149, px_l150, px_l348, px_l464, px_l600, px_sa, nI_leI, nI_ltI, nI_eq, nI_add, pk_sub, pk_mul, pk_div, px_rm, nI_clamp, px_ck, px_eqm, px_meq, px_mm, px_mlt, px_mle, px_lem, px_ltm, px_mlem, Option.bind_some, px_b0, px_b1, px_ckb, px_if, px_if', ↓reduceIte], h2⟩) FU 0 (nI 0, nI 0, w) (Nat.zero_le _) (by decide) ⟨rfl, rfl, w2⟩
  refine ⟨q.2.2, ?_⟩
  unfold f_X5_neighboursOf
  simp only [px_l0, w1, q1, Option.bind_some]
  rw [q2.1]; rfl
theorem w7_att (hO : OKs n r K T M C) (hL : LY n M lay) (hR : RM n r K T M C z) (hl : LM lay on wy) {i j : Nat} (hi : i < n) (hj : j < n) : f_X7_areTouching z on wy (nI i) (nI j) = some (nI (bN (atB lay (M i) (nI i) j))) := by
  have hn := hO.1
  have hMi := (hO.2.2.1 i hi).2.2
  have inner : ∀ d, d < 4 → ∀ (b0 : Bool) (s : Nat), s < 4 → f_X7_areTouching_b1 on wy (nI j) (nI (bes (M i) d)) (nI (bN (b0 || anyb (fun s => tO lay (bes (bes (M i) d) s) (nI i) j) s)), nI s) = some (.inl (nI (bN (b0 || anyb (fun s => tO lay (bes (bes (M i) d) s) (nI i) j) (s + 1))), nI (s + 1))) := by
    intro d hd b0 s hs
    have h1 := bes_lt _ hMi d hd
    have h2 := bes_lt _ h1 s hs
    have hla := hL.1 i d hi (by omega)
    rw [cp_d hd] at hla
    have ht := tch_armO hL hn hla hi hd h2
    simp only [anyb]
    rw [← Bool.or_assoc]
    generalize (b0 || anyb (fun s => tO lay (bes (bes (M i) d) s) (nI i) j) s) = b
    cases b with
    | true => simp (disch := omega) only [f_X7_areTouching_b1, show ¬ 4 ≤ s from by omega, Bool.true_eq_false, Bool.true_or, px_l0, px_l1, px_l2, px_l3, px_l4, px_l5, px_l6, px_l9, px_l10, px_l14, px_l15, px_l23, px_l24, px_l25, px_l26, px_l29, px_l30, px_l32, px_l43, px_l45, px_l48, px_l57, px_l59, px_l60, px_l64, px_l100, px_l107, px_l116, px_l149, px_l150, px_l348, px_l464, px_l600, px_sa, nI_leI, nI_ltI, nI_eq, nI_add, pk_sub, pk_mul, pk_div, px_rm, nI_clamp, px_ck, px_eqm, px_meq, px_mm, px_mlt, px_mle, px_lem, px_ltm, px_mlem, Option.bind_some, px_b0, px_b1, px_ckb, px_if, px_if', ↓reduceIte]; rfl
    | false =>
      cases hb : armO lay (bes (bes (M i) d) s) (nI i) with
      | false =>
        simp (disch := omega) only [f_X7_areTouching_b1, g7_bes _ h1 s hs, w7_touch hL hn hl h1 h2, ht, hb, tO_none hb, show ¬ 4 ≤ s from by omega, Bool.or_self, px_l0, px_l1, px_l2, px_l3, px_l4, px_l5, px_l6, px_l9, px_l10, px_l14, px_l15, px_l23, px_l24, px_l25, px_l26, px_l29, px_l30, px_l32, px_l43, px_l45, px_l48, px_l57, px_l59, px_l60, px_l64, px_l100, px_l107, px_l116, px_l149, px_l150, px_l348, px_l464, px_l600, px_sa, nI_leI, nI_ltI, nI_eq, nI_add, pk_sub, pk_mul, pk_div, px_rm, nI_clamp, px_ck, px_eqm, px_meq, px_mm, px_mlt, px_mle, px_lem, px_ltm, px_mlem, Option.bind_some, px_b0, px_b1, px_ckb, px_if, px_if', ↓reduceIte]
        rfl
      | true =>
        obtain ⟨k, e, g1, g2, g3⟩ := armO_ex hb
        obtain ⟨f1, -, -⟩ := hL.2 _ k e h2 g1
        simp (disch := omega) only [f_X7_areTouching_b1, g7_bes _ h1 s hs, w7_touch hL hn hl h1 h2, ht, hb, tO_some g1 g2 g3, ((hl _ h2).2 k e g1).1, show ¬ 4 ≤ s from by omega, Bool.true_eq_false, Bool.false_or, px_l0, px_l1, px_l2, px_l3, px_l4, px_l5, px_l6, px_l9, px_l10, px_l14, px_l15, px_l23, px_l24, px_l25, px_l26, px_l29, px_l30, px_l32, px_l43, px_l45, px_l48, px_l57, px_l59, px_l60, px_l64, px_l100, px_l107, px_l116, px_l149, px_l150, px_l348, px_l464, px_l600, px_sa, nI_leI, nI_ltI, nI_eq, nI_add, pk_sub, pk_mul, pk_div, px_rm, nI_clamp, px_ck, px_eqm, px_meq, px_mm, px_mlt, px_mle, px_lem, px_ltm, px_mlem, Option.bind_some, px_b0, px_b1, px_ckb, px_if, px_if', ↓reduceIte]
  unfold f_X7_areTouching
  refine Eq.trans (lp_detb (fun d => (nI (bN (anyb (fun d => anyb (fun s => tO lay (bes (bes (M i) d) s) (nI i) j) 4) d)), nI d)) 4 (nI (bN (atB lay (M i) (nI i) j)), nI 4) ?_ ?_ (by decide) rfl) ?_
  · intro d hd
    have L1 := lp_det (f := f_X7_areTouching_b1 on wy (nI j) (nI (bes (M i) d))) _ 4 _ (inner d hd (anyb (fun d => anyb (fun s => tO lay (bes (bes (M i) d) s) (nI i) j) 4) d)) (by simp (disch := omega) only [f_X7_areTouching_b1, Nat.le_refl, px_l0, px_l1, px_l2, px_l3, px_l4, px_l5, px_l6, px_l9, px_l10, px_l14, px_l15, px_l23, px_l24, px_l25, px_l26, px_l29, px_l30, px_l32, px_l43, px_l45, px_l48, px_l57, px_l59, px_l60, px_l64, px_l100, px_l107, px_l116, px_l149, px_l150, px_l348, px_l464, px_l600, px_sa, nI_leI, nI_ltI, nI_eq, nI_add, pk_sub, pk_mul, pk_div, px_rm, nI_clamp, px_ck, px_eqm, px_meq, px_mm, px_mlt, px_mle, px_lem, px_ltm, px_mlem, Option.bind_some, px_b0, px_b1, px_ckb, px_if, px_if', ↓reduceIte]; rfl) (N := FU) (by decide) rfl
    simp only [anyb, Bool.or_false] at L1 ⊢
    simp (disch := omega) only [f_X7_areTouching_b2, w7_mid hR hi hn, g7_bes (M i) hMi d hd, show ¬ 4 ≤ d from by omega, px_l0, px_l1, px_l2, px_l3, px_l4, px_l5, px_l6, px_l9, px_l10, px_l14, px_l15, px_l23, px_l24, px_l25, px_l26, px_l29, px_l30, px_l32, px_l43, px_l45, px_l48, px_l57, px_l59, px_l60, px_l64, px_l100, px_l107, px_l116, px_l149, px_l150, px_l348, px_l464, px_l600, px_sa, nI_leI, nI_ltI, nI_eq, nI_add, pk_sub, pk_mul, pk_div, px_rm, nI_clamp, px_ck, px_eqm, px_meq, px_mm, px_mlt, px_mle, px_lem, px_ltm, px_mlem, Option.bind_some, px_b0, px_b1, px_ckb, px_if, px_if', ↓reduceIte]
    rw [L1]
    rfl
  · simp (disch := omega) only [f_X7_areTouching_b2, Nat.le_refl, px_l0, px_l1, px_l2, px_l3, px_l4, px_l5, px_l6, px_l9, px_l10, px_l14, px_l15, px_l23, px_l24, px_l25, px_l26, px_l29, px_l30, px_l32, px_l43, px_l45, px_l48, px_l57, px_l59, px_l60, px_l64, px_l100, px_l107, px_l116, px_l149, px_l150, px_l348, px_l464, px_l600, px_sa, nI_leI, nI_ltI, nI_eq, nI_add, pk_sub, pk_mul, pk_div, px_rm, nI_clamp, px_ck, px_eqm, px_meq, px_mm, px_mlt, px_mle, px_lem, px_ltm, px_mlem, Option.bind_some, px_b0, px_b1, px_ckb, px_if, px_if', ↓reduceIte]
    rfl
  · simp (disch := omega) only [px_l0, px_l1, px_l2, px_l3, px_l4, px_l5, px_l6, px_l9, px_l10, px_l14, px_l15, px_l23, px_l24, px_l25, px_l26, px_l29, px_l30, px_l32, px_l43, px_l45, px_l48, px_l57, px_l59, px_l60, px_l64, px_l100, px_l107, px_l116, px_l149, px_l150, px_l348, px_l464, px_l600, px_sa, nI_leI, nI_ltI, nI_eq, nI_add, pk_sub, pk_mul, pk_div, px_rm, nI_clamp, px_ck, px_eqm, px_meq, px_mm, px_mlt, px_mle, px_lem, px_ltm, px_mlem, Option.bind_some, px_b0, px_b1, px_ckb, px_if, px_if', ↓reduceIte]
theorem atB_self {m i : Nat} : atB lay m (nI i) i = false := by
  refine anyb_false.mpr (fun d _ => anyb_false.mpr (fun s _ => ?_))
  unfold tO
  cases lay (bes (bes m d) s) with
  | none => rfl
  | some q =>
    dsimp only
    by_cases h : q.1 = i
    · rw [h, decide_eq_false (p := ¬ nI i = nI i) (fun q => q rfl)]; rfl
    · rw [decide_eq_false h, Bool.and_false]
theorem atB_out (hL : LY n M lay) {m j : Nat} {x : Int32} (hm : m < 150) (hj : n ≤ j) : atB lay m x j = false := by
  refine anyb_false.mpr (fun d hd => anyb_false.mpr (fun s hs => ?_))
  unfold tO
  cases hl : lay (bes (bes m d) s) with
  | none => rfl
  | some q =>
    obtain ⟨f1, -, -⟩ := hL.2 _ q.1 q.2 (bes_lt _ (bes_lt m hm d hd) s hs) hl
    dsimp only
    rw [decide_eq_false (show ¬ q.1 = j by omega), Bool.and_false]
theorem w7_others (hO : OKs n r K T M C) (hL : LY n M lay) (hR : RM n r K T M C z) (hl : LM lay on wy) {i : Nat} (hi : i < n) : f_X7_others z on wy (nI i) = some (nI (smf (fun k => bN (atB lay (M i) (nI i) k)) 30)) := by
  have hn := hO.1
  have hMi := (hO.2.2.1 i hi).2.2
  have h25 := hR.2.2.1
  rw [smf_ext hn (fun k hk _ => by rw [atB_out hL hMi hk]; rfl)]
  unfold f_X7_others
  refine lp_detb (fun k => (nI (smf (fun k => bN (atB lay (M i) (nI i) k)) k), nI k)) n (nI (smf (fun k => bN (atB lay (M i) (nI i) k)) n), nI n) ?_ ?_ (by show n < 1000; omega) rfl
  · intro k hk
    have hs : smf (fun k => bN (atB lay (M i) (nI i) k)) (k + 1) = smf (fun k => bN (atB lay (M i) (nI i) k)) k + bN (atB lay (M i) (nI i) k) := rfl
    rw [hs]
    by_cases hki : k = i
    · subst hki
      rw [atB_self]
      simp (disch := omega) only [f_X7_others_b1, h25, show ¬ n ≤ k from by omega, px_l0, px_l1, px_l2, px_l3, px_l4, px_l5, px_l6, px_l9, px_l10, px_l14, px_l15, px_l23, px_l24, px_l25, px_l26, px_l29, px_l30, px_l32, px_l43, px_l45, px_l48, px_l57, px_l59, px_l60, px_l64, px_l100, px_l107, px_l116, px_l149, px_l150, px_l348, px_l464, px_l600, px_sa, nI_leI, nI_ltI, nI_eq, nI_add, pk_sub, pk_mul, pk_div, px_rm, nI_clamp, px_ck, px_eqm, px_meq, px_mm, px_mlt, px_mle, px_lem, px_ltm, px_mlem, Option.bind_some, px_b0, px_b1, px_ckb, px_if, px_if', ↓reduceIte]
      rfl
    · cases hb : atB lay (M i) (nI i) k <;> simp (disch := omega) only [f_X7_others_b1, h25, w7_att hO hL hR hl hi hk, hki, hb, show ¬ n ≤ k from by omega, Bool.true_eq_false, Bool.false_eq_true, px_l0, px_l1, px_l2, px_l3, px_l4, px_l5, px_l6, px_l9, px_l10, px_l14, px_l15, px_l23, px_l24, px_l25, px_l26, px_l29, px_l30, px_l32, px_l43, px_l45, px_l48, px_l57, px_l59, px_l60, px_l64, px_l100, px_l107, px_l116, px_l149, px_l150, px_l348, px_l464, px_l600, px_sa, nI_leI, nI_ltI, nI_eq, nI_add, pk_sub, pk_mul, pk_div, px_rm, nI_clamp, px_ck, px_eqm, px_meq, px_mm, px_mlt, px_mle, px_lem, px_ltm, px_mlem, Option.bind_some, px_b0, px_b1, px_ckb, px_if, px_if', ↓reduceIte] <;> rfl
  · simp (disch := omega) only [f_X7_others_b1, h25, Nat.le_refl, px_l0, px_l1, px_l2, px_l3, px_l4, px_l5, px_l6, px_l9, px_l10, px_l14, px_l15, px_l23, px_l24, px_l25, px_l26, px_l29, px_l30, px_l32, px_l43, px_l45, px_l48, px_l57, px_l59, px_l60, px_l64, px_l100, px_l107, px_l116, px_l149, px_l150, px_l348, px_l464, px_l600, px_sa, nI_leI, nI_ltI, nI_eq, nI_add, pk_sub, pk_mul, pk_div, px_rm, nI_clamp, px_ck, px_eqm, px_meq, px_mm, px_mlt, px_mle, px_lem, px_ltm, px_mlem, Option.bind_some, px_b0, px_b1, px_ckb, px_if, px_if', ↓reduceIte]
end P36
theorem e_cross {NWru : Int32} {NWco : Int32} {NWKa : Nat → Int32} {NWTa : Nat → Int32} {NWMa : Nat → Int32} {NWCa : Nat → Int32} {CAow : Nat → Int32} {CApa : Nat → Int32} {SVme : Nat → Int32} {MOza : Nat → Int32} {MOon : Nat → Int32} {MOwy : Nat → Int32} (hA : RA NWru NWco NWKa NWTa NWMa NWCa CAow CApa MOza MOon MOwy) (p0 p1 : Int32) : ∃ oc om, f_X6_cross NWru NWco NWKa NWTa NWMa NWCa CAow CApa SVme p0 p1 = some oc ∧ f_X7_cross MOza MOon MOwy p0 p1 = some om ∧ oc.1 = om.1 ∧ RA NWru NWco NWKa NWTa NWMa NWCa CAow CApa om.2 MOon MOwy := by
  obtain ⟨n, r, K, T, M, C, lay, hG, rfl, rfl, hRC, hRM, hLC, hLM⟩ := id hA
  obtain ⟨hO, hL, hN⟩ := id hG
  have hn := hO.1
  have n10 : ¬ nI 1 = 0 := by decide +kernel
  have n00 : nI 0 = 0 := rfl
  unfold f_X6_cross f_X7_cross
  rcases a_cross hn hRM.2.2.1 p0 with ⟨i, hi, rfl, c0, m0⟩ | ⟨c0, m0⟩
  · obtain ⟨b1, b2, b3⟩ := hO.2.2.1 i hi
    obtain ⟨e1, e2, e3⟩ := hRC.1 i hi
    have k1 : ∀ {α : Type} {t : Option α}, ck (nI i) 30 t = t := fun {α t} => px_ck (by omega) (by omega)
    rw [c0, m0]
    simp only [Option.bind_some, if_neg n10, k1, nI_clamp (show i < 2 ^ 31 by omega)]
    by_cases h0 : p1 = 0
    · simp only [if_pos h0, e1, w7_kind hRM hn hi, Option.bind_some]
      exact ⟨_, _, rfl, rfl, rfl, hA⟩
    by_cases h1 : p1 = 1
    · simp only [if_neg h0, if_pos h1, e2, w7_turns hRM hn hi, Option.bind_some]
      exact ⟨_, _, rfl, rfl, rfl, hA⟩
    by_cases h2 : p1 = 2
    · simp only [if_neg h0, if_neg h1, if_pos h2, e3, w7_mid hRM hi hn, Option.bind_some]
      exact ⟨_, _, rfl, rfl, rfl, hA⟩
    by_cases h3 : p1 = 3
    · simp only [if_neg h0, if_neg h1, if_neg h2, if_pos h3, e3, w5_at hL hn hLC b3, w7_of hO hL hRM hLM hi, Option.bind_some]
      exact ⟨_, _, rfl, rfl, rfl, hA⟩
    by_cases h4 : p1 = 4
    · obtain ⟨v, hv⟩ := w5_nb hO hL hRC hLC hi SVme
      simp only [if_neg h0, if_neg h1, if_neg h2, if_neg h3, if_pos h4, hv, w7_others hO hL hRM hLM hi, Option.bind_some]
      exact ⟨_, _, rfl, rfl, rfl, hA⟩
    by_cases h5 : p1 = 5
    · simp only [if_neg h0, if_neg h1, if_neg h2, if_neg h3, if_neg h4, if_pos h5, w5_none hO hL hRC hLC hi, w7_free hO hL hRM hLM hi, Option.bind_some]
      exact ⟨_, _, rfl, rfl, rfl, hA⟩
    by_cases h6 : p1 = 6
    · obtain ⟨v, hv, hv2⟩ := w7_ways hG hRM hLM hi
      simp only [if_neg h0, if_neg h1, if_neg h2, if_neg h3, if_neg h4, if_neg h5, if_pos h6, w5_ways hO hL hRC hLC hi, hv, Option.bind_some]
      exact ⟨_, _, rfl, rfl, rfl, n, r, K, T, M, C, lay, hG, rfl, rfl, hRC, hv2, hLC, hLM⟩
    simp only [if_neg h0, if_neg h1, if_neg h2, if_neg h3, if_neg h4, if_neg h5, if_neg h6]
    exact ⟨_, _, rfl, rfl, rfl, hA⟩
  · rw [c0, m0]
    simp only [Option.bind_some, if_pos n00]
    exact ⟨_, _, rfl, rfl, rfl, hA⟩
