/-! COMING UPON ITSELF -/
def allb (f : Nat → Bool) : Nat → Bool
  | 0 => true
  | n + 1 => allb f n && f n
theorem allb_any {f : Nat → Bool} {n : Nat} : anyb (fun i => !f i) n = !allb f n := by
  induction n with
  | zero => rfl
  | succ n ih => simp only [anyb, allb, ih, Bool.not_and]
theorem allb_mono {f : Nat → Bool} {i n : Nat} (hi : i ≤ n) (h : allb f i = false) : allb f n = false := by
  induction n with
  | zero => rw [show i = 0 by omega] at h; cases h
  | succ n ih =>
    rcases Nat.lt_or_ge i (n + 1) with h1 | h1
    · simp only [allb]; rw [ih (by omega)]; rfl
    · rw [show n + 1 = i by omega]; exact h
/-- a loop that ends early once its mark is down -/
theorem lp_all {g : Int32 × Int32 → Option ((Int32 × Int32) ⊕ (Int32 × Int32))} (f : Nat → Bool) (e : Nat) (b0 : Bool) (he : e < 1000) (hs : b0 = true → ∀ i, i < e → g (nI 1, nI i) = some (.inl (nI (bN (f i)), nI (i + 1)))) (h0 : ∀ i, i < e → g (nI 0, nI i) = some (.inr (nI 0, nI i))) (hx : ∀ b, g (nI (bN b), nI e) = some (.inr (nI (bN b), nI e))) :
    ∃ r : Int32, lp g FU (nI (bN b0), nI 0) = some (nI (bN (b0 && allb f e)), r) := by
  obtain ⟨q, q1, q2⟩ := lp_inv (f := g) (fun i s => s = (nI (bN (b0 && allb f i)), nI i)) e (fun r => r.1 = nI (bN (b0 && allb f e))) (by
    rintro i s hi rfl
    cases hb : (b0 && allb f i) with
    | true =>
      rw [Bool.and_eq_true] at hb
      refine Or.inl ⟨_, hs hb.1 i hi, ?_⟩
      simp only [allb]
      rw [hb.1, hb.2]; rfl
    | false =>
      refine Or.inr ⟨_, h0 i hi, ?_⟩
      dsimp only
      rw [show (b0 && allb f e) = false from by
        rw [Bool.and_eq_false_iff] at hb ⊢
        exact hb.imp id (allb_mono (by omega))]
      rfl) (by
    rintro s rfl
    exact ⟨_, hx _, rfl⟩) FU 0 (nI (bN b0), nI 0) (Nat.zero_le _) (by show e - 0 < 1000; omega) (by simp only [allb, Bool.and_true])
  exact ⟨q.2, by rw [q1, ← q2]⟩
def cuM (half : Bool) (M : Nat → Nat) (s i : Nat) : Nat := sh (if half then hf (M i) else M i) (s % 15) (s / 15)
def llB (half : Bool) (K T C : Nat → Nat) (i j : Nat) : Bool := allb (fun e => decide (col K T C i (if half then (e + 2) % 4 else e) = col K T C j e)) 4
def cuI (half : Bool) (K T M C : Nat → Nat) (lay : Nat → Option (Nat × Nat)) (s i : Nat) : Bool := match lay (cuM half M s i) with
  | some (j, d) => decide (d = 4) && llB half K T C i j
  | none => false
def cuB (half : Bool) (n : Nat) (K T M C : Nat → Nat) (lay : Nat → Option (Nat × Nat)) (s : Nat) : Bool := allb (cuI half K T M C lay s) n
section P39
variable {n r : Nat} {K T M C : Nat → Nat} {lay : Nat → Option (Nat × Nat)} {NWKa NWTa NWMa NWCa ow pa z on wy : Nat → Int32}
theorem w5_looks (hO : OKs n r K T M C) (hR : RCa n K T M C NWKa NWTa NWMa NWCa) {i j : Nat} (hi : i < n) (hj : j < n) (half : Bool) : f_X5_looksLike NWKa NWTa NWCa (nI i) (nI j) (nI (bN half)) = some (nI (bN (llB half K T C i j))) := by
  have body : ∀ e, e < 4 → f_X5_looksLike_b1 NWKa NWTa NWCa (nI i) (nI j) (nI (bN half)) (nI e) = some (if !(decide (col K T C i (if half then (e + 2) % 4 else e) = col K T C j e)) then .inr (.inr (nI 0)) else .inl (nI (e + 1))) := by
    intro e he
    have c2 := col_lt hO hj he
    cases half with
    | false =>
      have c1 := col_lt hO hi he
      simp (disch := omega) only [f_X5_looksLike_b1, w1_col hO hR hi he, w1_col hO hR hj he, show ¬ 4 ≤ e from by omega, Bool.false_eq_true, px_l0, px_l1, px_l2, px_l3, px_l4, px_l5, px_l6, px_l9, px_l10, px_l14, px_l15, px_l23, px_l24, px_l25, px_l26, px_l29, px_l30, px_l32, px_l43, px_l45, px_l48, px_l57, px_l59, px_l60, px_l64, px_l100, px_l107, px_l116, px_l149, px_l150, px_l348, px_l464, px_l600, px_sa, nI_leI, nI_ltI, nI_eq, nI_add, pk_sub, pk_mul, pk_div, px_rm, nI_clamp, px_ck, px_eqm, px_meq, px_mm, px_mlt, px_mle, px_lem, px_ltm, px_mlem, Option.bind_some, px_b0, px_b1, px_ckb, px_if, px_if', ↓reduceIte]
      by_cases h : col K T C i e = col K T C j e <;> simp [h]
    | true =>
      have he2 : (e + 2) % 4 < 4 := by omega
      have c1 := col_lt hO hi he2
      simp (disch := omega) only [f_X5_looksLike_b1, g0_op he, w1_col hO hR hi he2, w1_col hO hR hj he, show ¬ 4 ≤ e from by omega, Bool.true_eq_false, px_l0, px_l1, px_l2, px_l3, px_l4, px_l5, px_l6, px_l9, px_l10, px_l14, px_l15, px_l23, px_l24, px_l25, px_l26, px_l29, px_l30, px_l32, px_l43, px_l45, px_l48, px_l57, px_l59, px_l60, px_l64, px_l100, px_l107, px_l116, px_l149, px_l150, px_l348, px_l464, px_l600, px_sa, nI_leI, nI_ltI, nI_eq, nI_add, pk_sub, pk_mul, pk_div, px_rm, nI_clamp, px_ck, px_eqm, px_meq, px_mm, px_mlt, px_mle, px_lem, px_ltm, px_mlem, Option.bind_some, px_b0, px_b1, px_ckb, px_if, px_if', ↓reduceIte]
      by_cases h : col K T C i ((e + 2) % 4) = col K T C j e <;> simp [h]
  unfold f_X5_looksLike llB
  show (lp _ FU (nI 0)).bind _ = _
  rw [lp_any _ (nI 0) 4 body (by simp (disch := omega) only [f_X5_looksLike_b1, Nat.le_refl, px_l0, px_l1, px_l2, px_l3, px_l4, px_l5, px_l6, px_l9, px_l10, px_l14, px_l15, px_l23, px_l24, px_l25, px_l26, px_l29, px_l30, px_l32, px_l43, px_l45, px_l48, px_l57, px_l59, px_l60, px_l64, px_l100, px_l107, px_l116, px_l149, px_l150, px_l348, px_l464, px_l600, px_sa, nI_leI, nI_ltI, nI_eq, nI_add, pk_sub, pk_mul, pk_div, px_rm, nI_clamp, px_ck, px_eqm, px_meq, px_mm, px_mlt, px_mle, px_lem, px_ltm, px_mlem, Option.bind_some, px_b0, px_b1, px_ckb, px_if, px_if', ↓reduceIte]) (by decide), allb_any]
  cases allb (fun e => decide (col K T C i (if half then (e + 2) % 4 else e) = col K T C j e)) 4 <;> rfl
theorem cuM_lt {half : Bool} {s i : Nat} : cuM half M s i < 150 := sh_lt
theorem w5_cu (hO : OKs n r K T M C) (hL : LY n M lay) (hR : RCa n K T M C NWKa NWTa NWMa NWCa) (hl : LC lay ow pa) {s : Nat} (hs : s < 150) (half : Bool) : f_X5_comesUponItself (nI n) NWKa NWTa NWMa NWCa ow pa (nI s) (nI (bN half)) = some (nI (bN (cuB half n K T M C lay s))) := by
  have hn := hO.1
  have body : ∀ i, i < n → f_X5_comesUponItself_b1 (nI n) NWKa NWTa NWMa NWCa ow pa (nI s) (nI (bN half)) (nI i) = some (if !(cuI half K T M C lay s i) then .inr (.inr (nI 0)) else .inl (nI (i + 1))) := by
    intro i hi
    have hMi := (hO.2.2.1 i hi).2.2
    have key : ∀ m : Nat, m < 150 → cuM half M s i = sh m (s % 15) (s / 15) → ((f_X0_shifted (nI m) (rm (nI s) 15) (nI s / 15)).bind fun r7 => ((f_X1_isFree ow r7).bind fun r9 => (if r9 = 0 then ((f_X1_partOn pa r7).bind fun r11 => (if r11 = 4 then ((f_X1_ownerOf ow r7).bind fun r13 => ((f_X5_looksLike NWKa NWTa NWCa (nI i) r13 (nI (bN half))).bind fun r15 => (if r15 = 0 then (some (.inr (.inr 0))) else (some (.inl (nI i + 1)))))) else (some (.inr (.inr 0))))) else (some (.inr (.inr 0)))))) = some (if !(cuI half K T M C lay s i) then .inr (.inr (nI 0)) else (.inl (nI (i + 1)) : Int32 ⊕ (Int32 ⊕ Int32))) := by
      intro m hm hc
      have hlt : sh m (s % 15) (s / 15) < 150 := sh_lt
      unfold cuI
      rw [hc]
      cases hq : lay (sh m (s % 15) (s / 15)) with
      | none =>
        have hf : frB lay (sh m (s % 15) (s / 15)) = true := by unfold frB; rw [hq]; rfl
        simp (disch := omega) only [g0_sh hm (show s % 15 < 15 by omega) (show s / 15 < 10 by omega), w1_free hL hn hl hlt, hf, Bool.true_eq_false, Bool.not_false, px_l0, px_l1, px_l2, px_l3, px_l4, px_l5, px_l6, px_l9, px_l10, px_l14, px_l15, px_l23, px_l24, px_l25, px_l26, px_l29, px_l30, px_l32, px_l43, px_l45, px_l48, px_l57, px_l59, px_l60, px_l64, px_l100, px_l107, px_l116, px_l149, px_l150, px_l348, px_l464, px_l600, px_sa, nI_leI, nI_ltI, nI_eq, nI_add, pk_sub, pk_mul, pk_div, px_rm, nI_clamp, px_ck, px_eqm, px_meq, px_mm, px_mlt, px_mle, px_lem, px_ltm, px_mlem, Option.bind_some, px_b0, px_b1, px_ckb, px_if, px_if', ↓reduceIte]
      | some q =>
        obtain ⟨j, d⟩ := q
        obtain ⟨g1, g2, -⟩ := hL.2 _ j d hlt hq
        obtain ⟨h1, h2⟩ := (hl _ hlt).2 j d hq
        have hf : frB lay (sh m (s % 15) (s / 15)) = false := by unfold frB; rw [hq]; rfl
        by_cases hd : d = 4
        · subst hd
          simp (disch := omega) only [g0_sh hm (show s % 15 < 15 by omega) (show s / 15 < 10 by omega), w1_free hL hn hl hlt, hf, w1_part hlt, w1_own hlt, h1, h2, w5_looks hO hR hi g1 half, px_l0, px_l1, px_l2, px_l3, px_l4, px_l5, px_l6, px_l9, px_l10, px_l14, px_l15, px_l23, px_l24, px_l25, px_l26, px_l29, px_l30, px_l32, px_l43, px_l45, px_l48, px_l57, px_l59, px_l60, px_l64, px_l100, px_l107, px_l116, px_l149, px_l150, px_l348, px_l464, px_l600, px_sa, nI_leI, nI_ltI, nI_eq, nI_add, pk_sub, pk_mul, pk_div, px_rm, nI_clamp, px_ck, px_eqm, px_meq, px_mm, px_mlt, px_mle, px_lem, px_ltm, px_mlem, Option.bind_some, px_b0, px_b1, px_ckb, px_if, px_if', ↓reduceIte]
          cases llB half K T C i j <;> simp
        · simp (disch := omega) only [g0_sh hm (show s % 15 < 15 by omega) (show s / 15 < 10 by omega), w1_free hL hn hl hlt, hf, w1_part hlt, h1, h2, hd, decide_false, Bool.false_and, Bool.not_false, px_l0, px_l1, px_l2, px_l3, px_l4, px_l5, px_l6, px_l9, px_l10, px_l14, px_l15, px_l23, px_l24, px_l25, px_l26, px_l29, px_l30, px_l32, px_l43, px_l45, px_l48, px_l57, px_l59, px_l60, px_l64, px_l100, px_l107, px_l116, px_l149, px_l150, px_l348, px_l464, px_l600, px_sa, nI_leI, nI_ltI, nI_eq, nI_add, pk_sub, pk_mul, pk_div, px_rm, nI_clamp, px_ck, px_eqm, px_meq, px_mm, px_mlt, px_mle, px_lem, px_ltm, px_mlem, Option.bind_some, px_b0, px_b1, px_ckb, px_if, px_if', ↓reduceIte]
    unfold f_X5_comesUponItself_b1
    rw [if_neg (show ¬ nI n ≤ nI i from by rw [nI_leI (by omega) (by omega)]; omega), px_ck (by omega) (by omega), nI_clamp (by omega), (hR.1 i hi).2.2]
    cases half with
    | false =>
      rw [if_pos (show nI (bN false) = 0 from by decide +kernel), Option.bind_some]
      exact key (M i) hMi rfl
    | true =>
      rw [if_neg (show ¬ nI (bN true) = 0 from by decide +kernel), g0_hf hMi, Option.bind_some, Option.bind_some]
      exact key (hf (M i)) hf_lt rfl
  unfold f_X5_comesUponItself cuB
  show (lp _ FU (nI 0)).bind _ = _
  rw [lp_any _ (nI 0) n body (by simp (disch := omega) only [f_X5_comesUponItself_b1, Nat.le_refl, px_l0, px_l1, px_l2, px_l3, px_l4, px_l5, px_l6, px_l9, px_l10, px_l14, px_l15, px_l23, px_l24, px_l25, px_l26, px_l29, px_l30, px_l32, px_l43, px_l45, px_l48, px_l57, px_l59, px_l60, px_l64, px_l100, px_l107, px_l116, px_l149, px_l150, px_l348, px_l464, px_l600, px_sa, nI_leI, nI_ltI, nI_eq, nI_add, pk_sub, pk_mul, pk_div, px_rm, nI_clamp, px_ck, px_eqm, px_meq, px_mm, px_mlt, px_mle, px_lem, px_ltm, px_mlem, Option.bind_some, px_b0, px_b1, px_ckb, px_if, px_if', ↓reduceIte]) (by show n < 1000; omega), allb_any]
  cases allb (cuI half K T M C lay s) n <;> rfl
theorem w7_hf {m : Nat} (hm : m < 150) : (15 * (rm (10 - (nI m / 15)) 10)) + (rm (15 - (rm (nI m) 15)) 15) = nI (hf m) := by
  simp (disch := omega) only [hf, px_l0, px_l1, px_l2, px_l3, px_l4, px_l5, px_l6, px_l9, px_l10, px_l14, px_l15, px_l23, px_l24, px_l25, px_l26, px_l29, px_l30, px_l32, px_l43, px_l45, px_l48, px_l57, px_l59, px_l60, px_l64, px_l100, px_l107, px_l116, px_l149, px_l150, px_l348, px_l464, px_l600, px_sa, nI_leI, nI_ltI, nI_eq, nI_add, pk_sub, pk_mul, pk_div, px_rm, nI_clamp, px_ck, px_eqm, px_meq, px_mm, px_mlt, px_mle, px_lem, px_ltm, px_mlem, Option.bind_some, px_b0, px_b1, px_ckb, px_if, px_if', ↓reduceIte]
def cuF (half : Bool) (K T C : Nat → Nat) (i : Nat) (q : Option (Nat × Nat)) (e : Nat) : Bool := match q with
  | some (j, _) => decide (col K T C i (if half then (e + 2) % 4 else e) = col K T C j e)
  | none => false
def cuG (q : Option (Nat × Nat)) : Bool := match q with
  | some (_, d) => decide (d = 4)
  | none => false
theorem cuI_eq {half : Bool} {s i : Nat} : cuI half K T M C lay s i = (cuG (lay (cuM half M s i)) && allb (cuF half K T C i (lay (cuM half M s i))) 4) := by
  unfold cuI
  cases lay (cuM half M s i) with
  | none => rfl
  | some q => rfl
theorem w7_cu1 (hO : OKs n r K T M C) (hL : LY n M lay) (hR : RM n r K T M C z) (hl : LM lay on wy) {i c : Nat} (hi : i < n) (hc : c < 150) (half : Bool) {e : Nat} (he : e < 4) (hb : cuG (lay c) = true) : f_X7_comesUpon_b1 z on (nI (bN half)) (nI 1, nI i) (nI c) (nI 1, nI e) = some (.inl (nI (bN (cuF half K T C i (lay c) e)), nI (e + 1))) := by
  have hn := hO.1
  cases hq : lay c with
  | none => rw [hq] at hb; cases hb
  | some q =>
    obtain ⟨j, d⟩ := q
    obtain ⟨g1, g2, -⟩ := hL.2 _ j d hc hq
    have h1 := ((hl _ hc).2 j d hq).1
    have c2 := col_lt hO g1 he
    cases half with
    | false =>
      have c1 := col_lt hO hi he
      have e0 : rm (nI e + 2 * nI (bN false)) 4 = nI e := by
        rw [show nI (bN false) = nI 0 from rfl]
        simp (disch := omega) only [Nat.mul_zero, Nat.add_zero, px_l0, px_l1, px_l2, px_l3, px_l4, px_l5, px_l6, px_l9, px_l10, px_l14, px_l15, px_l23, px_l24, px_l25, px_l26, px_l29, px_l30, px_l32, px_l43, px_l45, px_l48, px_l57, px_l59, px_l60, px_l64, px_l100, px_l107, px_l116, px_l149, px_l150, px_l348, px_l464, px_l600, px_sa, nI_leI, nI_ltI, nI_eq, nI_add, pk_sub, pk_mul, pk_div, px_rm, nI_clamp, px_ck, px_eqm, px_meq, px_mm, px_mlt, px_mle, px_lem, px_ltm, px_mlem, Option.bind_some, px_b0, px_b1, px_ckb, px_if, px_if', ↓reduceIte]
        rw [show e % 4 = e by omega]
      unfold f_X7_comesUpon_b1
      dsimp only
      rw [e0]
      simp (disch := omega) only [h1, w7_col hO hR g1 he, w7_col hO hR hi he, show ¬ 4 ≤ e from by omega, show ¬ 1 = 0 from by omega, px_l0, px_l1, px_l2, px_l3, px_l4, px_l5, px_l6, px_l9, px_l10, px_l14, px_l15, px_l23, px_l24, px_l25, px_l26, px_l29, px_l30, px_l32, px_l43, px_l45, px_l48, px_l57, px_l59, px_l60, px_l64, px_l100, px_l107, px_l116, px_l149, px_l150, px_l348, px_l464, px_l600, px_sa, nI_leI, nI_ltI, nI_eq, nI_add, pk_sub, pk_mul, pk_div, px_rm, nI_clamp, px_ck, px_eqm, px_meq, px_mm, px_mlt, px_mle, px_lem, px_ltm, px_mlem, Option.bind_some, px_b0, px_b1, px_ckb, px_if, px_if', ↓reduceIte]
      rw [decide_eq_decide.mpr (eq_comm (a := col K T C j e) (b := col K T C i e))]
      rfl
    | true =>
      have he2 : (e + 2) % 4 < 4 := by omega
      have c1 := col_lt hO hi he2
      have e0 : rm (nI e + 2 * nI (bN true)) 4 = nI ((e + 2) % 4) := by
        rw [show nI (bN true) = nI 1 from rfl]
        simp (disch := omega) only [Nat.mul_one, px_l0, px_l1, px_l2, px_l3, px_l4, px_l5, px_l6, px_l9, px_l10, px_l14, px_l15, px_l23, px_l24, px_l25, px_l26, px_l29, px_l30, px_l32, px_l43, px_l45, px_l48, px_l57, px_l59, px_l60, px_l64, px_l100, px_l107, px_l116, px_l149, px_l150, px_l348, px_l464, px_l600, px_sa, nI_leI, nI_ltI, nI_eq, nI_add, pk_sub, pk_mul, pk_div, px_rm, nI_clamp, px_ck, px_eqm, px_meq, px_mm, px_mlt, px_mle, px_lem, px_ltm, px_mlem, Option.bind_some, px_b0, px_b1, px_ckb, px_if, px_if', ↓reduceIte]
      unfold f_X7_comesUpon_b1
      dsimp only
      rw [e0]
      simp (disch := omega) only [h1, w7_col hO hR g1 he, w7_col hO hR hi he2, show ¬ 4 ≤ e from by omega, show ¬ 1 = 0 from by omega, px_l0, px_l1, px_l2, px_l3, px_l4, px_l5, px_l6, px_l9, px_l10, px_l14, px_l15, px_l23, px_l24, px_l25, px_l26, px_l29, px_l30, px_l32, px_l43, px_l45, px_l48, px_l57, px_l59, px_l60, px_l64, px_l100, px_l107, px_l116, px_l149, px_l150, px_l348, px_l464, px_l600, px_sa, nI_leI, nI_ltI, nI_eq, nI_add, pk_sub, pk_mul, pk_div, px_rm, nI_clamp, px_ck, px_eqm, px_meq, px_mm, px_mlt, px_mle, px_lem, px_ltm, px_mlem, Option.bind_some, px_b0, px_b1, px_ckb, px_if, px_if', ↓reduceIte]
      rw [decide_eq_decide.mpr (eq_comm (a := col K T C j e) (b := col K T C i ((e + 2) % 4)))]
      rfl
theorem w7_cu2 (hO : OKs n r K T M C) (hL : LY n M lay) (hR : RM n r K T M C z) (hl : LM lay on wy) {i m s : Nat} (hi : i < n) (hm : m < 150) (hs : s < 150) (half : Bool) : ((f_X7_shifted (nI m) (rm (nI s) 15) (nI s / 15)).bind fun r7 => (ck r7 150 (((if (wy r7.toNatClampNeg) = 4 then (some 1) else (some 0)) : Option (Int32)).bind fun t10 => ((lp (f_X7_comesUpon_b1 z on (nI (bN half)) (nI 1, nI i) r7) FU (t10, 0)).bind fun e12 => (some (.inl (e12.1, (nI i + 1)))))))) = some (.inl (nI (bN (cuG (lay (sh m (s % 15) (s / 15))) && allb (cuF half K T C i (lay (sh m (s % 15) (s / 15)))) 4)), nI (i + 1)) : (Int32 × Int32) ⊕ (Int32 × Int32)) := by
  have hn := hO.1
  have hlt : sh m (s % 15) (s / 15) < 150 := sh_lt
  rw [px_l15, px_l4, px_l1, px_l0, px_rm (by omega) (by omega) (by omega), pk_div (by omega) (by omega) (by omega), g7_sh hm (show s % 15 < 15 by omega) (show s / 15 < 10 by omega), Option.bind_some, px_ck hlt (by omega), nI_clamp (by omega)]
  generalize sh m (s % 15) (s / 15) = c at hlt ⊢
  have hw : (if wy c = nI 4 then some (nI 1) else some (nI 0)) = some (nI (bN (cuG (lay c)))) := by
    cases hq : lay c with
    | none =>
      rw [((hl _ hlt).1 hq).2, if_neg (show ¬ -nI 5 = nI 4 from fun h => (px_meq (by omega) (by omega) (by omega)).mp h)]
      rfl
    | some q =>
      obtain ⟨g1, g2, -⟩ := hL.2 _ q.1 q.2 hlt hq
      rw [((hl _ hlt).2 q.1 q.2 hq).2]
      simp (disch := omega) only [px_l0, px_l1, px_l2, px_l3, px_l4, px_l5, px_l6, px_l9, px_l10, px_l14, px_l15, px_l23, px_l24, px_l25, px_l26, px_l29, px_l30, px_l32, px_l43, px_l45, px_l48, px_l57, px_l59, px_l60, px_l64, px_l100, px_l107, px_l116, px_l149, px_l150, px_l348, px_l464, px_l600, px_sa, nI_leI, nI_ltI, nI_eq, nI_add, pk_sub, pk_mul, pk_div, px_rm, nI_clamp, px_ck, px_eqm, px_meq, px_mm, px_mlt, px_mle, px_lem, px_ltm, px_mlem, Option.bind_some, px_b0, px_b1, px_ckb, px_if, px_if', ↓reduceIte]
      rfl
  obtain ⟨e, he⟩ := lp_all (g := f_X7_comesUpon_b1 z on (nI (bN half)) (nI 1, nI i) (nI c)) (cuF half K T C i (lay c)) 4 (cuG (lay c)) (by omega) (fun hb e he => w7_cu1 hO hL hR hl hi hlt half he hb) (by
    intro e he
    simp (disch := omega) only [f_X7_comesUpon_b1, show ¬ 4 ≤ e from by omega, px_l0, px_l1, px_l2, px_l3, px_l4, px_l5, px_l6, px_l9, px_l10, px_l14, px_l15, px_l23, px_l24, px_l25, px_l26, px_l29, px_l30, px_l32, px_l43, px_l45, px_l48, px_l57, px_l59, px_l60, px_l64, px_l100, px_l107, px_l116, px_l149, px_l150, px_l348, px_l464, px_l600, px_sa, nI_leI, nI_ltI, nI_eq, nI_add, pk_sub, pk_mul, pk_div, px_rm, nI_clamp, px_ck, px_eqm, px_meq, px_mm, px_mlt, px_mle, px_lem, px_ltm, px_mlem, Option.bind_some, px_b0, px_b1, px_ckb, px_if, px_if', ↓reduceIte]) (by
    intro b
    simp (disch := omega) only [f_X7_comesUpon_b1, Nat.le_refl, px_l0, px_l1, px_l2, px_l3, px_l4, px_l5, px_l6, px_l9, px_l10, px_l14, px_l15, px_l23, px_l24, px_l25, px_l26, px_l29, px_l30, px_l32, px_l43, px_l45, px_l48, px_l57, px_l59, px_l60, px_l64, px_l100, px_l107, px_l116, px_l149, px_l150, px_l348, px_l464, px_l600, px_sa, nI_leI, nI_ltI, nI_eq, nI_add, pk_sub, pk_mul, pk_div, px_rm, nI_clamp, px_ck, px_eqm, px_meq, px_mm, px_mlt, px_mle, px_lem, px_ltm, px_mlem, Option.bind_some, px_b0, px_b1, px_ckb, px_if, px_if', ↓reduceIte])
  rw [hw, Option.bind_some, he, Option.bind_some, nI_add]
theorem w7_cu3 (hO : OKs n r K T M C) (hL : LY n M lay) (hR : RM n r K T M C z) (hl : LM lay on wy) {i s : Nat} (hi : i < n) (hs : s < 150) (half : Bool) : f_X7_comesUpon_b2 z on wy (nI (bN half)) (nI s) (nI 1, nI i) = some (.inl (nI (bN (cuI half K T M C lay s i)), nI (i + 1))) := by
  have hn := hO.1
  have h25 := hR.2.2.1
  have hMi := (hO.2.2.1 i hi).2.2
  unfold f_X7_comesUpon_b2
  dsimp only
  rw [px_l25, px_ck (by omega) (by omega), nI_clamp (by omega), h25]
  rw [if_neg (show ¬ nI n ≤ nI i from by rw [nI_leI (by omega) (by omega)]; omega), if_neg (show ¬ nI 1 = (0 : Int32) from by decide +kernel), w7_mid hR hi hn, Option.bind_some, cuI_eq]
  cases half with
  | false =>
    rw [if_pos (show nI (bN false) = 0 from by decide +kernel), Option.bind_some]
    exact w7_cu2 hO hL hR hl hi hMi hs false
  | true =>
    rw [if_neg (show ¬ nI (bN true) = 0 from by decide +kernel), w7_hf hMi, Option.bind_some]
    exact w7_cu2 hO hL hR hl hi hf_lt hs true
theorem w7_cu (hO : OKs n r K T M C) (hL : LY n M lay) (hR : RM n r K T M C z) (hl : LM lay on wy) {s : Nat} (hs : s < 150) (half : Bool) : f_X7_comesUpon z on wy (nI (bN half)) (nI s) = some (nI (bN (cuB half n K T M C lay s))) := by
  have hn := hO.1
  have h25 := hR.2.2.1
  obtain ⟨e, he⟩ := lp_all (g := f_X7_comesUpon_b2 z on wy (nI (bN half)) (nI s)) (cuI half K T M C lay s) n true (by omega) (fun _ i hi => w7_cu3 hO hL hR hl hi hs half) (by
    intro i hi
    simp (disch := omega) only [f_X7_comesUpon_b2, h25, show ¬ n ≤ i from by omega, px_l0, px_l1, px_l2, px_l3, px_l4, px_l5, px_l6, px_l9, px_l10, px_l14, px_l15, px_l23, px_l24, px_l25, px_l26, px_l29, px_l30, px_l32, px_l43, px_l45, px_l48, px_l57, px_l59, px_l60, px_l64, px_l100, px_l107, px_l116, px_l149, px_l150, px_l348, px_l464, px_l600, px_sa, nI_leI, nI_ltI, nI_eq, nI_add, pk_sub, pk_mul, pk_div, px_rm, nI_clamp, px_ck, px_eqm, px_meq, px_mm, px_mlt, px_mle, px_lem, px_ltm, px_mlem, Option.bind_some, px_b0, px_b1, px_ckb, px_if, px_if', ↓reduceIte]) (by
    intro b
    simp (disch := omega) only [f_X7_comesUpon_b2, h25, Nat.le_refl, px_l0, px_l1, px_l2, px_l3, px_l4, px_l5, px_l6, px_l9, px_l10, px_l14, px_l15, px_l23, px_l24, px_l25, px_l26, px_l29, px_l30, px_l32, px_l43, px_l45, px_l48, px_l57, px_l59, px_l60, px_l64, px_l100, px_l107, px_l116, px_l149, px_l150, px_l348, px_l464, px_l600, px_sa, nI_leI, nI_ltI, nI_eq, nI_add, pk_sub, pk_mul, pk_div, px_rm, nI_clamp, px_ck, px_eqm, px_meq, px_mm, px_mlt, px_mle, px_lem, px_ltm, px_mlem, Option.bind_some, px_b0, px_b1, px_ckb, px_if, px_if', ↓reduceIte])
  have he2 : lp (f_X7_comesUpon_b2 z on wy (nI (bN half)) (nI s)) FU (nI 1, nI 0) = some (nI (bN (true && allb (cuI half K T M C lay s) n)), e) := he
  unfold f_X7_comesUpon cuB
  rw [px_l1, px_l0, he2]
  simp (disch := omega) only [Bool.true_and, px_l0, px_l1, px_l2, px_l3, px_l4, px_l5, px_l6, px_l9, px_l10, px_l14, px_l15, px_l23, px_l24, px_l25, px_l26, px_l29, px_l30, px_l32, px_l43, px_l45, px_l48, px_l57, px_l59, px_l60, px_l64, px_l100, px_l107, px_l116, px_l149, px_l150, px_l348, px_l464, px_l600, px_sa, nI_leI, nI_ltI, nI_eq, nI_add, pk_sub, pk_mul, pk_div, px_rm, nI_clamp, px_ck, px_eqm, px_meq, px_mm, px_mlt, px_mle, px_lem, px_ltm, px_mlem, Option.bind_some, px_b0, px_b1, px_ckb, px_if, px_if', ↓reduceIte]
/-! counted, and the first -/
theorem smf_head {f : Nat → Nat} {n : Nat} : smf f (n + 1) = f 0 + smf (fun i => f (i + 1)) n := by
  induction n with
  | zero => simp [smf]
  | succ n ih => rw [smf_s, ih, smf_s]; omega
theorem smf_rev {f : Nat → Nat} {n : Nat} : smf (fun j => f (n - (j + 1))) n = smf f n := by
  induction n with
  | zero => rfl
  | succ n ih =>
    rw [smf_head, smf_s]
    rw [smf_congr (q := fun j => f (n - (j + 1))) (fun i hi => by congr 1; omega), ih]
    rw [show n + 1 - (0 + 1) = n by omega]; omega
/-- the least place from a on, of the last i, of which p holds -/
def fdI (p : Nat → Bool) (a : Nat) : Nat → Int32
  | 0 => -nI 5
  | i + 1 => if p (149 - i) && decide (a ≤ 149 - i) then nI (149 - i) else fdI p a i
theorem fdI_none {p : Nat → Bool} {a : Nat} (h : ∀ k, a ≤ k → k < 150 → p k = false) : ∀ i, fdI p a i = -nI 5 := by
  intro i
  induction i with
  | zero => rfl
  | succ i ih =>
    unfold fdI
    by_cases ha : a ≤ 149 - i
    · rw [h _ ha (by omega)]; exact ih
    · rw [decide_eq_false ha, Bool.and_false]; exact ih
theorem fdI_some {p : Nat → Bool} {a j : Nat} (h1 : a ≤ j) (h2 : j < 150) (hp : p j = true) (h : ∀ k, a ≤ k → k < j → p k = false) : ∀ i, 150 - j ≤ i → i ≤ 150 → fdI p a i = nI j := by
  intro i
  induction i with
  | zero => intro h3 _; omega
  | succ i ih =>
    intro h3 h4
    unfold fdI
    rcases Nat.lt_or_ge i (150 - j) with h5 | h5
    · rw [show 149 - i = j by omega, hp, decide_eq_true h1]; rfl
    · by_cases ha : a ≤ 149 - i
      · rw [h _ ha (by omega)]; exact ih h5 (by omega)
      · rw [decide_eq_false ha, Bool.and_false]; exact ih h5 (by omega)
theorem w5_count (hO : OKs n r K T M C) (hL : LY n M lay) (hR : RCa n K T M C NWKa NWTa NWMa NWCa) (hl : LC lay ow pa) : f_X5_countShifts (nI n) NWKa NWTa NWMa NWCa ow pa = some (nI (smf (fun s => bN (cuB false n K T M C lay s)) 150)) := by
  unfold f_X5_countShifts
  refine lp_detb (fun s => (nI (smf (fun s => bN (cuB false n K T M C lay s)) s), nI s)) 150 (nI (smf (fun s => bN (cuB false n K T M C lay s)) 150), nI 150) ?_ ?_ (by decide) rfl
  · intro s hs
    have hc := w5_cu hO hL hR hl hs false
    rw [show nI (bN false) = nI 0 from rfl] at hc
    rw [smf_s]
    cases hb : cuB false n K T M C lay s <;> rw [hb] at hc <;> simp (disch := omega) only [f_X5_countShifts_b1, hc, show ¬ 150 ≤ s from by omega, Bool.true_eq_false, px_l0, px_l1, px_l2, px_l3, px_l4, px_l5, px_l6, px_l9, px_l10, px_l14, px_l15, px_l23, px_l24, px_l25, px_l26, px_l29, px_l30, px_l32, px_l43, px_l45, px_l48, px_l57, px_l59, px_l60, px_l64, px_l100, px_l107, px_l116, px_l149, px_l150, px_l348, px_l464, px_l600, px_sa, nI_leI, nI_ltI, nI_eq, nI_add, pk_sub, pk_mul, pk_div, px_rm, nI_clamp, px_ck, px_eqm, px_meq, px_mm, px_mlt, px_mle, px_lem, px_ltm, px_mlem, Option.bind_some, px_b0, px_b1, px_ckb, px_if, px_if', ↓reduceIte] <;> rfl
  · simp (disch := omega) only [f_X5_countShifts_b1, Nat.le_refl, px_l0, px_l1, px_l2, px_l3, px_l4, px_l5, px_l6, px_l9, px_l10, px_l14, px_l15, px_l23, px_l24, px_l25, px_l26, px_l29, px_l30, px_l32, px_l43, px_l45, px_l48, px_l57, px_l59, px_l60, px_l64, px_l100, px_l107, px_l116, px_l149, px_l150, px_l348, px_l464, px_l600, px_sa, nI_leI, nI_ltI, nI_eq, nI_add, pk_sub, pk_mul, pk_div, px_rm, nI_clamp, px_ck, px_eqm, px_meq, px_mm, px_mlt, px_mle, px_lem, px_ltm, px_mlem, Option.bind_some, px_b0, px_b1, px_ckb, px_if, px_if', ↓reduceIte]
theorem w5_first (hO : OKs n r K T M C) (hL : LY n M lay) (hR : RCa n K T M C NWKa NWTa NWMa NWCa) (hl : LC lay ow pa) {a : Nat} (ha : a ≤ 150) (half : Bool) : f_X5_firstShift (nI n) NWKa NWTa NWMa NWCa ow pa (nI a) (nI (bN half)) = some (fdI (cuB half n K T M C lay) a 150) := by
  obtain ⟨q, q1, q2⟩ := lp_inv (f := f_X5_firstShift_b1 (nI n) NWKa NWTa NWMa NWCa ow pa (nI (bN half))) (fun i s => s = nI i ∧ a ≤ i ∧ ∀ k, a ≤ k → k < i → cuB half n K T M C lay k = false) 150 (fun q => Sum.elim (fun _ => (some (-5) : Option Int32)) (fun e => some e) q = some (fdI (cuB half n K T M C lay) a 150)) (by
    rintro i s hi ⟨rfl, hai, h⟩
    have hc := w5_cu hO hL hR hl hi half
    cases hb : cuB half n K T M C lay i with
    | false =>
      rw [hb] at hc
      refine Or.inl ⟨nI (i + 1), ?_, rfl, by omega, fun k h1 h2 => ?_⟩
      · simp (disch := omega) only [f_X5_firstShift_b1, hc, show ¬ 150 ≤ i from by omega, px_l0, px_l1, px_l2, px_l3, px_l4, px_l5, px_l6, px_l9, px_l10, px_l14, px_l15, px_l23, px_l24, px_l25, px_l26, px_l29, px_l30, px_l32, px_l43, px_l45, px_l48, px_l57, px_l59, px_l60, px_l64, px_l100, px_l107, px_l116, px_l149, px_l150, px_l348, px_l464, px_l600, px_sa, nI_leI, nI_ltI, nI_eq, nI_add, pk_sub, pk_mul, pk_div, px_rm, nI_clamp, px_ck, px_eqm, px_meq, px_mm, px_mlt, px_mle, px_lem, px_ltm, px_mlem, Option.bind_some, px_b0, px_b1, px_ckb, px_if, px_if', ↓reduceIte]
      · rcases Nat.lt_or_ge k i with h3 | h3
        · exact h k h1 h3
        · rw [show k = i by omega]; exact hb
    | true =>
      rw [hb] at hc
      refine Or.inr ⟨.inr (nI i), ?_, ?_⟩
      · simp (disch := omega) only [f_X5_firstShift_b1, hc, show ¬ 150 ≤ i from by omega, Bool.true_eq_false, px_l0, px_l1, px_l2, px_l3, px_l4, px_l5, px_l6, px_l9, px_l10, px_l14, px_l15, px_l23, px_l24, px_l25, px_l26, px_l29, px_l30, px_l32, px_l43, px_l45, px_l48, px_l57, px_l59, px_l60, px_l64, px_l100, px_l107, px_l116, px_l149, px_l150, px_l348, px_l464, px_l600, px_sa, nI_leI, nI_ltI, nI_eq, nI_add, pk_sub, pk_mul, pk_div, px_rm, nI_clamp, px_ck, px_eqm, px_meq, px_mm, px_mlt, px_mle, px_lem, px_ltm, px_mlem, Option.bind_some, px_b0, px_b1, px_ckb, px_if, px_if', ↓reduceIte]
      · rw [fdI_some hai hi hb h 150 (by omega) (by omega)]; rfl) (by
    rintro s ⟨rfl, _, h⟩
    refine ⟨.inl (nI 150), ?_, ?_⟩
    · simp (disch := omega) only [f_X5_firstShift_b1, Nat.le_refl, px_l0, px_l1, px_l2, px_l3, px_l4, px_l5, px_l6, px_l9, px_l10, px_l14, px_l15, px_l23, px_l24, px_l25, px_l26, px_l29, px_l30, px_l32, px_l43, px_l45, px_l48, px_l57, px_l59, px_l60, px_l64, px_l100, px_l107, px_l116, px_l149, px_l150, px_l348, px_l464, px_l600, px_sa, nI_leI, nI_ltI, nI_eq, nI_add, pk_sub, pk_mul, pk_div, px_rm, nI_clamp, px_ck, px_eqm, px_meq, px_mm, px_mlt, px_mle, px_lem, px_ltm, px_mlem, Option.bind_some, px_b0, px_b1, px_ckb, px_if, px_if', ↓reduceIte]
    · rw [fdI_none h 150]; rfl) FU a (nI a) ha (by show 150 - a < 1000; omega) ⟨rfl, Nat.le_refl a, fun k h1 h2 => by omega⟩
  unfold f_X5_firstShift
  rw [q1]; exact q2
theorem px_down {i : Nat} (hi : i < 150) : nI (150 - i) - nI 1 = nI (149 - i) := by
  rw [pk_sub (show 1 ≤ 150 - i by omega)]
  congr 1; omega
theorem px_down1 {i : Nat} : nI (149 - i) + -1 = nI (150 - (i + 1)) - nI 1 := by
  rw [show 150 - (i + 1) = 149 - i by omega, Int32.sub_eq_add_neg]; rfl
theorem w7_shl (hO : OKs n r K T M C) (hL : LY n M lay) (hR : RM n r K T M C z) (hl : LM lay on wy) : lp (f_X7_shifts_b1 z on wy) FU (nI 0, -nI 5, nI 149) = some (nI (smf (fun s => bN (cuB false n K T M C lay s)) 150), fdI (cuB false n K T M C lay) 1 150, -nI 1) := by
  rw [← smf_rev]
  refine lp_det (fun i => (nI (smf (fun j => bN (cuB false n K T M C lay (150 - (j + 1)))) i), fdI (cuB false n K T M C lay) 1 i, nI (150 - i) - nI 1)) 150 _ ?_ ?_ (by decide) (by rw [px_down (by omega)]; rfl)
  · intro i hi
    have hc := w7_cu hO hL hR hl (show 149 - i < 150 by omega) false
    rw [show nI (bN false) = nI 0 from rfl] at hc
    rw [smf_s, fdI, show 150 - (i + 1) = 149 - i by omega, px_down hi, ← show nI (149 - i) + -1 = nI (149 - i) - nI 1 from by rw [px_down1, show 150 - (i + 1) = 149 - i by omega]]
    unfold f_X7_shifts_b1
    dsimp only
    rw [if_neg (show ¬ nI (149 - i) < 0 from nI_pos (by omega)), px_l0, hc]
    simp only [Option.bind_some]
    cases hb : cuB false n K T M C lay (149 - i) with
    | false =>
      rw [if_pos (show nI (bN false) = nI 0 from rfl), if_pos (show nI (bN false) = nI 0 from rfl)]
      simp only [Option.bind_some, nI_add]
      rfl
    | true =>
      rw [if_neg (show ¬ nI (bN true) = nI 0 from by decide +kernel), if_neg (show ¬ nI (bN true) = nI 0 from by decide +kernel)]
      by_cases h0 : 149 - i = 0
      · rw [if_pos (by rw [h0]; exact (nI_leI (by omega) (by omega)).mpr (Nat.le_refl 0)), decide_eq_false (show ¬ 1 ≤ 149 - i by omega)]
        simp only [Option.bind_some, px_l1, nI_add]
        rfl
      · rw [if_neg (by rw [nI_leI (by omega) (by omega)]; omega), decide_eq_true (show 1 ≤ 149 - i by omega)]
        simp only [Option.bind_some, px_l1, nI_add]
        rfl
  · unfold f_X7_shifts_b1
    rw [if_pos (show (nI (150 - 150) - nI 1) < 0 from by decide +kernel)]
    rfl
theorem w7_half (hO : OKs n r K T M C) (hL : LY n M lay) (hR : RM n r K T M C z) (hl : LM lay on wy) : f_X7_halfTurn z on wy = some (fdI (cuB true n K T M C lay) 0 150) := by
  unfold f_X7_halfTurn
  refine lp_detb (fun i => (fdI (cuB true n K T M C lay) 0 i, nI (150 - i) - nI 1)) 150 (fdI (cuB true n K T M C lay) 0 150, -nI 1) ?_ ?_ (by decide) (by rw [px_down (by omega)]; rfl)
  · intro i hi
    have hc := w7_cu hO hL hR hl (show 149 - i < 150 by omega) true
    rw [show nI (bN true) = nI 1 from rfl] at hc
    rw [fdI, show 150 - (i + 1) = 149 - i by omega, px_down hi, ← show nI (149 - i) + -1 = nI (149 - i) - nI 1 from by rw [px_down1, show 150 - (i + 1) = 149 - i by omega]]
    unfold f_X7_halfTurn_b1
    dsimp only
    rw [if_neg (show ¬ nI (149 - i) < 0 from nI_pos (by omega)), px_l1, hc, decide_eq_true (Nat.zero_le _), Bool.and_true]
    simp only [Option.bind_some]
    cases hb : cuB true n K T M C lay (149 - i) with
    | false => rfl
    | true => rfl
  · unfold f_X7_halfTurn_b1
    rw [if_pos (show (nI (150 - 150) - nI 1) < 0 from by decide +kernel)]
    rfl
end P39
theorem e_shifts {NWru : Int32} {NWco : Int32} {NWKa : Nat → Int32} {NWTa : Nat → Int32} {NWMa : Nat → Int32} {NWCa : Nat → Int32} {CAow : Nat → Int32} {CApa : Nat → Int32} {MOza : Nat → Int32} {MOon : Nat → Int32} {MOwy : Nat → Int32} (hA : RA NWru NWco NWKa NWTa NWMa NWCa CAow CApa MOza MOon MOwy) (p0 : Int32) : ∃ o, f_X6_shifts NWco NWKa NWTa NWMa NWCa CAow CApa p0 = some o ∧ f_X7_shifts MOza MOon MOwy p0 = some o := by
  obtain ⟨n, r, K, T, M, C, lay, hG, rfl, rfl, hRC, hRM, hLC, hLM⟩ := id hA
  obtain ⟨hO, hL, hN⟩ := id hG
  have n10 : ¬ nI 1 = 0 := by decide +kernel
  have n11 : ¬ nI 1 = nI 0 := n10
  unfold f_X6_shifts f_X7_shifts
  rcases a_in p0 (b := 1) (by omega) with ⟨a, ha, rfl, h⟩ | ⟨h, h2⟩
  · rw [px_l0, px_l1, h]
    simp only [Option.bind_some]
    rw [if_neg n11, px_l5, show (149 : Int32) = nI 149 from rfl, w7_shl hO hL hRM hLM]
    simp only [Option.bind_some]
    rcases (show a = 0 ∨ a = 1 by omega) with rfl | rfl
    · rw [if_pos rfl, if_pos rfl, w5_count hO hL hRC hLC]
      exact ⟨_, rfl, rfl⟩
    · have hf := w5_first hO hL hRC hLC (a := 1) (by omega) false
      rw [show nI (bN false) = nI 0 from rfl] at hf
      rw [if_neg n11, if_neg n11, if_pos rfl, hf]
      exact ⟨_, rfl, rfl⟩
  · rw [px_l0, px_l1, h2]
    refine ⟨-2, ?_, ?_⟩
    · have h3 : ∀ k : Nat, k < 2 → ¬ p0 = nI k := by
        rintro k hk rfl
        rcases h with h | h
        · exact nI_pos (by omega) h
        · rw [nI_leI (by omega) (by omega)] at h; omega
      rw [if_neg (h3 0 (by omega)), if_neg (h3 1 (by omega))]
    · simp only [Option.bind_some, ↓reduceIte]
theorem e_halfTurn {NWru : Int32} {NWco : Int32} {NWKa : Nat → Int32} {NWTa : Nat → Int32} {NWMa : Nat → Int32} {NWCa : Nat → Int32} {CAow : Nat → Int32} {CApa : Nat → Int32} {MOza : Nat → Int32} {MOon : Nat → Int32} {MOwy : Nat → Int32} (hA : RA NWru NWco NWKa NWTa NWMa NWCa CAow CApa MOza MOon MOwy) : ∃ o, f_X6_halfTurn NWco NWKa NWTa NWMa NWCa CAow CApa = some o ∧ f_X7_halfTurn MOza MOon MOwy = some o := by
  obtain ⟨n, r, K, T, M, C, lay, hG, rfl, rfl, hRC, hRM, hLC, hLM⟩ := id hA
  obtain ⟨hO, hL, hN⟩ := id hG
  have hf := w5_first hO hL hRC hLC (a := 0) (by omega) true
  rw [show nI (bN true) = nI 1 from rfl] at hf
  unfold f_X6_halfTurn
  rw [px_l0, px_l1, hf]
  exact ⟨_, rfl, w7_half hO hL hRM hLM⟩
