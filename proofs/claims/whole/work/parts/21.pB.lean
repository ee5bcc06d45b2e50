/-! THE BOARD -/
def bes (c d : Nat) : Nat := if d = 0 then 15 * ((c / 15 + 9) % 10) + c % 15 else if d = 1 then 15 * (c / 15) + (c % 15 + 1) % 15 else if d = 2 then 15 * ((c / 15 + 1) % 10) + c % 15 else 15 * (c / 15) + (c % 15 + 14) % 15
def sh (c co ro : Nat) : Nat := 15 * ((c / 15 + ro) % 10) + (c % 15 + co) % 15
def hf (c : Nat) : Nat := 15 * ((10 - c / 15) % 10) + (15 - c % 15) % 15
theorem g0_bes : ∀ c, c < 150 → ∀ d, d < 4 → f_X0_beside (nI c) (nI d) = some (nI (bes c d)) := by decide +kernel
theorem g7_bes : ∀ c, c < 150 → ∀ d, d < 4 → f_X7_beside (nI c) (nI d) = some (nI (bes c d)) := by decide +kernel
theorem bes_lt : ∀ c, c < 150 → ∀ d, d < 4 → bes c d < 150 := by decide +kernel
theorem bes_inv : ∀ c, c < 150 → ∀ d, d < 4 → bes (bes c d) ((d + 2) % 4) = c := by decide +kernel
theorem bes_ne : ∀ c, c < 150 → ∀ d, d < 4 → bes c d ≠ c := by decide +kernel
theorem bes_inj : ∀ c, c < 150 → ∀ d, d < 4 → ∀ e, e < 4 → bes c d = bes c e → d = e := by decide +kernel
theorem bes_comm : ∀ c, c < 150 → ∀ d, d < 4 → ∀ e, e < 4 → bes (bes c d) e = bes (bes c e) d := by decide +kernel
theorem sh_lt {c co ro : Nat} : sh c co ro < 150 := by unfold sh; omega
theorem hf_lt {c : Nat} : hf c < 150 := by unfold hf; omega
theorem g0_sh {c co ro : Nat} (hc : c < 150) (h1 : co < 15) (h2 : ro < 10) : f_X0_shifted (nI c) (nI co) (nI ro) = some (nI (sh c co ro)) := by
  simp (disch := omega) only [f_X0_shifted, sh, px_l0, px_l1, px_l2, px_l3, px_l4, px_l5, px_l6, px_l9, px_l10, px_l14, px_l15, px_l23, px_l24, px_l25, px_l26, px_l29, px_l30, px_l32, px_l43, px_l45, px_l48, px_l57, px_l59, px_l60, px_l64, px_l100, px_l107, px_l116, px_l149, px_l150, px_l348, px_l464, px_l600, px_sa, nI_leI, nI_ltI, nI_eq, nI_add, pk_sub, pk_mul, pk_div, px_rm, nI_clamp, px_ck, px_eqm, px_meq, px_mm, px_mlt, px_mle, px_lem, px_ltm, px_mlem, Option.bind_some, px_b0, px_b1, px_ckb, px_if, px_if', ↓reduceIte]
theorem g7_sh {c co ro : Nat} (hc : c < 150) (h1 : co < 15) (h2 : ro < 10) : f_X7_shifted (nI c) (nI co) (nI ro) = some (nI (sh c co ro)) := by
  simp (disch := omega) only [f_X7_shifted, sh, px_l0, px_l1, px_l2, px_l3, px_l4, px_l5, px_l6, px_l9, px_l10, px_l14, px_l15, px_l23, px_l24, px_l25, px_l26, px_l29, px_l30, px_l32, px_l43, px_l45, px_l48, px_l57, px_l59, px_l60, px_l64, px_l100, px_l107, px_l116, px_l149, px_l150, px_l348, px_l464, px_l600, px_sa, nI_leI, nI_ltI, nI_eq, nI_add, pk_sub, pk_mul, pk_div, px_rm, nI_clamp, px_ck, px_eqm, px_meq, px_mm, px_mlt, px_mle, px_lem, px_ltm, px_mlem, Option.bind_some, px_b0, px_b1, px_ckb, px_if, px_if', ↓reduceIte]
theorem g0_hf {c : Nat} (hc : c < 150) : f_X0_turnedByHalf (nI c) = some (nI (hf c)) := by
  simp (disch := omega) only [f_X0_turnedByHalf, hf, px_l0, px_l1, px_l2, px_l3, px_l4, px_l5, px_l6, px_l9, px_l10, px_l14, px_l15, px_l23, px_l24, px_l25, px_l26, px_l29, px_l30, px_l32, px_l43, px_l45, px_l48, px_l57, px_l59, px_l60, px_l64, px_l100, px_l107, px_l116, px_l149, px_l150, px_l348, px_l464, px_l600, px_sa, nI_leI, nI_ltI, nI_eq, nI_add, pk_sub, pk_mul, pk_div, px_rm, nI_clamp, px_ck, px_eqm, px_meq, px_mm, px_mlt, px_mle, px_lem, px_ltm, px_mlem, Option.bind_some, px_b0, px_b1, px_ckb, px_if, px_if', ↓reduceIte]
theorem g0_op {d : Nat} (hd : d < 4) : f_X0_opposite (nI d) = some (nI ((d + 2) % 4)) := by
  simp (disch := omega) only [f_X0_opposite, px_l0, px_l1, px_l2, px_l3, px_l4, px_l5, px_l6, px_l9, px_l10, px_l14, px_l15, px_l23, px_l24, px_l25, px_l26, px_l29, px_l30, px_l32, px_l43, px_l45, px_l48, px_l57, px_l59, px_l60, px_l64, px_l100, px_l107, px_l116, px_l149, px_l150, px_l348, px_l464, px_l600, px_sa, nI_leI, nI_ltI, nI_eq, nI_add, pk_sub, pk_mul, pk_div, px_rm, nI_clamp, px_ck, px_eqm, px_meq, px_mm, px_mlt, px_mle, px_lem, px_ltm, px_mlem, Option.bind_some, px_b0, px_b1, px_ckb, px_if, px_if', ↓reduceIte]
theorem bes_sh {c co ro d : Nat} (hc : c < 150) (hd : d < 4) (h1 : co < 15) (h2 : ro < 10) : bes (sh c co ro) d = sh (bes c d) co ro := by
  have hd' : d = 0 ∨ d = 1 ∨ d = 2 ∨ d = 3 := by omega
  rcases hd' with rfl | rfl | rfl | rfl <;> simp [bes, sh] <;> omega
theorem sh_inj {c e co ro : Nat} (hc : c < 150) (he : e < 150) (h1 : co < 15) (h2 : ro < 10) (h : sh c co ro = sh e co ro) : c = e := by
  unfold sh at h; omega
/-- the cell of a part of a cross with this middle: 0 to 3 its arms, 4 the middle -/
def cp (m d : Nat) : Nat := if d = 4 then m else bes m d
theorem cp_lt {m d : Nat} (hm : m < 150) (hd : d ≤ 4) : cp m d < 150 := by
  unfold cp
  split
  · exact hm
  · exact bes_lt m hm d (by omega)
theorem cp_4 {m : Nat} : cp m 4 = m := rfl
theorem cp_d {m d : Nat} (hd : d < 4) : cp m d = bes m d := if_neg (by omega)
theorem cp_inj {m d e : Nat} (hm : m < 150) (hd : d ≤ 4) (he : e ≤ 4) (h : cp m d = cp m e) : d = e := by
  unfold cp at h
  split at h <;> split at h
  · omega
  · exact absurd h.symm (bes_ne m hm e (by omega))
  · exact absurd h (bes_ne m hm d (by omega))
  · exact bes_inj m hm d (by omega) e (by omega) h
/-! A CARPET AS NUMBERS: n crosses of kinds K, turns T, middles M; RULE ru; colours C; lay: what lies on a cell -/
def OKs (n ru : Nat) (K T M C : Nat → Nat) : Prop := n ≤ 30 ∧ ru ≤ 2 ∧ (∀ i, i < n → K i < 6 ∧ T i < 4 ∧ M i < 150) ∧ ∀ i, i < 24 → C i < 6
def NO (n : Nat) (M : Nat → Nat) : Prop := ∀ i j d e, i < n → j < n → d ≤ 4 → e ≤ 4 → cp (M i) d = cp (M j) e → i = j ∧ d = e
def LY (n : Nat) (M : Nat → Nat) (lay : Nat → Option (Nat × Nat)) : Prop := (∀ i d, i < n → d ≤ 4 → lay (cp (M i) d) = some (i, d)) ∧ ∀ c i d, c < 150 → lay c = some (i, d) → i < n ∧ d ≤ 4 ∧ cp (M i) d = c
theorem LY.no {n : Nat} {M : Nat → Nat} {lay : Nat → Option (Nat × Nat)} (h : LY n M lay) : NO n M := by
  intro i j d e hi hj hd he heq
  have h1 := h.1 i d hi hd
  rw [heq, h.1 j e hj he] at h1
  have h2 := Option.some.inj h1
  exact ⟨(congrArg Prod.fst h2).symm, (congrArg Prod.snd h2).symm⟩
theorem LY.ex : ∀ {n : Nat} {M : Nat → Nat}, (∀ i, i < n → M i < 150) → NO n M → ∃ lay, LY n M lay := by
  intro n
  induction n with
  | zero => intro M _ _; exact ⟨fun _ => none, fun i d h => absurd h (Nat.not_lt_zero i), fun c i d _ h => by cases h⟩
  | succ n ih =>
    intro M hM hN
    obtain ⟨lay, h1, h2⟩ := ih (M := M) (fun i hi => hM i (by omega)) (fun i j d e hi hj => hN i j d e (by omega) (by omega))
    refine ⟨fun c => if c = cp (M n) 0 then some (n, 0) else if c = cp (M n) 1 then some (n, 1) else if c = cp (M n) 2 then some (n, 2) else if c = cp (M n) 3 then some (n, 3) else if c = cp (M n) 4 then some (n, 4) else lay c, ?_, ?_⟩
    · intro i d hi hd
      rcases Nat.lt_or_ge i n with hlt | hge
      · have hne : ∀ e, e ≤ 4 → cp (M i) d ≠ cp (M n) e := fun e he q => absurd (hN i n d e (by omega) (by omega) hd he q).1 (by omega)
        simp only [hne 0 (by omega), hne 1 (by omega), hne 2 (by omega), hne 3 (by omega), hne 4 (by omega), ↓reduceIte]
        exact h1 i d hlt hd
      · have hin : i = n := by omega
        subst hin
        have hne : ∀ e, e ≤ 4 → d ≠ e → cp (M i) d ≠ cp (M i) e := fun e he hde q => hde (cp_inj (hM i (by omega)) hd he q)
        have hd' : d = 0 ∨ d = 1 ∨ d = 2 ∨ d = 3 ∨ d = 4 := by omega
        rcases hd' with rfl | rfl | rfl | rfl | rfl
        · simp only [↓reduceIte]
        · simp only [hne 0 (by omega) (by omega), ↓reduceIte]
        · simp only [hne 0 (by omega) (by omega), hne 1 (by omega) (by omega), ↓reduceIte]
        · simp only [hne 0 (by omega) (by omega), hne 1 (by omega) (by omega), hne 2 (by omega) (by omega), ↓reduceIte]
        · simp only [hne 0 (by omega) (by omega), hne 1 (by omega) (by omega), hne 2 (by omega) (by omega), hne 3 (by omega) (by omega), ↓reduceIte]
    · intro c i d hc h
      dsimp only at h
      split at h
      · cases h; exact ⟨by omega, by omega, by rename_i z; exact z.symm⟩
      split at h
      · cases h; exact ⟨by omega, by omega, by rename_i z; exact z.symm⟩
      split at h
      · cases h; exact ⟨by omega, by omega, by rename_i z; exact z.symm⟩
      split at h
      · cases h; exact ⟨by omega, by omega, by rename_i z; exact z.symm⟩
      split at h
      · cases h; exact ⟨by omega, by omega, by rename_i z; exact z.symm⟩
      obtain ⟨a, b, e⟩ := h2 c i d hc h
      exact ⟨by omega, b, e⟩
/-- what the class's cells hold; what the reference's hold -/
def LC (lay : Nat → Option (Nat × Nat)) (ow pa : Nat → Int32) : Prop := ∀ c, c < 150 → (lay c = none → ow c = -nI 1 ∧ pa c = nI 4) ∧ ∀ i d, lay c = some (i, d) → ow c = nI i ∧ pa c = nI d
def LM (lay : Nat → Option (Nat × Nat)) (on wy : Nat → Int32) : Prop := ∀ c, c < 150 → (lay c = none → on c = -nI 5 ∧ wy c = -nI 5) ∧ ∀ i d, lay c = some (i, d) → on c = nI i ∧ wy c = nI d
def RC (n ru : Nat) (K T M C : Nat → Nat) (NWru NWco : Int32) (NWKa NWTa NWMa NWCa : Nat → Int32) : Prop := NWru = nI ru ∧ NWco = nI n ∧ (∀ i, i < n → NWKa i = nI (K i) ∧ NWTa i = nI (T i) ∧ NWMa i = nI (M i)) ∧ ∀ i, i < 24 → NWCa i = nI (C i)
def RM (n ru : Nat) (K T M C : Nat → Nat) (z : Nat → Int32) : Prop := (∀ i, i < 24 → z i = nI (C i)) ∧ z 24 = nI ru ∧ z 25 = nI n ∧ ∀ i, i < n → z (26 + 3 * i) = nI (K i) ∧ z (26 + 3 * i + 1) = nI (T i) ∧ z (26 + 3 * i + 2) = nI (M i)
/-! LAYING OUT -/
/-- the layout of the crosses below i, and of cross i but its arms from dd on -/
def layR (lay : Nat → Option (Nat × Nat)) (i dd : Nat) : Nat → Option (Nat × Nat) := fun c => match lay c with
  | none => none
  | some (j, d) => if j < i ∨ (j = i ∧ (d = 4 ∨ d < dd)) then some (j, d) else none
/-- of the class's: a middle's part stands from the start -/
def LCr (lay : Nat → Option (Nat × Nat)) (i dd : Nat) (ow pa : Nat → Int32) : Prop := LC (layR lay i dd) ow pa
theorem px_upd {f : Nat → Int32} {k j : Nat} {x : Int32} : upd f k x j = if j = k then x else f j := rfl
/-- one more cell of cross i is written -/
theorem LC.put {lay lay' : Nat → Option (Nat × Nat)} {ow pa : Nat → Int32} {c i d : Nat} (h : LC lay ow pa) (h1 : lay' c = some (i, d)) (h2 : ∀ c', c' < 150 → c' ≠ c → lay' c' = lay c') : LC lay' (upd ow c (nI i)) (upd pa c (nI d)) := by
  intro c' hc'
  by_cases hcc : c' = c
  · subst hcc
    rw [px_upd, px_upd, if_pos rfl, if_pos rfl, h1]
    exact ⟨fun q => (by cases q), fun a b q => (by cases q; exact ⟨rfl, rfl⟩)⟩
  · rw [px_upd, px_upd, if_neg hcc, if_neg hcc, h2 c' hc' hcc]
    exact h c' hc'
theorem LM.put {lay lay' : Nat → Option (Nat × Nat)} {ow pa : Nat → Int32} {c i d : Nat} (h : LM lay ow pa) (h1 : lay' c = some (i, d)) (h2 : ∀ c', c' < 150 → c' ≠ c → lay' c' = lay c') : LM lay' (upd ow c (nI i)) (upd pa c (nI d)) := by
  intro c' hc'
  by_cases hcc : c' = c
  · subst hcc
    rw [px_upd, px_upd, if_pos rfl, if_pos rfl, h1]
    exact ⟨fun q => (by cases q), fun a b q => (by cases q; exact ⟨rfl, rfl⟩)⟩
  · rw [px_upd, px_upd, if_neg hcc, if_neg hcc, h2 c' hc' hcc]
    exact h c' hc'
theorem LC.congr {lay lay' : Nat → Option (Nat × Nat)} {ow pa : Nat → Int32} (h : LC lay ow pa) (h2 : ∀ c', c' < 150 → lay' c' = lay c') : LC lay' ow pa := fun c hc => by rw [h2 c hc]; exact h c hc
theorem LM.congr {lay lay' : Nat → Option (Nat × Nat)} {ow pa : Nat → Int32} (h : LM lay ow pa) (h2 : ∀ c', c' < 150 → lay' c' = lay c') : LM lay' ow pa := fun c hc => by rw [h2 c hc]; exact h c hc
theorem layR_at {n : Nat} {M : Nat → Nat} {lay : Nat → Option (Nat × Nat)} (h : LY n M lay) {i d dd : Nat} (hi : i < n) (hd : d ≤ 4) (h1 : d = 4 ∨ d < dd) : layR lay i dd (cp (M i) d) = some (i, d) := by
  unfold layR
  rw [h.1 i d hi hd]
  simp only [true_and]
  rw [if_pos (Or.inr h1)]
/-- from the arms below d to the arms below d + 1: one cell -/
theorem layR_step {n : Nat} {M : Nat → Nat} {lay : Nat → Option (Nat × Nat)} (h : LY n M lay) {i d : Nat} (hi : i < n) (hd : d < 4) : ∀ c', c' < 150 → c' ≠ cp (M i) d → layR lay i (d + 1) c' = layR lay i d c' := by
  intro c' hc' hne
  unfold layR
  cases hl : lay c' with
  | none => rfl
  | some q =>
    obtain ⟨j, e⟩ := q
    obtain ⟨h1, h2, h3⟩ := h.2 c' j e hc' hl
    dsimp only
    by_cases hji : j = i
    · subst hji
      have hed : e ≠ d := fun q => hne (by rw [← h3, q])
      by_cases hc : e = 4 ∨ e < d
      · rw [if_pos (Or.inr ⟨rfl, by omega⟩), if_pos (Or.inr ⟨rfl, hc⟩)]
      · rw [if_neg (by omega), if_neg (by omega)]
    · by_cases hc : j < i
      · rw [if_pos (Or.inl hc), if_pos (Or.inl hc)]
      · rw [if_neg (by omega), if_neg (by omega)]
theorem layR_mid {n : Nat} {M : Nat → Nat} {lay : Nat → Option (Nat × Nat)} (h : LY n M lay) {i : Nat} (hi : i < n) : ∀ c', c' < 150 → c' ≠ cp (M i) 4 → layR lay i 0 c' = (match lay c' with | none => none | some (j, d) => if j < i then some (j, d) else none) := by
  intro c' hc' hne
  unfold layR
  cases hl : lay c' with
  | none => rfl
  | some q =>
    obtain ⟨j, e⟩ := q
    obtain ⟨h1, h2, h3⟩ := h.2 c' j e hc' hl
    dsimp only
    by_cases hc : j < i
    · rw [if_pos (Or.inl hc), if_pos hc]
    · rw [if_neg, if_neg hc]
      intro hq
      rcases hq with hq | ⟨hq, hq2⟩
      · exact hc hq
      · subst hq
        rcases hq2 with rfl | hq2
        · exact hne h3.symm
        · omega
/-- all parts of cross i stand: the crosses below i + 1 -/
theorem layR_next {n : Nat} {M : Nat → Nat} {lay : Nat → Option (Nat × Nat)} (h : LY n M lay) {i : Nat} : ∀ c', c' < 150 → (match lay c' with | none => none | some (j, d) => if j < i + 1 then some (j, d) else none) = layR lay i 4 c' := by
  intro c' hc'
  unfold layR
  cases hl : lay c' with
  | none => rfl
  | some q =>
    obtain ⟨j, e⟩ := q
    obtain ⟨h1, h2, h3⟩ := h.2 c' j e hc' hl
    dsimp only
    by_cases hc : j < i + 1
    · rw [if_pos hc, if_pos (by omega)]
    · rw [if_neg hc, if_neg (by omega)]
abbrev layN (lay : Nat → Option (Nat × Nat)) (i : Nat) : Nat → Option (Nat × Nat) := fun c => match lay c with | none => none | some (j, d) => if j < i then some (j, d) else none
theorem layN_all {n : Nat} {M : Nat → Nat} {lay : Nat → Option (Nat × Nat)} (h : LY n M lay) : ∀ c', c' < 150 → lay c' = layN lay n c' := by
  intro c' hc'
  unfold layN
  cases hl : lay c' with
  | none => rfl
  | some q =>
    obtain ⟨j, e⟩ := q
    obtain ⟨h1, h2, h3⟩ := h.2 c' j e hc' hl
    dsimp only
    rw [if_pos h1]
