/-! NUMBERS: words of the machine as plain numbers -/
theorem px_toInt_neg {n : Nat} (h : n < 2 ^ 31) : (-nI n).toInt = -(n : Int) := by
  rw [Int32.toInt_neg, nI_toInt h]
  have h1 : (-(n : Int)).bmod (2 ^ 32) = -(n : Int) := by
    refine Int.bmod_eq_of_le ?_ ?_ <;> omega
  exact h1
theorem px_eqm {a b : Nat} (ha : a < 2 ^ 31) (hb : b < 2 ^ 31) (h0 : 0 < b) : (nI a = -nI b) ↔ False := by
  constructor
  · intro h
    have := congrArg Int32.toInt h
    rw [nI_toInt ha, px_toInt_neg hb] at this
    omega
  · exact False.elim
theorem px_meq {a b : Nat} (ha : a < 2 ^ 31) (hb : b < 2 ^ 31) (h0 : 0 < b) : (-nI b = nI a) ↔ False := by
  rw [eq_comm]; exact px_eqm ha hb h0
theorem px_mm {a b : Nat} (ha : a < 2 ^ 31) (hb : b < 2 ^ 31) : (-nI a = -nI b) ↔ a = b := by
  constructor
  · intro h
    have := congrArg Int32.toInt h
    rw [px_toInt_neg ha, px_toInt_neg hb] at this
    omega
  · rintro rfl; rfl
theorem px_mlt {a b : Nat} (ha : a < 2 ^ 31) (hb : b < 2 ^ 31) (h0 : 0 < b) : (-nI b < nI a) ↔ True := by
  rw [Int32.lt_iff_toInt_lt, nI_toInt ha, px_toInt_neg hb]
  constructor <;> intro _ <;> first | trivial | omega
theorem px_mle {a b : Nat} (ha : a < 2 ^ 31) (hb : b < 2 ^ 31) (h0 : 0 < b) : (-nI b ≤ nI a) ↔ True := by
  rw [Int32.le_iff_toInt_le, nI_toInt ha, px_toInt_neg hb]
  constructor <;> intro _ <;> first | trivial | omega
theorem px_lem {a b : Nat} (ha : a < 2 ^ 31) (hb : b < 2 ^ 31) (h0 : 0 < b) : (nI a ≤ -nI b) ↔ False := by
  rw [Int32.le_iff_toInt_le, nI_toInt ha, px_toInt_neg hb]
  constructor
  · intro h; omega
  · exact False.elim
theorem px_ltm {a b : Nat} (ha : a < 2 ^ 31) (hb : b < 2 ^ 31) (h0 : 0 < b) : (nI a < -nI b) ↔ False := by
  rw [Int32.lt_iff_toInt_lt, nI_toInt ha, px_toInt_neg hb]
  constructor
  · intro h; omega
  · exact False.elim
theorem px_mlem {a b : Nat} (ha : a < 2 ^ 31) (hb : b < 2 ^ 31) : (-nI a ≤ -nI b) ↔ b ≤ a := by
  rw [Int32.le_iff_toInt_le, px_toInt_neg ha, px_toInt_neg hb]; omega
theorem px_rm {a d : Nat} (ha : a < 2 ^ 31) (h0 : 0 < d) (hd : d < 2 ^ 31) : rm (nI a) (nI d) = nI (a % d) := pk_rem ha h0 hd
theorem px_ck {α : Type} {i N : Nat} {t : Option α} (h : i < N) (hN : N < 2 ^ 31) : ck (nI i) N t = t := by
  unfold ck
  rw [if_neg]
  intro h2
  rcases h2 with h2 | h2
  · exact nI_pos (by omega) h2
  · rw [nI_clamp (by omega)] at h2; omega
theorem px_ckP {α : Type} {p : Prop} [Decidable p] {t : Option α} (h : p) : ckP p t = t := if_pos h
theorem px_l0 : (0 : Int32) = nI 0 := id rfl
/-- 1 or 0 -/
def bN (b : Bool) : Nat := if b then 1 else 0
theorem bN_le (b : Bool) : bN b ≤ 1 := by cases b <;> decide
theorem bN_lt (b : Bool) : bN b < 2 ^ 31 := by cases b <;> decide
theorem px_b0 (b : Bool) : (nI (bN b) = nI 0) ↔ b = false := by cases b <;> decide
theorem px_b1 (b : Bool) : (nI (bN b) = nI 1) ↔ b = true := by cases b <;> decide
theorem px_ckb {α : Type} {b : Bool} {t : Option α} : ckP (b = false ∨ b = true) t = t := if_pos (by cases b <;> simp)
theorem px_b01 (b : Bool) : (nI (bN b) = nI 0 ∨ nI (bN b) = nI 1) := by cases b <;> decide
theorem px_if {p : Prop} [Decidable p] : (if p then some (nI 1) else some (nI 0)) = some (nI (bN (decide p))) := by
  by_cases h : p <;> simp [h, bN]
theorem px_if' {p : Prop} [Decidable p] : (if p then some (nI 0) else some (nI 1)) = some (nI (bN (!decide p))) := by
  by_cases h : p <;> simp [h, bN]
theorem px_z1 : vp_nar .boolean (nI 1) = nI 1 := by decide +kernel
theorem px_z0 : vp_nar .boolean (nI 0) = nI 0 := by decide +kernel
/-! LOOPS -/
theorem lp_inv {σ ρ : Type} {f : σ → Option (σ ⊕ ρ)} (I : Nat → σ → Prop) (e : Nat) (Q : ρ → Prop)
    (hs : ∀ i s, i < e → I i s → (∃ s', f s = some (.inl s') ∧ I (i + 1) s') ∨ ∃ r, f s = some (.inr r) ∧ Q r) (hx : ∀ s, I e s → ∃ r, f s = some (.inr r) ∧ Q r) :
    ∀ (N i : Nat) (s : σ), i ≤ e → e - i < N → I i s → ∃ r, lp f N s = some r ∧ Q r := by
  intro N
  induction N with
  | zero => intro i s _ h; omega
  | succ n ih =>
    intro i s hi hN h
    have key : ∀ r, f s = some (.inr r) → lp f (n + 1) s = some r := fun r h1 => by
      show (f s).bind _ = _
      rw [h1]; rfl
    rcases Nat.lt_or_ge i e with hlt | hge
    · rcases hs i s hlt h with ⟨s', h1, h2⟩ | ⟨r, h1, h2⟩
      · obtain ⟨r, h3, h4⟩ := ih (i + 1) s' hlt (by omega) h2
        refine ⟨r, ?_, h4⟩
        show (f s).bind _ = _
        rw [h1]; exact h3
      · exact ⟨r, key r h1, h2⟩
    · have : i = e := by omega
      subst this
      obtain ⟨r, h1, h2⟩ := hx s h
      exact ⟨r, key r h1, h2⟩
/-- a loop whose states are known: g i at the i-th round, an end at the e-th -/
theorem lp_det {σ ρ : Type} {f : σ → Option (σ ⊕ ρ)} (g : Nat → σ) (e : Nat) (r : ρ) (hs : ∀ i, i < e → f (g i) = some (.inl (g (i + 1)))) (hx : f (g e) = some (.inr r)) {N : Nat} (hN : e < N) {s : σ} (h0 : g 0 = s) : lp f N s = some r := by
  obtain ⟨r', h1, h2⟩ := lp_inv (f := f) (fun i s => s = g i) e (fun x => x = r) (fun i s hi h => Or.inl ⟨g (i + 1), by rw [h]; exact hs i hi, rfl⟩) (fun s h => ⟨r, by rw [h]; exact hx, rfl⟩) N 0 s (Nat.zero_le _) (by omega) h0.symm
  rw [h1, h2]
/-- a search: the first place of which p holds ends it with v of it; none: it goes to its end -/
theorem lp_find {ρ : Type} {f : Int32 → Option (Int32 ⊕ (Int32 ⊕ ρ))} (p : Nat → Bool) (v : Nat → ρ) (e : Nat)
    (hs : ∀ i, i < e → f (nI i) = some (if p i then .inr (.inr (v i)) else .inl (nI (i + 1)))) (hx : f (nI e) = some (.inr (.inl (nI e)))) {N : Nat} (hN : e < N) :
    ∃ x, lp f N (nI 0) = some x ∧ ((∀ i, i < e → p i = false) ∧ x = .inl (nI e) ∨ ∃ i, i < e ∧ p i = true ∧ (∀ k, k < i → p k = false) ∧ x = .inr (v i)) := by
  refine lp_inv (f := f) (fun i s => s = nI i ∧ ∀ k, k < i → p k = false) e _ ?_ ?_ N 0 (nI 0) (Nat.zero_le _) (by omega) ⟨rfl, fun k h => absurd h (Nat.not_lt_zero k)⟩
  · rintro i s hi ⟨rfl, h⟩
    cases hp : p i with
    | false =>
      refine Or.inl ⟨nI (i + 1), by rw [hs i hi, hp]; rfl, rfl, fun k hk => ?_⟩
      rcases Nat.lt_or_ge k i with h1 | h1
      · exact h k h1
      · rw [show k = i by omega]; exact hp
    | true => exact Or.inr ⟨_, by rw [hs i hi, hp]; rfl, Or.inr ⟨i, hi, hp, h, rfl⟩⟩
  · rintro s ⟨rfl, h⟩
    exact ⟨_, hx, Or.inl ⟨h, rfl⟩⟩
/-- whether p holds of one below n -/
def anyb (p : Nat → Bool) : Nat → Bool
  | 0 => false
  | n + 1 => anyb p n || p n
theorem anyb_iff {p : Nat → Bool} {n : Nat} : anyb p n = true ↔ ∃ i, i < n ∧ p i = true := by
  induction n with
  | zero => simp [anyb]
  | succ n ih =>
    simp only [anyb, Bool.or_eq_true, ih]
    constructor
    · rintro (⟨i, h1, h2⟩ | h)
      · exact ⟨i, by omega, h2⟩
      · exact ⟨n, by omega, h⟩
    · rintro ⟨i, h1, h2⟩
      rcases Nat.lt_or_ge i n with h | h
      · exact Or.inl ⟨i, h, h2⟩
      · exact Or.inr (by rw [show n = i by omega]; exact h2)
theorem anyb_false {p : Nat → Bool} {n : Nat} : anyb p n = false ↔ ∀ i, i < n → p i = false := by
  rw [← Bool.not_eq_true, anyb_iff]
  constructor
  · intro h i hi
    cases hp : p i with
    | false => rfl
    | true => exact absurd ⟨i, hi, hp⟩ h
  · rintro h ⟨i, hi, hp⟩
    rw [h i hi] at hp; cases hp
theorem anyb_congr {p q : Nat → Bool} {n : Nat} (h : ∀ i, i < n → p i = q i) : anyb p n = anyb q n := by
  induction n with
  | zero => rfl
  | succ n ih => simp only [anyb]; rw [ih (fun i hi => h i (by omega)), h n (by omega)]
/-- the sum of f below n -/
def smf (f : Nat → Nat) : Nat → Nat
  | 0 => 0
  | n + 1 => smf f n + f n
theorem smf_congr {p q : Nat → Nat} {n : Nat} (h : ∀ i, i < n → p i = q i) : smf p n = smf q n := by
  induction n with
  | zero => rfl
  | succ n ih => simp only [smf]; rw [ih (fun i hi => h i (by omega)), h n (by omega)]
theorem smf_le {f : Nat → Nat} {n b : Nat} (h : ∀ i, i < n → f i ≤ b) : smf f n ≤ n * b := by
  induction n with
  | zero => simp [smf]
  | succ n ih =>
    have h1 := ih (fun i hi => h i (by omega))
    have h2 := h n (by omega)
    simp only [smf]
    rw [Nat.succ_mul]; omega
/-- a search that ends with one value: what stands behind it, joined -/
theorem lp_any {β ρ : Type} {f : Int32 → Option (Int32 ⊕ (Int32 ⊕ ρ))} (p : Nat → Bool) (v : ρ) (e : Nat)
    (hs : ∀ i, i < e → f (nI i) = some (if p i then .inr (.inr v) else .inl (nI (i + 1)))) (hx : f (nI e) = some (.inr (.inl (nI e)))) {N : Nat} (hN : e < N) {g : Int32 ⊕ ρ → Option β} :
    ((lp f N (nI 0)).bind g) = if anyb p e then g (.inr v) else g (.inl (nI e)) := by
  obtain ⟨x, h1, h2⟩ := lp_find p (fun _ => v) e hs hx hN
  rw [h1]
  rcases h2 with ⟨h2, rfl⟩ | ⟨i, h2, h3, -, rfl⟩
  · rw [if_neg (by rw [anyb_false.mpr h2]; simp)]; rfl
  · rw [if_pos (anyb_iff.mpr ⟨i, h2, h3⟩)]; rfl
theorem px_l1 : (1 : Int32) = nI 1 := id rfl
theorem px_l2 : (2 : Int32) = nI 2 := id rfl
theorem px_l3 : (3 : Int32) = nI 3 := id rfl
theorem px_l4 : (4 : Int32) = nI 4 := id rfl
theorem px_l5 : (5 : Int32) = nI 5 := id rfl
theorem px_l6 : (6 : Int32) = nI 6 := id rfl
theorem px_l9 : (9 : Int32) = nI 9 := id rfl
theorem px_l10 : (10 : Int32) = nI 10 := id rfl
theorem px_l14 : (14 : Int32) = nI 14 := id rfl
theorem px_l15 : (15 : Int32) = nI 15 := id rfl
theorem px_l23 : (23 : Int32) = nI 23 := id rfl
theorem px_l24 : (24 : Int32) = nI 24 := id rfl
theorem px_l25 : (25 : Int32) = nI 25 := id rfl
theorem px_l26 : (26 : Int32) = nI 26 := id rfl
theorem px_l29 : (29 : Int32) = nI 29 := id rfl
theorem px_l30 : (30 : Int32) = nI 30 := id rfl
theorem px_l32 : (32 : Int32) = nI 32 := id rfl
theorem px_l43 : (43 : Int32) = nI 43 := id rfl
theorem px_l45 : (45 : Int32) = nI 45 := id rfl
theorem px_l48 : (48 : Int32) = nI 48 := id rfl
theorem px_l57 : (57 : Int32) = nI 57 := id rfl
theorem px_l59 : (59 : Int32) = nI 59 := id rfl
theorem px_l60 : (60 : Int32) = nI 60 := id rfl
theorem px_l64 : (64 : Int32) = nI 64 := id rfl
theorem px_l100 : (100 : Int32) = nI 100 := id rfl
theorem px_l107 : (107 : Int32) = nI 107 := id rfl
theorem px_l116 : (116 : Int32) = nI 116 := id rfl
theorem px_l149 : (149 : Int32) = nI 149 := id rfl
theorem px_l150 : (150 : Int32) = nI 150 := id rfl
theorem px_l348 : (348 : Int32) = nI 348 := id rfl
theorem px_l464 : (464 : Int32) = nI 464 := id rfl
theorem px_l600 : (600 : Int32) = nI 600 := id rfl
-- LITS: px_l0, px_l1, px_l2, px_l3, px_l4, px_l5, px_l6, px_l9, px_l10, px_l14, px_l15, px_l23, px_l24, px_l25, px_l26, px_l29, px_l30, px_l32, px_l43, px_l45, px_l48, px_l57, px_l59, px_l60, px_l64, px_l100, px_l107, px_l116, px_l149, px_l150, px_l348, px_l464, px_l600
theorem px_sa {a b c : Nat} (h : b ≤ a + c) : nI a - nI b + nI c = nI (a + c - b) := by
  rw [← pk_sub h, ← nI_add, Int32.sub_eq_add_neg, Int32.sub_eq_add_neg, Int32.add_assoc, Int32.add_assoc, Int32.add_comm (-nI b)]
theorem px_ltm_0 {b : Nat} (hb : b < 2 ^ 31) (h0 : 0 < b) : (-nI b < nI 0) ↔ True := px_mlt (by omega) hb h0
theorem lp_detb {σ ρ β : Type} {f : σ → Option (σ ⊕ ρ)} (g : Nat → σ) (e : Nat) (r : ρ) {N : Nat} {s : σ} {k : ρ → Option β} (hs : ∀ i, i < e → f (g i) = some (.inl (g (i + 1)))) (hx : f (g e) = some (.inr r)) (hN : e < N) (h0 : g 0 = s) : (lp f N s).bind k = k r := by
  rw [lp_det g e r hs hx hN h0]; rfl
