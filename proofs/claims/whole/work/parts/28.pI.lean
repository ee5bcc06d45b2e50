/-! WHAT A CHANGE DOES TO CLASHES AND CELLS -/
section P28
variable {n r : Nat} {K T M C : Nat → Nat} {lay : Nat → Option (Nat × Nat)}
theorem PCl.congr {ru m1 m2 : Nat} {f1 f2 g1 g2 : Nat → Nat} (h1 : ∀ d, d < 4 → g1 d = f1 d) (h2 : ∀ d, d < 4 → g2 d = f2 d) (h : PCl ru m1 f1 m2 f2) : PCl ru m1 g1 m2 g2 := by
  obtain ⟨d, e, s, hd, he, hs, a, b⟩ := h
  exact ⟨d, e, s, hd, he, hs, a, by rw [h1 d hd, h2 e he]; exact b⟩
/-- one cross is another (or one more is there): it alone can clash -/
theorem HC_mod {n' : Nat} {K' T' M' : Nat → Nat} {i : Nat} (hi : i < n') (hn : ∀ j, j < n' → j ≠ i → j < n) (hMi : M' i < 150) (hM : ∀ j, j < n' → j ≠ i → M' j = M j) (hc : ∀ j, j < n' → j ≠ i → ∀ d, d < 4 → col K' T' C j d = col K T C j d) (hM0 : ∀ j, j < n → M j < 150) (hN : ¬ HC n r K T M C) :
    HC n' r K' T' M' C ↔ ∃ j, j < n' ∧ j ≠ i ∧ PCl r (M' i) (col K' T' C i) (M j) (col K T C j) := by
  constructor
  · rintro ⟨a, b, ha, hb, hab, h⟩
    by_cases hai : a = i
    · subst hai
      refine ⟨b, hb, Ne.symm hab, ?_⟩
      rw [hM b hb (Ne.symm hab)] at h
      exact h.congr (fun _ _ => rfl) (fun d hd => (hc b hb (Ne.symm hab) d hd).symm)
    · by_cases hbi : b = i
      · subst hbi
        refine ⟨a, ha, hai, ?_⟩
        rw [hM a ha hai] at h
        exact (h.symm (hM0 a (hn a ha hai))).congr (fun _ _ => rfl) (fun d hd => (hc a ha hai d hd).symm)
      · refine absurd ⟨a, b, hn a ha hai, hn b hb hbi, hab, ?_⟩ hN
        rw [hM a ha hai, hM b hb hbi] at h
        exact h.congr (fun d hd => (hc a ha hai d hd).symm) (fun d hd => (hc b hb hbi d hd).symm)
  · rintro ⟨j, hj, hji, h⟩
    refine ⟨i, j, hi, hj, Ne.symm hji, ?_⟩
    rw [hM j hj hji]
    exact h.congr (fun _ _ => rfl) (fun d hd => hc j hj hji d hd)
/-- free cells, but for one cross's own -/
def ffA (lay : Nat → Option (Nat × Nat)) (m : Nat) (x : Int32) : Bool := ffB lay m x && !anyb (fun d => !ffB lay (bes m d) x) 4
theorem ffA_cp {m : Nat} {x : Int32} (h : ffA lay m x = true) {d : Nat} (hd : d ≤ 4) : ffB lay (cp m d) x = true := by
  unfold ffA at h
  rw [Bool.and_eq_true] at h
  rcases Nat.lt_or_ge d 4 with h4 | h4
  · rw [cp_d h4]
    have h2 : anyb (fun d => !ffB lay (bes m d) x) 4 = false := by
      cases ha : anyb (fun d => !ffB lay (bes m d) x) 4 with
      | false => rfl
      | true => rw [ha] at h; exact absurd h.2 (by decide)
    have := anyb_false.mp h2 d h4
    cases hf : ffB lay (bes m d) x with
    | true => rfl
    | false => rw [hf] at this; cases this
  · rw [show d = 4 by omega]; exact h.1
/-- the cells of a cross that lies on free cells (or on its own) are no other's -/
theorem NO_mod {n' : Nat} {M' : Nat → Nat} {i : Nat} {x : Int32} (hL : LY n M lay) (hn30 : n ≤ 30) (hi : i < n') (hn : ∀ j, j < n' → j ≠ i → j < n) (hx : ∀ j, j < n' → j ≠ i → ¬ nI j = x) (hM : ∀ j, j < n' → j ≠ i → M' j = M j) (hMi : M' i < 150) (hM0 : ∀ j, j < n → M j < 150) (hf : ffA lay (M' i) x = true) : NO n' M' := by
  have key : ∀ j d e, j < n' → j ≠ i → d ≤ 4 → e ≤ 4 → ¬ cp (M' i) d = cp (M' j) e := by
    intro j d e hj hji hd he h
    have h1 := ffA_cp hf hd
    rw [h, hM j hj hji] at h1
    unfold ffB at h1
    rw [hL.1 j e (hn j hj hji) he] at h1
    exact hx j hj hji (of_decide_eq_true h1)
  intro a b d e ha hb hd he h
  by_cases hai : a = i
  · by_cases hbi : b = i
    · subst hai; subst hbi
      exact ⟨rfl, cp_inj hMi hd he h⟩
    · subst hai
      exact absurd h (key b d e hb hbi hd he)
  · by_cases hbi : b = i
    · subst hbi
      exact absurd h.symm (key a e d ha hai he hd)
    · rw [hM a ha hai, hM b hb hbi] at h
      exact hL.no a b d e (hn a ha hai) (hn b hb hbi) hd he h
/-- a cross is taken away -/
def tkF (f : Nat → Nat) (i : Nat) : Nat → Nat := fun j => if j < i then f j else f (j + 1)
theorem tk_idx {n i j : Nat} (hi : i < n) (hj : j < n - 1) : (if j < i then j else j + 1) < n := by split <;> omega
theorem tkF_eq (f : Nat → Nat) (i j : Nat) : tkF f i j = f (if j < i then j else j + 1) := by unfold tkF; split <;> rfl
theorem NO_tk {i : Nat} (hi : i < n) (h : NO n M) : NO (n - 1) (tkF M i) := by
  intro a b d e ha hb hd he hq
  rw [tkF_eq, tkF_eq] at hq
  obtain ⟨h1, h2⟩ := h _ _ d e (tk_idx hi ha) (tk_idx hi hb) hd he hq
  refine ⟨?_, h2⟩
  split at h1 <;> split at h1 <;> omega
theorem HC_tk {i : Nat} (hi : i < n) (h : ¬ HC n r K T M C) : ¬ HC (n - 1) r (tkF K i) (tkF T i) (tkF M i) C := by
  rintro ⟨a, b, ha, hb, hab, hq⟩
  refine h ⟨if a < i then a else a + 1, if b < i then b else b + 1, tk_idx hi ha, tk_idx hi hb, by split <;> split <;> omega, ?_⟩
  rw [tkF_eq, tkF_eq] at hq
  exact hq.congr (fun d _ => by unfold col; rw [tkF_eq, tkF_eq]) (fun d _ => by unfold col; rw [tkF_eq, tkF_eq])
/-- all are shifted -/
theorem cp_sh {m d co ro : Nat} (hm : m < 150) (hd : d ≤ 4) (h1 : co < 15) (h2 : ro < 10) : cp (sh m co ro) d = sh (cp m d) co ro := by
  rcases Nat.lt_or_ge d 4 with h4 | h4
  · rw [cp_d h4, cp_d h4]; exact bes_sh hm h4 h1 h2
  · rw [show d = 4 by omega]; rfl
theorem NO_sh {co ro : Nat} (hM : ∀ i, i < n → M i < 150) (h1 : co < 15) (h2 : ro < 10) (h : NO n M) : NO n (fun i => sh (M i) co ro) := by
  intro a b d e ha hb hd he hq
  dsimp only at hq
  rw [cp_sh (hM a ha) hd h1 h2, cp_sh (hM b hb) he h1 h2] at hq
  exact h a b d e ha hb hd he (sh_inj (cp_lt (hM a ha) hd) (cp_lt (hM b hb) he) h1 h2 hq)
theorem HC_sh {co ro : Nat} (hM : ∀ i, i < n → M i < 150) (h1 : co < 15) (h2 : ro < 10) (h : ¬ HC n r K T M C) : ¬ HC n r K T (fun i => sh (M i) co ro) C := by
  rintro ⟨a, b, ha, hb, hab, d, e, s, hd, he, hs, h3, h4⟩
  refine h ⟨a, b, ha, hb, hab, d, e, s, hd, he, hs, ?_, h4⟩
  dsimp only at h3
  have ca := cp_lt (hM a ha) (show d ≤ 4 by omega)
  rw [cp_sh (hM a ha) (by omega) h1 h2, cp_sh (hM b hb) (by omega) h1 h2, bes_sh ca hs h1 h2] at h3
  exact sh_inj (bes_lt _ ca s hs) (cp_lt (hM b hb) (by omega)) h1 h2 h3
end P28
/-! paint, setRule -/
theorem px_updn {f : Nat → Int32} {F : Nat → Nat} {N k v : Nat} (h : ∀ i, i < N → f i = nI (F i)) : ∀ i, i < N → upd f k (nI v) i = nI (if i = k then v else F i) := by
  intro i hi
  rw [px_upd]
  split
  · rfl
  · exact h i hi
/-- a changed row of colours, in both -/
theorem RM.colour {n r : Nat} {K T M C : Nat → Nat} {z : Nat → Int32} {k v : Nat} (hk : k < 24) (h : RM n r K T M C z) : RM n r K T M (fun i => if i = k then v else C i) (upd z k (nI v)) := by
  obtain ⟨h1, h2, h3, h4⟩ := h
  refine ⟨px_updn h1, ?_, ?_, fun i hi => ?_⟩
  · rw [px_upd, if_neg (by omega)]; exact h2
  · rw [px_upd, if_neg (by omega)]; exact h3
  · rw [px_upd, px_upd, px_upd, if_neg (by omega), if_neg (by omega), if_neg (by omega)]; exact h4 i hi
theorem OKs.colour {n r : Nat} {K T M C : Nat → Nat} {k v : Nat} (hv : v < 6) (h : OKs n r K T M C) : OKs n r K T M (fun i => if i = k then v else C i) := by
  obtain ⟨h1, h2, h3, h4⟩ := h
  refine ⟨h1, h2, h3, fun i hi => ?_⟩
  dsimp only
  split
  · exact hv
  · exact h4 i hi
