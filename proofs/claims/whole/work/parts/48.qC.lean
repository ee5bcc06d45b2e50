/-! ALL ORDERS, CARRIED OUT -/
section P48
variable {n r : Nat} {K T M C : Nat → Nat} {lay : Nat → Option (Nat × Nat)} {k : Nat} {v : Nat → Nat} {si tx : Nat → Int32}
/-- the orders left: all done by both, or the same error, the class's carpet laid out again from before -/
theorem t_perform (hG : GG n r K T M C lay) (h : TXH k v si tx) {be : Int32 × Int32 × (Nat → Int32) × (Nat → Int32) × (Nat → Int32) × (Nat → Int32)} (hb1 : be.1 = nI r) (hb2 : be.2.1 = nI n) (hb3 : RCa n K T M C be.2.2.1 be.2.2.2.1 be.2.2.2.2.1 be.2.2.2.2.2) (PAco : Int32) (PAv : PV) {r1 : Int32 × Int32 × Int32 × Int32 × Int32 × Int32 × Int32 × (Nat → Int32)} {Mt : Nat} (hr1 : r1.1 = nI Mt) (hMt : Mt ≤ 60) :
    ∀ (m p i N1 N2 : Nat), i + m = Mt → m + 1 ≤ N1 → m + 1 ≤ N2 → WFo k v si tx m p → ∀ (co : Int32) (ka ta ma ca ow pa : Nat → Int32) (so ki tu ce : Int32) (cl : Nat → Int32) (le : Int32) (za on wy nu : Nat → Int32), RA (nI r) co ka ta ma ca ow pa za on wy →
      ∃ R Q, lp (f_X6_perform_b1 (nI r) (nI k) si PAco PAv r1 be) N1 (nI i, co, ka, ta, ma, ca, ow, pa, nI p, nI 0, so, ki, tu, ce, cl) = some R ∧ lp (f_X7_perform_b1 (nI k) tx) N2 (nI 0, nI i, nI p, nI 0, le, za, on, wy, nu) = some Q ∧
        ((∃ (co : Int32) (ka ta ma ca ow pa : Nat → Int32) (c1 c2 c3 c4 c5 c6 c7 : Int32) (cl : Nat → Int32) (d1 d2 d3 : Int32) (za on wy nu : Nat → Int32), R = .inl (c7, co, ka, ta, ma, ca, ow, pa, c1, c2, c3, c4, c5, c6, cl) ∧ Q = (nI 0, nI Mt, d1, d2, d3, za, on, wy, nu) ∧ RA (nI r) co ka ta ma ca ow pa za on wy) ∨
         (∃ (b : Nat) (ka ta ma ca ow pa : Nat → Int32) (c1 c2 c3 c4 c5 c6 : Int32) (cl : Nat → Int32) (d0 d1 d2 d3 : Int32) (za on wy nu : Nat → Int32), 0 < b ∧ b < 100 ∧ R = .inr (-nI b, nI r, nI n, ka, ta, ma, ca, be.1, be.2.1, be.2.2.1, be.2.2.2.1, be.2.2.2.2.1, be.2.2.2.2.2, ow, pa, c1, c2, c3, c4, c5, c6, cl, PAco, PAv) ∧ Q = (-nI b, d0, d1, d2, d3, za, on, wy, nu) ∧ RCa n K T M C ka ta ma ca ∧ LC lay ow pa)) := by
  have hk := h.1
  intro m
  induction m with
  | zero => intro p i N1 N2 h1 h2 h3 hw; exact absurd hw id
  | succ m ih =>
    intro p i N1 N2 h1 h2 h3 hw co ka ta ma ca ow pa so ki tu ce cl le za on wy nu hA
    obtain ⟨n1, rfl⟩ : ∃ n1, N1 = n1 + 1 := ⟨N1 - 1, by omega⟩
    obtain ⟨n2, rfl⟩ : ∃ n2, N2 = n2 + 1 := ⟨N2 - 1, by omega⟩
    obtain ⟨n3, rfl⟩ : ∃ n3, n1 = n3 + 1 := ⟨n1 - 1, by omega⟩
    obtain ⟨n4, rfl⟩ : ∃ n4, n2 = n4 + 1 := ⟨n2 - 1, by omega⟩
    obtain ⟨e, ⟨g1, g2, g3, g4⟩, hnext⟩ := hw
    have g5 := g3 rfl
    obtain ⟨so', ki', tu', ce', cl', le', nu', c1, c2, c3⟩ := g4 so ki tu ce cl le nu
    obtain ⟨a, co', ka', ta', ma', ca', ow', pa', b, za', on', wy', o1, o2, o3⟩ := e_order hA (c3 rfl)
    have hmt : ¬ nI Mt ≤ nI i := by rw [nI_leI (by omega) (by omega)]; omega
    have hkp : ¬ nI k ≤ nI p := by rw [nI_leI (by omega) (by omega)]; omega
    have step : f_X6_perform_b1 (nI r) (nI k) si PAco PAv r1 be (nI i, co, ka, ta, ma, ca, ow, pa, nI p, nI 0, so, ki, tu, ce, cl) = (if 0 ≤ a then ((f_X2_readSeparator (nI k) (nI e) (nI (bN (!true))) si).bind fun r15 => (some (.inl (nI (i + 1), co', ka', ta', ma', ca', ow', pa', r15.1, r15.2, so', ki', tu', ce', cl')))) else ((f_X6_endChange (nI r) co' ka' ta' ma' ca' be.1 be.2.1 be.2.2.1 be.2.2.2.1 be.2.2.2.2.1 be.2.2.2.2.2 ow' pa' PAco PAv a).bind fun r17 => (some (.inr (.inr (r17.1, r17.2.1, r17.2.2.1, r17.2.2.2.1, r17.2.2.2.2.1, r17.2.2.2.2.2.1, r17.2.2.2.2.2.2.1, be.1, be.2.1, be.2.2.1, be.2.2.2.1, be.2.2.2.2.1, be.2.2.2.2.2, r17.2.2.2.2.2.2.2.1, r17.2.2.2.2.2.2.2.2.1, nI e, nI (bN (!true)), so', ki', tu', ce', cl', r17.2.2.2.2.2.2.2.2.2.1, r17.2.2.2.2.2.2.2.2.2.2)))))) := by
      unfold f_X6_perform_b1
      dsimp only
      rw [hr1, if_neg hmt, c1, Option.bind_some]
      dsimp only
      rw [o1, Option.bind_some, px_l1, nI_add]
    have mstep : f_X7_perform_b1 (nI k) tx (nI 0, nI i, nI p, nI 0, le, za, on, wy, nu) = some (.inl (b, nI (i + 1), nI (e + 1), nI 0, le', za', on', wy', nu')) := by
      unfold f_X7_perform_b1
      dsimp only
      rw [px_l0, if_pos rfl, if_neg hkp, c2, Option.bind_some]
      dsimp only
      rw [o2, Option.bind_some, px_l1, nI_add, nI_add]
      rfl
    rcases o3 with ⟨q, q1, rfl, rfl, hA'⟩ | ⟨q, q1, q2, rfl, rfl⟩
    · rw [if_pos (show (0 : Int32) ≤ nI q by rw [px_l0, nI_leI (by omega) q1]; omega)] at step
      rcases hnext with ⟨rfl, rfl⟩ | ⟨hm0, hek, h59, hw'⟩
      · have sep : f_X2_readSeparator (nI e) (nI e) (nI (bN (!true))) si = some (nI e, nI 0) := by
          unfold f_X2_readSeparator
          rw [if_pos (show nI e ≤ nI e by rw [nI_leI (by omega) (by omega)]; omega)]
          rfl
        rw [sep, Option.bind_some] at step
        rw [lp_inl step, lp_inl mstep]
        refine ⟨_, _, lp_inr (r := .inl (nI (i + 1), co', ka', ta', ma', ca', ow', pa', nI e, nI 0, so', ki', tu', ce', cl')) ?_, lp_inr (r := (nI 0, nI (i + 1), nI (e + 1), nI 0, le', za', on', wy', nu')) ?_, Or.inl ⟨co', ka', ta', ma', ca', ow', pa', nI e, nI 0, so', ki', tu', ce', nI (i + 1), cl', nI (e + 1), nI 0, le', za', on', wy', nu', rfl, ?_, hA'⟩⟩
        · unfold f_X6_perform_b1
          dsimp only
          rw [hr1, if_pos (show nI Mt ≤ nI (i + 1) by rw [nI_leI (by omega) (by omega)]; omega)]
        · unfold f_X7_perform_b1
          dsimp only
          rw [px_l0, if_pos rfl, if_pos (show nI e ≤ nI (e + 1) by rw [nI_leI (by omega) (by omega)]; omega)]
        · rw [show i + 1 = Mt by omega]
      · have sep := t2_sep h hek (!true)
        rw [decide_eq_true h59] at sep
        rw [show f_X2_readSeparator (nI k) (nI e) (nI (bN (!true))) si = some (nI (e + 1), nI 0) from sep, Option.bind_some] at step
        rw [lp_inl step, lp_inl mstep]
        exact ih (e + 1) (i + 1) (n3 + 1) (n4 + 1) (by omega) (by omega) (by omega) hw' co' ka' ta' ma' ca' ow' pa' so' ki' tu' ce' cl' le' za' on' wy' nu' hA'
    · obtain ⟨kb, tb, mb, cb, ob, pb, y1, y2, y3⟩ := c6_bad hG hb1 hb2 hb3 (nI r) co' ka' ta' ma' ca' ow' pa' PAco PAv (b := q) ⟨q1, by omega⟩
      rw [if_neg (show ¬ (0 : Int32) ≤ -nI q by rw [px_l0, px_lem (by omega) (by omega) q1]; exact id), y1, Option.bind_some] at step
      rw [lp_inr step, lp_inl mstep]
      refine ⟨_, _, rfl, lp_inr (r := (-nI q, nI (i + 1), nI (e + 1), nI 0, le', za', on', wy', nu')) ?_, Or.inr ⟨q, kb, tb, mb, cb, ob, pb, nI e, nI (bN (!true)), so', ki', tu', ce', cl', nI (i + 1), nI (e + 1), nI 0, le', za', on', wy', nu', q1, q2, rfl, rfl, y2, y3⟩⟩
      unfold f_X7_perform_b1
      dsimp only
      rw [px_l0, if_neg (show ¬ -nI q = nI 0 by rw [px_meq (by omega) (by omega) q1]; exact id)]
set_option maxHeartbeats 4000000 in
theorem e_perform {NWru : Int32} {NWco : Int32} {NWKa : Nat → Int32} {NWTa : Nat → Int32} {NWMa : Nat → Int32} {NWCa : Nat → Int32} {BEru : Int32} {BEco : Int32} {BEKa : Nat → Int32} {BETa : Nat → Int32} {BEMa : Nat → Int32} {BECa : Nat → Int32} {CAow : Nat → Int32} {CApa : Nat → Int32} {TXle : Int32} {TXpo : Int32} {TXfa : Int32} {TXso : Int32} {TXki : Int32} {TXtu : Int32} {TXce : Int32} {TXsi : Nat → Int32} {TXcl : Nat → Int32} {PAco : Int32} {PAv : PV} {MOst : Int32} {MOln : Int32} {MOpl : Int32} {MOiw : Int32} {MOle : Int32} {MOza : Nat → Int32} {MOas : Nat → Int32} {MObe : Nat → Int32} {MOtx : Nat → Int32} {MOon : Nat → Int32} {MOwy : Nat → Int32} {MOnu : Nat → Int32} (hA : RA NWru NWco NWKa NWTa NWMa NWCa CAow CApa MOza MOon MOwy) (hH : RH PAco PAv MOst MObe) (hT : RT TXle TXsi MOln MOtx) :
    ∃ oc om, f_X6_perform NWru NWco NWKa NWTa NWMa NWCa BEru BEco BEKa BETa BEMa BECa CAow CApa TXle TXpo TXfa TXso TXki TXtu TXce TXsi TXcl PAco PAv = some oc ∧ f_X7_perform MOst MOln MOpl MOiw MOle MOza MOas MObe MOtx MOon MOwy MOnu = some om ∧ oc.1 = om.1 ∧ RA oc.2.1 oc.2.2.1 oc.2.2.2.1 oc.2.2.2.2.1 oc.2.2.2.2.2.1 oc.2.2.2.2.2.2.1 oc.2.2.2.2.2.2.2.2.2.2.2.2.2.1 oc.2.2.2.2.2.2.2.2.2.2.2.2.2.2.1 om.2.2.2.2.2.1 om.2.2.2.2.2.2.2.2.1 om.2.2.2.2.2.2.2.2.2.1 ∧ RH oc.2.2.2.2.2.2.2.2.2.2.2.2.2.2.2.2.2.2.2.2.2.2.1 oc.2.2.2.2.2.2.2.2.2.2.2.2.2.2.2.2.2.2.2.2.2.2.2 om.2.1 om.2.2.2.2.2.2.2.1 := by
  have same := And.intro hA hH
  obtain ⟨k, hk, rfl, rfl, ht⟩ := hT
  have hex : ∃ v : Nat → Nat, ∀ i, i < k → TXsi i = nI (v i) ∧ MOtx i = nI (v i) ∧ v i ≤ 65535 := by
    refine ⟨fun i => if hi : i < k then (ht i hi).2.choose else 0, fun i hi => ?_⟩
    dsimp only
    rw [dif_pos hi]
    have := (ht i hi).2.choose_spec
    exact ⟨(ht i hi).1.trans this.2, this.2, this.1⟩
  obtain ⟨v, hv⟩ := hex
  have h : TXH k v TXsi MOtx := ⟨hk, hv⟩
  obtain ⟨⟨R1, R2, R3, R4, R5, R6, R7, R8⟩, Q, hR, hQ, hcase⟩ := t_count h (k + 1) 0 0 1000 1000 (by omega) (by omega) (by omega) (by omega) (by omega) TXso TXki TXtu TXce TXcl MOle MOnu
  dsimp only at hcase
  have hR' : lp (f_X2_countOrders_b1 (nI k) TXsi) FU (0, 0, 0, TXso, TXki, TXtu, TXce, TXcl) = some (R1, R2, R3, R4, R5, R6, R7, R8) := hR
  have hQ' : lp (f_X7_findFault_b1 (nI k) MOtx) FU (0, 0, MOle, MOnu) = some Q := hQ
  clear hR hQ
  rcases hcase with ⟨e, he, rfl, rfl, x1, x2, x3, x4, rfl⟩ | ⟨Mt, b0, b1, b2, rfl, rfl, x, rfl, b5⟩
  · unfold f_X6_perform f_X7_perform f_X2_countOrders f_X7_findFault
    simp only [f_X2_rewind, Option.bind_some, hR', hQ', Sum.elim_inr, f_X2_isFaulty, f_X2_position]
    rw [px_ckP (show nI 1 = 0 ∨ nI 1 = 1 from Or.inr rfl), Option.bind_some, if_neg (show ¬ nI 1 = 0 from by decide +kernel), if_neg (show ¬ nI e < 0 by rw [px_l0, nI_ltI (by omega) (by omega)]; omega)]
    exact ⟨_, _, rfl, rfl, rfl, same⟩
  · rw [Nat.zero_add] at b2
    subst b2
    have hM60 : Mt ≤ 60 := by omega
    have hM1 : Mt + 1 ≤ 1000 := by omega
    obtain ⟨x1, x2, x3, x4⟩ := x
    dsimp only at b5
    subst b5
    obtain ⟨n, r, K, T, M, C, lay, hG, rfl, rfl, hRC, hRM, hLC, hLM⟩ := id hA
    have hn := hG.1.1
    obtain ⟨be, c0, c1, c2, c3, c4, c5, c6⟩ := c6_begin (nI r) (nI n) NWKa NWTa NWMa NWCa BEru BEco BEKa BETa BEMa BECa
    obtain ⟨w, w0, w1⟩ := c7_aside MOza MOas
    have hRV : RV be.1 be.2.1 be.2.2.1 be.2.2.2.1 be.2.2.2.2.1 be.2.2.2.2.2 w := by
      rw [c1, c2]
      exact hA.rv.congr c3 c4 c5 c6 w1
    obtain ⟨S, U, hS, hU, hd⟩ := t_perform hG h c1 c2 (hRC.congr hn c3 c4 c5 c6) PAco PAv (r1 := (nI Mt, nI k, nI 0, R4, R5, R6, R7, R8)) (Mt := Mt) rfl hM60 Mt 0 0 1000 1000 (Nat.zero_add Mt) hM1 hM1 b1 (nI n) NWKa NWTa NWMa NWCa CAow CApa R4 R5 R6 R7 R8 x3 MOza MOon MOwy x4 hA
    have hS' : lp (f_X6_perform_b1 (nI r) (nI k) TXsi PAco PAv (nI Mt, nI k, nI 0, R4, R5, R6, R7, R8) be) FU (0, nI n, NWKa, NWTa, NWMa, NWCa, CAow, CApa, 0, 0, R4, R5, R6, R7, R8) = some S := hS
    have hU' : lp (f_X7_perform_b1 (nI k) MOtx) FU (0, 0, 0, nI 0, x3, MOza, MOon, MOwy, x4) = some U := hU
    clear hS hU
    have start6 : ∀ X, (lp (f_X6_perform_b1 (nI r) (nI k) TXsi PAco PAv (nI Mt, nI k, nI 0, R4, R5, R6, R7, R8) be) FU (0, nI n, NWKa, NWTa, NWMa, NWCa, CAow, CApa, 0, 0, R4, R5, R6, R7, R8)) = some X → f_X6_perform (nI r) (nI n) NWKa NWTa NWMa NWCa BEru BEco BEKa BETa BEMa BECa CAow CApa (nI k) TXpo TXfa TXso TXki TXtu TXce TXsi TXcl PAco PAv = Sum.elim (fun e10x => ((f_X6_endChange (nI r) e10x.2.1 e10x.2.2.1 e10x.2.2.2.1 e10x.2.2.2.2.1 e10x.2.2.2.2.2.1 be.1 be.2.1 be.2.2.1 be.2.2.2.1 be.2.2.2.2.1 be.2.2.2.2.2 e10x.2.2.2.2.2.2.1 e10x.2.2.2.2.2.2.2.1 PAco PAv (nI Mt)).bind fun r19 => (some (r19.1, r19.2.1, r19.2.2.1, r19.2.2.2.1, r19.2.2.2.2.1, r19.2.2.2.2.2.1, r19.2.2.2.2.2.2.1, be.1, be.2.1, be.2.2.1, be.2.2.2.1, be.2.2.2.2.1, be.2.2.2.2.2, r19.2.2.2.2.2.2.2.1, r19.2.2.2.2.2.2.2.2.1, e10x.2.2.2.2.2.2.2.2.1, e10x.2.2.2.2.2.2.2.2.2.1, e10x.2.2.2.2.2.2.2.2.2.2.1, e10x.2.2.2.2.2.2.2.2.2.2.2.1, e10x.2.2.2.2.2.2.2.2.2.2.2.2.1, e10x.2.2.2.2.2.2.2.2.2.2.2.2.2.1, e10x.2.2.2.2.2.2.2.2.2.2.2.2.2.2, r19.2.2.2.2.2.2.2.2.2.1, r19.2.2.2.2.2.2.2.2.2.2)))) (fun e10r => some e10r) X := by
      intro X hX
      unfold f_X6_perform f_X2_countOrders
      simp only [f_X2_rewind, Option.bind_some, hR', f_X2_isFaulty]
      rw [px_ckP (show nI 0 = 0 ∨ nI 0 = 1 from Or.inl rfl), Option.bind_some, if_pos (show nI 0 = 0 from rfl), c0, Option.bind_some, hX, Option.bind_some]
    have start7 : f_X7_perform MOst (nI k) MOpl MOiw MOle MOza MOas MObe MOtx MOon MOwy MOnu = (if 0 ≤ U.1 then ((f_X7_record w MOst MObe).bind fun r11 => (some (U.2.1, r11.1, U.2.2.1, U.2.2.2.1, U.2.2.2.2.1, U.2.2.2.2.2.1, w, r11.2, U.2.2.2.2.2.2.1, U.2.2.2.2.2.2.2.1, U.2.2.2.2.2.2.2.2))) else ((f_X7_putBack U.2.2.2.2.2.1 w U.2.2.2.2.2.2.1 U.2.2.2.2.2.2.2.1).bind fun r13 => (some (U.1, MOst, U.2.2.1, U.2.2.2.1, U.2.2.2.2.1, r13.1, w, MObe, r13.2.1, r13.2.2, U.2.2.2.2.2.2.2.2)))) := by
      unfold f_X7_perform f_X7_findFault
      simp only [Option.bind_some, hQ', Sum.elim_inl]
      rw [if_pos (show (-5 : Int32) < 0 from by decide +kernel), w0, Option.bind_some, hU', Option.bind_some]
    rw [start6 S hS', start7]
    rcases hd with ⟨co, ka, ta, ma, ca, ow, pa, e1, e2, e3, e4, e5, e6, e7, cl, d1, d2, d3, za, on, wy, nu, rfl, rfl, hA'⟩ | ⟨b, ka, ta, ma, ca, ow, pa, e1, e2, e3, e4, e5, e6, cl, d0, d1, d2, d3, za, on, wy, nu, q1, q2, rfl, rfl, y2, y3⟩
    · obtain ⟨c, m, z1, z2, z3⟩ := RH_add hRV hH
      dsimp only
      rw [if_pos (show (0 : Int32) ≤ nI 0 from by decide +kernel), z2, Sum.elim_inl, c6_good (show Mt < 2 ^ 31 by omega) z1, Option.bind_some, Option.bind_some]
      exact ⟨_, _, rfl, rfl, rfl, hA', z3⟩
    · obtain ⟨v', g1, g2⟩ := c7_back w za on wy
      have hRv : RM n r K T M C v' := hRM.congr hn (fun i hi => (g1 i hi).trans (w1 i hi))
      obtain ⟨u, u1, u2⟩ := lay_X7 hn (fun i hi => (hG.1.2.2.1 i hi).2.2) hG.2.1 hRv on wy
      dsimp only
      rw [if_neg (show ¬ (0 : Int32) ≤ -nI b by rw [px_l0, px_lem (by omega) (by omega) q1]; exact id), g2, u1, Sum.elim_inr, Option.bind_some, Option.bind_some]
      exact ⟨_, _, rfl, rfl, rfl, ⟨n, r, K, T, M, C, lay, hG, rfl, rfl, y2, hRv, y3, u2⟩, hH⟩
end P48
