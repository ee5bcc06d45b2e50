set_option maxHeartbeats 4000000 in
set_option maxRecDepth 100000 in
theorem law_loop {l : Launch} {D : va_G} {cI cZ cC cS : ClassId} {b L : Nat} {xs : Nat → Int32} {j : JT} (lx : LX l D cI cZ cC cS b L xs j) (hL : L ≤ 2048) (hNW hNWk hNWt hNWm hNWc hBE hBEk hBEt hBEm hBEc hSN hSNk hSNt hSNm hSNc hCA hCAo hCAp hSV hSVr hSVq hSVm hTX hTXs hTXc hPA hXX hMO hMOz hMOa hMOb hMOk hMOt hMOo hMOw hMOm hMOq hMOn hPAs : Nat) : ∀ (n i : Nat), i ≤ L → L + 4 ≤ i + 4 * n → ∀ (NWru : Int32) (NWco : Int32) (NWKa : Nat → Int32) (NWTa : Nat → Int32) (NWMa : Nat → Int32) (NWCa : Nat → Int32) (BEru : Int32) (BEco : Int32) (BEKa : Nat → Int32) (BETa : Nat → Int32) (BEMa : Nat → Int32) (BECa : Nat → Int32) (SNru : Int32) (SNco : Int32) (SNKa : Nat → Int32) (SNTa : Nat → Int32) (SNMa : Nat → Int32) (SNCa : Nat → Int32) (CAow : Nat → Int32) (CApa : Nat → Int32) (SVre : Nat → Int32) (SVqu : Nat → Int32) (SVme : Nat → Int32) (TXle : Int32) (TXpo : Int32) (TXfa : Int32) (TXso : Int32) (TXki : Int32) (TXtu : Int32) (TXce : Int32) (TXsi : Nat → Int32) (TXcl : Nat → Int32) (PAco : Int32) (PAv : PV) (XXhs : Int32) (MOst : Int32) (MOik : Int32) (MOln : Int32) (MOpl : Int32) (MOiw : Int32) (MOle : Int32) (MOza : Nat → Int32) (MOas : Nat → Int32) (MObe : Nat → Int32) (MOke : Nat → Int32) (MOtx : Nat → Int32) (MOon : Nat → Int32) (MOwy : Nat → Int32) (MOmk : Nat → Int32) (MOqu : Nat → Int32) (MOnu : Nat → Int32), RA NWru NWco NWKa NWTa NWMa NWCa CAow CApa MOza MOon MOwy → RH PAco PAv MOst MObe → RS XXhs SNru SNco SNKa SNTa SNMa SNCa MOik MOke → RT TXle TXsi MOln MOtx → j 59 3056 [(hNW, .inr (3, [.int NWru, .int NWco, .ref hNWk, .ref hNWt, .ref hNWm, .ref hNWc])), (hNWk, .inl (cI, 30, .inl NWKa)), (hNWt, .inl (cI, 30, .inl NWTa)), (hNWm, .inl (cI, 30, .inl NWMa)), (hNWc, .inl (cI, 24, .inl NWCa)), (hBE, .inr (3, [.int BEru, .int BEco, .ref hBEk, .ref hBEt, .ref hBEm, .ref hBEc])), (hBEk, .inl (cI, 30, .inl BEKa)), (hBEt, .inl (cI, 30, .inl BETa)), (hBEm, .inl (cI, 30, .inl BEMa)), (hBEc, .inl (cI, 24, .inl BECa)), (hSN, .inr (3, [.int SNru, .int SNco, .ref hSNk, .ref hSNt, .ref hSNm, .ref hSNc])), (hSNk, .inl (cI, 30, .inl SNKa)), (hSNt, .inl (cI, 30, .inl SNTa)), (hSNm, .inl (cI, 30, .inl SNMa)), (hSNc, .inl (cI, 24, .inl SNCa)), (hCA, .inr (0, [.ref hNW, .ref hCAo, .ref hCAp])), (hCAo, .inl (cI, 150, .inl CAow)), (hCAp, .inl (cI, 150, .inl CApa)), (hSV, .inr (4, [.ref hCA, .ref hSVr, .ref hSVq, .ref hSVm])), (hSVr, .inl (cZ, 150, .inl SVre)), (hSVq, .inl (cI, 150, .inl SVqu)), (hSVm, .inl (cZ, 30, .inl SVme)), (hTX, .inr (1, [.ref hTXs, .int TXle, .int TXpo, .int TXfa, .int TXso, .int TXki, .int TXtu, .int TXce, .ref hTXc])), (hTXs, .inl (cC, 60, .inl TXsi)), (hTXc, .inl (cI, 4, .inl TXcl)), (hPA, .inr (2, [.ref hPAs, .int PAco])), (hXX, .inr (5, [.ref hSV, .ref hCA, .ref hTX, .ref hPA, .ref hBE, .ref hSN, .int XXhs])), (hMO, .inr (6, [.ref hMOz, .ref hMOa, .ref hMOb, .int MOst, .ref hMOk, .int MOik, .ref hMOt, .int MOln, .ref hMOo, .ref hMOw, .ref hMOm, .ref hMOq, .int MOpl, .int MOiw, .int MOle, .ref hMOn])), (hMOz, .inl (cI, 116, .inl MOza)), (hMOa, .inl (cI, 116, .inl MOas)), (hMOb, .inl (cI, 464, .inl MObe)), (hMOk, .inl (cI, 116, .inl MOke)), (hMOt, .inl (cI, 60, .inl MOtx)), (hMOo, .inl (cI, 150, .inl MOon)), (hMOw, .inl (cI, 150, .inl MOwy)), (hMOm, .inl (cI, 150, .inl MOmk)), (hMOq, .inl (cI, 150, .inl MOqu)), (hMOn, .inl (cI, 5, .inl MOnu)), (hPAs, .inl (cS, 4, .inr (.inr (.inr (.inr (pv_r PAv)))))), (PAv.1.1.1, .inr (3, [.int PAv.1.2.1, .int PAv.1.2.2.1, .ref PAv.1.1.2.1, .ref PAv.1.1.2.2.1, .ref PAv.1.1.2.2.2.1, .ref PAv.1.1.2.2.2.2])), (PAv.1.1.2.1, .inl (cI, 30, .inl PAv.1.2.2.2.1)), (PAv.1.1.2.2.1, .inl (cI, 30, .inl PAv.1.2.2.2.2.1)), (PAv.1.1.2.2.2.1, .inl (cI, 30, .inl PAv.1.2.2.2.2.2.1)), (PAv.1.1.2.2.2.2, .inl (cI, 24, .inl PAv.1.2.2.2.2.2.2)), (PAv.2.1.1.1, .inr (3, [.int PAv.2.1.2.1, .int PAv.2.1.2.2.1, .ref PAv.2.1.1.2.1, .ref PAv.2.1.1.2.2.1, .ref PAv.2.1.1.2.2.2.1, .ref PAv.2.1.1.2.2.2.2])), (PAv.2.1.1.2.1, .inl (cI, 30, .inl PAv.2.1.2.2.2.1)), (PAv.2.1.1.2.2.1, .inl (cI, 30, .inl PAv.2.1.2.2.2.2.1)), (PAv.2.1.1.2.2.2.1, .inl (cI, 30, .inl PAv.2.1.2.2.2.2.2.1)), (PAv.2.1.1.2.2.2.2, .inl (cI, 24, .inl PAv.2.1.2.2.2.2.2.2)), (PAv.2.2.1.1.1, .inr (3, [.int PAv.2.2.1.2.1, .int PAv.2.2.1.2.2.1, .ref PAv.2.2.1.1.2.1, .ref PAv.2.2.1.1.2.2.1, .ref PAv.2.2.1.1.2.2.2.1, .ref PAv.2.2.1.1.2.2.2.2])), (PAv.2.2.1.1.2.1, .inl (cI, 30, .inl PAv.2.2.1.2.2.2.1)), (PAv.2.2.1.1.2.2.1, .inl (cI, 30, .inl PAv.2.2.1.2.2.2.2.1)), (PAv.2.2.1.1.2.2.2.1, .inl (cI, 30, .inl PAv.2.2.1.2.2.2.2.2.1)), (PAv.2.2.1.1.2.2.2.2, .inl (cI, 24, .inl PAv.2.2.1.2.2.2.2.2.2)), (PAv.2.2.2.1.1, .inr (3, [.int PAv.2.2.2.2.1, .int PAv.2.2.2.2.2.1, .ref PAv.2.2.2.1.2.1, .ref PAv.2.2.2.1.2.2.1, .ref PAv.2.2.2.1.2.2.2.1, .ref PAv.2.2.2.1.2.2.2.2])), (PAv.2.2.2.1.2.1, .inl (cI, 30, .inl PAv.2.2.2.2.2.2.1)), (PAv.2.2.2.1.2.2.1, .inl (cI, 30, .inl PAv.2.2.2.2.2.2.2.1)), (PAv.2.2.2.1.2.2.2.1, .inl (cI, 30, .inl PAv.2.2.2.2.2.2.2.2.1)), (PAv.2.2.2.1.2.2.2.2, .inl (cI, 24, .inl PAv.2.2.2.2.2.2.2.2.2))] [(0, .ref b), (1, .ref hXX), (2, .ref hMO), (3, .int (nI i))] 18 [] := by
  have cx := lx_cx lx
  intro n
  induction n with
  | zero =>
    intro i h1 h2
    exact absurd h2 (by omega)
  | succ n ih =>
    intro i h1 h2 NWru NWco NWKa NWTa NWMa NWCa BEru BEco BEKa BETa BEMa BECa SNru SNco SNKa SNTa SNMa SNCa CAow CApa SVre SVqu SVme TXle TXpo TXfa TXso TXki TXtu TXce TXsi TXcl PAco PAv XXhs MOst MOik MOln MOpl MOiw MOle MOza MOas MObe MOke MOtx MOon MOwy MOmk MOqu MOnu hRA hRH hRS hRT
    refine j_iload_n (pc' := 19) cx 3 dL_law_18 rfl rfl ?_
    refine j_aload_n (pc' := 20) cx 0 dL_law_19 rfl rfl ?_
    refine j_slen (pc' := 21) lx dL_law_20 rfl ?_
    refine j_iconst (pc' := 22) cx 4 dL_law_21 ki_4 rfl ?_
    refine j_isub (pc' := 23) cx dL_law_22 rfl ?_
    refine j_icmp_gt (tgt := 747) (pc' := 26) cx dL_law_23 (by decide) rfl (fun _ => ?_) (fun q => ?_)
    · refine j_iconst (pc' := 748) cx 1 dL_law_747 ki_1 rfl ?_
      refine j_widen (k := 600000) (n := 7302250) cx (Nat.le_of_ble_eq_true rfl) (Nat.le_of_ble_eq_true rfl) ?_
      exact j_ret cx (Or.inr (Or.inl ⟨_, _, rfl, by decide +kernel, dL_law_748, rfl, rfl⟩)) rfl
    · have hi : i + 4 ≤ L := by
        rw [lw_end (i := i) (L := L) (by omega) hL] at q
        exact Nat.not_lt.mp (fun z => q (by omega))
      have K : LK j cI cZ cC cS b hNW hNWk hNWt hNWm hNWc hBE hBEk hBEt hBEm hBEc hSN hSNk hSNt hSNm hSNc hCA hCAo hCAp hSV hSVr hSVq hSVm hTX hTXs hTXc hPA hXX hMO hMOz hMOa hMOb hMOk hMOt hMOo hMOw hMOm hMOq hMOn hPAs i := by
        intro NWru NWco NWKa NWTa NWMa NWCa BEru BEco BEKa BETa BEMa BECa SNru SNco SNKa SNTa SNMa SNCa CAow CApa SVre SVqu SVme TXle TXpo TXfa TXso TXki TXtu TXce TXsi TXcl PAco PAv XXhs MOst MOik MOln MOpl MOiw MOle MOza MOas MObe MOke MOtx MOon MOwy MOmk MOqu MOnu hRA hRH hRS hRT
        refine j_iinc (v := nI (i + 4)) (lv' := [(3, .int (nI (i + 4))), (0, .ref b), (1, .ref hXX), (2, .ref hMO)]) (pc' := 744) cx 3 dL_law_741 rfl (lw_n4 i) (by decide) rfl rfl ?_
        refine j_goto (pc' := 18) cx dL_law_744 (by decide) ?_
        refine j_lv (lv' := [(0, .ref b), (1, .ref hXX), (2, .ref hMO), (3, .int (nI (i + 4)))]) cx [1, 2, 3, 0] rfl ?_
        exact ih (i + 4) (by omega) (by omega) NWru NWco NWKa NWTa NWMa NWCa BEru BEco BEKa BETa BEMa BECa SNru SNco SNKa SNTa SNMa SNCa CAow CApa SVre SVqu SVme TXle TXpo TXfa TXso TXki TXtu TXce TXsi TXcl PAco PAv XXhs MOst MOik MOln MOpl MOiw MOle MOza MOas MObe MOke MOtx MOon MOwy MOmk MOqu MOnu hRA hRH hRS hRT
      refine j_aload_n (pc' := 27) cx 0 dL_law_26 rfl rfl ?_
      refine j_iload_n (pc' := 28) cx 3 dL_law_27 rfl rfl ?_
      obtain ⟨p0, ep0⟩ : ∃ v, xs (nI i).toNatClampNeg = v := ⟨_, rfl⟩
      refine j_sld (pc' := 29) lx p0 ep0 (lw_in0 hi hL) dL_law_28 rfl ?_
      refine j_bipush (pc' := 31) cx 31 dL_law_29 lw_b31 rfl ?_
      refine j_iand (pc' := 32) cx dL_law_31 rfl ?_
      obtain ⟨o0, eo0⟩ : ∃ v, p0 &&& 31 = v := ⟨_, rfl⟩
      rw [eo0]
      by_cases k0 : o0 = 0
      · refine j_tab_in (tgt := 140) cx dL_law_32 k0 (by decide +kernel) (by decide +kernel) (by first | rfl | decide +kernel) (by decide) ?_
        exact la_0 lx hi hL hNW hNWk hNWt hNWm hNWc hBE hBEk hBEt hBEm hBEc hSN hSNk hSNt hSNm hSNc hCA hCAo hCAp hSV hSVr hSVq hSVm hTX hTXs hTXc hPA hXX hMO hMOz hMOa hMOb hMOk hMOt hMOo hMOw hMOm hMOq hMOn hPAs NWru NWco NWKa NWTa NWMa NWCa BEru BEco BEKa BETa BEMa BECa SNru SNco SNKa SNTa SNMa SNCa CAow CApa SVre SVqu SVme TXle TXpo TXfa TXso TXki TXtu TXce TXsi TXcl PAco PAv XXhs MOst MOik MOln MOpl MOiw MOle MOza MOas MObe MOke MOtx MOon MOwy MOmk MOqu MOnu hRA hRH hRS hRT K
      by_cases k1 : o0 = 1
      · refine j_tab_in (tgt := 183) cx dL_law_32 k1 (by decide +kernel) (by decide +kernel) (by first | rfl | decide +kernel) (by decide) ?_
        exact la_1 lx hi hL hNW hNWk hNWt hNWm hNWc hBE hBEk hBEt hBEm hBEc hSN hSNk hSNt hSNm hSNc hCA hCAo hCAp hSV hSVr hSVq hSVm hTX hTXs hTXc hPA hXX hMO hMOz hMOa hMOb hMOk hMOt hMOo hMOw hMOm hMOq hMOn hPAs NWru NWco NWKa NWTa NWMa NWCa BEru BEco BEKa BETa BEMa BECa SNru SNco SNKa SNTa SNMa SNCa CAow CApa SVre SVqu SVme TXle TXpo TXfa TXso TXki TXtu TXce TXsi TXcl PAco PAv XXhs MOst MOik MOln MOpl MOiw MOle MOza MOas MObe MOke MOtx MOon MOwy MOmk MOqu MOnu hRA hRH hRS hRT K
      by_cases k2 : o0 = 2
      · refine j_tab_in (tgt := 206) cx dL_law_32 k2 (by decide +kernel) (by decide +kernel) (by first | rfl | decide +kernel) (by decide) ?_
        exact la_2 lx hi hL hNW hNWk hNWt hNWm hNWc hBE hBEk hBEt hBEm hBEc hSN hSNk hSNt hSNm hSNc hCA hCAo hCAp hSV hSVr hSVq hSVm hTX hTXs hTXc hPA hXX hMO hMOz hMOa hMOb hMOk hMOt hMOo hMOw hMOm hMOq hMOn hPAs NWru NWco NWKa NWTa NWMa NWCa BEru BEco BEKa BETa BEMa BECa SNru SNco SNKa SNTa SNMa SNCa CAow CApa SVre SVqu SVme TXle TXpo TXfa TXso TXki TXtu TXce TXsi TXcl PAco PAv XXhs MOst MOik MOln MOpl MOiw MOle MOza MOas MObe MOke MOtx MOon MOwy MOmk MOqu MOnu hRA hRH hRS hRT K
      by_cases k3 : o0 = 3
      · refine j_tab_in (tgt := 249) cx dL_law_32 k3 (by decide +kernel) (by decide +kernel) (by first | rfl | decide +kernel) (by decide) ?_
        exact la_3 lx hi hL hNW hNWk hNWt hNWm hNWc hBE hBEk hBEt hBEm hBEc hSN hSNk hSNt hSNm hSNc hCA hCAo hCAp hSV hSVr hSVq hSVm hTX hTXs hTXc hPA hXX hMO hMOz hMOa hMOb hMOk hMOt hMOo hMOw hMOm hMOq hMOn hPAs NWru NWco NWKa NWTa NWMa NWCa BEru BEco BEKa BETa BEMa BECa SNru SNco SNKa SNTa SNMa SNCa CAow CApa SVre SVqu SVme TXle TXpo TXfa TXso TXki TXtu TXce TXsi TXcl PAco PAv XXhs MOst MOik MOln MOpl MOiw MOle MOza MOas MObe MOke MOtx MOon MOwy MOmk MOqu MOnu hRA hRH hRS hRT K
      by_cases k4 : o0 = 4
      · refine j_tab_in (tgt := 272) cx dL_law_32 k4 (by decide +kernel) (by decide +kernel) (by first | rfl | decide +kernel) (by decide) ?_
        exact la_4 lx hi hL hNW hNWk hNWt hNWm hNWc hBE hBEk hBEt hBEm hBEc hSN hSNk hSNt hSNm hSNc hCA hCAo hCAp hSV hSVr hSVq hSVm hTX hTXs hTXc hPA hXX hMO hMOz hMOa hMOb hMOk hMOt hMOo hMOw hMOm hMOq hMOn hPAs NWru NWco NWKa NWTa NWMa NWCa BEru BEco BEKa BETa BEMa BECa SNru SNco SNKa SNTa SNMa SNCa CAow CApa SVre SVqu SVme TXle TXpo TXfa TXso TXki TXtu TXce TXsi TXcl PAco PAv XXhs MOst MOik MOln MOpl MOiw MOle MOza MOas MObe MOke MOtx MOon MOwy MOmk MOqu MOnu hRA hRH hRS hRT K
      by_cases k5 : o0 = 5
      · refine j_tab_in (tgt := 305) cx dL_law_32 k5 (by decide +kernel) (by decide +kernel) (by first | rfl | decide +kernel) (by decide) ?_
        exact la_5 lx hi hL hNW hNWk hNWt hNWm hNWc hBE hBEk hBEt hBEm hBEc hSN hSNk hSNt hSNm hSNc hCA hCAo hCAp hSV hSVr hSVq hSVm hTX hTXs hTXc hPA hXX hMO hMOz hMOa hMOb hMOk hMOt hMOo hMOw hMOm hMOq hMOn hPAs NWru NWco NWKa NWTa NWMa NWCa BEru BEco BEKa BETa BEMa BECa SNru SNco SNKa SNTa SNMa SNCa CAow CApa SVre SVqu SVme TXle TXpo TXfa TXso TXki TXtu TXce TXsi TXcl PAco PAv XXhs MOst MOik MOln MOpl MOiw MOle MOza MOas MObe MOke MOtx MOon MOwy MOmk MOqu MOnu hRA hRH hRS hRT K
      by_cases k6 : o0 = 6
      · refine j_tab_in (tgt := 338) cx dL_law_32 k6 (by decide +kernel) (by decide +kernel) (by first | rfl | decide +kernel) (by decide) ?_
        exact la_6 lx hi hL hNW hNWk hNWt hNWm hNWc hBE hBEk hBEt hBEm hBEc hSN hSNk hSNt hSNm hSNc hCA hCAo hCAp hSV hSVr hSVq hSVm hTX hTXs hTXc hPA hXX hMO hMOz hMOa hMOb hMOk hMOt hMOo hMOw hMOm hMOq hMOn hPAs NWru NWco NWKa NWTa NWMa NWCa BEru BEco BEKa BETa BEMa BECa SNru SNco SNKa SNTa SNMa SNCa CAow CApa SVre SVqu SVme TXle TXpo TXfa TXso TXki TXtu TXce TXsi TXcl PAco PAv XXhs MOst MOik MOln MOpl MOiw MOle MOza MOas MObe MOke MOtx MOon MOwy MOmk MOqu MOnu hRA hRH hRS hRT K
      by_cases k7 : o0 = 7
      · refine j_tab_in (tgt := 371) cx dL_law_32 k7 (by decide +kernel) (by decide +kernel) (by first | rfl | decide +kernel) (by decide) ?_
        exact la_7 lx hi hL hNW hNWk hNWt hNWm hNWc hBE hBEk hBEt hBEm hBEc hSN hSNk hSNt hSNm hSNc hCA hCAo hCAp hSV hSVr hSVq hSVm hTX hTXs hTXc hPA hXX hMO hMOz hMOa hMOb hMOk hMOt hMOo hMOw hMOm hMOq hMOn hPAs NWru NWco NWKa NWTa NWMa NWCa BEru BEco BEKa BETa BEMa BECa SNru SNco SNKa SNTa SNMa SNCa CAow CApa SVre SVqu SVme TXle TXpo TXfa TXso TXki TXtu TXce TXsi TXcl PAco PAv XXhs MOst MOik MOln MOpl MOiw MOle MOza MOas MObe MOke MOtx MOon MOwy MOmk MOqu MOnu hRA hRH hRS hRT K
      by_cases k8 : o0 = 8
      · refine j_tab_in (tgt := 394) cx dL_law_32 k8 (by decide +kernel) (by decide +kernel) (by first | rfl | decide +kernel) (by decide) ?_
        exact la_8 lx hi hL hNW hNWk hNWt hNWm hNWc hBE hBEk hBEt hBEm hBEc hSN hSNk hSNt hSNm hSNc hCA hCAo hCAp hSV hSVr hSVq hSVm hTX hTXs hTXc hPA hXX hMO hMOz hMOa hMOb hMOk hMOt hMOo hMOw hMOm hMOq hMOn hPAs NWru NWco NWKa NWTa NWMa NWCa BEru BEco BEKa BETa BEMa BECa SNru SNco SNKa SNTa SNMa SNCa CAow CApa SVre SVqu SVme TXle TXpo TXfa TXso TXki TXtu TXce TXsi TXcl PAco PAv XXhs MOst MOik MOln MOpl MOiw MOle MOza MOas MObe MOke MOtx MOon MOwy MOmk MOqu MOnu hRA hRH hRS hRT K
      by_cases k9 : o0 = 9
      · refine j_tab_in (tgt := 419) cx dL_law_32 k9 (by decide +kernel) (by decide +kernel) (by first | rfl | decide +kernel) (by decide) ?_
        exact la_9 lx hi hL hNW hNWk hNWt hNWm hNWc hBE hBEk hBEt hBEm hBEc hSN hSNk hSNt hSNm hSNc hCA hCAo hCAp hSV hSVr hSVq hSVm hTX hTXs hTXc hPA hXX hMO hMOz hMOa hMOb hMOk hMOt hMOo hMOw hMOm hMOq hMOn hPAs NWru NWco NWKa NWTa NWMa NWCa BEru BEco BEKa BETa BEMa BECa SNru SNco SNKa SNTa SNMa SNCa CAow CApa SVre SVqu SVme TXle TXpo TXfa TXso TXki TXtu TXce TXsi TXcl PAco PAv XXhs MOst MOik MOln MOpl MOiw MOle MOza MOas MObe MOke MOtx MOon MOwy MOmk MOqu MOnu hRA hRH hRS hRT K
      by_cases k10 : o0 = 10
      · refine j_tab_in (tgt := 432) cx dL_law_32 k10 (by decide +kernel) (by decide +kernel) (by first | rfl | decide +kernel) (by decide) ?_
        exact la_10 lx hi hL hNW hNWk hNWt hNWm hNWc hBE hBEk hBEt hBEm hBEc hSN hSNk hSNt hSNm hSNc hCA hCAo hCAp hSV hSVr hSVq hSVm hTX hTXs hTXc hPA hXX hMO hMOz hMOa hMOb hMOk hMOt hMOo hMOw hMOm hMOq hMOn hPAs NWru NWco NWKa NWTa NWMa NWCa BEru BEco BEKa BETa BEMa BECa SNru SNco SNKa SNTa SNMa SNCa CAow CApa SVre SVqu SVme TXle TXpo TXfa TXso TXki TXtu TXce TXsi TXcl PAco PAv XXhs MOst MOik MOln MOpl MOiw MOle MOza MOas MObe MOke MOtx MOon MOwy MOmk MOqu MOnu hRA hRH hRS hRT K
      by_cases k11 : o0 = 11
      · refine j_tab_in (tgt := 445) cx dL_law_32 k11 (by decide +kernel) (by decide +kernel) (by first | rfl | decide +kernel) (by decide) ?_
        exact la_11 lx hi hL hNW hNWk hNWt hNWm hNWc hBE hBEk hBEt hBEm hBEc hSN hSNk hSNt hSNm hSNc hCA hCAo hCAp hSV hSVr hSVq hSVm hTX hTXs hTXc hPA hXX hMO hMOz hMOa hMOb hMOk hMOt hMOo hMOw hMOm hMOq hMOn hPAs NWru NWco NWKa NWTa NWMa NWCa BEru BEco BEKa BETa BEMa BECa SNru SNco SNKa SNTa SNMa SNCa CAow CApa SVre SVqu SVme TXle TXpo TXfa TXso TXki TXtu TXce TXsi TXcl PAco PAv XXhs MOst MOik MOln MOpl MOiw MOle MOza MOas MObe MOke MOtx MOon MOwy MOmk MOqu MOnu hRA hRH hRS hRT K
      by_cases k12 : o0 = 12
      · refine j_tab_in (tgt := 458) cx dL_law_32 k12 (by decide +kernel) (by decide +kernel) (by first | rfl | decide +kernel) (by decide) ?_
        exact la_12 lx hi hL hNW hNWk hNWt hNWm hNWc hBE hBEk hBEt hBEm hBEc hSN hSNk hSNt hSNm hSNc hCA hCAo hCAp hSV hSVr hSVq hSVm hTX hTXs hTXc hPA hXX hMO hMOz hMOa hMOb hMOk hMOt hMOo hMOw hMOm hMOq hMOn hPAs NWru NWco NWKa NWTa NWMa NWCa BEru BEco BEKa BETa BEMa BECa SNru SNco SNKa SNTa SNMa SNCa CAow CApa SVre SVqu SVme TXle TXpo TXfa TXso TXki TXtu TXce TXsi TXcl PAco PAv XXhs MOst MOik MOln MOpl MOiw MOle MOza MOas MObe MOke MOtx MOon MOwy MOmk MOqu MOnu hRA hRH hRS hRT K
      by_cases k13 : o0 = 13
      · refine j_tab_in (tgt := 471) cx dL_law_32 k13 (by decide +kernel) (by decide +kernel) (by first | rfl | decide +kernel) (by decide) ?_
        exact la_13 lx hi hL hNW hNWk hNWt hNWm hNWc hBE hBEk hBEt hBEm hBEc hSN hSNk hSNt hSNm hSNc hCA hCAo hCAp hSV hSVr hSVq hSVm hTX hTXs hTXc hPA hXX hMO hMOz hMOa hMOb hMOk hMOt hMOo hMOw hMOm hMOq hMOn hPAs NWru NWco NWKa NWTa NWMa NWCa BEru BEco BEKa BETa BEMa BECa SNru SNco SNKa SNTa SNMa SNCa CAow CApa SVre SVqu SVme TXle TXpo TXfa TXso TXki TXtu TXce TXsi TXcl PAco PAv XXhs MOst MOik MOln MOpl MOiw MOle MOza MOas MObe MOke MOtx MOon MOwy MOmk MOqu MOnu hRA hRH hRS hRT K
      by_cases k14 : o0 = 14
      · refine j_tab_in (tgt := 484) cx dL_law_32 k14 (by decide +kernel) (by decide +kernel) (by first | rfl | decide +kernel) (by decide) ?_
        exact la_14 lx hi hL hNW hNWk hNWt hNWm hNWc hBE hBEk hBEt hBEm hBEc hSN hSNk hSNt hSNm hSNc hCA hCAo hCAp hSV hSVr hSVq hSVm hTX hTXs hTXc hPA hXX hMO hMOz hMOa hMOb hMOk hMOt hMOo hMOw hMOm hMOq hMOn hPAs NWru NWco NWKa NWTa NWMa NWCa BEru BEco BEKa BETa BEMa BECa SNru SNco SNKa SNTa SNMa SNCa CAow CApa SVre SVqu SVme TXle TXpo TXfa TXso TXki TXtu TXce TXsi TXcl PAco PAv XXhs MOst MOik MOln MOpl MOiw MOle MOza MOas MObe MOke MOtx MOon MOwy MOmk MOqu MOnu hRA hRH hRS hRT K
      by_cases k15 : o0 = 15
      · refine j_tab_in (tgt := 517) cx dL_law_32 k15 (by decide +kernel) (by decide +kernel) (by first | rfl | decide +kernel) (by decide) ?_
        exact la_15 lx hi hL hNW hNWk hNWt hNWm hNWc hBE hBEk hBEt hBEm hBEc hSN hSNk hSNt hSNm hSNc hCA hCAo hCAp hSV hSVr hSVq hSVm hTX hTXs hTXc hPA hXX hMO hMOz hMOa hMOb hMOk hMOt hMOo hMOw hMOm hMOq hMOn hPAs NWru NWco NWKa NWTa NWMa NWCa BEru BEco BEKa BETa BEMa BECa SNru SNco SNKa SNTa SNMa SNCa CAow CApa SVre SVqu SVme TXle TXpo TXfa TXso TXki TXtu TXce TXsi TXcl PAco PAv XXhs MOst MOik MOln MOpl MOiw MOle MOza MOas MObe MOke MOtx MOon MOwy MOmk MOqu MOnu hRA hRH hRS hRT K
      by_cases k16 : o0 = 16
      · refine j_tab_in (tgt := 550) cx dL_law_32 k16 (by decide +kernel) (by decide +kernel) (by first | rfl | decide +kernel) (by decide) ?_
        exact la_16 lx hi hL hNW hNWk hNWt hNWm hNWc hBE hBEk hBEt hBEm hBEc hSN hSNk hSNt hSNm hSNc hCA hCAo hCAp hSV hSVr hSVq hSVm hTX hTXs hTXc hPA hXX hMO hMOz hMOa hMOb hMOk hMOt hMOo hMOw hMOm hMOq hMOn hPAs NWru NWco NWKa NWTa NWMa NWCa BEru BEco BEKa BETa BEMa BECa SNru SNco SNKa SNTa SNMa SNCa CAow CApa SVre SVqu SVme TXle TXpo TXfa TXso TXki TXtu TXce TXsi TXcl PAco PAv XXhs MOst MOik MOln MOpl MOiw MOle MOza MOas MObe MOke MOtx MOon MOwy MOmk MOqu MOnu hRA hRH hRS hRT K
      by_cases k17 : o0 = 17
      · refine j_tab_in (tgt := 583) cx dL_law_32 k17 (by decide +kernel) (by decide +kernel) (by first | rfl | decide +kernel) (by decide) ?_
        exact la_17 lx hi hL hNW hNWk hNWt hNWm hNWc hBE hBEk hBEt hBEm hBEc hSN hSNk hSNt hSNm hSNc hCA hCAo hCAp hSV hSVr hSVq hSVm hTX hTXs hTXc hPA hXX hMO hMOz hMOa hMOb hMOk hMOt hMOo hMOw hMOm hMOq hMOn hPAs NWru NWco NWKa NWTa NWMa NWCa BEru BEco BEKa BETa BEMa BECa SNru SNco SNKa SNTa SNMa SNCa CAow CApa SVre SVqu SVme TXle TXpo TXfa TXso TXki TXtu TXce TXsi TXcl PAco PAv XXhs MOst MOik MOln MOpl MOiw MOle MOza MOas MObe MOke MOtx MOon MOwy MOmk MOqu MOnu hRA hRH hRS hRT K
      by_cases k18 : o0 = 18
      · refine j_tab_in (tgt := 606) cx dL_law_32 k18 (by decide +kernel) (by decide +kernel) (by first | rfl | decide +kernel) (by decide) ?_
        exact la_18 lx hi hL hNW hNWk hNWt hNWm hNWc hBE hBEk hBEt hBEm hBEc hSN hSNk hSNt hSNm hSNc hCA hCAo hCAp hSV hSVr hSVq hSVm hTX hTXs hTXc hPA hXX hMO hMOz hMOa hMOb hMOk hMOt hMOo hMOw hMOm hMOq hMOn hPAs NWru NWco NWKa NWTa NWMa NWCa BEru BEco BEKa BETa BEMa BECa SNru SNco SNKa SNTa SNMa SNCa CAow CApa SVre SVqu SVme TXle TXpo TXfa TXso TXki TXtu TXce TXsi TXcl PAco PAv XXhs MOst MOik MOln MOpl MOiw MOle MOza MOas MObe MOke MOtx MOon MOwy MOmk MOqu MOnu hRA hRH hRS hRT K
      by_cases k19 : o0 = 19
      · refine j_tab_in (tgt := 649) cx dL_law_32 k19 (by decide +kernel) (by decide +kernel) (by first | rfl | decide +kernel) (by decide) ?_
        exact la_19 lx hi hL hNW hNWk hNWt hNWm hNWc hBE hBEk hBEt hBEm hBEc hSN hSNk hSNt hSNm hSNc hCA hCAo hCAp hSV hSVr hSVq hSVm hTX hTXs hTXc hPA hXX hMO hMOz hMOa hMOb hMOk hMOt hMOo hMOw hMOm hMOq hMOn hPAs NWru NWco NWKa NWTa NWMa NWCa BEru BEco BEKa BETa BEMa BECa SNru SNco SNKa SNTa SNMa SNCa CAow CApa SVre SVqu SVme TXle TXpo TXfa TXso TXki TXtu TXce TXsi TXcl PAco PAv XXhs MOst MOik MOln MOpl MOiw MOle MOza MOas MObe MOke MOtx MOon MOwy MOmk MOqu MOnu hRA hRH hRS hRT K
      by_cases k20 : o0 = 20
      · refine j_tab_in (tgt := 672) cx dL_law_32 k20 (by decide +kernel) (by decide +kernel) (by first | rfl | decide +kernel) (by decide) ?_
        exact la_20 lx hi hL hNW hNWk hNWt hNWm hNWc hBE hBEk hBEt hBEm hBEc hSN hSNk hSNt hSNm hSNc hCA hCAo hCAp hSV hSVr hSVq hSVm hTX hTXs hTXc hPA hXX hMO hMOz hMOa hMOb hMOk hMOt hMOo hMOw hMOm hMOq hMOn hPAs NWru NWco NWKa NWTa NWMa NWCa BEru BEco BEKa BETa BEMa BECa SNru SNco SNKa SNTa SNMa SNCa CAow CApa SVre SVqu SVme TXle TXpo TXfa TXso TXki TXtu TXce TXsi TXcl PAco PAv XXhs MOst MOik MOln MOpl MOiw MOle MOza MOas MObe MOke MOtx MOon MOwy MOmk MOqu MOnu hRA hRH hRS hRT K
      by_cases k21 : o0 = 21
      · refine j_tab_in (tgt := 705) cx dL_law_32 k21 (by decide +kernel) (by decide +kernel) (by first | rfl | decide +kernel) (by decide) ?_
        exact la_21 lx hi hL hNW hNWk hNWt hNWm hNWc hBE hBEk hBEt hBEm hBEc hSN hSNk hSNt hSNm hSNc hCA hCAo hCAp hSV hSVr hSVq hSVm hTX hTXs hTXc hPA hXX hMO hMOz hMOa hMOb hMOk hMOt hMOo hMOw hMOm hMOq hMOn hPAs NWru NWco NWKa NWTa NWMa NWCa BEru BEco BEKa BETa BEMa BECa SNru SNco SNKa SNTa SNMa SNCa CAow CApa SVre SVqu SVme TXle TXpo TXfa TXso TXki TXtu TXce TXsi TXcl PAco PAv XXhs MOst MOik MOln MOpl MOiw MOle MOza MOas MObe MOke MOtx MOon MOwy MOmk MOqu MOnu hRA hRH hRS hRT K
      by_cases k22 : o0 = 22
      · refine j_tab_in (tgt := 728) cx dL_law_32 k22 (by decide +kernel) (by decide +kernel) (by first | rfl | decide +kernel) (by decide) ?_
        exact la_22 lx hi hL hNW hNWk hNWt hNWm hNWc hBE hBEk hBEt hBEm hBEc hSN hSNk hSNt hSNm hSNc hCA hCAo hCAp hSV hSVr hSVq hSVm hTX hTXs hTXc hPA hXX hMO hMOz hMOa hMOb hMOk hMOt hMOo hMOw hMOm hMOq hMOn hPAs NWru NWco NWKa NWTa NWMa NWCa BEru BEco BEKa BETa BEMa BECa SNru SNco SNKa SNTa SNMa SNCa CAow CApa SVre SVqu SVme TXle TXpo TXfa TXso TXki TXtu TXce TXsi TXcl PAco PAv XXhs MOst MOik MOln MOpl MOiw MOle MOza MOas MObe MOke MOtx MOon MOwy MOmk MOqu MOnu hRA hRH hRS hRT K
      refine j_tab_out (tgt := 741) cx dL_law_32 (fun n n1 n2 => ?_) (by decide) ?_
      · have n3 : n = 0 ∨ n = 1 ∨ n = 2 ∨ n = 3 ∨ n = 4 ∨ n = 5 ∨ n = 6 ∨ n = 7 ∨ n = 8 ∨ n = 9 ∨ n = 10 ∨ n = 11 ∨ n = 12 ∨ n = 13 ∨ n = 14 ∨ n = 15 ∨ n = 16 ∨ n = 17 ∨ n = 18 ∨ n = 19 ∨ n = 20 ∨ n = 21 ∨ n = 22 := by omega
        rcases n3 with rfl | rfl | rfl | rfl | rfl | rfl | rfl | rfl | rfl | rfl | rfl | rfl | rfl | rfl | rfl | rfl | rfl | rfl | rfl | rfl | rfl | rfl | rfl
        · exact k0
        · exact k1
        · exact k2
        · exact k3
        · exact k4
        · exact k5
        · exact k6
        · exact k7
        · exact k8
        · exact k9
        · exact k10
        · exact k11
        · exact k12
        · exact k13
        · exact k14
        · exact k15
        · exact k16
        · exact k17
        · exact k18
        · exact k19
        · exact k20
        · exact k21
        · exact k22
      · exact K NWru NWco NWKa NWTa NWMa NWCa BEru BEco BEKa BETa BEMa BECa SNru SNco SNKa SNTa SNMa SNCa CAow CApa SVre SVqu SVme TXle TXpo TXfa TXso TXki TXtu TXce TXsi TXcl PAco PAv XXhs MOst MOik MOln MOpl MOiw MOle MOza MOas MObe MOke MOtx MOon MOwy MOmk MOqu MOnu hRA hRH hRS hRT
