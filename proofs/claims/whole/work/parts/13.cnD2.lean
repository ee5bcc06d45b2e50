set_option maxHeartbeats 4000000 in
set_option maxRecDepth 100000 in
theorem c_X7_noLay (l : Launch) (D : va_G) (cI cZ cC cS : ClassId) (hMO hMOz hMOa hMOb hMOk hMOt hMOo hMOw hMOm hMOq hMOn : Nat) (MOst : Int32) (MOik : Int32) (MOln : Int32) (MOpl : Int32) (MOiw : Int32) (MOle : Int32) (MOza : Nat → Int32) (MOon : Nat → Int32) (MOwy : Nat → Int32) (p0 : Int32) (p1 : Int32) (p2 : Int32) (out : Int32) (hm : f_X7_noLay MOza MOon MOwy p0 p1 p2 = some out) : Ct l yX7_noLay cX7_noLay 5 (some .int) ({ frames := 5, cells := 0, slots := 0, locals := 119 }) (D, TY cI cZ cC cS) [.ref hMO, .int p0, .int p1, .int p2] [(hMO, .inr (6, [.ref hMOz, .ref hMOa, .ref hMOb, .int MOst, .ref hMOk, .int MOik, .ref hMOt, .int MOln, .ref hMOo, .ref hMOw, .ref hMOm, .ref hMOq, .int MOpl, .int MOiw, .int MOle, .ref hMOn])), (hMOz, .inl (cI, 116, .inl MOza)), (hMOo, .inl (cI, 150, .inl MOon)), (hMOw, .inl (cI, 150, .inl MOwy))] (jw_P (some (.int out)) [(hMO, .inr (6, [.ref hMOz, .ref hMOa, .ref hMOb, .int MOst, .ref hMOk, .int MOik, .ref hMOt, .int MOln, .ref hMOo, .ref hMOw, .ref hMOm, .ref hMOq, .int MOpl, .int MOiw, .int MOle, .ref hMOn])), (hMOz, .inl (cI, 116, .inl MOza)), (hMOo, .inl (cI, 150, .inl MOon)), (hMOw, .inl (cI, 150, .inl MOwy))]) 0 0 := by
  refine ct_of RX7 (by decide +kernel) rfl (Nat.le_of_ble_eq_true rfl) (fun j cx => ?_)
  unfold f_X7_noLay at hm
  show j 0 0 [(hMO, .inr (6, [.ref hMOz, .ref hMOa, .ref hMOb, .int MOst, .ref hMOk, .int MOik, .ref hMOt, .int MOln, .ref hMOo, .ref hMOw, .ref hMOm, .ref hMOq, .int MOpl, .int MOiw, .int MOle, .ref hMOn])), (hMOz, .inl (cI, 116, .inl MOza)), (hMOo, .inl (cI, 150, .inl MOon)), (hMOw, .inl (cI, 150, .inl MOwy))] [(0, .ref hMO), (1, .int p0), (2, .int p1), (3, .int p2)] 0 []
  refine j_iload_n (pc' := 1) cx 1 dX7_noLay_0 rfl rfl ?_
  obtain ⟨r1, c2, h_1⟩ := bd_s hm
  refine j_cS (pc' := 4) cx (c_X7_isKind l D cI cZ cC cS p0 r1 c2) 1 yk_X7_isKind wM_X7_101 ⟨wT_X7_isKind, wI_X7, wC_X7_isKind⟩ ⟨rfl, rfl, Nat.le_of_ble_eq_true rfl, Nat.le_of_ble_eq_true rfl, Nat.le_of_ble_eq_true rfl, Nat.le_of_ble_eq_true rfl⟩ [] [0, 1, 2, 3] [0, 1, 2, 3] rfl [(hMO, .inr (6, [.ref hMOz, .ref hMOa, .ref hMOb, .int MOst, .ref hMOk, .int MOik, .ref hMOt, .int MOln, .ref hMOo, .ref hMOw, .ref hMOm, .ref hMOq, .int MOpl, .int MOiw, .int MOle, .ref hMOn])), (hMOz, .inl (cI, 116, .inl MOza)), (hMOo, .inl (cI, 150, .inl MOon)), (hMOw, .inl (cI, 150, .inl MOwy))] rfl (by decide) [(hMO, .inr (6, [.ref hMOz, .ref hMOa, .ref hMOb, .int MOst, .ref hMOk, .int MOik, .ref hMOt, .int MOln, .ref hMOo, .ref hMOw, .ref hMOm, .ref hMOq, .int MOpl, .int MOiw, .int MOle, .ref hMOn])), (hMOz, .inl (cI, 116, .inl MOza)), (hMOo, .inl (cI, 150, .inl MOon)), (hMOw, .inl (cI, 150, .inl MOwy))] rfl (by decide) rfl rfl (Nat.le_of_ble_eq_true rfl) dX7_noLay_1 rfl ?_
  refine j_if_eq (tgt := 14) (pc' := 7) cx dX7_noLay_4 (by decide) rfl (fun ch_1 => ?_) (fun ch_1 => ?_)
  · have h_2 := it_t h_1 ch_1
    refine j_iconst (pc' := 15) cx (-1) dX7_noLay_14 ki_m1 rfl ?_
    have h_3 := so_i h_2
    subst h_3
    exact j_ret cx (Or.inr (Or.inl ⟨_, _, rfl, rfl, dX7_noLay_15, rfl, rfl⟩)) ⟨rfl, rfl⟩
  · have h_4 := it_f h_1 ch_1
    refine j_iload_n (pc' := 8) cx 3 dX7_noLay_7 rfl rfl ?_
    obtain ⟨r3, c4, h_5⟩ := bd_s h_4
    refine j_cS (pc' := 11) cx (c_X7_isCell l D cI cZ cC cS p2 r3 c4) 1 yk_X7_isCell wM_X7_113 ⟨wT_X7_isCell, wI_X7, wC_X7_isCell⟩ ⟨rfl, rfl, Nat.le_of_ble_eq_true rfl, Nat.le_of_ble_eq_true rfl, Nat.le_of_ble_eq_true rfl, Nat.le_of_ble_eq_true rfl⟩ [] [0, 1, 2, 3] [0, 1, 2, 3] rfl [(hMO, .inr (6, [.ref hMOz, .ref hMOa, .ref hMOb, .int MOst, .ref hMOk, .int MOik, .ref hMOt, .int MOln, .ref hMOo, .ref hMOw, .ref hMOm, .ref hMOq, .int MOpl, .int MOiw, .int MOle, .ref hMOn])), (hMOz, .inl (cI, 116, .inl MOza)), (hMOo, .inl (cI, 150, .inl MOon)), (hMOw, .inl (cI, 150, .inl MOwy))] rfl (by decide) [(hMO, .inr (6, [.ref hMOz, .ref hMOa, .ref hMOb, .int MOst, .ref hMOk, .int MOik, .ref hMOt, .int MOln, .ref hMOo, .ref hMOw, .ref hMOm, .ref hMOq, .int MOpl, .int MOiw, .int MOle, .ref hMOn])), (hMOz, .inl (cI, 116, .inl MOza)), (hMOo, .inl (cI, 150, .inl MOon)), (hMOw, .inl (cI, 150, .inl MOwy))] rfl (by decide) rfl rfl (Nat.le_of_ble_eq_true rfl) dX7_noLay_8 rfl ?_
    refine j_if_ne (tgt := 16) (pc' := 14) cx dX7_noLay_11 (by decide) rfl (fun ch_5 => ?_) (fun ch_5 => ?_)
    · have h_6 := it_f h_5 ch_5
      refine j_iload_n (pc' := 17) cx 2 dX7_noLay_16 rfl rfl ?_
      refine j_iconst (pc' := 18) cx 0 dX7_noLay_17 ki_0 rfl ?_
      refine j_iconst (pc' := 19) cx 3 dX7_noLay_18 ki_3 rfl ?_
      obtain ⟨r5, c6, h_7⟩ := bd_s h_6
      refine j_cS (pc' := 22) cx (c_X7_in l D cI cZ cC cS p1 0 3 r5 c6) 3 yk_X7_in wM_X7_43 ⟨wT_X7_in, wI_X7, wC_X7_in⟩ ⟨rfl, rfl, Nat.le_of_ble_eq_true rfl, Nat.le_of_ble_eq_true rfl, Nat.le_of_ble_eq_true rfl, Nat.le_of_ble_eq_true rfl⟩ [] [0, 1, 2, 3] [0, 1, 2, 3] rfl [(hMO, .inr (6, [.ref hMOz, .ref hMOa, .ref hMOb, .int MOst, .ref hMOk, .int MOik, .ref hMOt, .int MOln, .ref hMOo, .ref hMOw, .ref hMOm, .ref hMOq, .int MOpl, .int MOiw, .int MOle, .ref hMOn])), (hMOz, .inl (cI, 116, .inl MOza)), (hMOo, .inl (cI, 150, .inl MOon)), (hMOw, .inl (cI, 150, .inl MOwy))] rfl (by decide) [(hMO, .inr (6, [.ref hMOz, .ref hMOa, .ref hMOb, .int MOst, .ref hMOk, .int MOik, .ref hMOt, .int MOln, .ref hMOo, .ref hMOw, .ref hMOm, .ref hMOq, .int MOpl, .int MOiw, .int MOle, .ref hMOn])), (hMOz, .inl (cI, 116, .inl MOza)), (hMOo, .inl (cI, 150, .inl MOon)), (hMOw, .inl (cI, 150, .inl MOwy))] rfl (by decide) rfl rfl (Nat.le_of_ble_eq_true rfl) dX7_noLay_19 rfl ?_
      refine j_if_ne (tgt := 28) (pc' := 25) cx dX7_noLay_22 (by decide) rfl (fun ch_7 => ?_) (fun ch_7 => ?_)
      · have h_8 := it_f h_7 ch_7
        refine j_aload_n (pc' := 29) cx 0 dX7_noLay_28 rfl rfl ?_
        refine j_iload_n (pc' := 30) cx 1 dX7_noLay_29 rfl rfl ?_
        refine j_iload_n (pc' := 31) cx 2 dX7_noLay_30 rfl rfl ?_
        refine j_iload_n (pc' := 32) cx 3 dX7_noLay_31 rfl rfl ?_
        obtain ⟨r7, c8, h_9⟩ := bd_s h_8
        refine j_cV (pc' := 35) cx (c_X7_why l D cI cZ cC cS hMO hMOz hMOa hMOb hMOk hMOt hMOo hMOw hMOm hMOq hMOn MOst MOik MOln MOpl MOiw MOle MOza MOon MOwy p0 p1 p2 r7 c8) 3 yk_X7_why wM_X7_116 ⟨wN_X7_why, wS_X7_why, wI_X7, wC_X7_why⟩ ⟨rfl, rfl, Nat.le_of_ble_eq_true rfl, Nat.le_of_ble_eq_true rfl, Nat.le_of_ble_eq_true rfl, Nat.le_of_ble_eq_true rfl⟩ [0, 1, 2, 3] [] [0, 1, 2, 3] rfl [] rfl (by decide) [(hMO, .inr (6, [.ref hMOz, .ref hMOa, .ref hMOb, .int MOst, .ref hMOk, .int MOik, .ref hMOt, .int MOln, .ref hMOo, .ref hMOw, .ref hMOm, .ref hMOq, .int MOpl, .int MOiw, .int MOle, .ref hMOn])), (hMOz, .inl (cI, 116, .inl MOza)), (hMOo, .inl (cI, 150, .inl MOon)), (hMOw, .inl (cI, 150, .inl MOwy))] rfl (by decide) 0 6 rfl rfl rfl rfl rfl (Nat.le_of_ble_eq_true rfl) dX7_noLay_32 rfl ?_
        refine j_istore (lv' := [(4, .int r7), (0, .ref hMO), (1, .int p0), (2, .int p1), (3, .int p2)]) (pc' := 37) cx dX7_noLay_35 (by decide) rfl rfl ?_
        refine j_iload (pc' := 39) cx 0 dX7_noLay_37 rfl rfl ?_
        refine j_iconst (pc' := 40) cx 4 dX7_noLay_39 ki_4 rfl ?_
        obtain ⟨t9, h_11, h_10⟩ := bd_s h_9
        have Kt9 : j 0 0 [(hMO, .inr (6, [.ref hMOz, .ref hMOa, .ref hMOb, .int MOst, .ref hMOk, .int MOik, .ref hMOt, .int MOln, .ref hMOo, .ref hMOw, .ref hMOm, .ref hMOq, .int MOpl, .int MOiw, .int MOle, .ref hMOn])), (hMOz, .inl (cI, 116, .inl MOza)), (hMOo, .inl (cI, 150, .inl MOon)), (hMOw, .inl (cI, 150, .inl MOwy))] [] 59 [.int t9] := by
          have h_12 := so_i h_10
          subst h_12
          exact j_ret cx (Or.inr (Or.inl ⟨_, _, rfl, rfl, dX7_noLay_59, rfl, rfl⟩)) ⟨rfl, rfl⟩
        refine j_icmp_ne (tgt := 48) (pc' := 43) cx dX7_noLay_40 (by decide) rfl (fun ch_11 => ?_) (fun ch_11 => ?_)
        · have h_13 := it_f h_11 ch_11
          refine j_iload (pc' := 50) cx 0 dX7_noLay_48 rfl rfl ?_
          refine j_if_le (tgt := 58) (pc' := 53) cx dX7_noLay_50 (by decide) rfl (fun ch_13 => ?_) (fun ch_13 => ?_)
          · have h_14 := it_t h_13 ch_13
            refine j_iconst (pc' := 59) cx 0 dX7_noLay_58 ki_0 rfl ?_
            have h_15 := so_i h_14
            subst h_15
            refine j_lv (lv' := []) cx [] rfl ?_
            exact Kt9
          · have h_16 := it_f h_13 ch_13
            refine j_bipush (pc' := 55) cx (-4) dX7_noLay_53 kb_m4 rfl ?_
            refine j_goto (pc' := 59) cx dX7_noLay_55 (by decide) ?_
            have h_17 := so_i h_16
            subst h_17
            refine j_lv (lv' := []) cx [] rfl ?_
            exact Kt9
        · have h_18 := it_t h_11 ch_11
          refine j_bipush (pc' := 45) cx (-3) dX7_noLay_43 kb_m3 rfl ?_
          refine j_goto (pc' := 59) cx dX7_noLay_45 (by decide) ?_
          have h_19 := so_i h_18
          subst h_19
          refine j_lv (lv' := []) cx [] rfl ?_
          exact Kt9
      · have h_20 := it_t h_7 ch_7
        refine j_bipush (pc' := 27) cx (-2) dX7_noLay_25 kb_m2 rfl ?_
        have h_21 := so_i h_20
        subst h_21
        exact j_ret cx (Or.inr (Or.inl ⟨_, _, rfl, rfl, dX7_noLay_27, rfl, rfl⟩)) ⟨rfl, rfl⟩
    · have h_22 := it_t h_5 ch_5
      refine j_iconst (pc' := 15) cx (-1) dX7_noLay_14 ki_m1 rfl ?_
      have h_23 := so_i h_22
      subst h_23
      exact j_ret cx (Or.inr (Or.inl ⟨_, _, rfl, rfl, dX7_noLay_15, rfl, rfl⟩)) ⟨rfl, rfl⟩
set_option maxHeartbeats 4000000 in
set_option maxRecDepth 100000 in
theorem c_X7_lay (l : Launch) (D : va_G) (cI cZ cC cS : ClassId) (hMO hMOz hMOa hMOb hMOk hMOt hMOo hMOw hMOm hMOq hMOn : Nat) (MOst : Int32) (MOik : Int32) (MOln : Int32) (MOpl : Int32) (MOiw : Int32) (MOle : Int32) (MOza : Nat → Int32) (MObe : Nat → Int32) (MOon : Nat → Int32) (MOwy : Nat → Int32) (p0 : Int32) (p1 : Int32) (p2 : Int32) (out : Int32 × Int32 × (Nat → Int32) × (Nat → Int32) × (Nat → Int32) × (Nat → Int32)) (hm : f_X7_lay MOst MOza MObe MOon MOwy p0 p1 p2 = some out) : Ct l yX7_lay cX7_lay 5 (some .int) ({ frames := 6, cells := 0, slots := 0, locals := 143 }) (D, TY cI cZ cC cS) [.ref hMO, .int p0, .int p1, .int p2] [(hMO, .inr (6, [.ref hMOz, .ref hMOa, .ref hMOb, .int MOst, .ref hMOk, .int MOik, .ref hMOt, .int MOln, .ref hMOo, .ref hMOw, .ref hMOm, .ref hMOq, .int MOpl, .int MOiw, .int MOle, .ref hMOn])), (hMOz, .inl (cI, 116, .inl MOza)), (hMOb, .inl (cI, 464, .inl MObe)), (hMOo, .inl (cI, 150, .inl MOon)), (hMOw, .inl (cI, 150, .inl MOwy))] (jw_P (some (.int out.1)) [(hMO, .inr (6, [.ref hMOz, .ref hMOa, .ref hMOb, .int out.2.1, .ref hMOk, .int MOik, .ref hMOt, .int MOln, .ref hMOo, .ref hMOw, .ref hMOm, .ref hMOq, .int MOpl, .int MOiw, .int MOle, .ref hMOn])), (hMOz, .inl (cI, 116, .inl out.2.2.1)), (hMOb, .inl (cI, 464, .inl out.2.2.2.1)), (hMOo, .inl (cI, 150, .inl out.2.2.2.2.1)), (hMOw, .inl (cI, 150, .inl out.2.2.2.2.2))]) 0 0 := by
  refine ct_of RX7 (by decide +kernel) rfl (Nat.le_of_ble_eq_true rfl) (fun j cx => ?_)
  unfold f_X7_lay at hm
  show j 0 0 [(hMO, .inr (6, [.ref hMOz, .ref hMOa, .ref hMOb, .int MOst, .ref hMOk, .int MOik, .ref hMOt, .int MOln, .ref hMOo, .ref hMOw, .ref hMOm, .ref hMOq, .int MOpl, .int MOiw, .int MOle, .ref hMOn])), (hMOz, .inl (cI, 116, .inl MOza)), (hMOb, .inl (cI, 464, .inl MObe)), (hMOo, .inl (cI, 150, .inl MOon)), (hMOw, .inl (cI, 150, .inl MOwy))] [(0, .ref hMO), (1, .int p0), (2, .int p1), (3, .int p2)] 0 []
  refine j_aload_n (pc' := 1) cx 0 dX7_lay_0 rfl rfl ?_
  refine j_iload_n (pc' := 2) cx 1 dX7_lay_1 rfl rfl ?_
  refine j_iload_n (pc' := 3) cx 2 dX7_lay_2 rfl rfl ?_
  refine j_iload_n (pc' := 4) cx 3 dX7_lay_3 rfl rfl ?_
  obtain ⟨r1, c2, h_1⟩ := bd_s hm
  refine j_cV (pc' := 7) cx (c_X7_noLay l D cI cZ cC cS hMO hMOz hMOa hMOb hMOk hMOt hMOo hMOw hMOm hMOq hMOn MOst MOik MOln MOpl MOiw MOle MOza MOon MOwy p0 p1 p2 r1 c2) 3 yk_X7_noLay wM_X7_119 ⟨wN_X7_noLay, wS_X7_noLay, wI_X7, wC_X7_noLay⟩ ⟨rfl, rfl, Nat.le_of_ble_eq_true rfl, Nat.le_of_ble_eq_true rfl, Nat.le_of_ble_eq_true rfl, Nat.le_of_ble_eq_true rfl⟩ [0, 1, 3, 4] [2] [1, 2, 0, 3, 4] rfl [(hMOb, .inl (cI, 464, .inl MObe))] rfl (by decide) [(hMO, .inr (6, [.ref hMOz, .ref hMOa, .ref hMOb, .int MOst, .ref hMOk, .int MOik, .ref hMOt, .int MOln, .ref hMOo, .ref hMOw, .ref hMOm, .ref hMOq, .int MOpl, .int MOiw, .int MOle, .ref hMOn])), (hMOz, .inl (cI, 116, .inl MOza)), (hMOb, .inl (cI, 464, .inl MObe)), (hMOo, .inl (cI, 150, .inl MOon)), (hMOw, .inl (cI, 150, .inl MOwy))] rfl (by decide) 0 6 rfl rfl rfl rfl rfl (Nat.le_of_ble_eq_true rfl) dX7_lay_4 rfl ?_
  refine j_istore (lv' := [(4, .int r1), (0, .ref hMO), (1, .int p0), (2, .int p1), (3, .int p2)]) (pc' := 9) cx dX7_lay_7 (by decide) rfl rfl ?_
  refine j_iload (pc' := 11) cx 0 dX7_lay_9 rfl rfl ?_
  refine j_if_ge (tgt := 17) (pc' := 14) cx dX7_lay_11 (by decide) rfl (fun ch_1 => ?_) (fun ch_1 => ?_)
  · have h_2 := it_t h_1 ch_1
    refine j_aload_n (pc' := 18) cx 1 dX7_lay_17 rfl rfl ?_
    refine j_aload_n (pc' := 19) cx 1 dX7_lay_18 rfl rfl ?_
    refine j_get (C := RX7) (T := TX7) (N := 16) (pc' := 22) cx uB_X7 0 rfl rfl 0 (by decide) wF_X7_7 (.ref hMOz) rfl dX7_lay_19 rfl ?_
    obtain ⟨r3, c4, h_3⟩ := bd_s h_2
    refine j_cV (pc' := 25) cx (c_X7_record l D cI cZ cC cS hMOz hMO hMOz hMOa hMOb hMOk hMOt hMOo hMOw hMOm hMOq hMOn MOza MOst MOik MOln MOpl MOiw MOle MObe r3 c4) 1 yk_X7_record wM_X7_90 ⟨wN_X7_record, wS_X7_record, wI_X7, wC_X7_record⟩ ⟨rfl, rfl, Nat.le_of_ble_eq_true rfl, Nat.le_of_ble_eq_true rfl, Nat.le_of_ble_eq_true rfl, Nat.le_of_ble_eq_true rfl⟩ [1, 0, 2] [3, 4] [3, 2, 4, 0, 1] rfl [(hMOo, .inl (cI, 150, .inl MOon)), (hMOw, .inl (cI, 150, .inl MOwy))] rfl (by decide) [(hMO, .inr (6, [.ref hMOz, .ref hMOa, .ref hMOb, .int r3.1, .ref hMOk, .int MOik, .ref hMOt, .int MOln, .ref hMOo, .ref hMOw, .ref hMOm, .ref hMOq, .int MOpl, .int MOiw, .int MOle, .ref hMOn])), (hMOz, .inl (cI, 116, .inl MOza)), (hMOb, .inl (cI, 464, .inl r3.2)), (hMOo, .inl (cI, 150, .inl MOon)), (hMOw, .inl (cI, 150, .inl MOwy))] rfl (by decide) 0 6 rfl rfl rfl rfl rfl (Nat.le_of_ble_eq_true rfl) dX7_lay_22 rfl ?_
    refine j_aload_n (pc' := 26) cx 1 dX7_lay_25 rfl rfl ?_
    refine j_iload_n (pc' := 27) cx 2 dX7_lay_26 rfl rfl ?_
    refine j_iload_n (pc' := 28) cx 3 dX7_lay_27 rfl rfl ?_
    refine j_iload_n (pc' := 29) cx 4 dX7_lay_28 rfl rfl ?_
    obtain ⟨r5, c6, h_4⟩ := bd_s h_3
    refine j_cV (pc' := 32) cx (c_X7_add l D cI cZ cC cS hMO hMOz hMOa hMOb hMOk hMOt hMOo hMOw hMOm hMOq hMOn r3.1 MOik MOln MOpl MOiw MOle MOza MOon MOwy p0 p1 p2 r5 c6) 3 yk_X7_add wM_X7_122 ⟨wN_X7_add, wS_X7_add, wI_X7, wC_X7_add⟩ ⟨rfl, rfl, Nat.le_of_ble_eq_true rfl, Nat.le_of_ble_eq_true rfl, Nat.le_of_ble_eq_true rfl, Nat.le_of_ble_eq_true rfl⟩ [0, 1, 3, 4] [2] [1, 2, 0, 3, 4] rfl [(hMOb, .inl (cI, 464, .inl r3.2))] rfl (by decide) [(hMO, .inr (6, [.ref hMOz, .ref hMOa, .ref hMOb, .int r3.1, .ref hMOk, .int MOik, .ref hMOt, .int MOln, .ref hMOo, .ref hMOw, .ref hMOm, .ref hMOq, .int MOpl, .int MOiw, .int MOle, .ref hMOn])), (hMOz, .inl (cI, 116, .inl r5.1)), (hMOb, .inl (cI, 464, .inl r3.2)), (hMOo, .inl (cI, 150, .inl r5.2.1)), (hMOw, .inl (cI, 150, .inl r5.2.2))] rfl (by decide) 0 6 rfl rfl rfl rfl rfl (Nat.le_of_ble_eq_true rfl) dX7_lay_29 rfl ?_
    refine j_aload_n (pc' := 33) cx 1 dX7_lay_32 rfl rfl ?_
    refine j_get (C := RX7) (T := TX7) (N := 16) (pc' := 36) cx uB_X7 0 rfl rfl 0 (by decide) wF_X7_7 (.ref hMOz) rfl dX7_lay_33 rfl ?_
    refine j_bipush (pc' := 38) cx 25 dX7_lay_36 kb_25 rfl ?_
    obtain ⟨i7, h_5⟩ := ck_s h_4
    refine j_iald (pc' := 39) cx 1 0 rfl rfl i7 dX7_lay_38 rfl ?_
    refine j_iconst (pc' := 40) cx 1 dX7_lay_39 ki_1 rfl ?_
    refine j_isub (pc' := 41) cx dX7_lay_40 rfl ?_
    have h_6 := so_i h_5
    subst h_6
    exact j_ret cx (Or.inr (Or.inl ⟨_, _, rfl, rfl, dX7_lay_41, rfl, rfl⟩)) ⟨rfl, rfl⟩
  · have h_7 := it_f h_1 ch_1
    refine j_iload (pc' := 16) cx 0 dX7_lay_14 rfl rfl ?_
    have h_8 := so_i h_7
    subst h_8
    exact j_ret cx (Or.inr (Or.inl ⟨_, _, rfl, rfl, dX7_lay_16, rfl, rfl⟩)) ⟨rfl, rfl⟩
set_option maxHeartbeats 4000000 in
set_option maxRecDepth 100000 in
theorem c_X7_remove (l : Launch) (D : va_G) (cI cZ cC cS : ClassId) (hMO hMOz hMOa hMOb hMOk hMOt hMOo hMOw hMOm hMOq hMOn : Nat) (MOst : Int32) (MOik : Int32) (MOln : Int32) (MOpl : Int32) (MOiw : Int32) (MOle : Int32) (MOza : Nat → Int32) (MOon : Nat → Int32) (MOwy : Nat → Int32) (p0 : Int32) (out : (Nat → Int32) × (Nat → Int32) × (Nat → Int32)) (hm : f_X7_remove MOza MOon MOwy p0 = some out) : Ct l yX7_remove cX7_remove 3 none ({ frames := 2, cells := 0, slots := 0, locals := 45 }) (D, TY cI cZ cC cS) [.ref hMO, .int p0] [(hMO, .inr (6, [.ref hMOz, .ref hMOa, .ref hMOb, .int MOst, .ref hMOk, .int MOik, .ref hMOt, .int MOln, .ref hMOo, .ref hMOw, .ref hMOm, .ref hMOq, .int MOpl, .int MOiw, .int MOle, .ref hMOn])), (hMOz, .inl (cI, 116, .inl MOza)), (hMOo, .inl (cI, 150, .inl MOon)), (hMOw, .inl (cI, 150, .inl MOwy))] (jw_P none [(hMO, .inr (6, [.ref hMOz, .ref hMOa, .ref hMOb, .int MOst, .ref hMOk, .int MOik, .ref hMOt, .int MOln, .ref hMOo, .ref hMOw, .ref hMOm, .ref hMOq, .int MOpl, .int MOiw, .int MOle, .ref hMOn])), (hMOz, .inl (cI, 116, .inl out.1)), (hMOo, .inl (cI, 150, .inl out.2.1)), (hMOw, .inl (cI, 150, .inl out.2.2))]) 0 0 := by
  refine ct_of RX7 (by decide +kernel) rfl (Nat.le_of_ble_eq_true rfl) (fun j cx => ?_)
  unfold f_X7_remove at hm
  show j 0 0 [(hMO, .inr (6, [.ref hMOz, .ref hMOa, .ref hMOb, .int MOst, .ref hMOk, .int MOik, .ref hMOt, .int MOln, .ref hMOo, .ref hMOw, .ref hMOm, .ref hMOq, .int MOpl, .int MOiw, .int MOle, .ref hMOn])), (hMOz, .inl (cI, 116, .inl MOza)), (hMOo, .inl (cI, 150, .inl MOon)), (hMOw, .inl (cI, 150, .inl MOwy))] [(0, .ref hMO), (1, .int p0)] 0 []
  refine j_aload_n (pc' := 1) cx 0 dX7_remove_0 rfl rfl ?_
  refine j_get (C := RX7) (T := TX7) (N := 16) (pc' := 4) cx uB_X7 0 rfl rfl 0 (by decide) wF_X7_7 (.ref hMOz) rfl dX7_remove_1 rfl ?_
  refine j_bipush (pc' := 6) cx 25 dX7_remove_4 kb_25 rfl ?_
  refine j_dup2 (pc' := 7) cx dX7_remove_6 rfl rfl rfl ?_
  obtain ⟨i1, h_1⟩ := ck_s hm
  refine j_iald (pc' := 8) cx 1 0 rfl rfl i1 dX7_remove_7 rfl ?_
  refine j_iconst (pc' := 9) cx 1 dX7_remove_8 ki_1 rfl ?_
  refine j_isub (pc' := 10) cx dX7_remove_9 rfl ?_
  obtain ⟨i2, h_2⟩ := ck_s h_1
  refine j_iast (ws' := [(hMO, .inr (6, [.ref hMOz, .ref hMOa, .ref hMOb, .int MOst, .ref hMOk, .int MOik, .ref hMOt, .int MOln, .ref hMOo, .ref hMOw, .ref hMOm, .ref hMOq, .int MOpl, .int MOiw, .int MOle, .ref hMOn])), (hMOz, .inl (cI, 116, .inl (upd MOza (25 : Int32).toNatClampNeg ((MOza (25 : Int32).toNatClampNeg) - 1)))), (hMOo, .inl (cI, 150, .inl MOon)), (hMOw, .inl (cI, 150, .inl MOwy))]) (pc' := 11) cx 1 0 rfl rfl i2 rfl dX7_remove_10 rfl ?_
  refine j_bipush (pc' := 13) cx 26 dX7_remove_11 kb_26 rfl ?_
  refine j_iconst (pc' := 14) cx 3 dX7_remove_13 ki_3 rfl ?_
  refine j_iload_n (pc' := 15) cx 1 dX7_remove_14 rfl rfl ?_
  refine j_imul (pc' := 16) cx dX7_remove_15 rfl ?_
  refine j_iadd (pc' := 17) cx dX7_remove_16 rfl ?_
  refine j_istore_n (lv' := [(2, .int (26 + (3 * p0))), (0, .ref hMO), (1, .int p0)]) (pc' := 18) cx dX7_remove_17 (by decide) rfl rfl ?_
  obtain ⟨e4, h_3, h_4⟩ := bd_s h_2
  have KXe4 : j 0 0 [(hMO, .inr (6, [.ref hMOz, .ref hMOa, .ref hMOb, .int MOst, .ref hMOk, .int MOik, .ref hMOt, .int MOln, .ref hMOo, .ref hMOw, .ref hMOm, .ref hMOq, .int MOpl, .int MOiw, .int MOle, .ref hMOn])), (hMOz, .inl (cI, 116, .inl e4.2)), (hMOo, .inl (cI, 150, .inl MOon)), (hMOw, .inl (cI, 150, .inl MOwy))] [(0, .ref hMO)] 54 [] := by
    refine j_aload_n (pc' := 55) cx 0 dX7_remove_54 rfl rfl ?_
    obtain ⟨r8, c9, h_5⟩ := bd_s h_4
    refine j_cV (pc' := 58) cx (c_X7_draw l D cI cZ cC cS hMO hMOz hMOa hMOb hMOk hMOt hMOo hMOw hMOm hMOq hMOn MOst MOik MOln MOpl MOiw MOle e4.2 MOon MOwy r8 c9) 0 yk_X7_draw wM_X7_40 ⟨wN_X7_draw, wS_X7_draw, wI_X7, wC_X7_draw⟩ ⟨rfl, rfl, Nat.le_of_ble_eq_true rfl, Nat.le_of_ble_eq_true rfl, Nat.le_of_ble_eq_true rfl, Nat.le_of_ble_eq_true rfl⟩ [0, 1, 2, 3] [] [0, 1, 2, 3] rfl [] rfl (by decide) [(hMO, .inr (6, [.ref hMOz, .ref hMOa, .ref hMOb, .int MOst, .ref hMOk, .int MOik, .ref hMOt, .int MOln, .ref hMOo, .ref hMOw, .ref hMOm, .ref hMOq, .int MOpl, .int MOiw, .int MOle, .ref hMOn])), (hMOz, .inl (cI, 116, .inl e4.2)), (hMOo, .inl (cI, 150, .inl r8.1)), (hMOw, .inl (cI, 150, .inl r8.2))] rfl (by decide) 0 6 rfl rfl rfl rfl rfl (Nat.le_of_ble_eq_true rfl) dX7_remove_55 rfl ?_
    have h_6 := so_i h_5
    subst h_6
    exact j_ret cx (Or.inl ⟨rfl, dX7_remove_58, rfl, rfl⟩) ⟨rfl, rfl⟩
  have LPe4 : ∀ (n : Nat) (s3 : Int32 × (Nat → Int32)), lp (f_X7_remove_b1) n s3 = some e4 → j 0 0 [(hMO, .inr (6, [.ref hMOz, .ref hMOa, .ref hMOb, .int MOst, .ref hMOk, .int MOik, .ref hMOt, .int MOln, .ref hMOo, .ref hMOw, .ref hMOm, .ref hMOq, .int MOpl, .int MOiw, .int MOle, .ref hMOn])), (hMOz, .inl (cI, 116, .inl s3.2)), (hMOo, .inl (cI, 150, .inl MOon)), (hMOw, .inl (cI, 150, .inl MOwy))] [(0, .ref hMO), (2, .int s3.1)] 18 [] := by
    intro n
    induction n with
    | zero => intro s3 z; exact absurd z (by intro z; cases z)
    | succ n ihe4 =>
      intro s3 h_7
      obtain ⟨q_8, h_9, h_10⟩ := bd_s h_7
      unfold f_X7_remove_b1 at h_9
      refine j_iload_n (pc' := 19) cx 1 dX7_remove_18 rfl rfl ?_
      refine j_bipush (pc' := 21) cx 26 dX7_remove_19 kb_26 rfl ?_
      refine j_iconst (pc' := 22) cx 3 dX7_remove_21 ki_3 rfl ?_
      refine j_aload_n (pc' := 23) cx 0 dX7_remove_22 rfl rfl ?_
      refine j_get (C := RX7) (T := TX7) (N := 16) (pc' := 26) cx uB_X7 0 rfl rfl 0 (by decide) wF_X7_7 (.ref hMOz) rfl dX7_remove_23 rfl ?_
      refine j_bipush (pc' := 28) cx 25 dX7_remove_26 kb_25 rfl ?_
      obtain ⟨i5, h_11⟩ := ck_s h_9
      refine j_iald (pc' := 29) cx 1 0 rfl rfl i5 dX7_remove_28 rfl ?_
      refine j_imul (pc' := 30) cx dX7_remove_29 rfl ?_
      refine j_iadd (pc' := 31) cx dX7_remove_30 rfl ?_
      refine j_icmp_ge (tgt := 54) (pc' := 34) cx dX7_remove_31 (by decide) rfl (fun ch_11 => ?_) (fun ch_11 => ?_)
      · have h_12 := it_t h_11 ch_11
        have h_13 := so_i h_12
        subst h_13
        have h_14 := so_i (se_r h_10)
        subst h_14
        refine j_lv (lv' := [(0, .ref hMO)]) cx [0] rfl ?_
        exact KXe4
      · have h_15 := it_f h_11 ch_11
        refine j_aload_n (pc' := 35) cx 0 dX7_remove_34 rfl rfl ?_
        refine j_get (C := RX7) (T := TX7) (N := 16) (pc' := 38) cx uB_X7 0 rfl rfl 0 (by decide) wF_X7_7 (.ref hMOz) rfl dX7_remove_35 rfl ?_
        refine j_iload_n (pc' := 39) cx 1 dX7_remove_38 rfl rfl ?_
        refine j_aload_n (pc' := 40) cx 0 dX7_remove_39 rfl rfl ?_
        refine j_get (C := RX7) (T := TX7) (N := 16) (pc' := 43) cx uB_X7 0 rfl rfl 0 (by decide) wF_X7_7 (.ref hMOz) rfl dX7_remove_40 rfl ?_
        refine j_iload_n (pc' := 44) cx 1 dX7_remove_43 rfl rfl ?_
        refine j_iconst (pc' := 45) cx 3 dX7_remove_44 ki_3 rfl ?_
        refine j_iadd (pc' := 46) cx dX7_remove_45 rfl ?_
        obtain ⟨i6, h_16⟩ := ck_s h_15
        refine j_iald (pc' := 47) cx 1 0 rfl rfl i6 dX7_remove_46 rfl ?_
        obtain ⟨i7, h_17⟩ := ck_s h_16
        refine j_iast (ws' := [(hMO, .inr (6, [.ref hMOz, .ref hMOa, .ref hMOb, .int MOst, .ref hMOk, .int MOik, .ref hMOt, .int MOln, .ref hMOo, .ref hMOw, .ref hMOm, .ref hMOq, .int MOpl, .int MOiw, .int MOle, .ref hMOn])), (hMOz, .inl (cI, 116, .inl (upd s3.2 s3.1.toNatClampNeg (s3.2 (s3.1 + 3).toNatClampNeg)))), (hMOo, .inl (cI, 150, .inl MOon)), (hMOw, .inl (cI, 150, .inl MOwy))]) (pc' := 48) cx 1 0 rfl rfl i7 rfl dX7_remove_47 rfl ?_
        refine j_iinc (v := (s3.1 + 1)) (lv' := [(2, .int (s3.1 + 1)), (0, .ref hMO)]) (pc' := 51) cx 1 dX7_remove_48 rfl (kn_1 _) (by decide) rfl rfl ?_
        refine j_goto (pc' := 18) cx dX7_remove_51 (by decide) ?_
        have h_18 := so_i h_17
        subst h_18
        refine j_lv (lv' := [(0, .ref hMO), (2, .int (s3.1 + 1))]) cx [1, 0] rfl ?_
        exact ihe4 _ (se_l h_10)
  refine j_lv (lv' := [(0, .ref hMO), (2, .int (26 + (3 * p0)))]) cx [1, 0] rfl ?_
  exact LPe4 _ _ h_3
set_option maxHeartbeats 4000000 in
set_option maxRecDepth 100000 in
theorem c_X7_take (l : Launch) (D : va_G) (cI cZ cC cS : ClassId) (hMO hMOz hMOa hMOb hMOk hMOt hMOo hMOw hMOm hMOq hMOn : Nat) (MOst : Int32) (MOik : Int32) (MOln : Int32) (MOpl : Int32) (MOiw : Int32) (MOle : Int32) (MOza : Nat → Int32) (MObe : Nat → Int32) (MOon : Nat → Int32) (MOwy : Nat → Int32) (p0 : Int32) (out : Int32 × Int32 × (Nat → Int32) × (Nat → Int32) × (Nat → Int32) × (Nat → Int32)) (hm : f_X7_take MOst MOza MObe MOon MOwy p0 = some out) : Ct l yX7_take cX7_take 2 (some .int) ({ frames := 3, cells := 0, slots := 0, locals := 67 }) (D, TY cI cZ cC cS) [.ref hMO, .int p0] [(hMO, .inr (6, [.ref hMOz, .ref hMOa, .ref hMOb, .int MOst, .ref hMOk, .int MOik, .ref hMOt, .int MOln, .ref hMOo, .ref hMOw, .ref hMOm, .ref hMOq, .int MOpl, .int MOiw, .int MOle, .ref hMOn])), (hMOz, .inl (cI, 116, .inl MOza)), (hMOb, .inl (cI, 464, .inl MObe)), (hMOo, .inl (cI, 150, .inl MOon)), (hMOw, .inl (cI, 150, .inl MOwy))] (jw_P (some (.int out.1)) [(hMO, .inr (6, [.ref hMOz, .ref hMOa, .ref hMOb, .int out.2.1, .ref hMOk, .int MOik, .ref hMOt, .int MOln, .ref hMOo, .ref hMOw, .ref hMOm, .ref hMOq, .int MOpl, .int MOiw, .int MOle, .ref hMOn])), (hMOz, .inl (cI, 116, .inl out.2.2.1)), (hMOb, .inl (cI, 464, .inl out.2.2.2.1)), (hMOo, .inl (cI, 150, .inl out.2.2.2.2.1)), (hMOw, .inl (cI, 150, .inl out.2.2.2.2.2))]) 0 0 := by
  refine ct_of RX7 (by decide +kernel) rfl (Nat.le_of_ble_eq_true rfl) (fun j cx => ?_)
  unfold f_X7_take at hm
  show j 0 0 [(hMO, .inr (6, [.ref hMOz, .ref hMOa, .ref hMOb, .int MOst, .ref hMOk, .int MOik, .ref hMOt, .int MOln, .ref hMOo, .ref hMOw, .ref hMOm, .ref hMOq, .int MOpl, .int MOiw, .int MOle, .ref hMOn])), (hMOz, .inl (cI, 116, .inl MOza)), (hMOb, .inl (cI, 464, .inl MObe)), (hMOo, .inl (cI, 150, .inl MOon)), (hMOw, .inl (cI, 150, .inl MOwy))] [(0, .ref hMO), (1, .int p0)] 0 []
  refine j_aload_n (pc' := 1) cx 0 dX7_take_0 rfl rfl ?_
  refine j_iload_n (pc' := 2) cx 1 dX7_take_1 rfl rfl ?_
  obtain ⟨r1, c2, h_1⟩ := bd_s hm
  refine j_cV (pc' := 5) cx (c_X7_isCross l D cI cZ cC cS hMO hMOz hMOa hMOb hMOk hMOt hMOo hMOw hMOm hMOq hMOn MOst MOik MOln MOpl MOiw MOle MOza p0 r1 c2) 1 yk_X7_isCross wM_X7_126 ⟨wN_X7_isCross, wS_X7_isCross, wI_X7, wC_X7_isCross⟩ ⟨rfl, rfl, Nat.le_of_ble_eq_true rfl, Nat.le_of_ble_eq_true rfl, Nat.le_of_ble_eq_true rfl, Nat.le_of_ble_eq_true rfl⟩ [0, 1] [2, 3, 4] [3, 4, 0, 1, 2] rfl [(hMOb, .inl (cI, 464, .inl MObe)), (hMOo, .inl (cI, 150, .inl MOon)), (hMOw, .inl (cI, 150, .inl MOwy))] rfl (by decide) [(hMO, .inr (6, [.ref hMOz, .ref hMOa, .ref hMOb, .int MOst, .ref hMOk, .int MOik, .ref hMOt, .int MOln, .ref hMOo, .ref hMOw, .ref hMOm, .ref hMOq, .int MOpl, .int MOiw, .int MOle, .ref hMOn])), (hMOz, .inl (cI, 116, .inl MOza)), (hMOb, .inl (cI, 464, .inl MObe)), (hMOo, .inl (cI, 150, .inl MOon)), (hMOw, .inl (cI, 150, .inl MOwy))] rfl (by decide) 0 6 rfl rfl rfl rfl rfl (Nat.le_of_ble_eq_true rfl) dX7_take_2 rfl ?_
  refine j_if_ne (tgt := 10) (pc' := 8) cx dX7_take_5 (by decide) rfl (fun ch_1 => ?_) (fun ch_1 => ?_)
  · have h_2 := it_f h_1 ch_1
    refine j_aload_n (pc' := 11) cx 0 dX7_take_10 rfl rfl ?_
    refine j_aload_n (pc' := 12) cx 0 dX7_take_11 rfl rfl ?_
    refine j_get (C := RX7) (T := TX7) (N := 16) (pc' := 15) cx uB_X7 0 rfl rfl 0 (by decide) wF_X7_7 (.ref hMOz) rfl dX7_take_12 rfl ?_
    obtain ⟨r3, c4, h_3⟩ := bd_s h_2
    refine j_cV (pc' := 18) cx (c_X7_record l D cI cZ cC cS hMOz hMO hMOz hMOa hMOb hMOk hMOt hMOo hMOw hMOm hMOq hMOn MOza MOst MOik MOln MOpl MOiw MOle MObe r3 c4) 1 yk_X7_record wM_X7_90 ⟨wN_X7_record, wS_X7_record, wI_X7, wC_X7_record⟩ ⟨rfl, rfl, Nat.le_of_ble_eq_true rfl, Nat.le_of_ble_eq_true rfl, Nat.le_of_ble_eq_true rfl, Nat.le_of_ble_eq_true rfl⟩ [1, 0, 2] [3, 4] [3, 2, 4, 0, 1] rfl [(hMOo, .inl (cI, 150, .inl MOon)), (hMOw, .inl (cI, 150, .inl MOwy))] rfl (by decide) [(hMO, .inr (6, [.ref hMOz, .ref hMOa, .ref hMOb, .int r3.1, .ref hMOk, .int MOik, .ref hMOt, .int MOln, .ref hMOo, .ref hMOw, .ref hMOm, .ref hMOq, .int MOpl, .int MOiw, .int MOle, .ref hMOn])), (hMOz, .inl (cI, 116, .inl MOza)), (hMOb, .inl (cI, 464, .inl r3.2)), (hMOo, .inl (cI, 150, .inl MOon)), (hMOw, .inl (cI, 150, .inl MOwy))] rfl (by decide) 0 6 rfl rfl rfl rfl rfl (Nat.le_of_ble_eq_true rfl) dX7_take_15 rfl ?_
    refine j_aload_n (pc' := 19) cx 0 dX7_take_18 rfl rfl ?_
    refine j_iload_n (pc' := 20) cx 1 dX7_take_19 rfl rfl ?_
    obtain ⟨r5, c6, h_4⟩ := bd_s h_3
    refine j_cV (pc' := 23) cx (c_X7_remove l D cI cZ cC cS hMO hMOz hMOa hMOb hMOk hMOt hMOo hMOw hMOm hMOq hMOn r3.1 MOik MOln MOpl MOiw MOle MOza MOon MOwy p0 r5 c6) 1 yk_X7_remove wM_X7_129 ⟨wN_X7_remove, wS_X7_remove, wI_X7, wC_X7_remove⟩ ⟨rfl, rfl, Nat.le_of_ble_eq_true rfl, Nat.le_of_ble_eq_true rfl, Nat.le_of_ble_eq_true rfl, Nat.le_of_ble_eq_true rfl⟩ [0, 1, 3, 4] [2] [1, 2, 0, 3, 4] rfl [(hMOb, .inl (cI, 464, .inl r3.2))] rfl (by decide) [(hMO, .inr (6, [.ref hMOz, .ref hMOa, .ref hMOb, .int r3.1, .ref hMOk, .int MOik, .ref hMOt, .int MOln, .ref hMOo, .ref hMOw, .ref hMOm, .ref hMOq, .int MOpl, .int MOiw, .int MOle, .ref hMOn])), (hMOz, .inl (cI, 116, .inl r5.1)), (hMOb, .inl (cI, 464, .inl r3.2)), (hMOo, .inl (cI, 150, .inl r5.2.1)), (hMOw, .inl (cI, 150, .inl r5.2.2))] rfl (by decide) 0 6 rfl rfl rfl rfl rfl (Nat.le_of_ble_eq_true rfl) dX7_take_20 rfl ?_
    refine j_aload_n (pc' := 24) cx 0 dX7_take_23 rfl rfl ?_
    refine j_get (C := RX7) (T := TX7) (N := 16) (pc' := 27) cx uB_X7 0 rfl rfl 0 (by decide) wF_X7_7 (.ref hMOz) rfl dX7_take_24 rfl ?_
    refine j_bipush (pc' := 29) cx 25 dX7_take_27 kb_25 rfl ?_
    obtain ⟨i7, h_5⟩ := ck_s h_4
    refine j_iald (pc' := 30) cx 1 0 rfl rfl i7 dX7_take_29 rfl ?_
    have h_6 := so_i h_5
    subst h_6
    exact j_ret cx (Or.inr (Or.inl ⟨_, _, rfl, rfl, dX7_take_30, rfl, rfl⟩)) ⟨rfl, rfl⟩
  · have h_7 := it_t h_1 ch_1
    refine j_iconst (pc' := 9) cx (-1) dX7_take_8 ki_m1 rfl ?_
    have h_8 := so_i h_7
    subst h_8
    exact j_ret cx (Or.inr (Or.inl ⟨_, _, rfl, rfl, dX7_take_9, rfl, rfl⟩)) ⟨rfl, rfl⟩
set_option maxHeartbeats 4000000 in
set_option maxRecDepth 100000 in
theorem c_X7_turn (l : Launch) (D : va_G) (cI cZ cC cS : ClassId) (hMO hMOz hMOa hMOb hMOk hMOt hMOo hMOw hMOm hMOq hMOn : Nat) (MOst : Int32) (MOik : Int32) (MOln : Int32) (MOpl : Int32) (MOiw : Int32) (MOle : Int32) (MOza : Nat → Int32) (MOas : Nat → Int32) (MObe : Nat → Int32) (MOon : Nat → Int32) (MOwy : Nat → Int32) (p0 : Int32) (p1 : Int32) (out : Int32 × Int32 × (Nat → Int32) × (Nat → Int32) × (Nat → Int32) × (Nat → Int32) × (Nat → Int32)) (hm : f_X7_turn MOst MOza MOas MObe MOon MOwy p0 p1 = some out) : Ct l yX7_turn cX7_turn 3 (some .int) ({ frames := 5, cells := 0, slots := 0, locals := 110 }) (D, TY cI cZ cC cS) [.ref hMO, .int p0, .int p1] [(hMO, .inr (6, [.ref hMOz, .ref hMOa, .ref hMOb, .int MOst, .ref hMOk, .int MOik, .ref hMOt, .int MOln, .ref hMOo, .ref hMOw, .ref hMOm, .ref hMOq, .int MOpl, .int MOiw, .int MOle, .ref hMOn])), (hMOz, .inl (cI, 116, .inl MOza)), (hMOa, .inl (cI, 116, .inl MOas)), (hMOb, .inl (cI, 464, .inl MObe)), (hMOo, .inl (cI, 150, .inl MOon)), (hMOw, .inl (cI, 150, .inl MOwy))] (jw_P (some (.int out.1)) [(hMO, .inr (6, [.ref hMOz, .ref hMOa, .ref hMOb, .int out.2.1, .ref hMOk, .int MOik, .ref hMOt, .int MOln, .ref hMOo, .ref hMOw, .ref hMOm, .ref hMOq, .int MOpl, .int MOiw, .int MOle, .ref hMOn])), (hMOz, .inl (cI, 116, .inl out.2.2.1)), (hMOa, .inl (cI, 116, .inl out.2.2.2.1)), (hMOb, .inl (cI, 464, .inl out.2.2.2.2.1)), (hMOo, .inl (cI, 150, .inl out.2.2.2.2.2.1)), (hMOw, .inl (cI, 150, .inl out.2.2.2.2.2.2))]) 0 0 := by
  refine ct_of RX7 (by decide +kernel) rfl (Nat.le_of_ble_eq_true rfl) (fun j cx => ?_)
  unfold f_X7_turn at hm
  show j 0 0 [(hMO, .inr (6, [.ref hMOz, .ref hMOa, .ref hMOb, .int MOst, .ref hMOk, .int MOik, .ref hMOt, .int MOln, .ref hMOo, .ref hMOw, .ref hMOm, .ref hMOq, .int MOpl, .int MOiw, .int MOle, .ref hMOn])), (hMOz, .inl (cI, 116, .inl MOza)), (hMOa, .inl (cI, 116, .inl MOas)), (hMOb, .inl (cI, 464, .inl MObe)), (hMOo, .inl (cI, 150, .inl MOon)), (hMOw, .inl (cI, 150, .inl MOwy))] [(0, .ref hMO), (1, .int p0), (2, .int p1)] 0 []
  refine j_aload_n (pc' := 1) cx 0 dX7_turn_0 rfl rfl ?_
  refine j_iload_n (pc' := 2) cx 1 dX7_turn_1 rfl rfl ?_
  obtain ⟨r1, c2, h_1⟩ := bd_s hm
  refine j_cV (pc' := 5) cx (c_X7_isCross l D cI cZ cC cS hMO hMOz hMOa hMOb hMOk hMOt hMOo hMOw hMOm hMOq hMOn MOst MOik MOln MOpl MOiw MOle MOza p0 r1 c2) 1 yk_X7_isCross wM_X7_126 ⟨wN_X7_isCross, wS_X7_isCross, wI_X7, wC_X7_isCross⟩ ⟨rfl, rfl, Nat.le_of_ble_eq_true rfl, Nat.le_of_ble_eq_true rfl, Nat.le_of_ble_eq_true rfl, Nat.le_of_ble_eq_true rfl⟩ [0, 1] [2, 3, 4, 5] [4, 5, 0, 1, 2, 3] rfl [(hMOa, .inl (cI, 116, .inl MOas)), (hMOb, .inl (cI, 464, .inl MObe)), (hMOo, .inl (cI, 150, .inl MOon)), (hMOw, .inl (cI, 150, .inl MOwy))] rfl (by decide) [(hMO, .inr (6, [.ref hMOz, .ref hMOa, .ref hMOb, .int MOst, .ref hMOk, .int MOik, .ref hMOt, .int MOln, .ref hMOo, .ref hMOw, .ref hMOm, .ref hMOq, .int MOpl, .int MOiw, .int MOle, .ref hMOn])), (hMOz, .inl (cI, 116, .inl MOza)), (hMOa, .inl (cI, 116, .inl MOas)), (hMOb, .inl (cI, 464, .inl MObe)), (hMOo, .inl (cI, 150, .inl MOon)), (hMOw, .inl (cI, 150, .inl MOwy))] rfl (by decide) 0 6 rfl rfl rfl rfl rfl (Nat.le_of_ble_eq_true rfl) dX7_turn_2 rfl ?_
  refine j_if_ne (tgt := 10) (pc' := 8) cx dX7_turn_5 (by decide) rfl (fun ch_1 => ?_) (fun ch_1 => ?_)
  · have h_2 := it_f h_1 ch_1
    refine j_iload_n (pc' := 11) cx 2 dX7_turn_10 rfl rfl ?_
    refine j_iconst (pc' := 12) cx 1 dX7_turn_11 ki_1 rfl ?_
    refine j_iconst (pc' := 13) cx 3 dX7_turn_12 ki_3 rfl ?_
    obtain ⟨r3, c4, h_3⟩ := bd_s h_2
    refine j_cS (pc' := 16) cx (c_X7_in l D cI cZ cC cS p1 1 3 r3 c4) 3 yk_X7_in wM_X7_43 ⟨wT_X7_in, wI_X7, wC_X7_in⟩ ⟨rfl, rfl, Nat.le_of_ble_eq_true rfl, Nat.le_of_ble_eq_true rfl, Nat.le_of_ble_eq_true rfl, Nat.le_of_ble_eq_true rfl⟩ [] [0, 1, 2, 3, 4, 5] [0, 1, 2, 3, 4, 5] rfl [(hMO, .inr (6, [.ref hMOz, .ref hMOa, .ref hMOb, .int MOst, .ref hMOk, .int MOik, .ref hMOt, .int MOln, .ref hMOo, .ref hMOw, .ref hMOm, .ref hMOq, .int MOpl, .int MOiw, .int MOle, .ref hMOn])), (hMOz, .inl (cI, 116, .inl MOza)), (hMOa, .inl (cI, 116, .inl MOas)), (hMOb, .inl (cI, 464, .inl MObe)), (hMOo, .inl (cI, 150, .inl MOon)), (hMOw, .inl (cI, 150, .inl MOwy))] rfl (by decide) [(hMO, .inr (6, [.ref hMOz, .ref hMOa, .ref hMOb, .int MOst, .ref hMOk, .int MOik, .ref hMOt, .int MOln, .ref hMOo, .ref hMOw, .ref hMOm, .ref hMOq, .int MOpl, .int MOiw, .int MOle, .ref hMOn])), (hMOz, .inl (cI, 116, .inl MOza)), (hMOa, .inl (cI, 116, .inl MOas)), (hMOb, .inl (cI, 464, .inl MObe)), (hMOo, .inl (cI, 150, .inl MOon)), (hMOw, .inl (cI, 150, .inl MOwy))] rfl (by decide) rfl rfl (Nat.le_of_ble_eq_true rfl) dX7_turn_13 rfl ?_
    refine j_if_ne (tgt := 22) (pc' := 19) cx dX7_turn_16 (by decide) rfl (fun ch_3 => ?_) (fun ch_3 => ?_)
    · have h_4 := it_f h_3 ch_3
      refine j_aload_n (pc' := 23) cx 0 dX7_turn_22 rfl rfl ?_
      obtain ⟨r5, c6, h_5⟩ := bd_s h_4
      refine j_cV (pc' := 26) cx (c_X7_putAside l D cI cZ cC cS hMO hMOz hMOa hMOb hMOk hMOt hMOo hMOw hMOm hMOq hMOn MOst MOik MOln MOpl MOiw MOle MOza MOas r5 c6) 0 yk_X7_putAside wM_X7_104 ⟨wN_X7_putAside, wS_X7_putAside, wI_X7, wC_X7_putAside⟩ ⟨rfl, rfl, Nat.le_of_ble_eq_true rfl, Nat.le_of_ble_eq_true rfl, Nat.le_of_ble_eq_true rfl, Nat.le_of_ble_eq_true rfl⟩ [0, 1, 2] [3, 4, 5] [3, 4, 5, 0, 1, 2] rfl [(hMOb, .inl (cI, 464, .inl MObe)), (hMOo, .inl (cI, 150, .inl MOon)), (hMOw, .inl (cI, 150, .inl MOwy))] rfl (by decide) [(hMO, .inr (6, [.ref hMOz, .ref hMOa, .ref hMOb, .int MOst, .ref hMOk, .int MOik, .ref hMOt, .int MOln, .ref hMOo, .ref hMOw, .ref hMOm, .ref hMOq, .int MOpl, .int MOiw, .int MOle, .ref hMOn])), (hMOz, .inl (cI, 116, .inl MOza)), (hMOa, .inl (cI, 116, .inl r5)), (hMOb, .inl (cI, 464, .inl MObe)), (hMOo, .inl (cI, 150, .inl MOon)), (hMOw, .inl (cI, 150, .inl MOwy))] rfl (by decide) 0 6 rfl rfl rfl rfl rfl (Nat.le_of_ble_eq_true rfl) dX7_turn_23 rfl ?_
      refine j_aload_n (pc' := 27) cx 0 dX7_turn_26 rfl rfl ?_
      refine j_get (C := RX7) (T := TX7) (N := 16) (pc' := 30) cx uB_X7 0 rfl rfl 0 (by decide) wF_X7_7 (.ref hMOz) rfl dX7_turn_27 rfl ?_
      refine j_bipush (pc' := 32) cx 26 dX7_turn_30 kb_26 rfl ?_
      refine j_iconst (pc' := 33) cx 3 dX7_turn_32 ki_3 rfl ?_
      refine j_iload_n (pc' := 34) cx 1 dX7_turn_33 rfl rfl ?_
      refine j_imul (pc' := 35) cx dX7_turn_34 rfl ?_
      refine j_iadd (pc' := 36) cx dX7_turn_35 rfl ?_
      refine j_iconst (pc' := 37) cx 1 dX7_turn_36 ki_1 rfl ?_
      refine j_iadd (pc' := 38) cx dX7_turn_37 rfl ?_
      refine j_aload_n (pc' := 39) cx 0 dX7_turn_38 rfl rfl ?_
      refine j_iload_n (pc' := 40) cx 1 dX7_turn_39 rfl rfl ?_
      obtain ⟨r7, c8, h_6⟩ := bd_s h_5
      refine j_cV (pc' := 43) cx (c_X7_turnsOf l D cI cZ cC cS hMO hMOz hMOa hMOb hMOk hMOt hMOo hMOw hMOm hMOq hMOn MOst MOik MOln MOpl MOiw MOle MOza p0 r7 c8) 1 yk_X7_turnsOf wM_X7_51 ⟨wN_X7_turnsOf, wS_X7_turnsOf, wI_X7, wC_X7_turnsOf⟩ ⟨rfl, rfl, Nat.le_of_ble_eq_true rfl, Nat.le_of_ble_eq_true rfl, Nat.le_of_ble_eq_true rfl, Nat.le_of_ble_eq_true rfl⟩ [0, 1] [2, 3, 4, 5] [4, 5, 0, 1, 2, 3] rfl [(hMOa, .inl (cI, 116, .inl r5)), (hMOb, .inl (cI, 464, .inl MObe)), (hMOo, .inl (cI, 150, .inl MOon)), (hMOw, .inl (cI, 150, .inl MOwy))] rfl (by decide) [(hMO, .inr (6, [.ref hMOz, .ref hMOa, .ref hMOb, .int MOst, .ref hMOk, .int MOik, .ref hMOt, .int MOln, .ref hMOo, .ref hMOw, .ref hMOm, .ref hMOq, .int MOpl, .int MOiw, .int MOle, .ref hMOn])), (hMOz, .inl (cI, 116, .inl MOza)), (hMOa, .inl (cI, 116, .inl r5)), (hMOb, .inl (cI, 464, .inl MObe)), (hMOo, .inl (cI, 150, .inl MOon)), (hMOw, .inl (cI, 150, .inl MOwy))] rfl (by decide) 0 6 rfl rfl rfl rfl rfl (Nat.le_of_ble_eq_true rfl) dX7_turn_40 rfl ?_
      refine j_iload_n (pc' := 44) cx 2 dX7_turn_43 rfl rfl ?_
      refine j_iadd (pc' := 45) cx dX7_turn_44 rfl ?_
      refine j_iconst (pc' := 46) cx 4 dX7_turn_45 ki_4 rfl ?_
      refine j_irem (pc' := 47) cx dX7_turn_46 kz_4 rfl ?_
      obtain ⟨i9, h_7⟩ := ck_s h_6
      refine j_iast (ws' := [(hMO, .inr (6, [.ref hMOz, .ref hMOa, .ref hMOb, .int MOst, .ref hMOk, .int MOik, .ref hMOt, .int MOln, .ref hMOo, .ref hMOw, .ref hMOm, .ref hMOq, .int MOpl, .int MOiw, .int MOle, .ref hMOn])), (hMOz, .inl (cI, 116, .inl (upd MOza ((26 + (3 * p0)) + 1).toNatClampNeg (rm (r7 + p1) 4)))), (hMOa, .inl (cI, 116, .inl r5)), (hMOb, .inl (cI, 464, .inl MObe)), (hMOo, .inl (cI, 150, .inl MOon)), (hMOw, .inl (cI, 150, .inl MOwy))]) (pc' := 48) cx 1 0 rfl rfl i9 rfl dX7_turn_47 rfl ?_
      refine j_aload_n (pc' := 49) cx 0 dX7_turn_48 rfl rfl ?_
      obtain ⟨r10, c11, h_8⟩ := bd_s h_7
      refine j_cV (pc' := 52) cx (c_X7_canStay l D cI cZ cC cS hMO hMOz hMOa hMOb hMOk hMOt hMOo hMOw hMOm hMOq hMOn MOst MOik MOln MOpl MOiw MOle (upd MOza ((26 + (3 * p0)) + 1).toNatClampNeg (rm (r7 + p1) 4)) r5 MObe MOon MOwy r10 c11) 0 yk_X7_canStay wM_X7_107 ⟨wN_X7_canStay, wS_X7_canStay, wI_X7, wC_X7_canStay⟩ ⟨rfl, rfl, Nat.le_of_ble_eq_true rfl, Nat.le_of_ble_eq_true rfl, Nat.le_of_ble_eq_true rfl, Nat.le_of_ble_eq_true rfl⟩ [0, 1, 2, 3, 4, 5] [] [0, 1, 2, 3, 4, 5] rfl [] rfl (by decide) [(hMO, .inr (6, [.ref hMOz, .ref hMOa, .ref hMOb, .int r10.2.1, .ref hMOk, .int MOik, .ref hMOt, .int MOln, .ref hMOo, .ref hMOw, .ref hMOm, .ref hMOq, .int MOpl, .int MOiw, .int MOle, .ref hMOn])), (hMOz, .inl (cI, 116, .inl r10.2.2.1)), (hMOa, .inl (cI, 116, .inl r5)), (hMOb, .inl (cI, 464, .inl r10.2.2.2.1)), (hMOo, .inl (cI, 150, .inl r10.2.2.2.2.1)), (hMOw, .inl (cI, 150, .inl r10.2.2.2.2.2))] rfl (by decide) 0 6 rfl rfl rfl rfl rfl (Nat.le_of_ble_eq_true rfl) dX7_turn_49 rfl ?_
      obtain ⟨t14, h_10, h_9⟩ := bd_s h_8
      have Kt14 : j 0 0 [(hMO, .inr (6, [.ref hMOz, .ref hMOa, .ref hMOb, .int r10.2.1, .ref hMOk, .int MOik, .ref hMOt, .int MOln, .ref hMOo, .ref hMOw, .ref hMOm, .ref hMOq, .int MOpl, .int MOiw, .int MOle, .ref hMOn])), (hMOz, .inl (cI, 116, .inl r10.2.2.1)), (hMOa, .inl (cI, 116, .inl r5)), (hMOb, .inl (cI, 464, .inl r10.2.2.2.1)), (hMOo, .inl (cI, 150, .inl r10.2.2.2.2.1)), (hMOw, .inl (cI, 150, .inl r10.2.2.2.2.2))] [] 65 [.int t14] := by
        have h_11 := so_i h_9
        subst h_11
        exact j_ret cx (Or.inr (Or.inl ⟨_, _, rfl, rfl, dX7_turn_65, rfl, rfl⟩)) ⟨rfl, rfl⟩
      refine j_if_eq (tgt := 63) (pc' := 55) cx dX7_turn_52 (by decide) rfl (fun ch_10 => ?_) (fun ch_10 => ?_)
      · have h_12 := it_t h_10 ch_10
        refine j_bipush (pc' := 65) cx (-4) dX7_turn_63 kb_m4 rfl ?_
        have h_13 := so_i h_12
        subst h_13
        refine j_lv (lv' := []) cx [] rfl ?_
        exact Kt14
      · have h_14 := it_f h_10 ch_10
        refine j_aload_n (pc' := 56) cx 0 dX7_turn_55 rfl rfl ?_
        refine j_iload_n (pc' := 57) cx 1 dX7_turn_56 rfl rfl ?_
        obtain ⟨r12, c13, h_15⟩ := bd_s h_14
        refine j_cV (pc' := 60) cx (c_X7_turnsOf l D cI cZ cC cS hMO hMOz hMOa hMOb hMOk hMOt hMOo hMOw hMOm hMOq hMOn r10.2.1 MOik MOln MOpl MOiw MOle r10.2.2.1 p0 r12 c13) 1 yk_X7_turnsOf wM_X7_51 ⟨wN_X7_turnsOf, wS_X7_turnsOf, wI_X7, wC_X7_turnsOf⟩ ⟨rfl, rfl, Nat.le_of_ble_eq_true rfl, Nat.le_of_ble_eq_true rfl, Nat.le_of_ble_eq_true rfl, Nat.le_of_ble_eq_true rfl⟩ [0, 1] [2, 3, 4, 5] [4, 5, 0, 1, 2, 3] rfl [(hMOa, .inl (cI, 116, .inl r5)), (hMOb, .inl (cI, 464, .inl r10.2.2.2.1)), (hMOo, .inl (cI, 150, .inl r10.2.2.2.2.1)), (hMOw, .inl (cI, 150, .inl r10.2.2.2.2.2))] rfl (by decide) [(hMO, .inr (6, [.ref hMOz, .ref hMOa, .ref hMOb, .int r10.2.1, .ref hMOk, .int MOik, .ref hMOt, .int MOln, .ref hMOo, .ref hMOw, .ref hMOm, .ref hMOq, .int MOpl, .int MOiw, .int MOle, .ref hMOn])), (hMOz, .inl (cI, 116, .inl r10.2.2.1)), (hMOa, .inl (cI, 116, .inl r5)), (hMOb, .inl (cI, 464, .inl r10.2.2.2.1)), (hMOo, .inl (cI, 150, .inl r10.2.2.2.2.1)), (hMOw, .inl (cI, 150, .inl r10.2.2.2.2.2))] rfl (by decide) 0 6 rfl rfl rfl rfl rfl (Nat.le_of_ble_eq_true rfl) dX7_turn_57 rfl ?_
        refine j_goto (pc' := 65) cx dX7_turn_60 (by decide) ?_
        have h_16 := so_i h_15
        subst h_16
        refine j_lv (lv' := []) cx [] rfl ?_
        exact Kt14
    · have h_17 := it_t h_3 ch_3
      refine j_bipush (pc' := 21) cx (-2) dX7_turn_19 kb_m2 rfl ?_
      have h_18 := so_i h_17
      subst h_18
      exact j_ret cx (Or.inr (Or.inl ⟨_, _, rfl, rfl, dX7_turn_21, rfl, rfl⟩)) ⟨rfl, rfl⟩
  · have h_19 := it_t h_1 ch_1
    refine j_iconst (pc' := 9) cx (-1) dX7_turn_8 ki_m1 rfl ?_
    have h_20 := so_i h_19
    subst h_20
    exact j_ret cx (Or.inr (Or.inl ⟨_, _, rfl, rfl, dX7_turn_9, rfl, rfl⟩)) ⟨rfl, rfl⟩
set_option maxHeartbeats 4000000 in
set_option maxRecDepth 100000 in
theorem c_X7_isFreeFor (l : Launch) (D : va_G) (cI cZ cC cS : ClassId) (hMO hMOz hMOa hMOb hMOk hMOt hMOo hMOw hMOm hMOq hMOn : Nat) (MOst : Int32) (MOik : Int32) (MOln : Int32) (MOpl : Int32) (MOiw : Int32) (MOle : Int32) (MOon : Nat → Int32) (p0 : Int32) (p1 : Int32) (out : Int32) (hm : f_X7_isFreeFor MOon p0 p1 = some out) : Ct l yX7_isFreeFor cX7_isFreeFor 6 (some .boolean) ({ frames := 1, cells := 0, slots := 0, locals := 23 }) (D, TY cI cZ cC cS) [.ref hMO, .int p0, .int p1] [(hMO, .inr (6, [.ref hMOz, .ref hMOa, .ref hMOb, .int MOst, .ref hMOk, .int MOik, .ref hMOt, .int MOln, .ref hMOo, .ref hMOw, .ref hMOm, .ref hMOq, .int MOpl, .int MOiw, .int MOle, .ref hMOn])), (hMOo, .inl (cI, 150, .inl MOon))] (jw_P (some (.int out)) [(hMO, .inr (6, [.ref hMOz, .ref hMOa, .ref hMOb, .int MOst, .ref hMOk, .int MOik, .ref hMOt, .int MOln, .ref hMOo, .ref hMOw, .ref hMOm, .ref hMOq, .int MOpl, .int MOiw, .int MOle, .ref hMOn])), (hMOo, .inl (cI, 150, .inl MOon))]) 0 0 := by
  refine ct_of RX7 (by decide +kernel) rfl (Nat.le_of_ble_eq_true rfl) (fun j cx => ?_)
  unfold f_X7_isFreeFor at hm
  show j 0 0 [(hMO, .inr (6, [.ref hMOz, .ref hMOa, .ref hMOb, .int MOst, .ref hMOk, .int MOik, .ref hMOt, .int MOln, .ref hMOo, .ref hMOw, .ref hMOm, .ref hMOq, .int MOpl, .int MOiw, .int MOle, .ref hMOn])), (hMOo, .inl (cI, 150, .inl MOon))] [(0, .ref hMO), (1, .int p0), (2, .int p1)] 0 []
  refine j_aload_n (pc' := 1) cx 0 dX7_isFreeFor_0 rfl rfl ?_
  refine j_get (C := RX7) (T := TX7) (N := 16) (pc' := 4) cx uB_X7 0 rfl rfl 8 (by decide) wF_X7_25 (.ref hMOo) rfl dX7_isFreeFor_1 rfl ?_
  refine j_iload_n (pc' := 5) cx 2 dX7_isFreeFor_4 rfl rfl ?_
  obtain ⟨i1, h_1⟩ := ck_s hm
  refine j_iald (pc' := 6) cx 1 0 rfl rfl i1 dX7_isFreeFor_5 rfl ?_
  obtain ⟨t3, h_3, h_2⟩ := bd_s h_1
  have Kt3 : j 0 0 [(hMO, .inr (6, [.ref hMOz, .ref hMOa, .ref hMOb, .int MOst, .ref hMOk, .int MOik, .ref hMOt, .int MOln, .ref hMOo, .ref hMOw, .ref hMOm, .ref hMOq, .int MOpl, .int MOiw, .int MOle, .ref hMOn])), (hMOo, .inl (cI, 150, .inl MOon))] [(0, .ref hMO), (1, .int p0), (2, .int p1)] 24 [.int t3] := by
    refine j_istore_n (lv' := [(3, .int t3), (0, .ref hMO), (1, .int p0), (2, .int p1)]) (pc' := 25) cx dX7_isFreeFor_24 (by decide) rfl rfl ?_
    refine j_iconst (pc' := 26) cx 0 dX7_isFreeFor_25 ki_0 rfl ?_
    refine j_istore (lv' := [(4, .int 0), (3, .int t3), (0, .ref hMO), (1, .int p0), (2, .int p1)]) (pc' := 28) cx dX7_isFreeFor_26 (by decide) rfl rfl ?_
    obtain ⟨e5, h_4, h_5⟩ := bd_s h_2
    have KXe5 : j 0 0 [(hMO, .inr (6, [.ref hMOz, .ref hMOa, .ref hMOb, .int MOst, .ref hMOk, .int MOik, .ref hMOt, .int MOln, .ref hMOo, .ref hMOw, .ref hMOm, .ref hMOq, .int MOpl, .int MOiw, .int MOle, .ref hMOn])), (hMOo, .inl (cI, 150, .inl MOon))] [(3, .int e5.1)] 74 [] := by
      refine j_iload_n (pc' := 75) cx 0 dX7_isFreeFor_74 rfl rfl ?_
      obtain ⟨b10, h_6⟩ := ckP_s h_5
      have h_7 := so_i h_6
      subst h_7
      exact j_ret cx (Or.inr (Or.inl ⟨_, _, rfl, (nz_n b10), dX7_isFreeFor_75, rfl, rfl⟩)) ⟨rfl, rfl⟩
    have LPe5 : ∀ (n : Nat) (s4 : Int32 × Int32), lp (f_X7_isFreeFor_b1 MOon p0 p1) n s4 = some e5 → j 0 0 [(hMO, .inr (6, [.ref hMOz, .ref hMOa, .ref hMOb, .int MOst, .ref hMOk, .int MOik, .ref hMOt, .int MOln, .ref hMOo, .ref hMOw, .ref hMOm, .ref hMOq, .int MOpl, .int MOiw, .int MOle, .ref hMOn])), (hMOo, .inl (cI, 150, .inl MOon))] [(0, .ref hMO), (1, .int p0), (2, .int p1), (3, .int s4.1), (4, .int s4.2)] 28 [] := by
      intro n
      induction n with
      | zero => intro s4 z; exact absurd z (by intro z; cases z)
      | succ n ihe5 =>
        intro s4 h_8
        obtain ⟨q_9, h_10, h_11⟩ := bd_s h_8
        unfold f_X7_isFreeFor_b1 at h_10
        refine j_iload (pc' := 30) cx 4 dX7_isFreeFor_28 rfl rfl ?_
        refine j_iconst (pc' := 31) cx 4 dX7_isFreeFor_30 ki_4 rfl ?_
        refine j_icmp_ge (tgt := 74) (pc' := 34) cx dX7_isFreeFor_31 (by decide) rfl (fun ch_10 => ?_) (fun ch_10 => ?_)
        · have h_12 := it_t h_10 ch_10
          have h_13 := so_i h_12
          subst h_13
          have h_14 := so_i (se_r h_11)
          subst h_14
          refine j_lv (lv' := [(3, .int s4.1)]) cx [3] rfl ?_
          exact KXe5
        · have h_15 := it_f h_10 ch_10
          refine j_aload_n (pc' := 35) cx 0 dX7_isFreeFor_34 rfl rfl ?_
          refine j_get (C := RX7) (T := TX7) (N := 16) (pc' := 38) cx uB_X7 0 rfl rfl 8 (by decide) wF_X7_25 (.ref hMOo) rfl dX7_isFreeFor_35 rfl ?_
          refine j_iload_n (pc' := 39) cx 2 dX7_isFreeFor_38 rfl rfl ?_
          refine j_iload (pc' := 41) cx 4 dX7_isFreeFor_39 rfl rfl ?_
          obtain ⟨r6, c7, h_16⟩ := bd_s h_15
          refine j_cS (pc' := 44) cx (c_X7_beside l D cI cZ cC cS p1 s4.2 r6 c7) 2 yk_X7_beside wM_X7_61 ⟨wT_X7_beside, wI_X7, wC_X7_beside⟩ ⟨rfl, rfl, Nat.le_of_ble_eq_true rfl, Nat.le_of_ble_eq_true rfl, Nat.le_of_ble_eq_true rfl, Nat.le_of_ble_eq_true rfl⟩ [] [0, 1] [0, 1] rfl [(hMO, .inr (6, [.ref hMOz, .ref hMOa, .ref hMOb, .int MOst, .ref hMOk, .int MOik, .ref hMOt, .int MOln, .ref hMOo, .ref hMOw, .ref hMOm, .ref hMOq, .int MOpl, .int MOiw, .int MOle, .ref hMOn])), (hMOo, .inl (cI, 150, .inl MOon))] rfl (by decide) [(hMO, .inr (6, [.ref hMOz, .ref hMOa, .ref hMOb, .int MOst, .ref hMOk, .int MOik, .ref hMOt, .int MOln, .ref hMOo, .ref hMOw, .ref hMOm, .ref hMOq, .int MOpl, .int MOiw, .int MOle, .ref hMOn])), (hMOo, .inl (cI, 150, .inl MOon))] rfl (by decide) rfl rfl (Nat.le_of_ble_eq_true rfl) dX7_isFreeFor_41 rfl ?_
          obtain ⟨i8, h_17⟩ := ck_s h_16
          refine j_iald (pc' := 45) cx 1 0 rfl rfl i8 dX7_isFreeFor_44 rfl ?_
          refine j_istore (lv' := [(5, .int (MOon r6.toNatClampNeg)), (0, .ref hMO), (1, .int p0), (2, .int p1), (3, .int s4.1), (4, .int s4.2)]) (pc' := 47) cx dX7_isFreeFor_45 (by decide) rfl rfl ?_
          refine j_iload_n (pc' := 48) cx 4 dX7_isFreeFor_47 rfl rfl ?_
          obtain ⟨t9, h_19, h_18⟩ := bd_s h_17
          have Kt9 : j 0 0 [(hMO, .inr (6, [.ref hMOz, .ref hMOa, .ref hMOb, .int MOst, .ref hMOk, .int MOik, .ref hMOt, .int MOln, .ref hMOo, .ref hMOw, .ref hMOm, .ref hMOq, .int MOpl, .int MOiw, .int MOle, .ref hMOn])), (hMOo, .inl (cI, 150, .inl MOon))] [(0, .ref hMO), (1, .int p0), (2, .int p1), (4, .int s4.2)] 67 [.int t9] := by
            refine j_istore_n (lv' := [(3, .int t9), (0, .ref hMO), (1, .int p0), (2, .int p1), (4, .int s4.2)]) (pc' := 68) cx dX7_isFreeFor_67 (by decide) rfl rfl ?_
            refine j_iinc (v := (s4.2 + 1)) (lv' := [(4, .int (s4.2 + 1)), (3, .int t9), (0, .ref hMO), (1, .int p0), (2, .int p1)]) (pc' := 71) cx 4 dX7_isFreeFor_68 rfl (kn_1 _) (by decide) rfl rfl ?_
            refine j_goto (pc' := 28) cx dX7_isFreeFor_71 (by decide) ?_
            have h_20 := so_i h_18
            subst h_20
            refine j_lv (lv' := [(0, .ref hMO), (1, .int p0), (2, .int p1), (3, .int t9), (4, .int (s4.2 + 1))]) cx [2, 3, 4, 1, 0] rfl ?_
            exact ihe5 _ (se_l h_11)
          refine j_if_eq (tgt := 66) (pc' := 51) cx dX7_isFreeFor_48 (by decide) rfl (fun ch_19 => ?_) (fun ch_19 => ?_)
          · have h_21 := it_t h_19 ch_19
            refine j_iconst (pc' := 67) cx 0 dX7_isFreeFor_66 ki_0 rfl ?_
            have h_22 := so_i h_21
            subst h_22
            refine j_lv (lv' := [(0, .ref hMO), (1, .int p0), (2, .int p1), (4, .int s4.2)]) cx [1, 2, 3, 5] rfl ?_
            exact Kt9
          · have h_23 := it_f h_19 ch_19
            refine j_iload (pc' := 53) cx 0 dX7_isFreeFor_51 rfl rfl ?_
            refine j_if_lt (tgt := 62) (pc' := 56) cx dX7_isFreeFor_53 (by decide) rfl (fun ch_23 => ?_) (fun ch_23 => ?_)
            · have h_24 := it_t h_23 ch_23
              refine j_iconst (pc' := 63) cx 1 dX7_isFreeFor_62 ki_1 rfl ?_
              refine j_goto (pc' := 67) cx dX7_isFreeFor_63 (by decide) ?_
              have h_25 := so_i h_24
              subst h_25
              refine j_lv (lv' := [(0, .ref hMO), (1, .int p0), (2, .int p1), (4, .int s4.2)]) cx [1, 2, 3, 5] rfl ?_
              exact Kt9
            · have h_26 := it_f h_23 ch_23
              refine j_iload (pc' := 58) cx 0 dX7_isFreeFor_56 rfl rfl ?_
              refine j_iload_n (pc' := 59) cx 2 dX7_isFreeFor_58 rfl rfl ?_
              refine j_icmp_ne (tgt := 66) (pc' := 62) cx dX7_isFreeFor_59 (by decide) rfl (fun ch_26 => ?_) (fun ch_26 => ?_)
              · have h_27 := it_f h_26 ch_26
                refine j_iconst (pc' := 67) cx 0 dX7_isFreeFor_66 ki_0 rfl ?_
                have h_28 := so_i h_27
                subst h_28
                refine j_lv (lv' := [(0, .ref hMO), (1, .int p0), (2, .int p1), (4, .int s4.2)]) cx [1, 2, 3, 5] rfl ?_
                exact Kt9
              · have h_29 := it_t h_26 ch_26
                refine j_iconst (pc' := 63) cx 1 dX7_isFreeFor_62 ki_1 rfl ?_
                refine j_goto (pc' := 67) cx dX7_isFreeFor_63 (by decide) ?_
                have h_30 := so_i h_29
                subst h_30
                refine j_lv (lv' := [(0, .ref hMO), (1, .int p0), (2, .int p1), (4, .int s4.2)]) cx [1, 2, 3, 5] rfl ?_
                exact Kt9
    refine j_lv (lv' := [(0, .ref hMO), (1, .int p0), (2, .int p1), (3, .int t3), (4, .int 0)]) cx [2, 3, 4, 1, 0] rfl ?_
    exact LPe5 _ _ h_4
  refine j_if_lt (tgt := 19) (pc' := 9) cx dX7_isFreeFor_6 (by decide) rfl (fun ch_3 => ?_) (fun ch_3 => ?_)
  · have h_31 := it_t h_3 ch_3
    refine j_iconst (pc' := 20) cx 1 dX7_isFreeFor_19 ki_1 rfl ?_
    refine j_goto (pc' := 24) cx dX7_isFreeFor_20 (by decide) ?_
    have h_32 := so_i h_31
    subst h_32
    exact Kt3
  · have h_33 := it_f h_3 ch_3
    refine j_aload_n (pc' := 10) cx 0 dX7_isFreeFor_9 rfl rfl ?_
    refine j_get (C := RX7) (T := TX7) (N := 16) (pc' := 13) cx uB_X7 0 rfl rfl 8 (by decide) wF_X7_25 (.ref hMOo) rfl dX7_isFreeFor_10 rfl ?_
    refine j_iload_n (pc' := 14) cx 2 dX7_isFreeFor_13 rfl rfl ?_
    obtain ⟨i2, h_34⟩ := ck_s h_33
    refine j_iald (pc' := 15) cx 1 0 rfl rfl i2 dX7_isFreeFor_14 rfl ?_
    refine j_iload_n (pc' := 16) cx 1 dX7_isFreeFor_15 rfl rfl ?_
    refine j_icmp_ne (tgt := 23) (pc' := 19) cx dX7_isFreeFor_16 (by decide) rfl (fun ch_34 => ?_) (fun ch_34 => ?_)
    · have h_35 := it_f h_34 ch_34
      refine j_iconst (pc' := 24) cx 0 dX7_isFreeFor_23 ki_0 rfl ?_
      have h_36 := so_i h_35
      subst h_36
      exact Kt3
    · have h_37 := it_t h_34 ch_34
      refine j_iconst (pc' := 20) cx 1 dX7_isFreeFor_19 ki_1 rfl ?_
      refine j_goto (pc' := 24) cx dX7_isFreeFor_20 (by decide) ?_
      have h_38 := so_i h_37
      subst h_38
      exact Kt3
set_option maxHeartbeats 4000000 in
set_option maxRecDepth 100000 in
theorem c_X7_move (l : Launch) (D : va_G) (cI cZ cC cS : ClassId) (hMO hMOz hMOa hMOb hMOk hMOt hMOo hMOw hMOm hMOq hMOn : Nat) (MOst : Int32) (MOik : Int32) (MOln : Int32) (MOpl : Int32) (MOiw : Int32) (MOle : Int32) (MOza : Nat → Int32) (MOas : Nat → Int32) (MObe : Nat → Int32) (MOon : Nat → Int32) (MOwy : Nat → Int32) (p0 : Int32) (p1 : Int32) (out : Int32 × Int32 × (Nat → Int32) × (Nat → Int32) × (Nat → Int32) × (Nat → Int32) × (Nat → Int32)) (hm : f_X7_move MOst MOza MOas MObe MOon MOwy p0 p1 = some out) : Ct l yX7_move cX7_move 4 (some .int) ({ frames := 5, cells := 0, slots := 0, locals := 110 }) (D, TY cI cZ cC cS) [.ref hMO, .int p0, .int p1] [(hMO, .inr (6, [.ref hMOz, .ref hMOa, .ref hMOb, .int MOst, .ref hMOk, .int MOik, .ref hMOt, .int MOln, .ref hMOo, .ref hMOw, .ref hMOm, .ref hMOq, .int MOpl, .int MOiw, .int MOle, .ref hMOn])), (hMOz, .inl (cI, 116, .inl MOza)), (hMOa, .inl (cI, 116, .inl MOas)), (hMOb, .inl (cI, 464, .inl MObe)), (hMOo, .inl (cI, 150, .inl MOon)), (hMOw, .inl (cI, 150, .inl MOwy))] (jw_P (some (.int out.1)) [(hMO, .inr (6, [.ref hMOz, .ref hMOa, .ref hMOb, .int out.2.1, .ref hMOk, .int MOik, .ref hMOt, .int MOln, .ref hMOo, .ref hMOw, .ref hMOm, .ref hMOq, .int MOpl, .int MOiw, .int MOle, .ref hMOn])), (hMOz, .inl (cI, 116, .inl out.2.2.1)), (hMOa, .inl (cI, 116, .inl out.2.2.2.1)), (hMOb, .inl (cI, 464, .inl out.2.2.2.2.1)), (hMOo, .inl (cI, 150, .inl out.2.2.2.2.2.1)), (hMOw, .inl (cI, 150, .inl out.2.2.2.2.2.2))]) 0 0 := by
  refine ct_of RX7 (by decide +kernel) rfl (Nat.le_of_ble_eq_true rfl) (fun j cx => ?_)
  unfold f_X7_move at hm
  show j 0 0 [(hMO, .inr (6, [.ref hMOz, .ref hMOa, .ref hMOb, .int MOst, .ref hMOk, .int MOik, .ref hMOt, .int MOln, .ref hMOo, .ref hMOw, .ref hMOm, .ref hMOq, .int MOpl, .int MOiw, .int MOle, .ref hMOn])), (hMOz, .inl (cI, 116, .inl MOza)), (hMOa, .inl (cI, 116, .inl MOas)), (hMOb, .inl (cI, 464, .inl MObe)), (hMOo, .inl (cI, 150, .inl MOon)), (hMOw, .inl (cI, 150, .inl MOwy))] [(0, .ref hMO), (1, .int p0), (2, .int p1)] 0 []
  refine j_aload_n (pc' := 1) cx 0 dX7_move_0 rfl rfl ?_
  refine j_iload_n (pc' := 2) cx 1 dX7_move_1 rfl rfl ?_
  obtain ⟨r1, c2, h_1⟩ := bd_s hm
  refine j_cV (pc' := 5) cx (c_X7_isCross l D cI cZ cC cS hMO hMOz hMOa hMOb hMOk hMOt hMOo hMOw hMOm hMOq hMOn MOst MOik MOln MOpl MOiw MOle MOza p0 r1 c2) 1 yk_X7_isCross wM_X7_126 ⟨wN_X7_isCross, wS_X7_isCross, wI_X7, wC_X7_isCross⟩ ⟨rfl, rfl, Nat.le_of_ble_eq_true rfl, Nat.le_of_ble_eq_true rfl, Nat.le_of_ble_eq_true rfl, Nat.le_of_ble_eq_true rfl⟩ [0, 1] [2, 3, 4, 5] [4, 5, 0, 1, 2, 3] rfl [(hMOa, .inl (cI, 116, .inl MOas)), (hMOb, .inl (cI, 464, .inl MObe)), (hMOo, .inl (cI, 150, .inl MOon)), (hMOw, .inl (cI, 150, .inl MOwy))] rfl (by decide) [(hMO, .inr (6, [.ref hMOz, .ref hMOa, .ref hMOb, .int MOst, .ref hMOk, .int MOik, .ref hMOt, .int MOln, .ref hMOo, .ref hMOw, .ref hMOm, .ref hMOq, .int MOpl, .int MOiw, .int MOle, .ref hMOn])), (hMOz, .inl (cI, 116, .inl MOza)), (hMOa, .inl (cI, 116, .inl MOas)), (hMOb, .inl (cI, 464, .inl MObe)), (hMOo, .inl (cI, 150, .inl MOon)), (hMOw, .inl (cI, 150, .inl MOwy))] rfl (by decide) 0 6 rfl rfl rfl rfl rfl (Nat.le_of_ble_eq_true rfl) dX7_move_2 rfl ?_
  refine j_if_eq (tgt := 15) (pc' := 8) cx dX7_move_5 (by decide) rfl (fun ch_1 => ?_) (fun ch_1 => ?_)
  · have h_2 := it_t h_1 ch_1
    refine j_iconst (pc' := 16) cx (-1) dX7_move_15 ki_m1 rfl ?_
    have h_3 := so_i h_2
    subst h_3
    exact j_ret cx (Or.inr (Or.inl ⟨_, _, rfl, rfl, dX7_move_16, rfl, rfl⟩)) ⟨rfl, rfl⟩
  · have h_4 := it_f h_1 ch_1
    refine j_iload_n (pc' := 9) cx 2 dX7_move_8 rfl rfl ?_
    obtain ⟨r3, c4, h_5⟩ := bd_s h_4
    refine j_cS (pc' := 12) cx (c_X7_isCell l D cI cZ cC cS p1 r3 c4) 1 yk_X7_isCell wM_X7_113 ⟨wT_X7_isCell, wI_X7, wC_X7_isCell⟩ ⟨rfl, rfl, Nat.le_of_ble_eq_true rfl, Nat.le_of_ble_eq_true rfl, Nat.le_of_ble_eq_true rfl, Nat.le_of_ble_eq_true rfl⟩ [] [0, 1, 2, 3, 4, 5] [0, 1, 2, 3, 4, 5] rfl [(hMO, .inr (6, [.ref hMOz, .ref hMOa, .ref hMOb, .int MOst, .ref hMOk, .int MOik, .ref hMOt, .int MOln, .ref hMOo, .ref hMOw, .ref hMOm, .ref hMOq, .int MOpl, .int MOiw, .int MOle, .ref hMOn])), (hMOz, .inl (cI, 116, .inl MOza)), (hMOa, .inl (cI, 116, .inl MOas)), (hMOb, .inl (cI, 464, .inl MObe)), (hMOo, .inl (cI, 150, .inl MOon)), (hMOw, .inl (cI, 150, .inl MOwy))] rfl (by decide) [(hMO, .inr (6, [.ref hMOz, .ref hMOa, .ref hMOb, .int MOst, .ref hMOk, .int MOik, .ref hMOt, .int MOln, .ref hMOo, .ref hMOw, .ref hMOm, .ref hMOq, .int MOpl, .int MOiw, .int MOle, .ref hMOn])), (hMOz, .inl (cI, 116, .inl MOza)), (hMOa, .inl (cI, 116, .inl MOas)), (hMOb, .inl (cI, 464, .inl MObe)), (hMOo, .inl (cI, 150, .inl MOon)), (hMOw, .inl (cI, 150, .inl MOwy))] rfl (by decide) rfl rfl (Nat.le_of_ble_eq_true rfl) dX7_move_9 rfl ?_
    refine j_if_ne (tgt := 17) (pc' := 15) cx dX7_move_12 (by decide) rfl (fun ch_5 => ?_) (fun ch_5 => ?_)
    · have h_6 := it_f h_5 ch_5
      refine j_aload_n (pc' := 18) cx 0 dX7_move_17 rfl rfl ?_
      refine j_iload_n (pc' := 19) cx 1 dX7_move_18 rfl rfl ?_
      obtain ⟨r5, c6, h_7⟩ := bd_s h_6
      refine j_cV (pc' := 22) cx (c_X7_middleOf l D cI cZ cC cS hMO hMOz hMOa hMOb hMOk hMOt hMOo hMOw hMOm hMOq hMOn MOst MOik MOln MOpl MOiw MOle MOza p0 r5 c6) 1 yk_X7_middleOf wM_X7_58 ⟨wN_X7_middleOf, wS_X7_middleOf, wI_X7, wC_X7_middleOf⟩ ⟨rfl, rfl, Nat.le_of_ble_eq_true rfl, Nat.le_of_ble_eq_true rfl, Nat.le_of_ble_eq_true rfl, Nat.le_of_ble_eq_true rfl⟩ [0, 1] [2, 3, 4, 5] [4, 5, 0, 1, 2, 3] rfl [(hMOa, .inl (cI, 116, .inl MOas)), (hMOb, .inl (cI, 464, .inl MObe)), (hMOo, .inl (cI, 150, .inl MOon)), (hMOw, .inl (cI, 150, .inl MOwy))] rfl (by decide) [(hMO, .inr (6, [.ref hMOz, .ref hMOa, .ref hMOb, .int MOst, .ref hMOk, .int MOik, .ref hMOt, .int MOln, .ref hMOo, .ref hMOw, .ref hMOm, .ref hMOq, .int MOpl, .int MOiw, .int MOle, .ref hMOn])), (hMOz, .inl (cI, 116, .inl MOza)), (hMOa, .inl (cI, 116, .inl MOas)), (hMOb, .inl (cI, 464, .inl MObe)), (hMOo, .inl (cI, 150, .inl MOon)), (hMOw, .inl (cI, 150, .inl MOwy))] rfl (by decide) 0 6 rfl rfl rfl rfl rfl (Nat.le_of_ble_eq_true rfl) dX7_move_19 rfl ?_
      refine j_istore_n (lv' := [(3, .int r5), (0, .ref hMO), (1, .int p0), (2, .int p1)]) (pc' := 23) cx dX7_move_22 (by decide) rfl rfl ?_
      refine j_iload_n (pc' := 24) cx 0 dX7_move_23 rfl rfl ?_
      refine j_iload_n (pc' := 25) cx 3 dX7_move_24 rfl rfl ?_
      refine j_icmp_ne (tgt := 31) (pc' := 28) cx dX7_move_25 (by decide) rfl (fun ch_7 => ?_) (fun ch_7 => ?_)
      · have h_8 := it_f h_7 ch_7
        refine j_aload_n (pc' := 32) cx 1 dX7_move_31 rfl rfl ?_
        refine j_iload_n (pc' := 33) cx 2 dX7_move_32 rfl rfl ?_
        refine j_iload_n (pc' := 34) cx 3 dX7_move_33 rfl rfl ?_
        obtain ⟨r7, c8, h_9⟩ := bd_s h_8
        refine j_cV (pc' := 37) cx (c_X7_isFreeFor l D cI cZ cC cS hMO hMOz hMOa hMOb hMOk hMOt hMOo hMOw hMOm hMOq hMOn MOst MOik MOln MOpl MOiw MOle MOon p0 p1 r7 c8) 2 yk_X7_isFreeFor wM_X7_133 ⟨wN_X7_isFreeFor, wS_X7_isFreeFor, wI_X7, wC_X7_isFreeFor⟩ ⟨rfl, rfl, Nat.le_of_ble_eq_true rfl, Nat.le_of_ble_eq_true rfl, Nat.le_of_ble_eq_true rfl, Nat.le_of_ble_eq_true rfl⟩ [0, 4] [1, 2, 3, 5] [4, 0, 1, 2, 5, 3] rfl [(hMOz, .inl (cI, 116, .inl MOza)), (hMOa, .inl (cI, 116, .inl MOas)), (hMOb, .inl (cI, 464, .inl MObe)), (hMOw, .inl (cI, 150, .inl MOwy))] rfl (by decide) [(hMO, .inr (6, [.ref hMOz, .ref hMOa, .ref hMOb, .int MOst, .ref hMOk, .int MOik, .ref hMOt, .int MOln, .ref hMOo, .ref hMOw, .ref hMOm, .ref hMOq, .int MOpl, .int MOiw, .int MOle, .ref hMOn])), (hMOz, .inl (cI, 116, .inl MOza)), (hMOa, .inl (cI, 116, .inl MOas)), (hMOb, .inl (cI, 464, .inl MObe)), (hMOo, .inl (cI, 150, .inl MOon)), (hMOw, .inl (cI, 150, .inl MOwy))] rfl (by decide) 0 6 rfl rfl rfl rfl rfl (Nat.le_of_ble_eq_true rfl) dX7_move_34 rfl ?_
        refine j_if_ne (tgt := 43) (pc' := 40) cx dX7_move_37 (by decide) rfl (fun ch_9 => ?_) (fun ch_9 => ?_)
        · have h_10 := it_f h_9 ch_9
          refine j_aload_n (pc' := 44) cx 1 dX7_move_43 rfl rfl ?_
          obtain ⟨r9, c10, h_11⟩ := bd_s h_10
          refine j_cV (pc' := 47) cx (c_X7_putAside l D cI cZ cC cS hMO hMOz hMOa hMOb hMOk hMOt hMOo hMOw hMOm hMOq hMOn MOst MOik MOln MOpl MOiw MOle MOza MOas r9 c10) 0 yk_X7_putAside wM_X7_104 ⟨wN_X7_putAside, wS_X7_putAside, wI_X7, wC_X7_putAside⟩ ⟨rfl, rfl, Nat.le_of_ble_eq_true rfl, Nat.le_of_ble_eq_true rfl, Nat.le_of_ble_eq_true rfl, Nat.le_of_ble_eq_true rfl⟩ [0, 1, 2] [3, 4, 5] [3, 4, 5, 0, 1, 2] rfl [(hMOb, .inl (cI, 464, .inl MObe)), (hMOo, .inl (cI, 150, .inl MOon)), (hMOw, .inl (cI, 150, .inl MOwy))] rfl (by decide) [(hMO, .inr (6, [.ref hMOz, .ref hMOa, .ref hMOb, .int MOst, .ref hMOk, .int MOik, .ref hMOt, .int MOln, .ref hMOo, .ref hMOw, .ref hMOm, .ref hMOq, .int MOpl, .int MOiw, .int MOle, .ref hMOn])), (hMOz, .inl (cI, 116, .inl MOza)), (hMOa, .inl (cI, 116, .inl r9)), (hMOb, .inl (cI, 464, .inl MObe)), (hMOo, .inl (cI, 150, .inl MOon)), (hMOw, .inl (cI, 150, .inl MOwy))] rfl (by decide) 0 6 rfl rfl rfl rfl rfl (Nat.le_of_ble_eq_true rfl) dX7_move_44 rfl ?_
          refine j_aload_n (pc' := 48) cx 1 dX7_move_47 rfl rfl ?_
          refine j_get (C := RX7) (T := TX7) (N := 16) (pc' := 51) cx uB_X7 0 rfl rfl 0 (by decide) wF_X7_7 (.ref hMOz) rfl dX7_move_48 rfl ?_
          refine j_bipush (pc' := 53) cx 26 dX7_move_51 kb_26 rfl ?_
          refine j_iconst (pc' := 54) cx 3 dX7_move_53 ki_3 rfl ?_
          refine j_iload_n (pc' := 55) cx 2 dX7_move_54 rfl rfl ?_
          refine j_imul (pc' := 56) cx dX7_move_55 rfl ?_
          refine j_iadd (pc' := 57) cx dX7_move_56 rfl ?_
          refine j_iconst (pc' := 58) cx 2 dX7_move_57 ki_2 rfl ?_
          refine j_iadd (pc' := 59) cx dX7_move_58 rfl ?_
          refine j_iload_n (pc' := 60) cx 3 dX7_move_59 rfl rfl ?_
          obtain ⟨i11, h_12⟩ := ck_s h_11
          refine j_iast (ws' := [(hMO, .inr (6, [.ref hMOz, .ref hMOa, .ref hMOb, .int MOst, .ref hMOk, .int MOik, .ref hMOt, .int MOln, .ref hMOo, .ref hMOw, .ref hMOm, .ref hMOq, .int MOpl, .int MOiw, .int MOle, .ref hMOn])), (hMOz, .inl (cI, 116, .inl (upd MOza ((26 + (3 * p0)) + 2).toNatClampNeg p1))), (hMOa, .inl (cI, 116, .inl r9)), (hMOb, .inl (cI, 464, .inl MObe)), (hMOo, .inl (cI, 150, .inl MOon)), (hMOw, .inl (cI, 150, .inl MOwy))]) (pc' := 61) cx 1 0 rfl rfl i11 rfl dX7_move_60 rfl ?_
          refine j_aload_n (pc' := 62) cx 1 dX7_move_61 rfl rfl ?_
          obtain ⟨r12, c13, h_13⟩ := bd_s h_12
          refine j_cV (pc' := 65) cx (c_X7_canStay l D cI cZ cC cS hMO hMOz hMOa hMOb hMOk hMOt hMOo hMOw hMOm hMOq hMOn MOst MOik MOln MOpl MOiw MOle (upd MOza ((26 + (3 * p0)) + 2).toNatClampNeg p1) r9 MObe MOon MOwy r12 c13) 0 yk_X7_canStay wM_X7_107 ⟨wN_X7_canStay, wS_X7_canStay, wI_X7, wC_X7_canStay⟩ ⟨rfl, rfl, Nat.le_of_ble_eq_true rfl, Nat.le_of_ble_eq_true rfl, Nat.le_of_ble_eq_true rfl, Nat.le_of_ble_eq_true rfl⟩ [0, 1, 2, 3, 4, 5] [] [0, 1, 2, 3, 4, 5] rfl [] rfl (by decide) [(hMO, .inr (6, [.ref hMOz, .ref hMOa, .ref hMOb, .int r12.2.1, .ref hMOk, .int MOik, .ref hMOt, .int MOln, .ref hMOo, .ref hMOw, .ref hMOm, .ref hMOq, .int MOpl, .int MOiw, .int MOle, .ref hMOn])), (hMOz, .inl (cI, 116, .inl r12.2.2.1)), (hMOa, .inl (cI, 116, .inl r9)), (hMOb, .inl (cI, 464, .inl r12.2.2.2.1)), (hMOo, .inl (cI, 150, .inl r12.2.2.2.2.1)), (hMOw, .inl (cI, 150, .inl r12.2.2.2.2.2))] rfl (by decide) 0 6 rfl rfl rfl rfl rfl (Nat.le_of_ble_eq_true rfl) dX7_move_62 rfl ?_
          obtain ⟨t14, h_15, h_14⟩ := bd_s h_13
          have Kt14 : j 0 0 [(hMO, .inr (6, [.ref hMOz, .ref hMOa, .ref hMOb, .int r12.2.1, .ref hMOk, .int MOik, .ref hMOt, .int MOln, .ref hMOo, .ref hMOw, .ref hMOm, .ref hMOq, .int MOpl, .int MOiw, .int MOle, .ref hMOn])), (hMOz, .inl (cI, 116, .inl r12.2.2.1)), (hMOa, .inl (cI, 116, .inl r9)), (hMOb, .inl (cI, 464, .inl r12.2.2.2.1)), (hMOo, .inl (cI, 150, .inl r12.2.2.2.2.1)), (hMOw, .inl (cI, 150, .inl r12.2.2.2.2.2))] [] 74 [.int t14] := by
            have h_16 := so_i h_14
            subst h_16
            exact j_ret cx (Or.inr (Or.inl ⟨_, _, rfl, rfl, dX7_move_74, rfl, rfl⟩)) ⟨rfl, rfl⟩
          refine j_if_eq (tgt := 72) (pc' := 68) cx dX7_move_65 (by decide) rfl (fun ch_15 => ?_) (fun ch_15 => ?_)
          · have h_17 := it_t h_15 ch_15
            refine j_bipush (pc' := 74) cx (-4) dX7_move_72 kb_m4 rfl ?_
            have h_18 := so_i h_17
            subst h_18
            refine j_lv (lv' := []) cx [] rfl ?_
            exact Kt14
          · have h_19 := it_f h_15 ch_15
            refine j_iload_n (pc' := 69) cx 0 dX7_move_68 rfl rfl ?_
            refine j_goto (pc' := 74) cx dX7_move_69 (by decide) ?_
            have h_20 := so_i h_19
            subst h_20
            refine j_lv (lv' := []) cx [] rfl ?_
            exact Kt14
        · have h_21 := it_t h_9 ch_9
          refine j_bipush (pc' := 42) cx (-4) dX7_move_40 kb_m4 rfl ?_
          have h_22 := so_i h_21
          subst h_22
          exact j_ret cx (Or.inr (Or.inl ⟨_, _, rfl, rfl, dX7_move_42, rfl, rfl⟩)) ⟨rfl, rfl⟩
      · have h_23 := it_t h_7 ch_7
        refine j_bipush (pc' := 30) cx (-5) dX7_move_28 kb_m5 rfl ?_
        have h_24 := so_i h_23
        subst h_24
        exact j_ret cx (Or.inr (Or.inl ⟨_, _, rfl, rfl, dX7_move_30, rfl, rfl⟩)) ⟨rfl, rfl⟩
    · have h_25 := it_t h_5 ch_5
      refine j_iconst (pc' := 16) cx (-1) dX7_move_15 ki_m1 rfl ?_
      have h_26 := so_i h_25
      subst h_26
      exact j_ret cx (Or.inr (Or.inl ⟨_, _, rfl, rfl, dX7_move_16, rfl, rfl⟩)) ⟨rfl, rfl⟩
set_option maxHeartbeats 4000000 in
set_option maxRecDepth 100000 in
theorem c_X7_shifted (l : Launch) (D : va_G) (cI cZ cC cS : ClassId) (p0 : Int32) (p1 : Int32) (p2 : Int32) (out : Int32) (hm : f_X7_shifted p0 p1 p2 = some out) : Ct l yX7_shifted cX7_shifted 3 (some .int) ({ frames := 0, cells := 0, slots := 0, locals := 0 }) (D, TY cI cZ cC cS) [.int p0, .int p1, .int p2] [] (jw_P (some (.int out)) []) 0 0 := by
  refine ct_of RX7 (by decide +kernel) rfl (Nat.le_of_ble_eq_true rfl) (fun j cx => ?_)
  unfold f_X7_shifted at hm
  show j 0 0 [] [(0, .int p0), (1, .int p1), (2, .int p2)] 0 []
  refine j_bipush (pc' := 2) cx 15 dX7_shifted_0 kb_15 rfl ?_
  refine j_iload_n (pc' := 3) cx 0 dX7_shifted_2 rfl rfl ?_
  refine j_bipush (pc' := 5) cx 15 dX7_shifted_3 kb_15 rfl ?_
  refine j_idiv (pc' := 6) cx dX7_shifted_5 kz_15 rfl ?_
  refine j_iload_n (pc' := 7) cx 2 dX7_shifted_6 rfl rfl ?_
  refine j_iadd (pc' := 8) cx dX7_shifted_7 rfl ?_
  refine j_bipush (pc' := 10) cx 10 dX7_shifted_8 kb_10 rfl ?_
  refine j_irem (pc' := 11) cx dX7_shifted_10 kz_10 rfl ?_
  refine j_imul (pc' := 12) cx dX7_shifted_11 rfl ?_
  refine j_iload_n (pc' := 13) cx 0 dX7_shifted_12 rfl rfl ?_
  refine j_bipush (pc' := 15) cx 15 dX7_shifted_13 kb_15 rfl ?_
  refine j_irem (pc' := 16) cx dX7_shifted_15 kz_15 rfl ?_
  refine j_iload_n (pc' := 17) cx 1 dX7_shifted_16 rfl rfl ?_
  refine j_iadd (pc' := 18) cx dX7_shifted_17 rfl ?_
  refine j_bipush (pc' := 20) cx 15 dX7_shifted_18 kb_15 rfl ?_
  refine j_irem (pc' := 21) cx dX7_shifted_20 kz_15 rfl ?_
  refine j_iadd (pc' := 22) cx dX7_shifted_21 rfl ?_
  have h_1 := so_i hm
  subst h_1
  exact j_ret cx (Or.inr (Or.inl ⟨_, _, rfl, rfl, dX7_shifted_22, rfl, rfl⟩)) ⟨rfl, rfl⟩
set_option maxHeartbeats 4000000 in
set_option maxRecDepth 100000 in
theorem c_X7_shift (l : Launch) (D : va_G) (cI cZ cC cS : ClassId) (hMO hMOz hMOa hMOb hMOk hMOt hMOo hMOw hMOm hMOq hMOn : Nat) (MOst : Int32) (MOik : Int32) (MOln : Int32) (MOpl : Int32) (MOiw : Int32) (MOle : Int32) (MOza : Nat → Int32) (MObe : Nat → Int32) (MOon : Nat → Int32) (MOwy : Nat → Int32) (p0 : Int32) (p1 : Int32) (out : Int32 × Int32 × (Nat → Int32) × (Nat → Int32) × (Nat → Int32) × (Nat → Int32)) (hm : f_X7_shift MOst MOza MObe MOon MOwy p0 p1 = some out) : Ct l yX7_shift cX7_shift 4 (some .int) ({ frames := 2, cells := 0, slots := 0, locals := 45 }) (D, TY cI cZ cC cS) [.ref hMO, .int p0, .int p1] [(hMO, .inr (6, [.ref hMOz, .ref hMOa, .ref hMOb, .int MOst, .ref hMOk, .int MOik, .ref hMOt, .int MOln, .ref hMOo, .ref hMOw, .ref hMOm, .ref hMOq, .int MOpl, .int MOiw, .int MOle, .ref hMOn])), (hMOz, .inl (cI, 116, .inl MOza)), (hMOb, .inl (cI, 464, .inl MObe)), (hMOo, .inl (cI, 150, .inl MOon)), (hMOw, .inl (cI, 150, .inl MOwy))] (jw_P (some (.int out.1)) [(hMO, .inr (6, [.ref hMOz, .ref hMOa, .ref hMOb, .int out.2.1, .ref hMOk, .int MOik, .ref hMOt, .int MOln, .ref hMOo, .ref hMOw, .ref hMOm, .ref hMOq, .int MOpl, .int MOiw, .int MOle, .ref hMOn])), (hMOz, .inl (cI, 116, .inl out.2.2.1)), (hMOb, .inl (cI, 464, .inl out.2.2.2.1)), (hMOo, .inl (cI, 150, .inl out.2.2.2.2.1)), (hMOw, .inl (cI, 150, .inl out.2.2.2.2.2))]) 0 0 := by
  refine ct_of RX7 (by decide +kernel) rfl (Nat.le_of_ble_eq_true rfl) (fun j cx => ?_)
  unfold f_X7_shift at hm
  show j 0 0 [(hMO, .inr (6, [.ref hMOz, .ref hMOa, .ref hMOb, .int MOst, .ref hMOk, .int MOik, .ref hMOt, .int MOln, .ref hMOo, .ref hMOw, .ref hMOm, .ref hMOq, .int MOpl, .int MOiw, .int MOle, .ref hMOn])), (hMOz, .inl (cI, 116, .inl MOza)), (hMOb, .inl (cI, 464, .inl MObe)), (hMOo, .inl (cI, 150, .inl MOon)), (hMOw, .inl (cI, 150, .inl MOwy))] [(0, .ref hMO), (1, .int p0), (2, .int p1)] 0 []
  refine j_iload_n (pc' := 1) cx 1 dX7_shift_0 rfl rfl ?_
  refine j_iconst (pc' := 2) cx 0 dX7_shift_1 ki_0 rfl ?_
  refine j_bipush (pc' := 4) cx 14 dX7_shift_2 kb_14 rfl ?_
  obtain ⟨r1, c2, h_1⟩ := bd_s hm
  refine j_cS (pc' := 7) cx (c_X7_in l D cI cZ cC cS p0 0 14 r1 c2) 3 yk_X7_in wM_X7_43 ⟨wT_X7_in, wI_X7, wC_X7_in⟩ ⟨rfl, rfl, Nat.le_of_ble_eq_true rfl, Nat.le_of_ble_eq_true rfl, Nat.le_of_ble_eq_true rfl, Nat.le_of_ble_eq_true rfl⟩ [] [0, 1, 2, 3, 4] [0, 1, 2, 3, 4] rfl [(hMO, .inr (6, [.ref hMOz, .ref hMOa, .ref hMOb, .int MOst, .ref hMOk, .int MOik, .ref hMOt, .int MOln, .ref hMOo, .ref hMOw, .ref hMOm, .ref hMOq, .int MOpl, .int MOiw, .int MOle, .ref hMOn])), (hMOz, .inl (cI, 116, .inl MOza)), (hMOb, .inl (cI, 464, .inl MObe)), (hMOo, .inl (cI, 150, .inl MOon)), (hMOw, .inl (cI, 150, .inl MOwy))] rfl (by decide) [(hMO, .inr (6, [.ref hMOz, .ref hMOa, .ref hMOb, .int MOst, .ref hMOk, .int MOik, .ref hMOt, .int MOln, .ref hMOo, .ref hMOw, .ref hMOm, .ref hMOq, .int MOpl, .int MOiw, .int MOle, .ref hMOn])), (hMOz, .inl (cI, 116, .inl MOza)), (hMOb, .inl (cI, 464, .inl MObe)), (hMOo, .inl (cI, 150, .inl MOon)), (hMOw, .inl (cI, 150, .inl MOwy))] rfl (by decide) rfl rfl (Nat.le_of_ble_eq_true rfl) dX7_shift_4 rfl ?_
  refine j_if_eq (tgt := 20) (pc' := 10) cx dX7_shift_7 (by decide) rfl (fun ch_1 => ?_) (fun ch_1 => ?_)
  · have h_2 := it_t h_1 ch_1
    refine j_bipush (pc' := 22) cx (-2) dX7_shift_20 kb_m2 rfl ?_
    have h_3 := so_i h_2
    subst h_3
    exact j_ret cx (Or.inr (Or.inl ⟨_, _, rfl, rfl, dX7_shift_22, rfl, rfl⟩)) ⟨rfl, rfl⟩
  · have h_4 := it_f h_1 ch_1
    refine j_iload_n (pc' := 11) cx 2 dX7_shift_10 rfl rfl ?_
    refine j_iconst (pc' := 12) cx 0 dX7_shift_11 ki_0 rfl ?_
    refine j_bipush (pc' := 14) cx 9 dX7_shift_12 kb_9 rfl ?_
    obtain ⟨r3, c4, h_5⟩ := bd_s h_4
    refine j_cS (pc' := 17) cx (c_X7_in l D cI cZ cC cS p1 0 9 r3 c4) 3 yk_X7_in wM_X7_43 ⟨wT_X7_in, wI_X7, wC_X7_in⟩ ⟨rfl, rfl, Nat.le_of_ble_eq_true rfl, Nat.le_of_ble_eq_true rfl, Nat.le_of_ble_eq_true rfl, Nat.le_of_ble_eq_true rfl⟩ [] [0, 1, 2, 3, 4] [0, 1, 2, 3, 4] rfl [(hMO, .inr (6, [.ref hMOz, .ref hMOa, .ref hMOb, .int MOst, .ref hMOk, .int MOik, .ref hMOt, .int MOln, .ref hMOo, .ref hMOw, .ref hMOm, .ref hMOq, .int MOpl, .int MOiw, .int MOle, .ref hMOn])), (hMOz, .inl (cI, 116, .inl MOza)), (hMOb, .inl (cI, 464, .inl MObe)), (hMOo, .inl (cI, 150, .inl MOon)), (hMOw, .inl (cI, 150, .inl MOwy))] rfl (by decide) [(hMO, .inr (6, [.ref hMOz, .ref hMOa, .ref hMOb, .int MOst, .ref hMOk, .int MOik, .ref hMOt, .int MOln, .ref hMOo, .ref hMOw, .ref hMOm, .ref hMOq, .int MOpl, .int MOiw, .int MOle, .ref hMOn])), (hMOz, .inl (cI, 116, .inl MOza)), (hMOb, .inl (cI, 464, .inl MObe)), (hMOo, .inl (cI, 150, .inl MOon)), (hMOw, .inl (cI, 150, .inl MOwy))] rfl (by decide) rfl rfl (Nat.le_of_ble_eq_true rfl) dX7_shift_14 rfl ?_
    refine j_if_ne (tgt := 23) (pc' := 20) cx dX7_shift_17 (by decide) rfl (fun ch_5 => ?_) (fun ch_5 => ?_)
    · have h_6 := it_f h_5 ch_5
      refine j_aload_n (pc' := 24) cx 0 dX7_shift_23 rfl rfl ?_
      refine j_aload_n (pc' := 25) cx 0 dX7_shift_24 rfl rfl ?_
      refine j_get (C := RX7) (T := TX7) (N := 16) (pc' := 28) cx uB_X7 0 rfl rfl 0 (by decide) wF_X7_7 (.ref hMOz) rfl dX7_shift_25 rfl ?_
      obtain ⟨r5, c6, h_7⟩ := bd_s h_6
      refine j_cV (pc' := 31) cx (c_X7_record l D cI cZ cC cS hMOz hMO hMOz hMOa hMOb hMOk hMOt hMOo hMOw hMOm hMOq hMOn MOza MOst MOik MOln MOpl MOiw MOle MObe r5 c6) 1 yk_X7_record wM_X7_90 ⟨wN_X7_record, wS_X7_record, wI_X7, wC_X7_record⟩ ⟨rfl, rfl, Nat.le_of_ble_eq_true rfl, Nat.le_of_ble_eq_true rfl, Nat.le_of_ble_eq_true rfl, Nat.le_of_ble_eq_true rfl⟩ [1, 0, 2] [3, 4] [3, 2, 4, 0, 1] rfl [(hMOo, .inl (cI, 150, .inl MOon)), (hMOw, .inl (cI, 150, .inl MOwy))] rfl (by decide) [(hMO, .inr (6, [.ref hMOz, .ref hMOa, .ref hMOb, .int r5.1, .ref hMOk, .int MOik, .ref hMOt, .int MOln, .ref hMOo, .ref hMOw, .ref hMOm, .ref hMOq, .int MOpl, .int MOiw, .int MOle, .ref hMOn])), (hMOz, .inl (cI, 116, .inl MOza)), (hMOb, .inl (cI, 464, .inl r5.2)), (hMOo, .inl (cI, 150, .inl MOon)), (hMOw, .inl (cI, 150, .inl MOwy))] rfl (by decide) 0 6 rfl rfl rfl rfl rfl (Nat.le_of_ble_eq_true rfl) dX7_shift_28 rfl ?_
      refine j_iconst (pc' := 32) cx 0 dX7_shift_31 ki_0 rfl ?_
      refine j_istore_n (lv' := [(3, .int 0), (0, .ref hMO), (1, .int p0), (2, .int p1)]) (pc' := 33) cx dX7_shift_32 (by decide) rfl rfl ?_
      obtain ⟨e8, h_8, h_9⟩ := bd_s h_7
      have KXe8 : j 0 0 [(hMO, .inr (6, [.ref hMOz, .ref hMOa, .ref hMOb, .int r5.1, .ref hMOk, .int MOik, .ref hMOt, .int MOln, .ref hMOo, .ref hMOw, .ref hMOm, .ref hMOq, .int MOpl, .int MOiw, .int MOle, .ref hMOn])), (hMOz, .inl (cI, 116, .inl e8.2)), (hMOb, .inl (cI, 464, .inl r5.2)), (hMOo, .inl (cI, 150, .inl MOon)), (hMOw, .inl (cI, 150, .inl MOwy))] [(0, .ref hMO)] 73 [] := by
        refine j_aload_n (pc' := 74) cx 0 dX7_shift_73 rfl rfl ?_
        obtain ⟨r15, c16, h_10⟩ := bd_s h_9
        refine j_cV (pc' := 77) cx (c_X7_draw l D cI cZ cC cS hMO hMOz hMOa hMOb hMOk hMOt hMOo hMOw hMOm hMOq hMOn r5.1 MOik MOln MOpl MOiw MOle e8.2 MOon MOwy r15 c16) 0 yk_X7_draw wM_X7_40 ⟨wN_X7_draw, wS_X7_draw, wI_X7, wC_X7_draw⟩ ⟨rfl, rfl, Nat.le_of_ble_eq_true rfl, Nat.le_of_ble_eq_true rfl, Nat.le_of_ble_eq_true rfl, Nat.le_of_ble_eq_true rfl⟩ [0, 1, 3, 4] [2] [1, 2, 0, 3, 4] rfl [(hMOb, .inl (cI, 464, .inl r5.2))] rfl (by decide) [(hMO, .inr (6, [.ref hMOz, .ref hMOa, .ref hMOb, .int r5.1, .ref hMOk, .int MOik, .ref hMOt, .int MOln, .ref hMOo, .ref hMOw, .ref hMOm, .ref hMOq, .int MOpl, .int MOiw, .int MOle, .ref hMOn])), (hMOz, .inl (cI, 116, .inl e8.2)), (hMOb, .inl (cI, 464, .inl r5.2)), (hMOo, .inl (cI, 150, .inl r15.1)), (hMOw, .inl (cI, 150, .inl r15.2))] rfl (by decide) 0 6 rfl rfl rfl rfl rfl (Nat.le_of_ble_eq_true rfl) dX7_shift_74 rfl ?_
        refine j_aload_n (pc' := 78) cx 0 dX7_shift_77 rfl rfl ?_
        refine j_get (C := RX7) (T := TX7) (N := 16) (pc' := 81) cx uB_X7 0 rfl rfl 0 (by decide) wF_X7_7 (.ref hMOz) rfl dX7_shift_78 rfl ?_
        refine j_bipush (pc' := 83) cx 25 dX7_shift_81 kb_25 rfl ?_
        obtain ⟨i17, h_11⟩ := ck_s h_10
        refine j_iald (pc' := 84) cx 1 0 rfl rfl i17 dX7_shift_83 rfl ?_
        have h_12 := so_i h_11
        subst h_12
        exact j_ret cx (Or.inr (Or.inl ⟨_, _, rfl, rfl, dX7_shift_84, rfl, rfl⟩)) ⟨rfl, rfl⟩
      have LPe8 : ∀ (n : Nat) (s7 : Int32 × (Nat → Int32)), lp (f_X7_shift_b1 p0 p1) n s7 = some e8 → j 0 0 [(hMO, .inr (6, [.ref hMOz, .ref hMOa, .ref hMOb, .int r5.1, .ref hMOk, .int MOik, .ref hMOt, .int MOln, .ref hMOo, .ref hMOw, .ref hMOm, .ref hMOq, .int MOpl, .int MOiw, .int MOle, .ref hMOn])), (hMOz, .inl (cI, 116, .inl s7.2)), (hMOb, .inl (cI, 464, .inl r5.2)), (hMOo, .inl (cI, 150, .inl MOon)), (hMOw, .inl (cI, 150, .inl MOwy))] [(0, .ref hMO), (1, .int p0), (2, .int p1), (3, .int s7.1)] 33 [] := by
        intro n
        induction n with
        | zero => intro s7 z; exact absurd z (by intro z; cases z)
        | succ n ihe8 =>
          intro s7 h_13
          obtain ⟨q_14, h_15, h_16⟩ := bd_s h_13
          unfold f_X7_shift_b1 at h_15
          refine j_iload_n (pc' := 34) cx 3 dX7_shift_33 rfl rfl ?_
          refine j_aload_n (pc' := 35) cx 0 dX7_shift_34 rfl rfl ?_
          refine j_get (C := RX7) (T := TX7) (N := 16) (pc' := 38) cx uB_X7 0 rfl rfl 0 (by decide) wF_X7_7 (.ref hMOz) rfl dX7_shift_35 rfl ?_
          refine j_bipush (pc' := 40) cx 25 dX7_shift_38 kb_25 rfl ?_
          obtain ⟨i9, h_17⟩ := ck_s h_15
          refine j_iald (pc' := 41) cx 1 0 rfl rfl i9 dX7_shift_40 rfl ?_
          refine j_icmp_ge (tgt := 73) (pc' := 44) cx dX7_shift_41 (by decide) rfl (fun ch_17 => ?_) (fun ch_17 => ?_)
          · have h_18 := it_t h_17 ch_17
            have h_19 := so_i h_18
            subst h_19
            have h_20 := so_i (se_r h_16)
            subst h_20
            refine j_lv (lv' := [(0, .ref hMO)]) cx [0] rfl ?_
            exact KXe8
          · have h_21 := it_f h_17 ch_17
            refine j_aload_n (pc' := 45) cx 0 dX7_shift_44 rfl rfl ?_
            refine j_get (C := RX7) (T := TX7) (N := 16) (pc' := 48) cx uB_X7 0 rfl rfl 0 (by decide) wF_X7_7 (.ref hMOz) rfl dX7_shift_45 rfl ?_
            refine j_bipush (pc' := 50) cx 26 dX7_shift_48 kb_26 rfl ?_
            refine j_iconst (pc' := 51) cx 3 dX7_shift_50 ki_3 rfl ?_
            refine j_iload_n (pc' := 52) cx 3 dX7_shift_51 rfl rfl ?_
            refine j_imul (pc' := 53) cx dX7_shift_52 rfl ?_
            refine j_iadd (pc' := 54) cx dX7_shift_53 rfl ?_
            refine j_iconst (pc' := 55) cx 2 dX7_shift_54 ki_2 rfl ?_
            refine j_iadd (pc' := 56) cx dX7_shift_55 rfl ?_
            refine j_aload_n (pc' := 57) cx 0 dX7_shift_56 rfl rfl ?_
            refine j_iload_n (pc' := 58) cx 3 dX7_shift_57 rfl rfl ?_
            obtain ⟨r10, c11, h_22⟩ := bd_s h_21
            refine j_cV (pc' := 61) cx (c_X7_middleOf l D cI cZ cC cS hMO hMOz hMOa hMOb hMOk hMOt hMOo hMOw hMOm hMOq hMOn r5.1 MOik MOln MOpl MOiw MOle s7.2 s7.1 r10 c11) 1 yk_X7_middleOf wM_X7_58 ⟨wN_X7_middleOf, wS_X7_middleOf, wI_X7, wC_X7_middleOf⟩ ⟨rfl, rfl, Nat.le_of_ble_eq_true rfl, Nat.le_of_ble_eq_true rfl, Nat.le_of_ble_eq_true rfl, Nat.le_of_ble_eq_true rfl⟩ [0, 1] [2, 3, 4] [3, 4, 0, 1, 2] rfl [(hMOb, .inl (cI, 464, .inl r5.2)), (hMOo, .inl (cI, 150, .inl MOon)), (hMOw, .inl (cI, 150, .inl MOwy))] rfl (by decide) [(hMO, .inr (6, [.ref hMOz, .ref hMOa, .ref hMOb, .int r5.1, .ref hMOk, .int MOik, .ref hMOt, .int MOln, .ref hMOo, .ref hMOw, .ref hMOm, .ref hMOq, .int MOpl, .int MOiw, .int MOle, .ref hMOn])), (hMOz, .inl (cI, 116, .inl s7.2)), (hMOb, .inl (cI, 464, .inl r5.2)), (hMOo, .inl (cI, 150, .inl MOon)), (hMOw, .inl (cI, 150, .inl MOwy))] rfl (by decide) 0 6 rfl rfl rfl rfl rfl (Nat.le_of_ble_eq_true rfl) dX7_shift_58 rfl ?_
            refine j_iload_n (pc' := 62) cx 1 dX7_shift_61 rfl rfl ?_
            refine j_iload_n (pc' := 63) cx 2 dX7_shift_62 rfl rfl ?_
            obtain ⟨r12, c13, h_23⟩ := bd_s h_22
            refine j_cS (pc' := 66) cx (c_X7_shifted l D cI cZ cC cS r10 p0 p1 r12 c13) 3 yk_X7_shifted wM_X7_136 ⟨wT_X7_shifted, wI_X7, wC_X7_shifted⟩ ⟨rfl, rfl, Nat.le_of_ble_eq_true rfl, Nat.le_of_ble_eq_true rfl, Nat.le_of_ble_eq_true rfl, Nat.le_of_ble_eq_true rfl⟩ [] [0, 1, 2, 3, 4] [0, 1, 2, 3, 4] rfl [(hMO, .inr (6, [.ref hMOz, .ref hMOa, .ref hMOb, .int r5.1, .ref hMOk, .int MOik, .ref hMOt, .int MOln, .ref hMOo, .ref hMOw, .ref hMOm, .ref hMOq, .int MOpl, .int MOiw, .int MOle, .ref hMOn])), (hMOz, .inl (cI, 116, .inl s7.2)), (hMOb, .inl (cI, 464, .inl r5.2)), (hMOo, .inl (cI, 150, .inl MOon)), (hMOw, .inl (cI, 150, .inl MOwy))] rfl (by decide) [(hMO, .inr (6, [.ref hMOz, .ref hMOa, .ref hMOb, .int r5.1, .ref hMOk, .int MOik, .ref hMOt, .int MOln, .ref hMOo, .ref hMOw, .ref hMOm, .ref hMOq, .int MOpl, .int MOiw, .int MOle, .ref hMOn])), (hMOz, .inl (cI, 116, .inl s7.2)), (hMOb, .inl (cI, 464, .inl r5.2)), (hMOo, .inl (cI, 150, .inl MOon)), (hMOw, .inl (cI, 150, .inl MOwy))] rfl (by decide) rfl rfl (Nat.le_of_ble_eq_true rfl) dX7_shift_63 rfl ?_
            obtain ⟨i14, h_24⟩ := ck_s h_23
            refine j_iast (ws' := [(hMO, .inr (6, [.ref hMOz, .ref hMOa, .ref hMOb, .int r5.1, .ref hMOk, .int MOik, .ref hMOt, .int MOln, .ref hMOo, .ref hMOw, .ref hMOm, .ref hMOq, .int MOpl, .int MOiw, .int MOle, .ref hMOn])), (hMOz, .inl (cI, 116, .inl (upd s7.2 ((26 + (3 * s7.1)) + 2).toNatClampNeg r12))), (hMOb, .inl (cI, 464, .inl r5.2)), (hMOo, .inl (cI, 150, .inl MOon)), (hMOw, .inl (cI, 150, .inl MOwy))]) (pc' := 67) cx 1 0 rfl rfl i14 rfl dX7_shift_66 rfl ?_
            refine j_iinc (v := (s7.1 + 1)) (lv' := [(3, .int (s7.1 + 1)), (0, .ref hMO), (1, .int p0), (2, .int p1)]) (pc' := 70) cx 3 dX7_shift_67 rfl (kn_1 _) (by decide) rfl rfl ?_
            refine j_goto (pc' := 33) cx dX7_shift_70 (by decide) ?_
            have h_25 := so_i h_24
            subst h_25
            refine j_lv (lv' := [(0, .ref hMO), (1, .int p0), (2, .int p1), (3, .int (s7.1 + 1))]) cx [1, 2, 3, 0] rfl ?_
            exact ihe8 _ (se_l h_16)
      refine j_lv (lv' := [(0, .ref hMO), (1, .int p0), (2, .int p1), (3, .int 0)]) cx [1, 2, 3, 0] rfl ?_
      exact LPe8 _ _ h_8
    · have h_26 := it_t h_5 ch_5
      refine j_bipush (pc' := 22) cx (-2) dX7_shift_20 kb_m2 rfl ?_
      have h_27 := so_i h_26
      subst h_27
      exact j_ret cx (Or.inr (Or.inl ⟨_, _, rfl, rfl, dX7_shift_22, rfl, rfl⟩)) ⟨rfl, rfl⟩
set_option maxHeartbeats 4000000 in
set_option maxRecDepth 100000 in
theorem c_X7_fill (l : Launch) (D : va_G) (cI cZ cC cS : ClassId) (hMO hMOz hMOa hMOb hMOk hMOt hMOo hMOw hMOm hMOq hMOn : Nat) (MOst : Int32) (MOik : Int32) (MOln : Int32) (MOpl : Int32) (MOiw : Int32) (MOle : Int32) (MOza : Nat → Int32) (MOas : Nat → Int32) (MObe : Nat → Int32) (MOon : Nat → Int32) (MOwy : Nat → Int32) (p0 : Int32) (out : Int32 × Int32 × (Nat → Int32) × (Nat → Int32) × (Nat → Int32) × (Nat → Int32) × (Nat → Int32)) (hm : f_X7_fill MOst MOza MOas MObe MOon MOwy p0 = some out) : Ct l yX7_fill cX7_fill 5 (some .int) ({ frames := 5, cells := 0, slots := 0, locals := 119 }) (D, TY cI cZ cC cS) [.ref hMO, .int p0] [(hMO, .inr (6, [.ref hMOz, .ref hMOa, .ref hMOb, .int MOst, .ref hMOk, .int MOik, .ref hMOt, .int MOln, .ref hMOo, .ref hMOw, .ref hMOm, .ref hMOq, .int MOpl, .int MOiw, .int MOle, .ref hMOn])), (hMOz, .inl (cI, 116, .inl MOza)), (hMOa, .inl (cI, 116, .inl MOas)), (hMOb, .inl (cI, 464, .inl MObe)), (hMOo, .inl (cI, 150, .inl MOon)), (hMOw, .inl (cI, 150, .inl MOwy))] (jw_P (some (.int out.1)) [(hMO, .inr (6, [.ref hMOz, .ref hMOa, .ref hMOb, .int out.2.1, .ref hMOk, .int MOik, .ref hMOt, .int MOln, .ref hMOo, .ref hMOw, .ref hMOm, .ref hMOq, .int MOpl, .int MOiw, .int MOle, .ref hMOn])), (hMOz, .inl (cI, 116, .inl out.2.2.1)), (hMOa, .inl (cI, 116, .inl out.2.2.2.1)), (hMOb, .inl (cI, 464, .inl out.2.2.2.2.1)), (hMOo, .inl (cI, 150, .inl out.2.2.2.2.2.1)), (hMOw, .inl (cI, 150, .inl out.2.2.2.2.2.2))]) 0 0 := by
  refine ct_of RX7 (by decide +kernel) rfl (Nat.le_of_ble_eq_true rfl) (fun j cx => ?_)
  unfold f_X7_fill at hm
  show j 0 0 [(hMO, .inr (6, [.ref hMOz, .ref hMOa, .ref hMOb, .int MOst, .ref hMOk, .int MOik, .ref hMOt, .int MOln, .ref hMOo, .ref hMOw, .ref hMOm, .ref hMOq, .int MOpl, .int MOiw, .int MOle, .ref hMOn])), (hMOz, .inl (cI, 116, .inl MOza)), (hMOa, .inl (cI, 116, .inl MOas)), (hMOb, .inl (cI, 464, .inl MObe)), (hMOo, .inl (cI, 150, .inl MOon)), (hMOw, .inl (cI, 150, .inl MOwy))] [(0, .ref hMO), (1, .int p0)] 0 []
  refine j_iload_n (pc' := 1) cx 1 dX7_fill_0 rfl rfl ?_
  obtain ⟨r1, c2, h_1⟩ := bd_s hm
  refine j_cS (pc' := 4) cx (c_X7_isKind l D cI cZ cC cS p0 r1 c2) 1 yk_X7_isKind wM_X7_101 ⟨wT_X7_isKind, wI_X7, wC_X7_isKind⟩ ⟨rfl, rfl, Nat.le_of_ble_eq_true rfl, Nat.le_of_ble_eq_true rfl, Nat.le_of_ble_eq_true rfl, Nat.le_of_ble_eq_true rfl⟩ [] [0, 1, 2, 3, 4, 5] [0, 1, 2, 3, 4, 5] rfl [(hMO, .inr (6, [.ref hMOz, .ref hMOa, .ref hMOb, .int MOst, .ref hMOk, .int MOik, .ref hMOt, .int MOln, .ref hMOo, .ref hMOw, .ref hMOm, .ref hMOq, .int MOpl, .int MOiw, .int MOle, .ref hMOn])), (hMOz, .inl (cI, 116, .inl MOza)), (hMOa, .inl (cI, 116, .inl MOas)), (hMOb, .inl (cI, 464, .inl MObe)), (hMOo, .inl (cI, 150, .inl MOon)), (hMOw, .inl (cI, 150, .inl MOwy))] rfl (by decide) [(hMO, .inr (6, [.ref hMOz, .ref hMOa, .ref hMOb, .int MOst, .ref hMOk, .int MOik, .ref hMOt, .int MOln, .ref hMOo, .ref hMOw, .ref hMOm, .ref hMOq, .int MOpl, .int MOiw, .int MOle, .ref hMOn])), (hMOz, .inl (cI, 116, .inl MOza)), (hMOa, .inl (cI, 116, .inl MOas)), (hMOb, .inl (cI, 464, .inl MObe)), (hMOo, .inl (cI, 150, .inl MOon)), (hMOw, .inl (cI, 150, .inl MOwy))] rfl (by decide) rfl rfl (Nat.le_of_ble_eq_true rfl) dX7_fill_1 rfl ?_
  refine j_if_ne (tgt := 9) (pc' := 7) cx dX7_fill_4 (by decide) rfl (fun ch_1 => ?_) (fun ch_1 => ?_)
  · have h_2 := it_f h_1 ch_1
    refine j_aload_n (pc' := 10) cx 0 dX7_fill_9 rfl rfl ?_
    obtain ⟨r3, c4, h_3⟩ := bd_s h_2
    refine j_cV (pc' := 13) cx (c_X7_putAside l D cI cZ cC cS hMO hMOz hMOa hMOb hMOk hMOt hMOo hMOw hMOm hMOq hMOn MOst MOik MOln MOpl MOiw MOle MOza MOas r3 c4) 0 yk_X7_putAside wM_X7_104 ⟨wN_X7_putAside, wS_X7_putAside, wI_X7, wC_X7_putAside⟩ ⟨rfl, rfl, Nat.le_of_ble_eq_true rfl, Nat.le_of_ble_eq_true rfl, Nat.le_of_ble_eq_true rfl, Nat.le_of_ble_eq_true rfl⟩ [0, 1, 2] [3, 4, 5] [3, 4, 5, 0, 1, 2] rfl [(hMOb, .inl (cI, 464, .inl MObe)), (hMOo, .inl (cI, 150, .inl MOon)), (hMOw, .inl (cI, 150, .inl MOwy))] rfl (by decide) [(hMO, .inr (6, [.ref hMOz, .ref hMOa, .ref hMOb, .int MOst, .ref hMOk, .int MOik, .ref hMOt, .int MOln, .ref hMOo, .ref hMOw, .ref hMOm, .ref hMOq, .int MOpl, .int MOiw, .int MOle, .ref hMOn])), (hMOz, .inl (cI, 116, .inl MOza)), (hMOa, .inl (cI, 116, .inl r3)), (hMOb, .inl (cI, 464, .inl MObe)), (hMOo, .inl (cI, 150, .inl MOon)), (hMOw, .inl (cI, 150, .inl MOwy))] rfl (by decide) 0 6 rfl rfl rfl rfl rfl (Nat.le_of_ble_eq_true rfl) dX7_fill_10 rfl ?_
    refine j_iconst (pc' := 14) cx 0 dX7_fill_13 ki_0 rfl ?_
    refine j_istore_n (lv' := [(2, .int 0), (0, .ref hMO), (1, .int p0)]) (pc' := 15) cx dX7_fill_14 (by decide) rfl rfl ?_
    refine j_iconst (pc' := 16) cx 0 dX7_fill_15 ki_0 rfl ?_
    refine j_istore_n (lv' := [(3, .int 0), (2, .int 0), (0, .ref hMO), (1, .int p0)]) (pc' := 17) cx dX7_fill_16 (by decide) rfl rfl ?_
    obtain ⟨e6, h_4, h_5⟩ := bd_s h_3
    have KXe6 : j 0 0 [(hMO, .inr (6, [.ref hMOz, .ref hMOa, .ref hMOb, .int MOst, .ref hMOk, .int MOik, .ref hMOt, .int MOln, .ref hMOo, .ref hMOw, .ref hMOm, .ref hMOq, .int MOpl, .int MOiw, .int MOle, .ref hMOn])), (hMOz, .inl (cI, 116, .inl e6.2.2.1)), (hMOa, .inl (cI, 116, .inl r3)), (hMOb, .inl (cI, 464, .inl MObe)), (hMOo, .inl (cI, 150, .inl e6.2.2.2.1)), (hMOw, .inl (cI, 150, .inl e6.2.2.2.2))] [(0, .ref hMO), (2, .int e6.1)] 73 [] := by
      refine j_iload_n (pc' := 74) cx 1 dX7_fill_73 rfl rfl ?_
      refine j_if_ne (tgt := 80) (pc' := 77) cx dX7_fill_74 (by decide) rfl (fun ch_5 => ?_) (fun ch_5 => ?_)
      · have h_6 := it_f h_5 ch_5
        refine j_aload_n (pc' := 81) cx 0 dX7_fill_80 rfl rfl ?_
        refine j_aload_n (pc' := 82) cx 0 dX7_fill_81 rfl rfl ?_
        refine j_get (C := RX7) (T := TX7) (N := 16) (pc' := 85) cx uB_X7 0 rfl rfl 1 (by decide) wF_X7_13 (.ref hMOa) rfl dX7_fill_82 rfl ?_
        obtain ⟨r14, c15, h_7⟩ := bd_s h_6
        refine j_cV (pc' := 88) cx (c_X7_record l D cI cZ cC cS hMOa hMO hMOz hMOa hMOb hMOk hMOt hMOo hMOw hMOm hMOq hMOn r3 MOst MOik MOln MOpl MOiw MOle MObe r14 c15) 1 yk_X7_record wM_X7_90 ⟨wN_X7_record, wS_X7_record, wI_X7, wC_X7_record⟩ ⟨rfl, rfl, Nat.le_of_ble_eq_true rfl, Nat.le_of_ble_eq_true rfl, Nat.le_of_ble_eq_true rfl, Nat.le_of_ble_eq_true rfl⟩ [2, 0, 3] [1, 4, 5] [4, 0, 3, 5, 1, 2] rfl [(hMOz, .inl (cI, 116, .inl e6.2.2.1)), (hMOo, .inl (cI, 150, .inl e6.2.2.2.1)), (hMOw, .inl (cI, 150, .inl e6.2.2.2.2))] rfl (by decide) [(hMO, .inr (6, [.ref hMOz, .ref hMOa, .ref hMOb, .int r14.1, .ref hMOk, .int MOik, .ref hMOt, .int MOln, .ref hMOo, .ref hMOw, .ref hMOm, .ref hMOq, .int MOpl, .int MOiw, .int MOle, .ref hMOn])), (hMOz, .inl (cI, 116, .inl e6.2.2.1)), (hMOa, .inl (cI, 116, .inl r3)), (hMOb, .inl (cI, 464, .inl r14.2)), (hMOo, .inl (cI, 150, .inl e6.2.2.2.1)), (hMOw, .inl (cI, 150, .inl e6.2.2.2.2))] rfl (by decide) 0 6 rfl rfl rfl rfl rfl (Nat.le_of_ble_eq_true rfl) dX7_fill_85 rfl ?_
        refine j_iload_n (pc' := 89) cx 1 dX7_fill_88 rfl rfl ?_
        have h_8 := so_i h_7
        subst h_8
        exact j_ret cx (Or.inr (Or.inl ⟨_, _, rfl, rfl, dX7_fill_89, rfl, rfl⟩)) ⟨rfl, rfl⟩
      · have h_9 := it_t h_5 ch_5
        refine j_bipush (pc' := 79) cx (-5) dX7_fill_77 kb_m5 rfl ?_
        have h_10 := so_i h_9
        subst h_10
        exact j_ret cx (Or.inr (Or.inl ⟨_, _, rfl, rfl, dX7_fill_79, rfl, rfl⟩)) ⟨rfl, rfl⟩
    have LPe6 : ∀ (n : Nat) (s5 : Int32 × Int32 × (Nat → Int32) × (Nat → Int32) × (Nat → Int32)), lp (f_X7_fill_b2 p0) n s5 = some e6 → j 0 0 [(hMO, .inr (6, [.ref hMOz, .ref hMOa, .ref hMOb, .int MOst, .ref hMOk, .int MOik, .ref hMOt, .int MOln, .ref hMOo, .ref hMOw, .ref hMOm, .ref hMOq, .int MOpl, .int MOiw, .int MOle, .ref hMOn])), (hMOz, .inl (cI, 116, .inl s5.2.2.1)), (hMOa, .inl (cI, 116, .inl r3)), (hMOb, .inl (cI, 464, .inl MObe)), (hMOo, .inl (cI, 150, .inl s5.2.2.2.1)), (hMOw, .inl (cI, 150, .inl s5.2.2.2.2))] [(0, .ref hMO), (1, .int p0), (2, .int s5.1), (3, .int s5.2.1)] 17 [] := by
      intro n
      induction n with
      | zero => intro s5 z; exact absurd z (by intro z; cases z)
      | succ n ihe6 =>
        intro s5 h_11
        obtain ⟨q_12, h_13, h_14⟩ := bd_s h_11
        unfold f_X7_fill_b2 at h_13
        refine j_iload_n (pc' := 18) cx 3 dX7_fill_17 rfl rfl ?_
        refine j_sipush (pc' := 21) cx 150 dX7_fill_18 ks_150 rfl ?_
        refine j_icmp_ge (tgt := 73) (pc' := 24) cx dX7_fill_21 (by decide) rfl (fun ch_13 => ?_) (fun ch_13 => ?_)
        · have h_15 := it_t h_13 ch_13
          have h_16 := so_i h_15
          subst h_16
          have h_17 := so_i (se_r h_14)
          subst h_17
          refine j_lv (lv' := [(0, .ref hMO), (2, .int s5.1)]) cx [0, 2] rfl ?_
          exact KXe6
        · have h_18 := it_f h_13 ch_13
          refine j_iconst (pc' := 25) cx 0 dX7_fill_24 ki_0 rfl ?_
          refine j_istore (lv' := [(4, .int 0), (0, .ref hMO), (1, .int p0), (2, .int s5.1), (3, .int s5.2.1)]) (pc' := 27) cx dX7_fill_25 (by decide) rfl rfl ?_
          obtain ⟨e8, h_19, h_20⟩ := bd_s h_18
          have KXe8 : j 0 0 [(hMO, .inr (6, [.ref hMOz, .ref hMOa, .ref hMOb, .int MOst, .ref hMOk, .int MOik, .ref hMOt, .int MOln, .ref hMOo, .ref hMOw, .ref hMOm, .ref hMOq, .int MOpl, .int MOiw, .int MOle, .ref hMOn])), (hMOz, .inl (cI, 116, .inl s5.2.2.1)), (hMOa, .inl (cI, 116, .inl r3)), (hMOb, .inl (cI, 464, .inl MObe)), (hMOo, .inl (cI, 150, .inl s5.2.2.2.1)), (hMOw, .inl (cI, 150, .inl s5.2.2.2.2))] [(0, .ref hMO), (1, .int p0), (2, .int s5.1), (3, .int s5.2.1), (4, .int e8)] 50 [] := by
            refine j_iload (pc' := 52) cx 4 dX7_fill_50 rfl rfl ?_
            refine j_iconst (pc' := 53) cx 4 dX7_fill_52 ki_4 rfl ?_
            obtain ⟨t13, h_22, h_21⟩ := bd_s h_20
            have Kt13 : j 0 0 [(hMO, .inr (6, [.ref hMOz, .ref hMOa, .ref hMOb, .int MOst, .ref hMOk, .int MOik, .ref hMOt, .int MOln, .ref hMOo, .ref hMOw, .ref hMOm, .ref hMOq, .int MOpl, .int MOiw, .int MOle, .ref hMOn])), (hMOz, .inl (cI, 116, .inl t13.2.1)), (hMOa, .inl (cI, 116, .inl r3)), (hMOb, .inl (cI, 464, .inl MObe)), (hMOo, .inl (cI, 150, .inl t13.2.2.1)), (hMOw, .inl (cI, 150, .inl t13.2.2.2))] [(0, .ref hMO), (1, .int p0), (2, .int t13.1), (3, .int s5.2.1)] 67 [] := by
              refine j_iinc (v := (s5.2.1 + 1)) (lv' := [(3, .int (s5.2.1 + 1)), (0, .ref hMO), (1, .int p0), (2, .int t13.1)]) (pc' := 70) cx 3 dX7_fill_67 rfl (kn_1 _) (by decide) rfl rfl ?_
              refine j_goto (pc' := 17) cx dX7_fill_70 (by decide) ?_
              have h_23 := so_i h_21
              subst h_23
              refine j_lv (lv' := [(0, .ref hMO), (1, .int p0), (2, .int t13.1), (3, .int (s5.2.1 + 1))]) cx [1, 2, 3, 0] rfl ?_
              exact ihe6 _ (se_l h_14)
            refine j_icmp_ge (tgt := 67) (pc' := 56) cx dX7_fill_53 (by decide) rfl (fun ch_22 => ?_) (fun ch_22 => ?_)
            · have h_24 := it_t h_22 ch_22
              have h_25 := so_i h_24
              subst h_25
              refine j_lv (lv' := [(0, .ref hMO), (1, .int p0), (2, .int s5.1), (3, .int s5.2.1)]) cx [0, 1, 2, 3] rfl ?_
              exact Kt13
            · have h_26 := it_f h_22 ch_22
              refine j_aload_n (pc' := 57) cx 0 dX7_fill_56 rfl rfl ?_
              refine j_iload_n (pc' := 58) cx 1 dX7_fill_57 rfl rfl ?_
              refine j_iload (pc' := 60) cx 4 dX7_fill_58 rfl rfl ?_
              refine j_iload_n (pc' := 61) cx 3 dX7_fill_60 rfl rfl ?_
              obtain ⟨r11, c12, h_27⟩ := bd_s h_26
              refine j_cV (pc' := 64) cx (c_X7_add l D cI cZ cC cS hMO hMOz hMOa hMOb hMOk hMOt hMOo hMOw hMOm hMOq hMOn MOst MOik MOln MOpl MOiw MOle s5.2.2.1 s5.2.2.2.1 s5.2.2.2.2 p0 e8 s5.2.1 r11 c12) 3 yk_X7_add wM_X7_122 ⟨wN_X7_add, wS_X7_add, wI_X7, wC_X7_add⟩ ⟨rfl, rfl, Nat.le_of_ble_eq_true rfl, Nat.le_of_ble_eq_true rfl, Nat.le_of_ble_eq_true rfl, Nat.le_of_ble_eq_true rfl⟩ [0, 1, 4, 5] [2, 3] [2, 3, 0, 1, 4, 5] rfl [(hMOa, .inl (cI, 116, .inl r3)), (hMOb, .inl (cI, 464, .inl MObe))] rfl (by decide) [(hMO, .inr (6, [.ref hMOz, .ref hMOa, .ref hMOb, .int MOst, .ref hMOk, .int MOik, .ref hMOt, .int MOln, .ref hMOo, .ref hMOw, .ref hMOm, .ref hMOq, .int MOpl, .int MOiw, .int MOle, .ref hMOn])), (hMOz, .inl (cI, 116, .inl r11.1)), (hMOa, .inl (cI, 116, .inl r3)), (hMOb, .inl (cI, 464, .inl MObe)), (hMOo, .inl (cI, 150, .inl r11.2.1)), (hMOw, .inl (cI, 150, .inl r11.2.2))] rfl (by decide) 0 6 rfl rfl rfl rfl rfl (Nat.le_of_ble_eq_true rfl) dX7_fill_61 rfl ?_
              refine j_iinc (v := (s5.1 + 1)) (lv' := [(2, .int (s5.1 + 1)), (0, .ref hMO), (1, .int p0), (3, .int s5.2.1), (4, .int e8)]) (pc' := 67) cx 2 dX7_fill_64 rfl (kn_1 _) (by decide) rfl rfl ?_
              have h_28 := so_i h_27
              subst h_28
              refine j_lv (lv' := [(0, .ref hMO), (1, .int p0), (2, .int (s5.1 + 1)), (3, .int s5.2.1)]) cx [1, 2, 0, 3] rfl ?_
              exact Kt13
          have LPe8 : ∀ (n : Nat) (s7 : Int32), lp (f_X7_fill_b1 p0 s5) n s7 = some e8 → j 0 0 [(hMO, .inr (6, [.ref hMOz, .ref hMOa, .ref hMOb, .int MOst, .ref hMOk, .int MOik, .ref hMOt, .int MOln, .ref hMOo, .ref hMOw, .ref hMOm, .ref hMOq, .int MOpl, .int MOiw, .int MOle, .ref hMOn])), (hMOz, .inl (cI, 116, .inl s5.2.2.1)), (hMOa, .inl (cI, 116, .inl r3)), (hMOb, .inl (cI, 464, .inl MObe)), (hMOo, .inl (cI, 150, .inl s5.2.2.2.1)), (hMOw, .inl (cI, 150, .inl s5.2.2.2.2))] [(0, .ref hMO), (1, .int p0), (2, .int s5.1), (3, .int s5.2.1), (4, .int s7)] 27 [] := by
            intro n
            induction n with
            | zero => intro s7 z; exact absurd z (by intro z; cases z)
            | succ n ihe8 =>
              intro s7 h_29
              obtain ⟨q_30, h_31, h_32⟩ := bd_s h_29
              unfold f_X7_fill_b1 at h_31
              refine j_iload (pc' := 29) cx 4 dX7_fill_27 rfl rfl ?_
              refine j_iconst (pc' := 30) cx 4 dX7_fill_29 ki_4 rfl ?_
              refine j_icmp_ge (tgt := 50) (pc' := 33) cx dX7_fill_30 (by decide) rfl (fun ch_31 => ?_) (fun ch_31 => ?_)
              · have h_33 := it_t h_31 ch_31
                have h_34 := so_i h_33
                subst h_34
                have h_35 := so_i (se_r h_32)
                subst h_35
                exact KXe8
              · have h_36 := it_f h_31 ch_31
                refine j_aload_n (pc' := 34) cx 0 dX7_fill_33 rfl rfl ?_
                refine j_iload_n (pc' := 35) cx 1 dX7_fill_34 rfl rfl ?_
                refine j_iload (pc' := 37) cx 4 dX7_fill_35 rfl rfl ?_
                refine j_iload_n (pc' := 38) cx 3 dX7_fill_37 rfl rfl ?_
                obtain ⟨r9, c10, h_37⟩ := bd_s h_36
                refine j_cV (pc' := 41) cx (c_X7_why l D cI cZ cC cS hMO hMOz hMOa hMOb hMOk hMOt hMOo hMOw hMOm hMOq hMOn MOst MOik MOln MOpl MOiw MOle s5.2.2.1 s5.2.2.2.1 s5.2.2.2.2 p0 s7 s5.2.1 r9 c10) 3 yk_X7_why wM_X7_116 ⟨wN_X7_why, wS_X7_why, wI_X7, wC_X7_why⟩ ⟨rfl, rfl, Nat.le_of_ble_eq_true rfl, Nat.le_of_ble_eq_true rfl, Nat.le_of_ble_eq_true rfl, Nat.le_of_ble_eq_true rfl⟩ [0, 1, 4, 5] [2, 3] [2, 3, 0, 1, 4, 5] rfl [(hMOa, .inl (cI, 116, .inl r3)), (hMOb, .inl (cI, 464, .inl MObe))] rfl (by decide) [(hMO, .inr (6, [.ref hMOz, .ref hMOa, .ref hMOb, .int MOst, .ref hMOk, .int MOik, .ref hMOt, .int MOln, .ref hMOo, .ref hMOw, .ref hMOm, .ref hMOq, .int MOpl, .int MOiw, .int MOle, .ref hMOn])), (hMOz, .inl (cI, 116, .inl s5.2.2.1)), (hMOa, .inl (cI, 116, .inl r3)), (hMOb, .inl (cI, 464, .inl MObe)), (hMOo, .inl (cI, 150, .inl s5.2.2.2.1)), (hMOw, .inl (cI, 150, .inl s5.2.2.2.2))] rfl (by decide) 0 6 rfl rfl rfl rfl rfl (Nat.le_of_ble_eq_true rfl) dX7_fill_38 rfl ?_
                refine j_if_le (tgt := 50) (pc' := 44) cx dX7_fill_41 (by decide) rfl (fun ch_37 => ?_) (fun ch_37 => ?_)
                · have h_38 := it_t h_37 ch_37
                  have h_39 := so_i h_38
                  subst h_39
                  have h_40 := so_i (se_r h_32)
                  subst h_40
                  exact KXe8
                · have h_41 := it_f h_37 ch_37
                  refine j_iinc (v := (s7 + 1)) (lv' := [(4, .int (s7 + 1)), (0, .ref hMO), (1, .int p0), (2, .int s5.1), (3, .int s5.2.1)]) (pc' := 47) cx 4 dX7_fill_44 rfl (kn_1 _) (by decide) rfl rfl ?_
                  refine j_goto (pc' := 27) cx dX7_fill_47 (by decide) ?_
                  have h_42 := so_i h_41
                  subst h_42
                  refine j_lv (lv' := [(0, .ref hMO), (1, .int p0), (2, .int s5.1), (3, .int s5.2.1), (4, .int (s7 + 1))]) cx [1, 2, 3, 4, 0] rfl ?_
                  exact ihe8 _ (se_l h_32)
          refine j_lv (lv' := [(0, .ref hMO), (1, .int p0), (2, .int s5.1), (3, .int s5.2.1), (4, .int 0)]) cx [1, 2, 3, 4, 0] rfl ?_
          exact LPe8 _ _ h_19
    refine j_lv (lv' := [(0, .ref hMO), (1, .int p0), (2, .int 0), (3, .int 0)]) cx [2, 3, 1, 0] rfl ?_
    exact LPe6 _ _ h_4
  · have h_43 := it_t h_1 ch_1
    refine j_iconst (pc' := 8) cx (-1) dX7_fill_7 ki_m1 rfl ?_
    have h_44 := so_i h_43
    subst h_44
    exact j_ret cx (Or.inr (Or.inl ⟨_, _, rfl, rfl, dX7_fill_8, rfl, rfl⟩)) ⟨rfl, rfl⟩
set_option maxHeartbeats 4000000 in
set_option maxRecDepth 100000 in
theorem c_X7_type (l : Launch) (D : va_G) (cI cZ cC cS : ClassId) (hMO hMOz hMOa hMOb hMOk hMOt hMOo hMOw hMOm hMOq hMOn : Nat) (MOst : Int32) (MOik : Int32) (MOln : Int32) (MOpl : Int32) (MOiw : Int32) (MOle : Int32) (MOtx : Nat → Int32) (p0 : Int32) (out : Int32 × Int32 × (Nat → Int32)) (hm : f_X7_type MOln MOtx p0 = some out) : Ct l yX7_type cX7_type 2 (some .int) ({ frames := 0, cells := 0, slots := 0, locals := 0 }) (D, TY cI cZ cC cS) [.ref hMO, .int p0] [(hMO, .inr (6, [.ref hMOz, .ref hMOa, .ref hMOb, .int MOst, .ref hMOk, .int MOik, .ref hMOt, .int MOln, .ref hMOo, .ref hMOw, .ref hMOm, .ref hMOq, .int MOpl, .int MOiw, .int MOle, .ref hMOn])), (hMOt, .inl (cI, 60, .inl MOtx))] (jw_P (some (.int out.1)) [(hMO, .inr (6, [.ref hMOz, .ref hMOa, .ref hMOb, .int MOst, .ref hMOk, .int MOik, .ref hMOt, .int out.2.1, .ref hMOo, .ref hMOw, .ref hMOm, .ref hMOq, .int MOpl, .int MOiw, .int MOle, .ref hMOn])), (hMOt, .inl (cI, 60, .inl out.2.2))]) 0 0 := by
  refine ct_of RX7 (by decide +kernel) rfl (Nat.le_of_ble_eq_true rfl) (fun j cx => ?_)
  unfold f_X7_type at hm
  show j 0 0 [(hMO, .inr (6, [.ref hMOz, .ref hMOa, .ref hMOb, .int MOst, .ref hMOk, .int MOik, .ref hMOt, .int MOln, .ref hMOo, .ref hMOw, .ref hMOm, .ref hMOq, .int MOpl, .int MOiw, .int MOle, .ref hMOn])), (hMOt, .inl (cI, 60, .inl MOtx))] [(0, .ref hMO), (1, .int p0)] 0 []
  refine j_aload_n (pc' := 1) cx 0 dX7_type_0 rfl rfl ?_
  refine j_get (C := RX7) (T := TX7) (N := 16) (pc' := 4) cx uB_X7 0 rfl rfl 7 (by decide) wF_X7_139 (.int MOln) rfl dX7_type_1 rfl ?_
  refine j_bipush (pc' := 6) cx 60 dX7_type_4 kb_60 rfl ?_
  refine j_icmp_ne (tgt := 12) (pc' := 9) cx dX7_type_6 (by decide) rfl (fun chm => ?_) (fun chm => ?_)
  · have h_1 := it_f hm chm
    refine j_aload_n (pc' := 13) cx 0 dX7_type_12 rfl rfl ?_
    refine j_get (C := RX7) (T := TX7) (N := 16) (pc' := 16) cx uB_X7 0 rfl rfl 6 (by decide) wF_X7_22 (.ref hMOt) rfl dX7_type_13 rfl ?_
    refine j_aload_n (pc' := 17) cx 0 dX7_type_16 rfl rfl ?_
    refine j_get (C := RX7) (T := TX7) (N := 16) (pc' := 20) cx uB_X7 0 rfl rfl 7 (by decide) wF_X7_139 (.int MOln) rfl dX7_type_17 rfl ?_
    refine j_iload_n (pc' := 21) cx 1 dX7_type_20 rfl rfl ?_
    obtain ⟨i1, h_2⟩ := ck_s h_1
    refine j_iast (ws' := [(hMO, .inr (6, [.ref hMOz, .ref hMOa, .ref hMOb, .int MOst, .ref hMOk, .int MOik, .ref hMOt, .int MOln, .ref hMOo, .ref hMOw, .ref hMOm, .ref hMOq, .int MOpl, .int MOiw, .int MOle, .ref hMOn])), (hMOt, .inl (cI, 60, .inl (upd MOtx MOln.toNatClampNeg p0)))]) (pc' := 22) cx 1 0 rfl rfl i1 rfl dX7_type_21 rfl ?_
    refine j_aload_n (pc' := 23) cx 0 dX7_type_22 rfl rfl ?_
    refine j_dup (pc' := 24) cx dX7_type_23 rfl rfl ?_
    refine j_get (C := RX7) (T := TX7) (N := 16) (pc' := 27) cx uB_X7 0 rfl rfl 7 (by decide) wF_X7_139 (.int MOln) rfl dX7_type_24 rfl ?_
    refine j_iconst (pc' := 28) cx 1 dX7_type_27 ki_1 rfl ?_
    refine j_iadd (pc' := 29) cx dX7_type_28 rfl ?_
    refine j_put (C := RX7) (T := TX7) (N := 16) (ws' := [(hMO, .inr (6, [.ref hMOz, .ref hMOa, .ref hMOb, .int MOst, .ref hMOk, .int MOik, .ref hMOt, .int (MOln + 1), .ref hMOo, .ref hMOw, .ref hMOm, .ref hMOq, .int MOpl, .int MOiw, .int MOle, .ref hMOn])), (hMOt, .inl (cI, 60, .inl (upd MOtx MOln.toNatClampNeg p0)))]) (pc' := 32) cx uB_X7 tyX7 tyX7_ok nmX7 0 rfl rfl 7 (by decide) wF_X7_139 rfl rfl rfl (Nat.le_of_ble_eq_true rfl) rfl dX7_type_29 rfl ?_
    refine j_aload_n (pc' := 33) cx 0 dX7_type_32 rfl rfl ?_
    refine j_get (C := RX7) (T := TX7) (N := 16) (pc' := 36) cx uB_X7 0 rfl rfl 7 (by decide) wF_X7_139 (.int (MOln + 1)) rfl dX7_type_33 rfl ?_
    have h_3 := so_i h_2
    subst h_3
    exact j_ret cx (Or.inr (Or.inl ⟨_, _, rfl, rfl, dX7_type_36, rfl, rfl⟩)) ⟨rfl, rfl⟩
  · have h_4 := it_t hm chm
    refine j_bipush (pc' := 11) cx (-3) dX7_type_9 kb_m3 rfl ?_
    have h_5 := so_i h_4
    subst h_5
    exact j_ret cx (Or.inr (Or.inl ⟨_, _, rfl, rfl, dX7_type_11, rfl, rfl⟩)) ⟨rfl, rfl⟩
set_option maxHeartbeats 4000000 in
set_option maxRecDepth 100000 in
theorem c_X7_clearText (l : Launch) (D : va_G) (cI cZ cC cS : ClassId) (hMO hMOz hMOa hMOb hMOk hMOt hMOo hMOw hMOm hMOq hMOn : Nat) (MOst : Int32) (MOik : Int32) (MOln : Int32) (MOpl : Int32) (MOiw : Int32) (MOle : Int32) (out : Int32 × Int32) (hm : f_X7_clearText MOln = some out) : Ct l yX7_clearText cX7_clearText 2 (some .int) ({ frames := 0, cells := 0, slots := 0, locals := 0 }) (D, TY cI cZ cC cS) [.ref hMO] [(hMO, .inr (6, [.ref hMOz, .ref hMOa, .ref hMOb, .int MOst, .ref hMOk, .int MOik, .ref hMOt, .int MOln, .ref hMOo, .ref hMOw, .ref hMOm, .ref hMOq, .int MOpl, .int MOiw, .int MOle, .ref hMOn]))] (jw_P (some (.int out.1)) [(hMO, .inr (6, [.ref hMOz, .ref hMOa, .ref hMOb, .int MOst, .ref hMOk, .int MOik, .ref hMOt, .int out.2, .ref hMOo, .ref hMOw, .ref hMOm, .ref hMOq, .int MOpl, .int MOiw, .int MOle, .ref hMOn]))]) 0 0 := by
  refine ct_of RX7 (by decide +kernel) rfl (Nat.le_of_ble_eq_true rfl) (fun j cx => ?_)
  unfold f_X7_clearText at hm
  show j 0 0 [(hMO, .inr (6, [.ref hMOz, .ref hMOa, .ref hMOb, .int MOst, .ref hMOk, .int MOik, .ref hMOt, .int MOln, .ref hMOo, .ref hMOw, .ref hMOm, .ref hMOq, .int MOpl, .int MOiw, .int MOle, .ref hMOn]))] [(0, .ref hMO)] 0 []
  refine j_aload_n (pc' := 1) cx 0 dX7_clearText_0 rfl rfl ?_
  refine j_get (C := RX7) (T := TX7) (N := 16) (pc' := 4) cx uB_X7 0 rfl rfl 7 (by decide) wF_X7_139 (.int MOln) rfl dX7_clearText_1 rfl ?_
  refine j_istore_n (lv' := [(1, .int MOln), (0, .ref hMO)]) (pc' := 5) cx dX7_clearText_4 (by decide) rfl rfl ?_
  refine j_aload_n (pc' := 6) cx 1 dX7_clearText_5 rfl rfl ?_
  refine j_iconst (pc' := 7) cx 0 dX7_clearText_6 ki_0 rfl ?_
  refine j_put (C := RX7) (T := TX7) (N := 16) (ws' := [(hMO, .inr (6, [.ref hMOz, .ref hMOa, .ref hMOb, .int MOst, .ref hMOk, .int MOik, .ref hMOt, .int 0, .ref hMOo, .ref hMOw, .ref hMOm, .ref hMOq, .int MOpl, .int MOiw, .int MOle, .ref hMOn]))]) (pc' := 10) cx uB_X7 tyX7 tyX7_ok nmX7 0 rfl rfl 7 (by decide) wF_X7_139 rfl rfl rfl (Nat.le_of_ble_eq_true rfl) rfl dX7_clearText_7 rfl ?_
  refine j_iload_n (pc' := 11) cx 0 dX7_clearText_10 rfl rfl ?_
  have h_1 := so_i hm
  subst h_1
  exact j_ret cx (Or.inr (Or.inl ⟨_, _, rfl, rfl, dX7_clearText_11, rfl, rfl⟩)) ⟨rfl, rfl⟩
set_option maxHeartbeats 4000000 in
set_option maxRecDepth 100000 in
theorem c_X7_sign (l : Launch) (D : va_G) (cI cZ cC cS : ClassId) (hMO hMOz hMOa hMOb hMOk hMOt hMOo hMOw hMOm hMOq hMOn : Nat) (MOst : Int32) (MOik : Int32) (MOln : Int32) (MOpl : Int32) (MOiw : Int32) (MOle : Int32) (MOtx : Nat → Int32) (out : Int32) (hm : f_X7_sign MOln MOpl MOtx = some out) : Ct l yX7_sign cX7_sign 1 (some .int) ({ frames := 0, cells := 0, slots := 0, locals := 0 }) (D, TY cI cZ cC cS) [.ref hMO] [(hMO, .inr (6, [.ref hMOz, .ref hMOa, .ref hMOb, .int MOst, .ref hMOk, .int MOik, .ref hMOt, .int MOln, .ref hMOo, .ref hMOw, .ref hMOm, .ref hMOq, .int MOpl, .int MOiw, .int MOle, .ref hMOn])), (hMOt, .inl (cI, 60, .inl MOtx))] (jw_P (some (.int out)) [(hMO, .inr (6, [.ref hMOz, .ref hMOa, .ref hMOb, .int MOst, .ref hMOk, .int MOik, .ref hMOt, .int MOln, .ref hMOo, .ref hMOw, .ref hMOm, .ref hMOq, .int MOpl, .int MOiw, .int MOle, .ref hMOn])), (hMOt, .inl (cI, 60, .inl MOtx))]) 0 0 := by
  refine ct_of RX7 (by decide +kernel) rfl (Nat.le_of_ble_eq_true rfl) (fun j cx => ?_)
  unfold f_X7_sign at hm
  show j 0 0 [(hMO, .inr (6, [.ref hMOz, .ref hMOa, .ref hMOb, .int MOst, .ref hMOk, .int MOik, .ref hMOt, .int MOln, .ref hMOo, .ref hMOw, .ref hMOm, .ref hMOq, .int MOpl, .int MOiw, .int MOle, .ref hMOn])), (hMOt, .inl (cI, 60, .inl MOtx))] [(0, .ref hMO)] 0 []
  refine j_aload_n (pc' := 1) cx 0 dX7_sign_0 rfl rfl ?_
  refine j_get (C := RX7) (T := TX7) (N := 16) (pc' := 4) cx uB_X7 0 rfl rfl 12 (by decide) wF_X7_142 (.int MOpl) rfl dX7_sign_1 rfl ?_
  refine j_aload_n (pc' := 5) cx 0 dX7_sign_4 rfl rfl ?_
  refine j_get (C := RX7) (T := TX7) (N := 16) (pc' := 8) cx uB_X7 0 rfl rfl 7 (by decide) wF_X7_139 (.int MOln) rfl dX7_sign_5 rfl ?_
  obtain ⟨t2, h_2, h_1⟩ := bd_s hm
  have Kt2 : j 0 0 [(hMO, .inr (6, [.ref hMOz, .ref hMOa, .ref hMOb, .int MOst, .ref hMOk, .int MOik, .ref hMOt, .int MOln, .ref hMOo, .ref hMOw, .ref hMOm, .ref hMOq, .int MOpl, .int MOiw, .int MOle, .ref hMOn])), (hMOt, .inl (cI, 60, .inl MOtx))] [] 24 [.int t2] := by
    have h_3 := so_i h_1
    subst h_3
    exact j_ret cx (Or.inr (Or.inl ⟨_, _, rfl, rfl, dX7_sign_24, rfl, rfl⟩)) ⟨rfl, rfl⟩
  refine j_icmp_ge (tgt := 23) (pc' := 11) cx dX7_sign_8 (by decide) rfl (fun ch_2 => ?_) (fun ch_2 => ?_)
  · have h_4 := it_t h_2 ch_2
    refine j_iconst (pc' := 24) cx 0 dX7_sign_23 ki_0 rfl ?_
    have h_5 := so_i h_4
    subst h_5
    refine j_lv (lv' := []) cx [] rfl ?_
    exact Kt2
  · have h_6 := it_f h_2 ch_2
    refine j_aload_n (pc' := 12) cx 0 dX7_sign_11 rfl rfl ?_
    refine j_get (C := RX7) (T := TX7) (N := 16) (pc' := 15) cx uB_X7 0 rfl rfl 6 (by decide) wF_X7_22 (.ref hMOt) rfl dX7_sign_12 rfl ?_
    refine j_aload_n (pc' := 16) cx 0 dX7_sign_15 rfl rfl ?_
    refine j_get (C := RX7) (T := TX7) (N := 16) (pc' := 19) cx uB_X7 0 rfl rfl 12 (by decide) wF_X7_142 (.int MOpl) rfl dX7_sign_16 rfl ?_
    obtain ⟨i1, h_7⟩ := ck_s h_6
    refine j_iald (pc' := 20) cx 1 0 rfl rfl i1 dX7_sign_19 rfl ?_
    refine j_goto (pc' := 24) cx dX7_sign_20 (by decide) ?_
    have h_8 := so_i h_7
    subst h_8
    refine j_lv (lv' := []) cx [] rfl ?_
    exact Kt2
set_option maxHeartbeats 4000000 in
set_option maxRecDepth 100000 in
theorem c_X7_take_ (l : Launch) (D : va_G) (cI cZ cC cS : ClassId) (hMO hMOz hMOa hMOb hMOk hMOt hMOo hMOw hMOm hMOq hMOn : Nat) (MOst : Int32) (MOik : Int32) (MOln : Int32) (MOpl : Int32) (MOiw : Int32) (MOle : Int32) (p0 : Int32) (out : Int32 × Int32) (hm : f_X7_take_ MOpl MOiw p0 = some out) : Ct l yX7_take_ cX7_take_ 2 none ({ frames := 0, cells := 0, slots := 0, locals := 0 }) (D, TY cI cZ cC cS) [.ref hMO, .int p0] [(hMO, .inr (6, [.ref hMOz, .ref hMOa, .ref hMOb, .int MOst, .ref hMOk, .int MOik, .ref hMOt, .int MOln, .ref hMOo, .ref hMOw, .ref hMOm, .ref hMOq, .int MOpl, .int MOiw, .int MOle, .ref hMOn]))] (jw_P none [(hMO, .inr (6, [.ref hMOz, .ref hMOa, .ref hMOb, .int MOst, .ref hMOk, .int MOik, .ref hMOt, .int MOln, .ref hMOo, .ref hMOw, .ref hMOm, .ref hMOq, .int out.1, .int out.2, .int MOle, .ref hMOn]))]) 0 0 := by
  refine ct_of RX7 (by decide +kernel) rfl (Nat.le_of_ble_eq_true rfl) (fun j cx => ?_)
  unfold f_X7_take_ at hm
  show j 0 0 [(hMO, .inr (6, [.ref hMOz, .ref hMOa, .ref hMOb, .int MOst, .ref hMOk, .int MOik, .ref hMOt, .int MOln, .ref hMOo, .ref hMOw, .ref hMOm, .ref hMOq, .int MOpl, .int MOiw, .int MOle, .ref hMOn]))] [(0, .ref hMO), (1, .int p0)] 0 []
  refine j_aload_n (pc' := 1) cx 0 dX7_take__0 rfl rfl ?_
  refine j_aload_n (pc' := 2) cx 0 dX7_take__1 rfl rfl ?_
  refine j_get (C := RX7) (T := TX7) (N := 16) (pc' := 5) cx uB_X7 0 rfl rfl 13 (by decide) wF_X7_145 (.int MOiw) rfl dX7_take__2 rfl ?_
  obtain ⟨t1, h_2, h_1⟩ := bd_s hm
  have Kt1 : j 0 0 [(hMO, .inr (6, [.ref hMOz, .ref hMOa, .ref hMOb, .int MOst, .ref hMOk, .int MOik, .ref hMOt, .int MOln, .ref hMOo, .ref hMOw, .ref hMOm, .ref hMOq, .int MOpl, .int MOiw, .int MOle, .ref hMOn]))] [(0, .ref hMO)] 17 [.int t1, .ref hMO] := by
    obtain ⟨b2, h_3⟩ := ckP_s h_1
    refine j_put (C := RX7) (T := TX7) (N := 16) (ws' := [(hMO, .inr (6, [.ref hMOz, .ref hMOa, .ref hMOb, .int MOst, .ref hMOk, .int MOik, .ref hMOt, .int MOln, .ref hMOo, .ref hMOw, .ref hMOm, .ref hMOq, .int MOpl, .int t1, .int MOle, .ref hMOn]))]) (pc' := 20) cx uB_X7 tyX7 tyX7_ok nmX7 0 rfl rfl 13 (by decide) wF_X7_145 rfl (nz_n b2) (nz_f b2) (Nat.le_of_ble_eq_true rfl) rfl dX7_take__17 rfl ?_
    refine j_aload_n (pc' := 21) cx 0 dX7_take__20 rfl rfl ?_
    refine j_dup (pc' := 22) cx dX7_take__21 rfl rfl ?_
    refine j_get (C := RX7) (T := TX7) (N := 16) (pc' := 25) cx uB_X7 0 rfl rfl 12 (by decide) wF_X7_142 (.int MOpl) rfl dX7_take__22 rfl ?_
    refine j_aload_n (pc' := 26) cx 0 dX7_take__25 rfl rfl ?_
    refine j_get (C := RX7) (T := TX7) (N := 16) (pc' := 29) cx uB_X7 0 rfl rfl 13 (by decide) wF_X7_145 (.int t1) rfl dX7_take__26 rfl ?_
    obtain ⟨t3, h_5, h_4⟩ := bd_s h_3
    have Kt3 : j 0 0 [(hMO, .inr (6, [.ref hMOz, .ref hMOa, .ref hMOb, .int MOst, .ref hMOk, .int MOik, .ref hMOt, .int MOln, .ref hMOo, .ref hMOw, .ref hMOm, .ref hMOq, .int MOpl, .int t1, .int MOle, .ref hMOn]))] [] 37 [.int t3, .int MOpl, .ref hMO] := by
      refine j_iadd (pc' := 38) cx dX7_take__37 rfl ?_
      refine j_put (C := RX7) (T := TX7) (N := 16) (ws' := [(hMO, .inr (6, [.ref hMOz, .ref hMOa, .ref hMOb, .int MOst, .ref hMOk, .int MOik, .ref hMOt, .int MOln, .ref hMOo, .ref hMOw, .ref hMOm, .ref hMOq, .int (MOpl + t3), .int t1, .int MOle, .ref hMOn]))]) (pc' := 41) cx uB_X7 tyX7 tyX7_ok nmX7 0 rfl rfl 12 (by decide) wF_X7_142 rfl rfl rfl (Nat.le_of_ble_eq_true rfl) rfl dX7_take__38 rfl ?_
      have h_6 := so_i h_4
      subst h_6
      exact j_ret cx (Or.inl ⟨rfl, dX7_take__41, rfl, rfl⟩) ⟨rfl, rfl⟩
    refine j_if_eq (tgt := 36) (pc' := 32) cx dX7_take__29 (by decide) rfl (fun ch_5 => ?_) (fun ch_5 => ?_)
    · have h_7 := it_t h_5 ch_5
      refine j_iconst (pc' := 37) cx 1 dX7_take__36 ki_1 rfl ?_
      have h_8 := so_i h_7
      subst h_8
      refine j_lv (lv' := []) cx [] rfl ?_
      exact Kt3
    · have h_9 := it_f h_5 ch_5
      refine j_iconst (pc' := 33) cx 0 dX7_take__32 ki_0 rfl ?_
      refine j_goto (pc' := 37) cx dX7_take__33 (by decide) ?_
      have h_10 := so_i h_9
      subst h_10
      refine j_lv (lv' := []) cx [] rfl ?_
      exact Kt3
  refine j_if_ne (tgt := 12) (pc' := 8) cx dX7_take__5 (by decide) rfl (fun ch_2 => ?_) (fun ch_2 => ?_)
  · have h_11 := it_f h_2 ch_2
    refine j_iconst (pc' := 13) cx 1 dX7_take__12 ki_1 rfl ?_
    refine j_goto (pc' := 17) cx dX7_take__13 (by decide) ?_
    have h_12 := so_i h_11
    subst h_12
    refine j_lv (lv' := [(0, .ref hMO)]) cx [0] rfl ?_
    exact Kt1
  · have h_13 := it_t h_2 ch_2
    refine j_iload_n (pc' := 9) cx 1 dX7_take__8 rfl rfl ?_
    refine j_if_ne (tgt := 16) (pc' := 12) cx dX7_take__9 (by decide) rfl (fun ch_13 => ?_) (fun ch_13 => ?_)
    · have h_14 := it_f h_13 ch_13
      refine j_iconst (pc' := 17) cx 0 dX7_take__16 ki_0 rfl ?_
      have h_15 := so_i h_14
      subst h_15
      refine j_lv (lv' := [(0, .ref hMO)]) cx [0] rfl ?_
      exact Kt1
    · have h_16 := it_t h_13 ch_13
      refine j_iconst (pc' := 13) cx 1 dX7_take__12 ki_1 rfl ?_
      refine j_goto (pc' := 17) cx dX7_take__13 (by decide) ?_
      have h_17 := so_i h_16
      subst h_17
      refine j_lv (lv' := [(0, .ref hMO)]) cx [0] rfl ?_
      exact Kt1
set_option maxHeartbeats 4000000 in
set_option maxRecDepth 100000 in
theorem c_X7_takeDigit (l : Launch) (D : va_G) (cI cZ cC cS : ClassId) (hMO hMOz hMOa hMOb hMOk hMOt hMOo hMOw hMOm hMOq hMOn : Nat) (MOst : Int32) (MOik : Int32) (MOln : Int32) (MOpl : Int32) (MOiw : Int32) (MOle : Int32) (MOtx : Nat → Int32) (p0 : Int32) (out : Int32 × Int32 × Int32) (hm : f_X7_takeDigit MOln MOpl MOiw MOtx p0 = some out) : Ct l yX7_takeDigit cX7_takeDigit 3 (some .int) ({ frames := 1, cells := 0, slots := 0, locals := 22 }) (D, TY cI cZ cC cS) [.ref hMO, .int p0] [(hMO, .inr (6, [.ref hMOz, .ref hMOa, .ref hMOb, .int MOst, .ref hMOk, .int MOik, .ref hMOt, .int MOln, .ref hMOo, .ref hMOw, .ref hMOm, .ref hMOq, .int MOpl, .int MOiw, .int MOle, .ref hMOn])), (hMOt, .inl (cI, 60, .inl MOtx))] (jw_P (some (.int out.1)) [(hMO, .inr (6, [.ref hMOz, .ref hMOa, .ref hMOb, .int MOst, .ref hMOk, .int MOik, .ref hMOt, .int MOln, .ref hMOo, .ref hMOw, .ref hMOm, .ref hMOq, .int out.2.1, .int out.2.2, .int MOle, .ref hMOn])), (hMOt, .inl (cI, 60, .inl MOtx))]) 0 0 := by
  refine ct_of RX7 (by decide +kernel) rfl (Nat.le_of_ble_eq_true rfl) (fun j cx => ?_)
  unfold f_X7_takeDigit at hm
  show j 0 0 [(hMO, .inr (6, [.ref hMOz, .ref hMOa, .ref hMOb, .int MOst, .ref hMOk, .int MOik, .ref hMOt, .int MOln, .ref hMOo, .ref hMOw, .ref hMOm, .ref hMOq, .int MOpl, .int MOiw, .int MOle, .ref hMOn])), (hMOt, .inl (cI, 60, .inl MOtx))] [(0, .ref hMO), (1, .int p0)] 0 []
  refine j_aload_n (pc' := 1) cx 0 dX7_takeDigit_0 rfl rfl ?_
  obtain ⟨r1, c2, h_1⟩ := bd_s hm
  refine j_cV (pc' := 4) cx (c_X7_sign l D cI cZ cC cS hMO hMOz hMOa hMOb hMOk hMOt hMOo hMOw hMOm hMOq hMOn MOst MOik MOln MOpl MOiw MOle MOtx r1 c2) 0 yk_X7_sign wM_X7_148 ⟨wN_X7_sign, wS_X7_sign, wI_X7, wC_X7_sign⟩ ⟨rfl, rfl, Nat.le_of_ble_eq_true rfl, Nat.le_of_ble_eq_true rfl, Nat.le_of_ble_eq_true rfl, Nat.le_of_ble_eq_true rfl⟩ [0, 1] [] [0, 1] rfl [] rfl (by decide) [(hMO, .inr (6, [.ref hMOz, .ref hMOa, .ref hMOb, .int MOst, .ref hMOk, .int MOik, .ref hMOt, .int MOln, .ref hMOo, .ref hMOw, .ref hMOm, .ref hMOq, .int MOpl, .int MOiw, .int MOle, .ref hMOn])), (hMOt, .inl (cI, 60, .inl MOtx))] rfl (by decide) 0 6 rfl rfl rfl rfl rfl (Nat.le_of_ble_eq_true rfl) dX7_takeDigit_1 rfl ?_
  refine j_bipush (pc' := 6) cx 48 dX7_takeDigit_4 kb_48 rfl ?_
  refine j_isub (pc' := 7) cx dX7_takeDigit_6 rfl ?_
  refine j_istore_n (lv' := [(2, .int (r1 - 48)), (0, .ref hMO), (1, .int p0)]) (pc' := 8) cx dX7_takeDigit_7 (by decide) rfl rfl ?_
  refine j_aload_n (pc' := 9) cx 1 dX7_takeDigit_8 rfl rfl ?_
  refine j_iload_n (pc' := 10) cx 0 dX7_takeDigit_9 rfl rfl ?_
  refine j_iconst (pc' := 11) cx 0 dX7_takeDigit_10 ki_0 rfl ?_
  refine j_iload_n (pc' := 12) cx 2 dX7_takeDigit_11 rfl rfl ?_
  obtain ⟨r3, c4, h_2⟩ := bd_s h_1
  refine j_cS (pc' := 15) cx (c_X7_in l D cI cZ cC cS (r1 - 48) 0 p0 r3 c4) 3 yk_X7_in wM_X7_43 ⟨wT_X7_in, wI_X7, wC_X7_in⟩ ⟨rfl, rfl, Nat.le_of_ble_eq_true rfl, Nat.le_of_ble_eq_true rfl, Nat.le_of_ble_eq_true rfl, Nat.le_of_ble_eq_true rfl⟩ [] [0, 1] [0, 1] rfl [(hMO, .inr (6, [.ref hMOz, .ref hMOa, .ref hMOb, .int MOst, .ref hMOk, .int MOik, .ref hMOt, .int MOln, .ref hMOo, .ref hMOw, .ref hMOm, .ref hMOq, .int MOpl, .int MOiw, .int MOle, .ref hMOn])), (hMOt, .inl (cI, 60, .inl MOtx))] rfl (by decide) [(hMO, .inr (6, [.ref hMOz, .ref hMOa, .ref hMOb, .int MOst, .ref hMOk, .int MOik, .ref hMOt, .int MOln, .ref hMOo, .ref hMOw, .ref hMOm, .ref hMOq, .int MOpl, .int MOiw, .int MOle, .ref hMOn])), (hMOt, .inl (cI, 60, .inl MOtx))] rfl (by decide) rfl rfl (Nat.le_of_ble_eq_true rfl) dX7_takeDigit_12 rfl ?_
  obtain ⟨r5, c6, h_3⟩ := bd_s h_2
  refine j_cV (pc' := 18) cx (c_X7_take_ l D cI cZ cC cS hMO hMOz hMOa hMOb hMOk hMOt hMOo hMOw hMOm hMOq hMOn MOst MOik MOln MOpl MOiw MOle r3 r5 c6) 1 yk_X7_take_ wM_X7_152 ⟨wN_X7_take_, wS_X7_take_, wI_X7, wC_X7_take_⟩ ⟨rfl, rfl, Nat.le_of_ble_eq_true rfl, Nat.le_of_ble_eq_true rfl, Nat.le_of_ble_eq_true rfl, Nat.le_of_ble_eq_true rfl⟩ [0] [1] [1, 0] rfl [(hMOt, .inl (cI, 60, .inl MOtx))] rfl (by decide) [(hMO, .inr (6, [.ref hMOz, .ref hMOa, .ref hMOb, .int MOst, .ref hMOk, .int MOik, .ref hMOt, .int MOln, .ref hMOo, .ref hMOw, .ref hMOm, .ref hMOq, .int r5.1, .int r5.2, .int MOle, .ref hMOn])), (hMOt, .inl (cI, 60, .inl MOtx))] rfl (by decide) 0 6 rfl rfl rfl rfl rfl (Nat.le_of_ble_eq_true rfl) dX7_takeDigit_15 rfl ?_
  refine j_iload_n (pc' := 19) cx 0 dX7_takeDigit_18 rfl rfl ?_
  have h_4 := so_i h_3
  subst h_4
  exact j_ret cx (Or.inr (Or.inl ⟨_, _, rfl, rfl, dX7_takeDigit_19, rfl, rfl⟩)) ⟨rfl, rfl⟩
set_option maxHeartbeats 4000000 in
set_option maxRecDepth 100000 in
theorem c_X7_takeCell (l : Launch) (D : va_G) (cI cZ cC cS : ClassId) (hMO hMOz hMOa hMOb hMOk hMOt hMOo hMOw hMOm hMOq hMOn : Nat) (MOst : Int32) (MOik : Int32) (MOln : Int32) (MOpl : Int32) (MOiw : Int32) (MOle : Int32) (MOtx : Nat → Int32) (out : Int32 × Int32 × Int32) (hm : f_X7_takeCell MOln MOpl MOiw MOtx = some out) : Ct l yX7_takeCell cX7_takeCell 2 (some .int) ({ frames := 2, cells := 0, slots := 0, locals := 44 }) (D, TY cI cZ cC cS) [.ref hMO] [(hMO, .inr (6, [.ref hMOz, .ref hMOa, .ref hMOb, .int MOst, .ref hMOk, .int MOik, .ref hMOt, .int MOln, .ref hMOo, .ref hMOw, .ref hMOm, .ref hMOq, .int MOpl, .int MOiw, .int MOle, .ref hMOn])), (hMOt, .inl (cI, 60, .inl MOtx))] (jw_P (some (.int out.1)) [(hMO, .inr (6, [.ref hMOz, .ref hMOa, .ref hMOb, .int MOst, .ref hMOk, .int MOik, .ref hMOt, .int MOln, .ref hMOo, .ref hMOw, .ref hMOm, .ref hMOq, .int out.2.1, .int out.2.2, .int MOle, .ref hMOn])), (hMOt, .inl (cI, 60, .inl MOtx))]) 0 0 := by
  refine ct_of RX7 (by decide +kernel) rfl (Nat.le_of_ble_eq_true rfl) (fun j cx => ?_)
  unfold f_X7_takeCell at hm
  show j 0 0 [(hMO, .inr (6, [.ref hMOz, .ref hMOa, .ref hMOb, .int MOst, .ref hMOk, .int MOik, .ref hMOt, .int MOln, .ref hMOo, .ref hMOw, .ref hMOm, .ref hMOq, .int MOpl, .int MOiw, .int MOle, .ref hMOn])), (hMOt, .inl (cI, 60, .inl MOtx))] [(0, .ref hMO)] 0 []
  refine j_aload_n (pc' := 1) cx 0 dX7_takeCell_0 rfl rfl ?_
  refine j_bipush (pc' := 3) cx 9 dX7_takeCell_1 kb_9 rfl ?_
  obtain ⟨r1, c2, h_1⟩ := bd_s hm
  refine j_cV (pc' := 6) cx (c_X7_takeDigit l D cI cZ cC cS hMO hMOz hMOa hMOb hMOk hMOt hMOo hMOw hMOm hMOq hMOn MOst MOik MOln MOpl MOiw MOle MOtx 9 r1 c2) 1 yk_X7_takeDigit wM_X7_156 ⟨wN_X7_takeDigit, wS_X7_takeDigit, wI_X7, wC_X7_takeDigit⟩ ⟨rfl, rfl, Nat.le_of_ble_eq_true rfl, Nat.le_of_ble_eq_true rfl, Nat.le_of_ble_eq_true rfl, Nat.le_of_ble_eq_true rfl⟩ [0, 1] [] [0, 1] rfl [] rfl (by decide) [(hMO, .inr (6, [.ref hMOz, .ref hMOa, .ref hMOb, .int MOst, .ref hMOk, .int MOik, .ref hMOt, .int MOln, .ref hMOo, .ref hMOw, .ref hMOm, .ref hMOq, .int r1.2.1, .int r1.2.2, .int MOle, .ref hMOn])), (hMOt, .inl (cI, 60, .inl MOtx))] rfl (by decide) 0 6 rfl rfl rfl rfl rfl (Nat.le_of_ble_eq_true rfl) dX7_takeCell_3 rfl ?_
  refine j_istore_n (lv' := [(1, .int r1.1), (0, .ref hMO)]) (pc' := 7) cx dX7_takeCell_6 (by decide) rfl rfl ?_
  obtain ⟨e4, h_2, h_3⟩ := bd_s h_1
  have KXe4 : j 0 0 [(hMO, .inr (6, [.ref hMOz, .ref hMOa, .ref hMOb, .int MOst, .ref hMOk, .int MOik, .ref hMOt, .int MOln, .ref hMOo, .ref hMOw, .ref hMOm, .ref hMOq, .int e4.2, .int r1.2.2, .int MOle, .ref hMOn])), (hMOt, .inl (cI, 60, .inl MOtx))] [(1, .int e4.1)] 76 [] := by
    refine j_iload_n (pc' := 77) cx 0 dX7_takeCell_76 rfl rfl ?_
    have h_4 := so_i h_3
    subst h_4
    exact j_ret cx (Or.inr (Or.inl ⟨_, _, rfl, rfl, dX7_takeCell_77, rfl, rfl⟩)) ⟨rfl, rfl⟩
  have LPe4 : ∀ (n : Nat) (s3 : Int32 × Int32), lp (f_X7_takeCell_b1 MOln MOtx r1) n s3 = some e4 → j 0 0 [(hMO, .inr (6, [.ref hMOz, .ref hMOa, .ref hMOb, .int MOst, .ref hMOk, .int MOik, .ref hMOt, .int MOln, .ref hMOo, .ref hMOw, .ref hMOm, .ref hMOq, .int s3.2, .int r1.2.2, .int MOle, .ref hMOn])), (hMOt, .inl (cI, 60, .inl MOtx))] [(0, .ref hMO), (1, .int s3.1)] 7 [] := by
    intro n
    induction n with
    | zero => intro s3 z; exact absurd z (by intro z; cases z)
    | succ n ihe4 =>
      intro s3 h_5
      obtain ⟨q_6, h_7, h_8⟩ := bd_s h_5
      unfold f_X7_takeCell_b1 at h_7
      refine j_aload_n (pc' := 8) cx 0 dX7_takeCell_7 rfl rfl ?_
      refine j_get (C := RX7) (T := TX7) (N := 16) (pc' := 11) cx uB_X7 0 rfl rfl 13 (by decide) wF_X7_145 (.int r1.2.2) rfl dX7_takeCell_8 rfl ?_
      refine j_if_ne (tgt := 76) (pc' := 14) cx dX7_takeCell_11 (by decide) rfl (fun ch_7 => ?_) (fun ch_7 => ?_)
      · have h_9 := it_f h_7 ch_7
        have h_10 := so_i h_9
        subst h_10
        have h_11 := so_i (se_r h_8)
        subst h_11
        refine j_lv (lv' := [(1, .int s3.1)]) cx [1] rfl ?_
        exact KXe4
      · have h_12 := it_t h_7 ch_7
        refine j_iload_n (pc' := 15) cx 1 dX7_takeCell_14 rfl rfl ?_
        refine j_if_le (tgt := 76) (pc' := 18) cx dX7_takeCell_15 (by decide) rfl (fun ch_12 => ?_) (fun ch_12 => ?_)
        · have h_13 := it_t h_12 ch_12
          have h_14 := so_i h_13
          subst h_14
          have h_15 := so_i (se_r h_8)
          subst h_15
          refine j_lv (lv' := [(1, .int s3.1)]) cx [1] rfl ?_
          exact KXe4
        · have h_16 := it_f h_12 ch_12
          refine j_aload_n (pc' := 19) cx 0 dX7_takeCell_18 rfl rfl ?_
          obtain ⟨r5, c6, h_17⟩ := bd_s h_16
          refine j_cV (pc' := 22) cx (c_X7_sign l D cI cZ cC cS hMO hMOz hMOa hMOb hMOk hMOt hMOo hMOw hMOm hMOq hMOn MOst MOik MOln s3.2 r1.2.2 MOle MOtx r5 c6) 0 yk_X7_sign wM_X7_148 ⟨wN_X7_sign, wS_X7_sign, wI_X7, wC_X7_sign⟩ ⟨rfl, rfl, Nat.le_of_ble_eq_true rfl, Nat.le_of_ble_eq_true rfl, Nat.le_of_ble_eq_true rfl, Nat.le_of_ble_eq_true rfl⟩ [0, 1] [] [0, 1] rfl [] rfl (by decide) [(hMO, .inr (6, [.ref hMOz, .ref hMOa, .ref hMOb, .int MOst, .ref hMOk, .int MOik, .ref hMOt, .int MOln, .ref hMOo, .ref hMOw, .ref hMOm, .ref hMOq, .int s3.2, .int r1.2.2, .int MOle, .ref hMOn])), (hMOt, .inl (cI, 60, .inl MOtx))] rfl (by decide) 0 6 rfl rfl rfl rfl rfl (Nat.le_of_ble_eq_true rfl) dX7_takeCell_19 rfl ?_
          refine j_bipush (pc' := 24) cx 48 dX7_takeCell_22 kb_48 rfl ?_
          refine j_bipush (pc' := 26) cx 57 dX7_takeCell_24 kb_57 rfl ?_
          obtain ⟨r7, c8, h_18⟩ := bd_s h_17
          refine j_cS (pc' := 29) cx (c_X7_in l D cI cZ cC cS r5 48 57 r7 c8) 3 yk_X7_in wM_X7_43 ⟨wT_X7_in, wI_X7, wC_X7_in⟩ ⟨rfl, rfl, Nat.le_of_ble_eq_true rfl, Nat.le_of_ble_eq_true rfl, Nat.le_of_ble_eq_true rfl, Nat.le_of_ble_eq_true rfl⟩ [] [0, 1] [0, 1] rfl [(hMO, .inr (6, [.ref hMOz, .ref hMOa, .ref hMOb, .int MOst, .ref hMOk, .int MOik, .ref hMOt, .int MOln, .ref hMOo, .ref hMOw, .ref hMOm, .ref hMOq, .int s3.2, .int r1.2.2, .int MOle, .ref hMOn])), (hMOt, .inl (cI, 60, .inl MOtx))] rfl (by decide) [(hMO, .inr (6, [.ref hMOz, .ref hMOa, .ref hMOb, .int MOst, .ref hMOk, .int MOik, .ref hMOt, .int MOln, .ref hMOo, .ref hMOw, .ref hMOm, .ref hMOq, .int s3.2, .int r1.2.2, .int MOle, .ref hMOn])), (hMOt, .inl (cI, 60, .inl MOtx))] rfl (by decide) rfl rfl (Nat.le_of_ble_eq_true rfl) dX7_takeCell_26 rfl ?_
          refine j_if_eq (tgt := 76) (pc' := 32) cx dX7_takeCell_29 (by decide) rfl (fun ch_18 => ?_) (fun ch_18 => ?_)
          · have h_19 := it_t h_18 ch_18
            have h_20 := so_i h_19
            subst h_20
            have h_21 := so_i (se_r h_8)
            subst h_21
            refine j_lv (lv' := [(1, .int s3.1)]) cx [1] rfl ?_
            exact KXe4
          · have h_22 := it_f h_18 ch_18
            refine j_bipush (pc' := 34) cx 10 dX7_takeCell_32 kb_10 rfl ?_
            refine j_iload_n (pc' := 35) cx 1 dX7_takeCell_34 rfl rfl ?_
            refine j_imul (pc' := 36) cx dX7_takeCell_35 rfl ?_
            refine j_aload_n (pc' := 37) cx 0 dX7_takeCell_36 rfl rfl ?_
            obtain ⟨r9, c10, h_23⟩ := bd_s h_22
            refine j_cV (pc' := 40) cx (c_X7_sign l D cI cZ cC cS hMO hMOz hMOa hMOb hMOk hMOt hMOo hMOw hMOm hMOq hMOn MOst MOik MOln s3.2 r1.2.2 MOle MOtx r9 c10) 0 yk_X7_sign wM_X7_148 ⟨wN_X7_sign, wS_X7_sign, wI_X7, wC_X7_sign⟩ ⟨rfl, rfl, Nat.le_of_ble_eq_true rfl, Nat.le_of_ble_eq_true rfl, Nat.le_of_ble_eq_true rfl, Nat.le_of_ble_eq_true rfl⟩ [0, 1] [] [0, 1] rfl [] rfl (by decide) [(hMO, .inr (6, [.ref hMOz, .ref hMOa, .ref hMOb, .int MOst, .ref hMOk, .int MOik, .ref hMOt, .int MOln, .ref hMOo, .ref hMOw, .ref hMOm, .ref hMOq, .int s3.2, .int r1.2.2, .int MOle, .ref hMOn])), (hMOt, .inl (cI, 60, .inl MOtx))] rfl (by decide) 0 6 rfl rfl rfl rfl rfl (Nat.le_of_ble_eq_true rfl) dX7_takeCell_37 rfl ?_
            refine j_iadd (pc' := 41) cx dX7_takeCell_40 rfl ?_
            refine j_bipush (pc' := 43) cx 48 dX7_takeCell_41 kb_48 rfl ?_
            refine j_isub (pc' := 44) cx dX7_takeCell_43 rfl ?_
            refine j_sipush (pc' := 47) cx 150 dX7_takeCell_44 ks_150 rfl ?_
            refine j_icmp_ge (tgt := 76) (pc' := 50) cx dX7_takeCell_47 (by decide) rfl (fun ch_23 => ?_) (fun ch_23 => ?_)
            · have h_24 := it_t h_23 ch_23
              have h_25 := so_i h_24
              subst h_25
              have h_26 := so_i (se_r h_8)
              subst h_26
              refine j_lv (lv' := [(1, .int s3.1)]) cx [1] rfl ?_
              exact KXe4
            · have h_27 := it_f h_23 ch_23
              refine j_bipush (pc' := 52) cx 10 dX7_takeCell_50 kb_10 rfl ?_
              refine j_iload_n (pc' := 53) cx 1 dX7_takeCell_52 rfl rfl ?_
              refine j_imul (pc' := 54) cx dX7_takeCell_53 rfl ?_
              refine j_aload_n (pc' := 55) cx 0 dX7_takeCell_54 rfl rfl ?_
              obtain ⟨r11, c12, h_28⟩ := bd_s h_27
              refine j_cV (pc' := 58) cx (c_X7_sign l D cI cZ cC cS hMO hMOz hMOa hMOb hMOk hMOt hMOo hMOw hMOm hMOq hMOn MOst MOik MOln s3.2 r1.2.2 MOle MOtx r11 c12) 0 yk_X7_sign wM_X7_148 ⟨wN_X7_sign, wS_X7_sign, wI_X7, wC_X7_sign⟩ ⟨rfl, rfl, Nat.le_of_ble_eq_true rfl, Nat.le_of_ble_eq_true rfl, Nat.le_of_ble_eq_true rfl, Nat.le_of_ble_eq_true rfl⟩ [0, 1] [] [0, 1] rfl [] rfl (by decide) [(hMO, .inr (6, [.ref hMOz, .ref hMOa, .ref hMOb, .int MOst, .ref hMOk, .int MOik, .ref hMOt, .int MOln, .ref hMOo, .ref hMOw, .ref hMOm, .ref hMOq, .int s3.2, .int r1.2.2, .int MOle, .ref hMOn])), (hMOt, .inl (cI, 60, .inl MOtx))] rfl (by decide) 0 6 rfl rfl rfl rfl rfl (Nat.le_of_ble_eq_true rfl) dX7_takeCell_55 rfl ?_
              refine j_iadd (pc' := 59) cx dX7_takeCell_58 rfl ?_
              refine j_bipush (pc' := 61) cx 48 dX7_takeCell_59 kb_48 rfl ?_
              refine j_isub (pc' := 62) cx dX7_takeCell_61 rfl ?_
              refine j_istore_n (lv' := [(1, .int (((10 * s3.1) + r11) - 48)), (0, .ref hMO)]) (pc' := 63) cx dX7_takeCell_62 (by decide) rfl rfl ?_
              refine j_aload_n (pc' := 64) cx 1 dX7_takeCell_63 rfl rfl ?_
              refine j_dup (pc' := 65) cx dX7_takeCell_64 rfl rfl ?_
              refine j_get (C := RX7) (T := TX7) (N := 16) (pc' := 68) cx uB_X7 0 rfl rfl 12 (by decide) wF_X7_142 (.int s3.2) rfl dX7_takeCell_65 rfl ?_
              refine j_iconst (pc' := 69) cx 1 dX7_takeCell_68 ki_1 rfl ?_
              refine j_iadd (pc' := 70) cx dX7_takeCell_69 rfl ?_
              refine j_put (C := RX7) (T := TX7) (N := 16) (ws' := [(hMO, .inr (6, [.ref hMOz, .ref hMOa, .ref hMOb, .int MOst, .ref hMOk, .int MOik, .ref hMOt, .int MOln, .ref hMOo, .ref hMOw, .ref hMOm, .ref hMOq, .int (s3.2 + 1), .int r1.2.2, .int MOle, .ref hMOn])), (hMOt, .inl (cI, 60, .inl MOtx))]) (pc' := 73) cx uB_X7 tyX7 tyX7_ok nmX7 0 rfl rfl 12 (by decide) wF_X7_142 rfl rfl rfl (Nat.le_of_ble_eq_true rfl) rfl dX7_takeCell_70 rfl ?_
              refine j_goto (pc' := 7) cx dX7_takeCell_73 (by decide) ?_
              have h_29 := so_i h_28
              subst h_29
              refine j_lv (lv' := [(0, .ref hMO), (1, .int (((10 * s3.1) + r11) - 48))]) cx [1, 0] rfl ?_
              exact ihe4 _ (se_l h_8)
  refine j_lv (lv' := [(0, .ref hMO), (1, .int r1.1)]) cx [1, 0] rfl ?_
  exact LPe4 _ _ h_2
set_option maxHeartbeats 4000000 in
set_option maxRecDepth 100000 in
theorem c_X7_takeOrder (l : Launch) (D : va_G) (cI cZ cC cS : ClassId) (hMO hMOz hMOa hMOb hMOk hMOt hMOo hMOw hMOm hMOq hMOn : Nat) (MOst : Int32) (MOik : Int32) (MOln : Int32) (MOpl : Int32) (MOiw : Int32) (MOle : Int32) (MOtx : Nat → Int32) (MOnu : Nat → Int32) (out : Int32 × Int32 × Int32 × (Nat → Int32)) (hm : f_X7_takeOrder MOln MOpl MOiw MOle MOtx MOnu = some out) : Ct l yX7_takeOrder cX7_takeOrder 2 none ({ frames := 3, cells := 0, slots := 0, locals := 65 }) (D, TY cI cZ cC cS) [.ref hMO] [(hMO, .inr (6, [.ref hMOz, .ref hMOa, .ref hMOb, .int MOst, .ref hMOk, .int MOik, .ref hMOt, .int MOln, .ref hMOo, .ref hMOw, .ref hMOm, .ref hMOq, .int MOpl, .int MOiw, .int MOle, .ref hMOn])), (hMOt, .inl (cI, 60, .inl MOtx)), (hMOn, .inl (cI, 5, .inl MOnu))] (jw_P none [(hMO, .inr (6, [.ref hMOz, .ref hMOa, .ref hMOb, .int MOst, .ref hMOk, .int MOik, .ref hMOt, .int MOln, .ref hMOo, .ref hMOw, .ref hMOm, .ref hMOq, .int out.1, .int out.2.1, .int out.2.2.1, .ref hMOn])), (hMOt, .inl (cI, 60, .inl MOtx)), (hMOn, .inl (cI, 5, .inl out.2.2.2))]) 0 0 := by
  refine ct_of RX7 (by decide +kernel) rfl (Nat.le_of_ble_eq_true rfl) (fun j cx => ?_)
  unfold f_X7_takeOrder at hm
  show j 0 0 [(hMO, .inr (6, [.ref hMOz, .ref hMOa, .ref hMOb, .int MOst, .ref hMOk, .int MOik, .ref hMOt, .int MOln, .ref hMOo, .ref hMOw, .ref hMOm, .ref hMOq, .int MOpl, .int MOiw, .int MOle, .ref hMOn])), (hMOt, .inl (cI, 60, .inl MOtx)), (hMOn, .inl (cI, 5, .inl MOnu))] [(0, .ref hMO)] 0 []
  refine j_aload_n (pc' := 1) cx 0 dX7_takeOrder_0 rfl rfl ?_
  refine j_aload_n (pc' := 2) cx 0 dX7_takeOrder_1 rfl rfl ?_
  obtain ⟨r1, c2, h_1⟩ := bd_s hm
  refine j_cV (pc' := 5) cx (c_X7_sign l D cI cZ cC cS hMO hMOz hMOa hMOb hMOk hMOt hMOo hMOw hMOm hMOq hMOn MOst MOik MOln MOpl MOiw MOle MOtx r1 c2) 0 yk_X7_sign wM_X7_148 ⟨wN_X7_sign, wS_X7_sign, wI_X7, wC_X7_sign⟩ ⟨rfl, rfl, Nat.le_of_ble_eq_true rfl, Nat.le_of_ble_eq_true rfl, Nat.le_of_ble_eq_true rfl, Nat.le_of_ble_eq_true rfl⟩ [0, 1] [2] [1, 2, 0] rfl [(hMOn, .inl (cI, 5, .inl MOnu))] rfl (by decide) [(hMO, .inr (6, [.ref hMOz, .ref hMOa, .ref hMOb, .int MOst, .ref hMOk, .int MOik, .ref hMOt, .int MOln, .ref hMOo, .ref hMOw, .ref hMOm, .ref hMOq, .int MOpl, .int MOiw, .int MOle, .ref hMOn])), (hMOt, .inl (cI, 60, .inl MOtx)), (hMOn, .inl (cI, 5, .inl MOnu))] rfl (by decide) 0 6 rfl rfl rfl rfl rfl (Nat.le_of_ble_eq_true rfl) dX7_takeOrder_2 rfl ?_
  refine j_put (C := RX7) (T := TX7) (N := 16) (ws' := [(hMO, .inr (6, [.ref hMOz, .ref hMOa, .ref hMOb, .int MOst, .ref hMOk, .int MOik, .ref hMOt, .int MOln, .ref hMOo, .ref hMOw, .ref hMOm, .ref hMOq, .int MOpl, .int MOiw, .int r1, .ref hMOn])), (hMOt, .inl (cI, 60, .inl MOtx)), (hMOn, .inl (cI, 5, .inl MOnu))]) (pc' := 8) cx uB_X7 tyX7 tyX7_ok nmX7 0 rfl rfl 14 (by decide) wF_X7_159 rfl rfl rfl (Nat.le_of_ble_eq_true rfl) rfl dX7_takeOrder_5 rfl ?_
  refine j_aload_n (pc' := 9) cx 0 dX7_takeOrder_8 rfl rfl ?_
  refine j_aload_n (pc' := 10) cx 0 dX7_takeOrder_9 rfl rfl ?_
  refine j_get (C := RX7) (T := TX7) (N := 16) (pc' := 13) cx uB_X7 0 rfl rfl 14 (by decide) wF_X7_159 (.int r1) rfl dX7_takeOrder_10 rfl ?_
  refine j_bipush (pc' := 15) cx 107 dX7_takeOrder_13 kb_107 rfl ?_
  obtain ⟨t3, h_3, h_2⟩ := bd_s h_1
  have Kt3 : j 0 0 [(hMO, .inr (6, [.ref hMOz, .ref hMOa, .ref hMOb, .int MOst, .ref hMOk, .int MOik, .ref hMOt, .int MOln, .ref hMOo, .ref hMOw, .ref hMOm, .ref hMOq, .int MOpl, .int MOiw, .int r1, .ref hMOn])), (hMOt, .inl (cI, 60, .inl MOtx)), (hMOn, .inl (cI, 5, .inl MOnu))] [(0, .ref hMO)] 50 [.int t3, .ref hMO] := by
    obtain ⟨r4, c5, h_4⟩ := bd_s h_2
    refine j_cV (pc' := 53) cx (c_X7_take_ l D cI cZ cC cS hMO hMOz hMOa hMOb hMOk hMOt hMOo hMOw hMOm hMOq hMOn MOst MOik MOln MOpl MOiw r1 t3 r4 c5) 1 yk_X7_take_ wM_X7_152 ⟨wN_X7_take_, wS_X7_take_, wI_X7, wC_X7_take_⟩ ⟨rfl, rfl, Nat.le_of_ble_eq_true rfl, Nat.le_of_ble_eq_true rfl, Nat.le_of_ble_eq_true rfl, Nat.le_of_ble_eq_true rfl⟩ [0] [1, 2] [2, 0, 1] rfl [(hMOt, .inl (cI, 60, .inl MOtx)), (hMOn, .inl (cI, 5, .inl MOnu))] rfl (by decide) [(hMO, .inr (6, [.ref hMOz, .ref hMOa, .ref hMOb, .int MOst, .ref hMOk, .int MOik, .ref hMOt, .int MOln, .ref hMOo, .ref hMOw, .ref hMOm, .ref hMOq, .int r4.1, .int r4.2, .int r1, .ref hMOn])), (hMOt, .inl (cI, 60, .inl MOtx)), (hMOn, .inl (cI, 5, .inl MOnu))] rfl (by decide) 0 6 rfl rfl rfl rfl rfl (Nat.le_of_ble_eq_true rfl) dX7_takeOrder_50 rfl ?_
    refine j_aload_n (pc' := 54) cx 0 dX7_takeOrder_53 rfl rfl ?_
    refine j_get (C := RX7) (T := TX7) (N := 16) (pc' := 57) cx uB_X7 0 rfl rfl 13 (by decide) wF_X7_145 (.int r4.2) rfl dX7_takeOrder_54 rfl ?_
    refine j_if_eq (tgt := 61) (pc' := 60) cx dX7_takeOrder_57 (by decide) rfl (fun ch_4 => ?_) (fun ch_4 => ?_)
    · have h_5 := it_t h_4 ch_4
      refine j_aload_n (pc' := 62) cx 0 dX7_takeOrder_61 rfl rfl ?_
      refine j_get (C := RX7) (T := TX7) (N := 16) (pc' := 65) cx uB_X7 0 rfl rfl 14 (by decide) wF_X7_159 (.int r1) rfl dX7_takeOrder_62 rfl ?_
      refine j_bipush (pc' := 67) cx 107 dX7_takeOrder_65 kb_107 rfl ?_
      refine j_icmp_ne (tgt := 95) (pc' := 70) cx dX7_takeOrder_67 (by decide) rfl (fun ch_5 => ?_) (fun ch_5 => ?_)
      · have h_6 := it_f h_5 ch_5
        refine j_aload_n (pc' := 96) cx 0 dX7_takeOrder_95 rfl rfl ?_
        refine j_get (C := RX7) (T := TX7) (N := 16) (pc' := 99) cx uB_X7 0 rfl rfl 14 (by decide) wF_X7_159 (.int r1) rfl dX7_takeOrder_96 rfl ?_
        refine j_bipush (pc' := 101) cx 43 dX7_takeOrder_99 kb_43 rfl ?_
        obtain ⟨t17, h_8, h_7⟩ := bd_s h_6
        have Kt17 : j 0 0 [(hMO, .inr (6, [.ref hMOz, .ref hMOa, .ref hMOb, .int MOst, .ref hMOk, .int MOik, .ref hMOt, .int MOln, .ref hMOo, .ref hMOw, .ref hMOm, .ref hMOq, .int t17.1, .int t17.2.1, .int r1, .ref hMOn])), (hMOt, .inl (cI, 60, .inl MOtx)), (hMOn, .inl (cI, 5, .inl t17.2.2))] [(0, .ref hMO)] 144 [] := by
          refine j_aload_n (pc' := 145) cx 0 dX7_takeOrder_144 rfl rfl ?_
          refine j_get (C := RX7) (T := TX7) (N := 16) (pc' := 148) cx uB_X7 0 rfl rfl 15 (by decide) wF_X7_37 (.ref hMOn) rfl dX7_takeOrder_145 rfl ?_
          refine j_iconst (pc' := 149) cx 0 dX7_takeOrder_148 ki_0 rfl ?_
          refine j_aload_n (pc' := 150) cx 0 dX7_takeOrder_149 rfl rfl ?_
          obtain ⟨r18, c19, h_9⟩ := bd_s h_7
          refine j_cV (pc' := 153) cx (c_X7_takeCell l D cI cZ cC cS hMO hMOz hMOa hMOb hMOk hMOt hMOo hMOw hMOm hMOq hMOn MOst MOik MOln t17.1 t17.2.1 r1 MOtx r18 c19) 0 yk_X7_takeCell wM_X7_162 ⟨wN_X7_takeCell, wS_X7_takeCell, wI_X7, wC_X7_takeCell⟩ ⟨rfl, rfl, Nat.le_of_ble_eq_true rfl, Nat.le_of_ble_eq_true rfl, Nat.le_of_ble_eq_true rfl, Nat.le_of_ble_eq_true rfl⟩ [0, 1] [2] [1, 2, 0] rfl [(hMOn, .inl (cI, 5, .inl t17.2.2))] rfl (by decide) [(hMO, .inr (6, [.ref hMOz, .ref hMOa, .ref hMOb, .int MOst, .ref hMOk, .int MOik, .ref hMOt, .int MOln, .ref hMOo, .ref hMOw, .ref hMOm, .ref hMOq, .int r18.2.1, .int r18.2.2, .int r1, .ref hMOn])), (hMOt, .inl (cI, 60, .inl MOtx)), (hMOn, .inl (cI, 5, .inl t17.2.2))] rfl (by decide) 0 6 rfl rfl rfl rfl rfl (Nat.le_of_ble_eq_true rfl) dX7_takeOrder_150 rfl ?_
          obtain ⟨i20, h_10⟩ := ck_s h_9
          refine j_iast (ws' := [(hMO, .inr (6, [.ref hMOz, .ref hMOa, .ref hMOb, .int MOst, .ref hMOk, .int MOik, .ref hMOt, .int MOln, .ref hMOo, .ref hMOw, .ref hMOm, .ref hMOq, .int r18.2.1, .int r18.2.2, .int r1, .ref hMOn])), (hMOt, .inl (cI, 60, .inl MOtx)), (hMOn, .inl (cI, 5, .inl (upd t17.2.2 (0 : Int32).toNatClampNeg r18.1)))]) (pc' := 154) cx 2 0 rfl rfl i20 rfl dX7_takeOrder_153 rfl ?_
          have h_11 := so_i h_10
          subst h_11
          exact j_ret cx (Or.inl ⟨rfl, dX7_takeOrder_154, rfl, rfl⟩) ⟨rfl, rfl⟩
        refine j_icmp_ne (tgt := 144) (pc' := 104) cx dX7_takeOrder_101 (by decide) rfl (fun ch_8 => ?_) (fun ch_8 => ?_)
        · have h_12 := it_f h_8 ch_8
          have h_13 := so_i h_12
          subst h_13
          exact Kt17
        · have h_14 := it_t h_8 ch_8
          refine j_aload_n (pc' := 105) cx 0 dX7_takeOrder_104 rfl rfl ?_
          refine j_get (C := RX7) (T := TX7) (N := 16) (pc' := 108) cx uB_X7 0 rfl rfl 15 (by decide) wF_X7_37 (.ref hMOn) rfl dX7_takeOrder_105 rfl ?_
          refine j_iconst (pc' := 109) cx 1 dX7_takeOrder_108 ki_1 rfl ?_
          refine j_aload_n (pc' := 110) cx 0 dX7_takeOrder_109 rfl rfl ?_
          refine j_iconst (pc' := 111) cx 5 dX7_takeOrder_110 ki_5 rfl ?_
          obtain ⟨r6, c7, h_15⟩ := bd_s h_14
          refine j_cV (pc' := 114) cx (c_X7_takeDigit l D cI cZ cC cS hMO hMOz hMOa hMOb hMOk hMOt hMOo hMOw hMOm hMOq hMOn MOst MOik MOln r4.1 r4.2 r1 MOtx 5 r6 c7) 1 yk_X7_takeDigit wM_X7_156 ⟨wN_X7_takeDigit, wS_X7_takeDigit, wI_X7, wC_X7_takeDigit⟩ ⟨rfl, rfl, Nat.le_of_ble_eq_true rfl, Nat.le_of_ble_eq_true rfl, Nat.le_of_ble_eq_true rfl, Nat.le_of_ble_eq_true rfl⟩ [0, 1] [2] [1, 2, 0] rfl [(hMOn, .inl (cI, 5, .inl MOnu))] rfl (by decide) [(hMO, .inr (6, [.ref hMOz, .ref hMOa, .ref hMOb, .int MOst, .ref hMOk, .int MOik, .ref hMOt, .int MOln, .ref hMOo, .ref hMOw, .ref hMOm, .ref hMOq, .int r6.2.1, .int r6.2.2, .int r1, .ref hMOn])), (hMOt, .inl (cI, 60, .inl MOtx)), (hMOn, .inl (cI, 5, .inl MOnu))] rfl (by decide) 0 6 rfl rfl rfl rfl rfl (Nat.le_of_ble_eq_true rfl) dX7_takeOrder_111 rfl ?_
          obtain ⟨i8, h_16⟩ := ck_s h_15
          refine j_iast (ws' := [(hMO, .inr (6, [.ref hMOz, .ref hMOa, .ref hMOb, .int MOst, .ref hMOk, .int MOik, .ref hMOt, .int MOln, .ref hMOo, .ref hMOw, .ref hMOm, .ref hMOq, .int r6.2.1, .int r6.2.2, .int r1, .ref hMOn])), (hMOt, .inl (cI, 60, .inl MOtx)), (hMOn, .inl (cI, 5, .inl (upd MOnu (1 : Int32).toNatClampNeg r6.1)))]) (pc' := 115) cx 2 0 rfl rfl i8 rfl dX7_takeOrder_114 rfl ?_
          refine j_aload_n (pc' := 116) cx 0 dX7_takeOrder_115 rfl rfl ?_
          refine j_get (C := RX7) (T := TX7) (N := 16) (pc' := 119) cx uB_X7 0 rfl rfl 15 (by decide) wF_X7_37 (.ref hMOn) rfl dX7_takeOrder_116 rfl ?_
          refine j_iconst (pc' := 120) cx 2 dX7_takeOrder_119 ki_2 rfl ?_
          refine j_aload_n (pc' := 121) cx 0 dX7_takeOrder_120 rfl rfl ?_
          refine j_iconst (pc' := 122) cx 3 dX7_takeOrder_121 ki_3 rfl ?_
          obtain ⟨r9, c10, h_17⟩ := bd_s h_16
          refine j_cV (pc' := 125) cx (c_X7_takeDigit l D cI cZ cC cS hMO hMOz hMOa hMOb hMOk hMOt hMOo hMOw hMOm hMOq hMOn MOst MOik MOln r6.2.1 r6.2.2 r1 MOtx 3 r9 c10) 1 yk_X7_takeDigit wM_X7_156 ⟨wN_X7_takeDigit, wS_X7_takeDigit, wI_X7, wC_X7_takeDigit⟩ ⟨rfl, rfl, Nat.le_of_ble_eq_true rfl, Nat.le_of_ble_eq_true rfl, Nat.le_of_ble_eq_true rfl, Nat.le_of_ble_eq_true rfl⟩ [0, 1] [2] [1, 2, 0] rfl [(hMOn, .inl (cI, 5, .inl (upd MOnu (1 : Int32).toNatClampNeg r6.1)))] rfl (by decide) [(hMO, .inr (6, [.ref hMOz, .ref hMOa, .ref hMOb, .int MOst, .ref hMOk, .int MOik, .ref hMOt, .int MOln, .ref hMOo, .ref hMOw, .ref hMOm, .ref hMOq, .int r9.2.1, .int r9.2.2, .int r1, .ref hMOn])), (hMOt, .inl (cI, 60, .inl MOtx)), (hMOn, .inl (cI, 5, .inl (upd MOnu (1 : Int32).toNatClampNeg r6.1)))] rfl (by decide) 0 6 rfl rfl rfl rfl rfl (Nat.le_of_ble_eq_true rfl) dX7_takeOrder_122 rfl ?_
          obtain ⟨i11, h_18⟩ := ck_s h_17
          refine j_iast (ws' := [(hMO, .inr (6, [.ref hMOz, .ref hMOa, .ref hMOb, .int MOst, .ref hMOk, .int MOik, .ref hMOt, .int MOln, .ref hMOo, .ref hMOw, .ref hMOm, .ref hMOq, .int r9.2.1, .int r9.2.2, .int r1, .ref hMOn])), (hMOt, .inl (cI, 60, .inl MOtx)), (hMOn, .inl (cI, 5, .inl (upd (upd MOnu (1 : Int32).toNatClampNeg r6.1) (2 : Int32).toNatClampNeg r9.1)))]) (pc' := 126) cx 2 0 rfl rfl i11 rfl dX7_takeOrder_125 rfl ?_
          refine j_aload_n (pc' := 127) cx 0 dX7_takeOrder_126 rfl rfl ?_
          refine j_aload_n (pc' := 128) cx 0 dX7_takeOrder_127 rfl rfl ?_
          obtain ⟨r12, c13, h_19⟩ := bd_s h_18
          refine j_cV (pc' := 131) cx (c_X7_sign l D cI cZ cC cS hMO hMOz hMOa hMOb hMOk hMOt hMOo hMOw hMOm hMOq hMOn MOst MOik MOln r9.2.1 r9.2.2 r1 MOtx r12 c13) 0 yk_X7_sign wM_X7_148 ⟨wN_X7_sign, wS_X7_sign, wI_X7, wC_X7_sign⟩ ⟨rfl, rfl, Nat.le_of_ble_eq_true rfl, Nat.le_of_ble_eq_true rfl, Nat.le_of_ble_eq_true rfl, Nat.le_of_ble_eq_true rfl⟩ [0, 1] [2] [1, 2, 0] rfl [(hMOn, .inl (cI, 5, .inl (upd (upd MOnu (1 : Int32).toNatClampNeg r6.1) (2 : Int32).toNatClampNeg r9.1)))] rfl (by decide) [(hMO, .inr (6, [.ref hMOz, .ref hMOa, .ref hMOb, .int MOst, .ref hMOk, .int MOik, .ref hMOt, .int MOln, .ref hMOo, .ref hMOw, .ref hMOm, .ref hMOq, .int r9.2.1, .int r9.2.2, .int r1, .ref hMOn])), (hMOt, .inl (cI, 60, .inl MOtx)), (hMOn, .inl (cI, 5, .inl (upd (upd MOnu (1 : Int32).toNatClampNeg r6.1) (2 : Int32).toNatClampNeg r9.1)))] rfl (by decide) 0 6 rfl rfl rfl rfl rfl (Nat.le_of_ble_eq_true rfl) dX7_takeOrder_128 rfl ?_
          refine j_bipush (pc' := 133) cx 64 dX7_takeOrder_131 kb_64 rfl ?_
          obtain ⟨t14, h_21, h_20⟩ := bd_s h_19
          have Kt14 : j 0 0 [(hMO, .inr (6, [.ref hMOz, .ref hMOa, .ref hMOb, .int MOst, .ref hMOk, .int MOik, .ref hMOt, .int MOln, .ref hMOo, .ref hMOw, .ref hMOm, .ref hMOq, .int r9.2.1, .int r9.2.2, .int r1, .ref hMOn])), (hMOt, .inl (cI, 60, .inl MOtx)), (hMOn, .inl (cI, 5, .inl (upd (upd MOnu (1 : Int32).toNatClampNeg r6.1) (2 : Int32).toNatClampNeg r9.1)))] [(0, .ref hMO)] 141 [.int t14, .ref hMO] := by
            obtain ⟨r15, c16, h_22⟩ := bd_s h_20
            refine j_cV (pc' := 144) cx (c_X7_take_ l D cI cZ cC cS hMO hMOz hMOa hMOb hMOk hMOt hMOo hMOw hMOm hMOq hMOn MOst MOik MOln r9.2.1 r9.2.2 r1 t14 r15 c16) 1 yk_X7_take_ wM_X7_152 ⟨wN_X7_take_, wS_X7_take_, wI_X7, wC_X7_take_⟩ ⟨rfl, rfl, Nat.le_of_ble_eq_true rfl, Nat.le_of_ble_eq_true rfl, Nat.le_of_ble_eq_true rfl, Nat.le_of_ble_eq_true rfl⟩ [0] [1, 2] [2, 0, 1] rfl [(hMOt, .inl (cI, 60, .inl MOtx)), (hMOn, .inl (cI, 5, .inl (upd (upd MOnu (1 : Int32).toNatClampNeg r6.1) (2 : Int32).toNatClampNeg r9.1)))] rfl (by decide) [(hMO, .inr (6, [.ref hMOz, .ref hMOa, .ref hMOb, .int MOst, .ref hMOk, .int MOik, .ref hMOt, .int MOln, .ref hMOo, .ref hMOw, .ref hMOm, .ref hMOq, .int r15.1, .int r15.2, .int r1, .ref hMOn])), (hMOt, .inl (cI, 60, .inl MOtx)), (hMOn, .inl (cI, 5, .inl (upd (upd MOnu (1 : Int32).toNatClampNeg r6.1) (2 : Int32).toNatClampNeg r9.1)))] rfl (by decide) 0 6 rfl rfl rfl rfl rfl (Nat.le_of_ble_eq_true rfl) dX7_takeOrder_141 rfl ?_
            have h_23 := so_i h_22
            subst h_23
            exact Kt17
          refine j_icmp_ne (tgt := 140) (pc' := 136) cx dX7_takeOrder_133 (by decide) rfl (fun ch_21 => ?_) (fun ch_21 => ?_)
          · have h_24 := it_f h_21 ch_21
            refine j_iconst (pc' := 141) cx 0 dX7_takeOrder_140 ki_0 rfl ?_
            have h_25 := so_i h_24
            subst h_25
            exact Kt14
          · have h_26 := it_t h_21 ch_21
            refine j_iconst (pc' := 137) cx 1 dX7_takeOrder_136 ki_1 rfl ?_
            refine j_goto (pc' := 141) cx dX7_takeOrder_137 (by decide) ?_
            have h_27 := so_i h_26
            subst h_27
            exact Kt14
      · have h_28 := it_t h_5 ch_5
        refine j_iconst (pc' := 71) cx 0 dX7_takeOrder_70 ki_0 rfl ?_
        refine j_istore_n (lv' := [(1, .int 0), (0, .ref hMO)]) (pc' := 72) cx dX7_takeOrder_71 (by decide) rfl rfl ?_
        obtain ⟨e22, h_29, h_30⟩ := bd_s h_28
        have KXe22 : j 0 0 [(hMO, .inr (6, [.ref hMOz, .ref hMOa, .ref hMOb, .int MOst, .ref hMOk, .int MOik, .ref hMOt, .int MOln, .ref hMOo, .ref hMOw, .ref hMOm, .ref hMOq, .int e22.2.1, .int e22.2.2.1, .int r1, .ref hMOn])), (hMOt, .inl (cI, 60, .inl MOtx)), (hMOn, .inl (cI, 5, .inl e22.2.2.2))] [] 94 [] := by
          have h_31 := so_i h_30
          subst h_31
          exact j_ret cx (Or.inl ⟨rfl, dX7_takeOrder_94, rfl, rfl⟩) ⟨rfl, rfl⟩
        have LPe22 : ∀ (n : Nat) (s21 : Int32 × Int32 × Int32 × (Nat → Int32)), lp (f_X7_takeOrder_b1 MOln MOtx) n s21 = some e22 → j 0 0 [(hMO, .inr (6, [.ref hMOz, .ref hMOa, .ref hMOb, .int MOst, .ref hMOk, .int MOik, .ref hMOt, .int MOln, .ref hMOo, .ref hMOw, .ref hMOm, .ref hMOq, .int s21.2.1, .int s21.2.2.1, .int r1, .ref hMOn])), (hMOt, .inl (cI, 60, .inl MOtx)), (hMOn, .inl (cI, 5, .inl s21.2.2.2))] [(0, .ref hMO), (1, .int s21.1)] 72 [] := by
          intro n
          induction n with
          | zero => intro s21 z; exact absurd z (by intro z; cases z)
          | succ n ihe22 =>
            intro s21 h_32
            obtain ⟨q_33, h_34, h_35⟩ := bd_s h_32
            unfold f_X7_takeOrder_b1 at h_34
            refine j_iload_n (pc' := 73) cx 1 dX7_takeOrder_72 rfl rfl ?_
            refine j_iconst (pc' := 74) cx 5 dX7_takeOrder_73 ki_5 rfl ?_
            refine j_icmp_ge (tgt := 94) (pc' := 77) cx dX7_takeOrder_74 (by decide) rfl (fun ch_34 => ?_) (fun ch_34 => ?_)
            · have h_36 := it_t h_34 ch_34
              have h_37 := so_i h_36
              subst h_37
              have h_38 := so_i (se_r h_35)
              subst h_38
              refine j_lv (lv' := []) cx [] rfl ?_
              exact KXe22
            · have h_39 := it_f h_34 ch_34
              refine j_aload_n (pc' := 78) cx 0 dX7_takeOrder_77 rfl rfl ?_
              refine j_get (C := RX7) (T := TX7) (N := 16) (pc' := 81) cx uB_X7 0 rfl rfl 15 (by decide) wF_X7_37 (.ref hMOn) rfl dX7_takeOrder_78 rfl ?_
              refine j_iload_n (pc' := 82) cx 1 dX7_takeOrder_81 rfl rfl ?_
              refine j_aload_n (pc' := 83) cx 0 dX7_takeOrder_82 rfl rfl ?_
              refine j_iconst (pc' := 84) cx 5 dX7_takeOrder_83 ki_5 rfl ?_
              obtain ⟨r23, c24, h_40⟩ := bd_s h_39
              refine j_cV (pc' := 87) cx (c_X7_takeDigit l D cI cZ cC cS hMO hMOz hMOa hMOb hMOk hMOt hMOo hMOw hMOm hMOq hMOn MOst MOik MOln s21.2.1 s21.2.2.1 r1 MOtx 5 r23 c24) 1 yk_X7_takeDigit wM_X7_156 ⟨wN_X7_takeDigit, wS_X7_takeDigit, wI_X7, wC_X7_takeDigit⟩ ⟨rfl, rfl, Nat.le_of_ble_eq_true rfl, Nat.le_of_ble_eq_true rfl, Nat.le_of_ble_eq_true rfl, Nat.le_of_ble_eq_true rfl⟩ [0, 1] [2] [1, 2, 0] rfl [(hMOn, .inl (cI, 5, .inl s21.2.2.2))] rfl (by decide) [(hMO, .inr (6, [.ref hMOz, .ref hMOa, .ref hMOb, .int MOst, .ref hMOk, .int MOik, .ref hMOt, .int MOln, .ref hMOo, .ref hMOw, .ref hMOm, .ref hMOq, .int r23.2.1, .int r23.2.2, .int r1, .ref hMOn])), (hMOt, .inl (cI, 60, .inl MOtx)), (hMOn, .inl (cI, 5, .inl s21.2.2.2))] rfl (by decide) 0 6 rfl rfl rfl rfl rfl (Nat.le_of_ble_eq_true rfl) dX7_takeOrder_84 rfl ?_
              obtain ⟨i25, h_41⟩ := ck_s h_40
              refine j_iast (ws' := [(hMO, .inr (6, [.ref hMOz, .ref hMOa, .ref hMOb, .int MOst, .ref hMOk, .int MOik, .ref hMOt, .int MOln, .ref hMOo, .ref hMOw, .ref hMOm, .ref hMOq, .int r23.2.1, .int r23.2.2, .int r1, .ref hMOn])), (hMOt, .inl (cI, 60, .inl MOtx)), (hMOn, .inl (cI, 5, .inl (upd s21.2.2.2 s21.1.toNatClampNeg r23.1)))]) (pc' := 88) cx 2 0 rfl rfl i25 rfl dX7_takeOrder_87 rfl ?_
              refine j_iinc (v := (s21.1 + 1)) (lv' := [(1, .int (s21.1 + 1)), (0, .ref hMO)]) (pc' := 91) cx 1 dX7_takeOrder_88 rfl (kn_1 _) (by decide) rfl rfl ?_
              refine j_goto (pc' := 72) cx dX7_takeOrder_91 (by decide) ?_
              have h_42 := so_i h_41
              subst h_42
              refine j_lv (lv' := [(0, .ref hMO), (1, .int (s21.1 + 1))]) cx [1, 0] rfl ?_
              exact ihe22 _ (se_l h_35)
        refine j_lv (lv' := [(0, .ref hMO), (1, .int 0)]) cx [1, 0] rfl ?_
        exact LPe22 _ _ h_29
    · have h_43 := it_f h_4 ch_4
      have h_44 := so_i h_43
      subst h_44
      exact j_ret cx (Or.inl ⟨rfl, dX7_takeOrder_60, rfl, rfl⟩) ⟨rfl, rfl⟩
  refine j_icmp_eq (tgt := 45) (pc' := 18) cx dX7_takeOrder_15 (by decide) rfl (fun ch_3 => ?_) (fun ch_3 => ?_)
  · have h_45 := it_t h_3 ch_3
    refine j_iconst (pc' := 46) cx 1 dX7_takeOrder_45 ki_1 rfl ?_
    refine j_goto (pc' := 50) cx dX7_takeOrder_46 (by decide) ?_
    have h_46 := so_i h_45
    subst h_46
    exact Kt3
  · have h_47 := it_f h_3 ch_3
    refine j_aload_n (pc' := 19) cx 0 dX7_takeOrder_18 rfl rfl ?_
    refine j_get (C := RX7) (T := TX7) (N := 16) (pc' := 22) cx uB_X7 0 rfl rfl 14 (by decide) wF_X7_159 (.int r1) rfl dX7_takeOrder_19 rfl ?_
    refine j_bipush (pc' := 24) cx 43 dX7_takeOrder_22 kb_43 rfl ?_
    refine j_icmp_eq (tgt := 45) (pc' := 27) cx dX7_takeOrder_24 (by decide) rfl (fun ch_47 => ?_) (fun ch_47 => ?_)
    · have h_48 := it_t h_47 ch_47
      refine j_iconst (pc' := 46) cx 1 dX7_takeOrder_45 ki_1 rfl ?_
      refine j_goto (pc' := 50) cx dX7_takeOrder_46 (by decide) ?_
      have h_49 := so_i h_48
      subst h_49
      exact Kt3
    · have h_50 := it_f h_47 ch_47
      refine j_aload_n (pc' := 28) cx 0 dX7_takeOrder_27 rfl rfl ?_
      refine j_get (C := RX7) (T := TX7) (N := 16) (pc' := 31) cx uB_X7 0 rfl rfl 14 (by decide) wF_X7_159 (.int r1) rfl dX7_takeOrder_28 rfl ?_
      refine j_bipush (pc' := 33) cx 45 dX7_takeOrder_31 kb_45 rfl ?_
      refine j_icmp_eq (tgt := 45) (pc' := 36) cx dX7_takeOrder_33 (by decide) rfl (fun ch_50 => ?_) (fun ch_50 => ?_)
      · have h_51 := it_t h_50 ch_50
        refine j_iconst (pc' := 46) cx 1 dX7_takeOrder_45 ki_1 rfl ?_
        refine j_goto (pc' := 50) cx dX7_takeOrder_46 (by decide) ?_
        have h_52 := so_i h_51
        subst h_52
        exact Kt3
      · have h_53 := it_f h_50 ch_50
        refine j_aload_n (pc' := 37) cx 0 dX7_takeOrder_36 rfl rfl ?_
        refine j_get (C := RX7) (T := TX7) (N := 16) (pc' := 40) cx uB_X7 0 rfl rfl 14 (by decide) wF_X7_159 (.int r1) rfl dX7_takeOrder_37 rfl ?_
        refine j_bipush (pc' := 42) cx 116 dX7_takeOrder_40 kb_116 rfl ?_
        refine j_icmp_ne (tgt := 49) (pc' := 45) cx dX7_takeOrder_42 (by decide) rfl (fun ch_53 => ?_) (fun ch_53 => ?_)
        · have h_54 := it_f h_53 ch_53
          refine j_iconst (pc' := 50) cx 0 dX7_takeOrder_49 ki_0 rfl ?_
          have h_55 := so_i h_54
          subst h_55
          exact Kt3
        · have h_56 := it_t h_53 ch_53
          refine j_iconst (pc' := 46) cx 1 dX7_takeOrder_45 ki_1 rfl ?_
          refine j_goto (pc' := 50) cx dX7_takeOrder_46 (by decide) ?_
          have h_57 := so_i h_56
          subst h_57
          exact Kt3
set_option maxHeartbeats 4000000 in
set_option maxRecDepth 100000 in
theorem c_X7_findFault (l : Launch) (D : va_G) (cI cZ cC cS : ClassId) (hMO hMOz hMOa hMOb hMOk hMOt hMOo hMOw hMOm hMOq hMOn : Nat) (MOst : Int32) (MOik : Int32) (MOln : Int32) (MOpl : Int32) (MOiw : Int32) (MOle : Int32) (MOtx : Nat → Int32) (MOnu : Nat → Int32) (out : Int32 × Int32 × Int32 × Int32 × (Nat → Int32)) (hm : f_X7_findFault MOln MOpl MOiw MOle MOtx MOnu = some out) : Ct l yX7_findFault cX7_findFault 1 (some .int) ({ frames := 4, cells := 0, slots := 0, locals := 86 }) (D, TY cI cZ cC cS) [.ref hMO] [(hMO, .inr (6, [.ref hMOz, .ref hMOa, .ref hMOb, .int MOst, .ref hMOk, .int MOik, .ref hMOt, .int MOln, .ref hMOo, .ref hMOw, .ref hMOm, .ref hMOq, .int MOpl, .int MOiw, .int MOle, .ref hMOn])), (hMOt, .inl (cI, 60, .inl MOtx)), (hMOn, .inl (cI, 5, .inl MOnu))] (jw_P (some (.int out.1)) [(hMO, .inr (6, [.ref hMOz, .ref hMOa, .ref hMOb, .int MOst, .ref hMOk, .int MOik, .ref hMOt, .int MOln, .ref hMOo, .ref hMOw, .ref hMOm, .ref hMOq, .int out.2.1, .int out.2.2.1, .int out.2.2.2.1, .ref hMOn])), (hMOt, .inl (cI, 60, .inl MOtx)), (hMOn, .inl (cI, 5, .inl out.2.2.2.2))]) 0 0 := by
  refine ct_of RX7 (by decide +kernel) rfl (Nat.le_of_ble_eq_true rfl) (fun j cx => ?_)
  unfold f_X7_findFault at hm
  show j 0 0 [(hMO, .inr (6, [.ref hMOz, .ref hMOa, .ref hMOb, .int MOst, .ref hMOk, .int MOik, .ref hMOt, .int MOln, .ref hMOo, .ref hMOw, .ref hMOm, .ref hMOq, .int MOpl, .int MOiw, .int MOle, .ref hMOn])), (hMOt, .inl (cI, 60, .inl MOtx)), (hMOn, .inl (cI, 5, .inl MOnu))] [(0, .ref hMO)] 0 []
  refine j_aload_n (pc' := 1) cx 0 dX7_findFault_0 rfl rfl ?_
  refine j_iconst (pc' := 2) cx 0 dX7_findFault_1 ki_0 rfl ?_
  refine j_put (C := RX7) (T := TX7) (N := 16) (ws' := [(hMO, .inr (6, [.ref hMOz, .ref hMOa, .ref hMOb, .int MOst, .ref hMOk, .int MOik, .ref hMOt, .int MOln, .ref hMOo, .ref hMOw, .ref hMOm, .ref hMOq, .int 0, .int MOiw, .int MOle, .ref hMOn])), (hMOt, .inl (cI, 60, .inl MOtx)), (hMOn, .inl (cI, 5, .inl MOnu))]) (pc' := 5) cx uB_X7 tyX7 tyX7_ok nmX7 0 rfl rfl 12 (by decide) wF_X7_142 rfl rfl rfl (Nat.le_of_ble_eq_true rfl) rfl dX7_findFault_2 rfl ?_
  refine j_aload_n (pc' := 6) cx 0 dX7_findFault_5 rfl rfl ?_
  refine j_iconst (pc' := 7) cx 0 dX7_findFault_6 ki_0 rfl ?_
  refine j_put (C := RX7) (T := TX7) (N := 16) (ws' := [(hMO, .inr (6, [.ref hMOz, .ref hMOa, .ref hMOb, .int MOst, .ref hMOk, .int MOik, .ref hMOt, .int MOln, .ref hMOo, .ref hMOw, .ref hMOm, .ref hMOq, .int 0, .int 0, .int MOle, .ref hMOn])), (hMOt, .inl (cI, 60, .inl MOtx)), (hMOn, .inl (cI, 5, .inl MOnu))]) (pc' := 10) cx uB_X7 tyX7 tyX7_ok nmX7 0 rfl rfl 13 (by decide) wF_X7_145 rfl (by decide +kernel) (by decide +kernel) (Nat.le_of_ble_eq_true rfl) rfl dX7_findFault_7 rfl ?_
  obtain ⟨e2, h_1, h_2⟩ := bd_s hm
  have KXe2 : ∀ e2x, e2 = .inl e2x → j 0 0 [(hMO, .inr (6, [.ref hMOz, .ref hMOa, .ref hMOb, .int MOst, .ref hMOk, .int MOik, .ref hMOt, .int MOln, .ref hMOo, .ref hMOw, .ref hMOm, .ref hMOq, .int e2x.1, .int e2x.2.1, .int e2x.2.2.1, .ref hMOn])), (hMOt, .inl (cI, 60, .inl MOtx)), (hMOn, .inl (cI, 5, .inl e2x.2.2.2))] [] 37 [] := by
    intro e2x ze2
    subst ze2
    have h_3 := se_l h_2
    refine j_bipush (pc' := 39) cx (-5) dX7_findFault_37 kb_m5 rfl ?_
    have h_4 := so_i h_3
    subst h_4
    exact j_ret cx (Or.inr (Or.inl ⟨_, _, rfl, rfl, dX7_findFault_39, rfl, rfl⟩)) ⟨rfl, rfl⟩
  have LPe2 : ∀ (n : Nat) (s1 : Int32 × Int32 × Int32 × (Nat → Int32)), lp (f_X7_findFault_b1 MOln MOtx) n s1 = some e2 → j 0 0 [(hMO, .inr (6, [.ref hMOz, .ref hMOa, .ref hMOb, .int MOst, .ref hMOk, .int MOik, .ref hMOt, .int MOln, .ref hMOo, .ref hMOw, .ref hMOm, .ref hMOq, .int s1.1, .int s1.2.1, .int s1.2.2.1, .ref hMOn])), (hMOt, .inl (cI, 60, .inl MOtx)), (hMOn, .inl (cI, 5, .inl s1.2.2.2))] [(0, .ref hMO)] 10 [] := by
    intro n
    induction n with
    | zero => intro s1 z; exact absurd z (by intro z; cases z)
    | succ n ihe2 =>
      intro s1 h_5
      obtain ⟨q_6, h_7, h_8⟩ := bd_s h_5
      unfold f_X7_findFault_b1 at h_7
      refine j_aload_n (pc' := 11) cx 0 dX7_findFault_10 rfl rfl ?_
      obtain ⟨r3, c4, h_9⟩ := bd_s h_7
      refine j_cV (pc' := 14) cx (c_X7_takeOrder l D cI cZ cC cS hMO hMOz hMOa hMOb hMOk hMOt hMOo hMOw hMOm hMOq hMOn MOst MOik MOln s1.1 s1.2.1 s1.2.2.1 MOtx s1.2.2.2 r3 c4) 0 yk_X7_takeOrder wM_X7_165 ⟨wN_X7_takeOrder, wS_X7_takeOrder, wI_X7, wC_X7_takeOrder⟩ ⟨rfl, rfl, Nat.le_of_ble_eq_true rfl, Nat.le_of_ble_eq_true rfl, Nat.le_of_ble_eq_true rfl, Nat.le_of_ble_eq_true rfl⟩ [0, 1, 2] [] [0, 1, 2] rfl [] rfl (by decide) [(hMO, .inr (6, [.ref hMOz, .ref hMOa, .ref hMOb, .int MOst, .ref hMOk, .int MOik, .ref hMOt, .int MOln, .ref hMOo, .ref hMOw, .ref hMOm, .ref hMOq, .int r3.1, .int r3.2.1, .int r3.2.2.1, .ref hMOn])), (hMOt, .inl (cI, 60, .inl MOtx)), (hMOn, .inl (cI, 5, .inl r3.2.2.2))] rfl (by decide) 0 6 rfl rfl rfl rfl rfl (Nat.le_of_ble_eq_true rfl) dX7_findFault_11 rfl ?_
      refine j_aload_n (pc' := 15) cx 0 dX7_findFault_14 rfl rfl ?_
      refine j_get (C := RX7) (T := TX7) (N := 16) (pc' := 18) cx uB_X7 0 rfl rfl 13 (by decide) wF_X7_145 (.int r3.2.1) rfl dX7_findFault_15 rfl ?_
      refine j_if_eq (tgt := 26) (pc' := 21) cx dX7_findFault_18 (by decide) rfl (fun ch_9 => ?_) (fun ch_9 => ?_)
      · have h_10 := it_t h_9 ch_9
        refine j_aload_n (pc' := 27) cx 0 dX7_findFault_26 rfl rfl ?_
        refine j_get (C := RX7) (T := TX7) (N := 16) (pc' := 30) cx uB_X7 0 rfl rfl 12 (by decide) wF_X7_142 (.int r3.1) rfl dX7_findFault_27 rfl ?_
        refine j_aload_n (pc' := 31) cx 0 dX7_findFault_30 rfl rfl ?_
        refine j_get (C := RX7) (T := TX7) (N := 16) (pc' := 34) cx uB_X7 0 rfl rfl 7 (by decide) wF_X7_139 (.int MOln) rfl dX7_findFault_31 rfl ?_
        refine j_icmp_ne (tgt := 40) (pc' := 37) cx dX7_findFault_34 (by decide) rfl (fun ch_10 => ?_) (fun ch_10 => ?_)
        · have h_11 := it_f h_10 ch_10
          refine j_aload_n (pc' := 41) cx 0 dX7_findFault_40 rfl rfl ?_
          refine j_aload_n (pc' := 42) cx 0 dX7_findFault_41 rfl rfl ?_
          obtain ⟨r5, c6, h_12⟩ := bd_s h_11
          refine j_cV (pc' := 45) cx (c_X7_sign l D cI cZ cC cS hMO hMOz hMOa hMOb hMOk hMOt hMOo hMOw hMOm hMOq hMOn MOst MOik MOln r3.1 r3.2.1 r3.2.2.1 MOtx r5 c6) 0 yk_X7_sign wM_X7_148 ⟨wN_X7_sign, wS_X7_sign, wI_X7, wC_X7_sign⟩ ⟨rfl, rfl, Nat.le_of_ble_eq_true rfl, Nat.le_of_ble_eq_true rfl, Nat.le_of_ble_eq_true rfl, Nat.le_of_ble_eq_true rfl⟩ [0, 1] [2] [1, 2, 0] rfl [(hMOn, .inl (cI, 5, .inl r3.2.2.2))] rfl (by decide) [(hMO, .inr (6, [.ref hMOz, .ref hMOa, .ref hMOb, .int MOst, .ref hMOk, .int MOik, .ref hMOt, .int MOln, .ref hMOo, .ref hMOw, .ref hMOm, .ref hMOq, .int r3.1, .int r3.2.1, .int r3.2.2.1, .ref hMOn])), (hMOt, .inl (cI, 60, .inl MOtx)), (hMOn, .inl (cI, 5, .inl r3.2.2.2))] rfl (by decide) 0 6 rfl rfl rfl rfl rfl (Nat.le_of_ble_eq_true rfl) dX7_findFault_42 rfl ?_
          refine j_bipush (pc' := 47) cx 59 dX7_findFault_45 kb_59 rfl ?_
          obtain ⟨t7, h_14, h_13⟩ := bd_s h_12
          have Kt7 : j 0 0 [(hMO, .inr (6, [.ref hMOz, .ref hMOa, .ref hMOb, .int MOst, .ref hMOk, .int MOik, .ref hMOt, .int MOln, .ref hMOo, .ref hMOw, .ref hMOm, .ref hMOq, .int r3.1, .int r3.2.1, .int r3.2.2.1, .ref hMOn])), (hMOt, .inl (cI, 60, .inl MOtx)), (hMOn, .inl (cI, 5, .inl r3.2.2.2))] [(0, .ref hMO)] 55 [.int t7, .ref hMO] := by
            obtain ⟨r8, c9, h_15⟩ := bd_s h_13
            refine j_cV (pc' := 58) cx (c_X7_take_ l D cI cZ cC cS hMO hMOz hMOa hMOb hMOk hMOt hMOo hMOw hMOm hMOq hMOn MOst MOik MOln r3.1 r3.2.1 r3.2.2.1 t7 r8 c9) 1 yk_X7_take_ wM_X7_152 ⟨wN_X7_take_, wS_X7_take_, wI_X7, wC_X7_take_⟩ ⟨rfl, rfl, Nat.le_of_ble_eq_true rfl, Nat.le_of_ble_eq_true rfl, Nat.le_of_ble_eq_true rfl, Nat.le_of_ble_eq_true rfl⟩ [0] [1, 2] [2, 0, 1] rfl [(hMOt, .inl (cI, 60, .inl MOtx)), (hMOn, .inl (cI, 5, .inl r3.2.2.2))] rfl (by decide) [(hMO, .inr (6, [.ref hMOz, .ref hMOa, .ref hMOb, .int MOst, .ref hMOk, .int MOik, .ref hMOt, .int MOln, .ref hMOo, .ref hMOw, .ref hMOm, .ref hMOq, .int r8.1, .int r8.2, .int r3.2.2.1, .ref hMOn])), (hMOt, .inl (cI, 60, .inl MOtx)), (hMOn, .inl (cI, 5, .inl r3.2.2.2))] rfl (by decide) 0 6 rfl rfl rfl rfl rfl (Nat.le_of_ble_eq_true rfl) dX7_findFault_55 rfl ?_
            refine j_goto (pc' := 10) cx dX7_findFault_58 (by decide) ?_
            have h_16 := so_i h_15
            subst h_16
            exact ihe2 _ (se_l h_8)
          refine j_icmp_ne (tgt := 54) (pc' := 50) cx dX7_findFault_47 (by decide) rfl (fun ch_14 => ?_) (fun ch_14 => ?_)
          · have h_17 := it_f h_14 ch_14
            refine j_iconst (pc' := 55) cx 0 dX7_findFault_54 ki_0 rfl ?_
            have h_18 := so_i h_17
            subst h_18
            exact Kt7
          · have h_19 := it_t h_14 ch_14
            refine j_iconst (pc' := 51) cx 1 dX7_findFault_50 ki_1 rfl ?_
            refine j_goto (pc' := 55) cx dX7_findFault_51 (by decide) ?_
            have h_20 := so_i h_19
            subst h_20
            exact Kt7
        · have h_21 := it_t h_10 ch_10
          have h_22 := so_i h_21
          subst h_22
          have h_23 := so_i (se_r h_8)
          subst h_23
          refine j_lv (lv' := []) cx [] rfl ?_
          exact KXe2 _ rfl
      · have h_24 := it_f h_9 ch_9
        refine j_aload_n (pc' := 22) cx 0 dX7_findFault_21 rfl rfl ?_
        refine j_get (C := RX7) (T := TX7) (N := 16) (pc' := 25) cx uB_X7 0 rfl rfl 12 (by decide) wF_X7_142 (.int r3.1) rfl dX7_findFault_22 rfl ?_
        have h_25 := so_i h_24
        subst h_25
        have h_26 := so_i (se_r h_8)
        subst h_26
        have h_27 := se_r h_2
        have h_28 := so_i h_27
        subst h_28
        exact j_ret cx (Or.inr (Or.inl ⟨_, _, rfl, rfl, dX7_findFault_25, rfl, rfl⟩)) ⟨rfl, rfl⟩
  exact LPe2 _ _ h_1
set_option maxHeartbeats 4000000 in
set_option maxRecDepth 100000 in
theorem c_X7_doOrder (l : Launch) (D : va_G) (cI cZ cC cS : ClassId) (hMO hMOz hMOa hMOb hMOk hMOt hMOo hMOw hMOm hMOq hMOn : Nat) (MOst : Int32) (MOik : Int32) (MOln : Int32) (MOpl : Int32) (MOiw : Int32) (MOle : Int32) (MOza : Nat → Int32) (MOon : Nat → Int32) (MOwy : Nat → Int32) (MOnu : Nat → Int32) (out : Int32 × (Nat → Int32) × (Nat → Int32) × (Nat → Int32)) (hm : f_X7_doOrder MOle MOza MOon MOwy MOnu = some out) : Ct l yX7_doOrder cX7_doOrder 2 (some .int) ({ frames := 6, cells := 0, slots := 0, locals := 143 }) (D, TY cI cZ cC cS) [.ref hMO] [(hMO, .inr (6, [.ref hMOz, .ref hMOa, .ref hMOb, .int MOst, .ref hMOk, .int MOik, .ref hMOt, .int MOln, .ref hMOo, .ref hMOw, .ref hMOm, .ref hMOq, .int MOpl, .int MOiw, .int MOle, .ref hMOn])), (hMOz, .inl (cI, 116, .inl MOza)), (hMOo, .inl (cI, 150, .inl MOon)), (hMOw, .inl (cI, 150, .inl MOwy)), (hMOn, .inl (cI, 5, .inl MOnu))] (jw_P (some (.int out.1)) [(hMO, .inr (6, [.ref hMOz, .ref hMOa, .ref hMOb, .int MOst, .ref hMOk, .int MOik, .ref hMOt, .int MOln, .ref hMOo, .ref hMOw, .ref hMOm, .ref hMOq, .int MOpl, .int MOiw, .int MOle, .ref hMOn])), (hMOz, .inl (cI, 116, .inl out.2.1)), (hMOo, .inl (cI, 150, .inl out.2.2.1)), (hMOw, .inl (cI, 150, .inl out.2.2.2)), (hMOn, .inl (cI, 5, .inl MOnu))]) 0 0 := by
  refine ct_of RX7 (by decide +kernel) rfl (Nat.le_of_ble_eq_true rfl) (fun j cx => ?_)
  unfold f_X7_doOrder at hm
  show j 0 0 [(hMO, .inr (6, [.ref hMOz, .ref hMOa, .ref hMOb, .int MOst, .ref hMOk, .int MOik, .ref hMOt, .int MOln, .ref hMOo, .ref hMOw, .ref hMOm, .ref hMOq, .int MOpl, .int MOiw, .int MOle, .ref hMOn])), (hMOz, .inl (cI, 116, .inl MOza)), (hMOo, .inl (cI, 150, .inl MOon)), (hMOw, .inl (cI, 150, .inl MOwy)), (hMOn, .inl (cI, 5, .inl MOnu))] [(0, .ref hMO)] 0 []
  refine j_aload_n (pc' := 1) cx 0 dX7_doOrder_0 rfl rfl ?_
  refine j_get (C := RX7) (T := TX7) (N := 16) (pc' := 4) cx uB_X7 0 rfl rfl 14 (by decide) wF_X7_159 (.int MOle) rfl dX7_doOrder_1 rfl ?_
  refine j_bipush (pc' := 6) cx 43 dX7_doOrder_4 kb_43 rfl ?_
  refine j_icmp_ne (tgt := 60) (pc' := 9) cx dX7_doOrder_6 (by decide) rfl (fun chm => ?_) (fun chm => ?_)
  · have h_1 := it_f hm chm
    refine j_aload_n (pc' := 61) cx 0 dX7_doOrder_60 rfl rfl ?_
    refine j_get (C := RX7) (T := TX7) (N := 16) (pc' := 64) cx uB_X7 0 rfl rfl 14 (by decide) wF_X7_159 (.int MOle) rfl dX7_doOrder_61 rfl ?_
    refine j_bipush (pc' := 66) cx 107 dX7_doOrder_64 kb_107 rfl ?_
    refine j_icmp_ne (tgt := 119) (pc' := 69) cx dX7_doOrder_66 (by decide) rfl (fun ch_1 => ?_) (fun ch_1 => ?_)
    · have h_2 := it_f h_1 ch_1
      refine j_aload_n (pc' := 120) cx 0 dX7_doOrder_119 rfl rfl ?_
      refine j_get (C := RX7) (T := TX7) (N := 16) (pc' := 123) cx uB_X7 0 rfl rfl 8 (by decide) wF_X7_25 (.ref hMOo) rfl dX7_doOrder_120 rfl ?_
      refine j_aload_n (pc' := 124) cx 0 dX7_doOrder_123 rfl rfl ?_
      refine j_get (C := RX7) (T := TX7) (N := 16) (pc' := 127) cx uB_X7 0 rfl rfl 15 (by decide) wF_X7_37 (.ref hMOn) rfl dX7_doOrder_124 rfl ?_
      refine j_iconst (pc' := 128) cx 0 dX7_doOrder_127 ki_0 rfl ?_
      obtain ⟨i1, h_3⟩ := ck_s h_2
      refine j_iald (pc' := 129) cx 4 0 rfl rfl i1 dX7_doOrder_128 rfl ?_
      obtain ⟨i2, h_4⟩ := ck_s h_3
      refine j_iald (pc' := 130) cx 2 0 rfl rfl i2 dX7_doOrder_129 rfl ?_
      refine j_istore_n (lv' := [(1, .int (MOon (MOnu (0 : Int32).toNatClampNeg).toNatClampNeg)), (0, .ref hMO)]) (pc' := 131) cx dX7_doOrder_130 (by decide) rfl rfl ?_
      refine j_iload_n (pc' := 132) cx 0 dX7_doOrder_131 rfl rfl ?_
      refine j_if_ge (tgt := 137) (pc' := 135) cx dX7_doOrder_132 (by decide) rfl (fun ch_4 => ?_) (fun ch_4 => ?_)
      · have h_5 := it_t h_4 ch_4
        refine j_aload_n (pc' := 138) cx 1 dX7_doOrder_137 rfl rfl ?_
        refine j_get (C := RX7) (T := TX7) (N := 16) (pc' := 141) cx uB_X7 0 rfl rfl 14 (by decide) wF_X7_159 (.int MOle) rfl dX7_doOrder_138 rfl ?_
        refine j_bipush (pc' := 143) cx 45 dX7_doOrder_141 kb_45 rfl ?_
        refine j_icmp_ne (tgt := 153) (pc' := 146) cx dX7_doOrder_143 (by decide) rfl (fun ch_5 => ?_) (fun ch_5 => ?_)
        · have h_6 := it_f h_5 ch_5
          refine j_aload_n (pc' := 154) cx 1 dX7_doOrder_153 rfl rfl ?_
          refine j_get (C := RX7) (T := TX7) (N := 16) (pc' := 157) cx uB_X7 0 rfl rfl 0 (by decide) wF_X7_7 (.ref hMOz) rfl dX7_doOrder_154 rfl ?_
          refine j_bipush (pc' := 159) cx 26 dX7_doOrder_157 kb_26 rfl ?_
          refine j_iconst (pc' := 160) cx 3 dX7_doOrder_159 ki_3 rfl ?_
          refine j_iload_n (pc' := 161) cx 0 dX7_doOrder_160 rfl rfl ?_
          refine j_imul (pc' := 162) cx dX7_doOrder_161 rfl ?_
          refine j_iadd (pc' := 163) cx dX7_doOrder_162 rfl ?_
          refine j_iconst (pc' := 164) cx 1 dX7_doOrder_163 ki_1 rfl ?_
          refine j_iadd (pc' := 165) cx dX7_doOrder_164 rfl ?_
          refine j_aload_n (pc' := 166) cx 1 dX7_doOrder_165 rfl rfl ?_
          refine j_iload_n (pc' := 167) cx 0 dX7_doOrder_166 rfl rfl ?_
          obtain ⟨r3, c4, h_7⟩ := bd_s h_6
          refine j_cV (pc' := 170) cx (c_X7_turnsOf l D cI cZ cC cS hMO hMOz hMOa hMOb hMOk hMOt hMOo hMOw hMOm hMOq hMOn MOst MOik MOln MOpl MOiw MOle MOza (MOon (MOnu (0 : Int32).toNatClampNeg).toNatClampNeg) r3 c4) 1 yk_X7_turnsOf wM_X7_51 ⟨wN_X7_turnsOf, wS_X7_turnsOf, wI_X7, wC_X7_turnsOf⟩ ⟨rfl, rfl, Nat.le_of_ble_eq_true rfl, Nat.le_of_ble_eq_true rfl, Nat.le_of_ble_eq_true rfl, Nat.le_of_ble_eq_true rfl⟩ [0, 1] [2, 3, 4] [3, 4, 0, 1, 2] rfl [(hMOo, .inl (cI, 150, .inl MOon)), (hMOw, .inl (cI, 150, .inl MOwy)), (hMOn, .inl (cI, 5, .inl MOnu))] rfl (by decide) [(hMO, .inr (6, [.ref hMOz, .ref hMOa, .ref hMOb, .int MOst, .ref hMOk, .int MOik, .ref hMOt, .int MOln, .ref hMOo, .ref hMOw, .ref hMOm, .ref hMOq, .int MOpl, .int MOiw, .int MOle, .ref hMOn])), (hMOz, .inl (cI, 116, .inl MOza)), (hMOo, .inl (cI, 150, .inl MOon)), (hMOw, .inl (cI, 150, .inl MOwy)), (hMOn, .inl (cI, 5, .inl MOnu))] rfl (by decide) 0 6 rfl rfl rfl rfl rfl (Nat.le_of_ble_eq_true rfl) dX7_doOrder_167 rfl ?_
          refine j_iconst (pc' := 171) cx 1 dX7_doOrder_170 ki_1 rfl ?_
          refine j_iadd (pc' := 172) cx dX7_doOrder_171 rfl ?_
          refine j_iconst (pc' := 173) cx 4 dX7_doOrder_172 ki_4 rfl ?_
          refine j_irem (pc' := 174) cx dX7_doOrder_173 kz_4 rfl ?_
          obtain ⟨i5, h_8⟩ := ck_s h_7
          refine j_iast (ws' := [(hMO, .inr (6, [.ref hMOz, .ref hMOa, .ref hMOb, .int MOst, .ref hMOk, .int MOik, .ref hMOt, .int MOln, .ref hMOo, .ref hMOw, .ref hMOm, .ref hMOq, .int MOpl, .int MOiw, .int MOle, .ref hMOn])), (hMOz, .inl (cI, 116, .inl (upd MOza ((26 + (3 * (MOon (MOnu (0 : Int32).toNatClampNeg).toNatClampNeg))) + 1).toNatClampNeg (rm (r3 + 1) 4)))), (hMOo, .inl (cI, 150, .inl MOon)), (hMOw, .inl (cI, 150, .inl MOwy)), (hMOn, .inl (cI, 5, .inl MOnu))]) (pc' := 175) cx 1 0 rfl rfl i5 rfl dX7_doOrder_174 rfl ?_
          refine j_aload_n (pc' := 176) cx 1 dX7_doOrder_175 rfl rfl ?_
          obtain ⟨r6, c7, h_9⟩ := bd_s h_8
          refine j_cV (pc' := 179) cx (c_X7_areClashing l D cI cZ cC cS hMO hMOz hMOa hMOb hMOk hMOt hMOo hMOw hMOm hMOq hMOn MOst MOik MOln MOpl MOiw MOle (upd MOza ((26 + (3 * (MOon (MOnu (0 : Int32).toNatClampNeg).toNatClampNeg))) + 1).toNatClampNeg (rm (r3 + 1) 4)) MOon MOwy r6 c7) 0 yk_X7_areClashing wM_X7_94 ⟨wN_X7_areClashing, wS_X7_areClashing, wI_X7, wC_X7_areClashing⟩ ⟨rfl, rfl, Nat.le_of_ble_eq_true rfl, Nat.le_of_ble_eq_true rfl, Nat.le_of_ble_eq_true rfl, Nat.le_of_ble_eq_true rfl⟩ [0, 1, 2, 3] [4] [1, 2, 3, 4, 0] rfl [(hMOn, .inl (cI, 5, .inl MOnu))] rfl (by decide) [(hMO, .inr (6, [.ref hMOz, .ref hMOa, .ref hMOb, .int MOst, .ref hMOk, .int MOik, .ref hMOt, .int MOln, .ref hMOo, .ref hMOw, .ref hMOm, .ref hMOq, .int MOpl, .int MOiw, .int MOle, .ref hMOn])), (hMOz, .inl (cI, 116, .inl (upd MOza ((26 + (3 * (MOon (MOnu (0 : Int32).toNatClampNeg).toNatClampNeg))) + 1).toNatClampNeg (rm (r3 + 1) 4)))), (hMOo, .inl (cI, 150, .inl MOon)), (hMOw, .inl (cI, 150, .inl MOwy)), (hMOn, .inl (cI, 5, .inl MOnu))] rfl (by decide) 0 6 rfl rfl rfl rfl rfl (Nat.le_of_ble_eq_true rfl) dX7_doOrder_176 rfl ?_
          obtain ⟨t8, h_11, h_10⟩ := bd_s h_9
          have Kt8 : j 0 0 [(hMO, .inr (6, [.ref hMOz, .ref hMOa, .ref hMOb, .int MOst, .ref hMOk, .int MOik, .ref hMOt, .int MOln, .ref hMOo, .ref hMOw, .ref hMOm, .ref hMOq, .int MOpl, .int MOiw, .int MOle, .ref hMOn])), (hMOz, .inl (cI, 116, .inl (upd MOza ((26 + (3 * (MOon (MOnu (0 : Int32).toNatClampNeg).toNatClampNeg))) + 1).toNatClampNeg (rm (r3 + 1) 4)))), (hMOo, .inl (cI, 150, .inl MOon)), (hMOw, .inl (cI, 150, .inl MOwy)), (hMOn, .inl (cI, 5, .inl MOnu))] [] 188 [.int t8] := by
            have h_12 := so_i h_10
            subst h_12
            exact j_ret cx (Or.inr (Or.inl ⟨_, _, rfl, rfl, dX7_doOrder_188, rfl, rfl⟩)) ⟨rfl, rfl⟩
          refine j_if_eq (tgt := 187) (pc' := 182) cx dX7_doOrder_179 (by decide) rfl (fun ch_11 => ?_) (fun ch_11 => ?_)
          · have h_13 := it_t h_11 ch_11
            refine j_iconst (pc' := 188) cx 0 dX7_doOrder_187 ki_0 rfl ?_
            have h_14 := so_i h_13
            subst h_14
            refine j_lv (lv' := []) cx [] rfl ?_
            exact Kt8
          · have h_15 := it_f h_11 ch_11
            refine j_bipush (pc' := 184) cx (-4) dX7_doOrder_182 kb_m4 rfl ?_
            refine j_goto (pc' := 188) cx dX7_doOrder_184 (by decide) ?_
            have h_16 := so_i h_15
            subst h_16
            refine j_lv (lv' := []) cx [] rfl ?_
            exact Kt8
        · have h_17 := it_t h_5 ch_5
          refine j_aload_n (pc' := 147) cx 1 dX7_doOrder_146 rfl rfl ?_
          refine j_iload_n (pc' := 148) cx 0 dX7_doOrder_147 rfl rfl ?_
          obtain ⟨r9, c10, h_18⟩ := bd_s h_17
          refine j_cV (pc' := 151) cx (c_X7_remove l D cI cZ cC cS hMO hMOz hMOa hMOb hMOk hMOt hMOo hMOw hMOm hMOq hMOn MOst MOik MOln MOpl MOiw MOle MOza MOon MOwy (MOon (MOnu (0 : Int32).toNatClampNeg).toNatClampNeg) r9 c10) 1 yk_X7_remove wM_X7_129 ⟨wN_X7_remove, wS_X7_remove, wI_X7, wC_X7_remove⟩ ⟨rfl, rfl, Nat.le_of_ble_eq_true rfl, Nat.le_of_ble_eq_true rfl, Nat.le_of_ble_eq_true rfl, Nat.le_of_ble_eq_true rfl⟩ [0, 1, 2, 3] [4] [1, 2, 3, 4, 0] rfl [(hMOn, .inl (cI, 5, .inl MOnu))] rfl (by decide) [(hMO, .inr (6, [.ref hMOz, .ref hMOa, .ref hMOb, .int MOst, .ref hMOk, .int MOik, .ref hMOt, .int MOln, .ref hMOo, .ref hMOw, .ref hMOm, .ref hMOq, .int MOpl, .int MOiw, .int MOle, .ref hMOn])), (hMOz, .inl (cI, 116, .inl r9.1)), (hMOo, .inl (cI, 150, .inl r9.2.1)), (hMOw, .inl (cI, 150, .inl r9.2.2)), (hMOn, .inl (cI, 5, .inl MOnu))] rfl (by decide) 0 6 rfl rfl rfl rfl rfl (Nat.le_of_ble_eq_true rfl) dX7_doOrder_148 rfl ?_
          refine j_iconst (pc' := 152) cx 0 dX7_doOrder_151 ki_0 rfl ?_
          have h_19 := so_i h_18
          subst h_19
          exact j_ret cx (Or.inr (Or.inl ⟨_, _, rfl, rfl, dX7_doOrder_152, rfl, rfl⟩)) ⟨rfl, rfl⟩
      · have h_20 := it_f h_4 ch_4
        refine j_iconst (pc' := 136) cx (-1) dX7_doOrder_135 ki_m1 rfl ?_
        have h_21 := so_i h_20
        subst h_21
        exact j_ret cx (Or.inr (Or.inl ⟨_, _, rfl, rfl, dX7_doOrder_136, rfl, rfl⟩)) ⟨rfl, rfl⟩
    · have h_22 := it_t h_1 ch_1
      refine j_iconst (pc' := 70) cx 0 dX7_doOrder_69 ki_0 rfl ?_
      refine j_istore_n (lv' := [(1, .int 0), (0, .ref hMO)]) (pc' := 71) cx dX7_doOrder_70 (by decide) rfl rfl ?_
      obtain ⟨e12, h_23, h_24⟩ := bd_s h_22
      have KXe12 : j 0 0 [(hMO, .inr (6, [.ref hMOz, .ref hMOa, .ref hMOb, .int MOst, .ref hMOk, .int MOik, .ref hMOt, .int MOln, .ref hMOo, .ref hMOw, .ref hMOm, .ref hMOq, .int MOpl, .int MOiw, .int MOle, .ref hMOn])), (hMOz, .inl (cI, 116, .inl e12.2)), (hMOo, .inl (cI, 150, .inl MOon)), (hMOw, .inl (cI, 150, .inl MOwy)), (hMOn, .inl (cI, 5, .inl MOnu))] [(0, .ref hMO)] 105 [] := by
        refine j_aload_n (pc' := 106) cx 0 dX7_doOrder_105 rfl rfl ?_
        obtain ⟨r16, c17, h_25⟩ := bd_s h_24
        refine j_cV (pc' := 109) cx (c_X7_areClashing l D cI cZ cC cS hMO hMOz hMOa hMOb hMOk hMOt hMOo hMOw hMOm hMOq hMOn MOst MOik MOln MOpl MOiw MOle e12.2 MOon MOwy r16 c17) 0 yk_X7_areClashing wM_X7_94 ⟨wN_X7_areClashing, wS_X7_areClashing, wI_X7, wC_X7_areClashing⟩ ⟨rfl, rfl, Nat.le_of_ble_eq_true rfl, Nat.le_of_ble_eq_true rfl, Nat.le_of_ble_eq_true rfl, Nat.le_of_ble_eq_true rfl⟩ [0, 1, 2, 3] [4] [1, 2, 3, 4, 0] rfl [(hMOn, .inl (cI, 5, .inl MOnu))] rfl (by decide) [(hMO, .inr (6, [.ref hMOz, .ref hMOa, .ref hMOb, .int MOst, .ref hMOk, .int MOik, .ref hMOt, .int MOln, .ref hMOo, .ref hMOw, .ref hMOm, .ref hMOq, .int MOpl, .int MOiw, .int MOle, .ref hMOn])), (hMOz, .inl (cI, 116, .inl e12.2)), (hMOo, .inl (cI, 150, .inl MOon)), (hMOw, .inl (cI, 150, .inl MOwy)), (hMOn, .inl (cI, 5, .inl MOnu))] rfl (by decide) 0 6 rfl rfl rfl rfl rfl (Nat.le_of_ble_eq_true rfl) dX7_doOrder_106 rfl ?_
        obtain ⟨t18, h_27, h_26⟩ := bd_s h_25
        have Kt18 : j 0 0 [(hMO, .inr (6, [.ref hMOz, .ref hMOa, .ref hMOb, .int MOst, .ref hMOk, .int MOik, .ref hMOt, .int MOln, .ref hMOo, .ref hMOw, .ref hMOm, .ref hMOq, .int MOpl, .int MOiw, .int MOle, .ref hMOn])), (hMOz, .inl (cI, 116, .inl e12.2)), (hMOo, .inl (cI, 150, .inl MOon)), (hMOw, .inl (cI, 150, .inl MOwy)), (hMOn, .inl (cI, 5, .inl MOnu))] [] 118 [.int t18] := by
          have h_28 := so_i h_26
          subst h_28
          exact j_ret cx (Or.inr (Or.inl ⟨_, _, rfl, rfl, dX7_doOrder_118, rfl, rfl⟩)) ⟨rfl, rfl⟩
        refine j_if_eq (tgt := 117) (pc' := 112) cx dX7_doOrder_109 (by decide) rfl (fun ch_27 => ?_) (fun ch_27 => ?_)
        · have h_29 := it_t h_27 ch_27
          refine j_iconst (pc' := 118) cx 0 dX7_doOrder_117 ki_0 rfl ?_
          have h_30 := so_i h_29
          subst h_30
          refine j_lv (lv' := []) cx [] rfl ?_
          exact Kt18
        · have h_31 := it_f h_27 ch_27
          refine j_bipush (pc' := 114) cx (-4) dX7_doOrder_112 kb_m4 rfl ?_
          refine j_goto (pc' := 118) cx dX7_doOrder_114 (by decide) ?_
          have h_32 := so_i h_31
          subst h_32
          refine j_lv (lv' := []) cx [] rfl ?_
          exact Kt18
      have LPe12 : ∀ (n : Nat) (s11 : Int32 × (Nat → Int32)), lp (f_X7_doOrder_b1 MOnu) n s11 = some e12 → j 0 0 [(hMO, .inr (6, [.ref hMOz, .ref hMOa, .ref hMOb, .int MOst, .ref hMOk, .int MOik, .ref hMOt, .int MOln, .ref hMOo, .ref hMOw, .ref hMOm, .ref hMOq, .int MOpl, .int MOiw, .int MOle, .ref hMOn])), (hMOz, .inl (cI, 116, .inl s11.2)), (hMOo, .inl (cI, 150, .inl MOon)), (hMOw, .inl (cI, 150, .inl MOwy)), (hMOn, .inl (cI, 5, .inl MOnu))] [(0, .ref hMO), (1, .int s11.1)] 71 [] := by
        intro n
        induction n with
        | zero => intro s11 z; exact absurd z (by intro z; cases z)
        | succ n ihe12 =>
          intro s11 h_33
          obtain ⟨q_34, h_35, h_36⟩ := bd_s h_33
          unfold f_X7_doOrder_b1 at h_35
          refine j_iload_n (pc' := 72) cx 1 dX7_doOrder_71 rfl rfl ?_
          refine j_iconst (pc' := 73) cx 4 dX7_doOrder_72 ki_4 rfl ?_
          refine j_icmp_ge (tgt := 105) (pc' := 76) cx dX7_doOrder_73 (by decide) rfl (fun ch_35 => ?_) (fun ch_35 => ?_)
          · have h_37 := it_t h_35 ch_35
            have h_38 := so_i h_37
            subst h_38
            have h_39 := so_i (se_r h_36)
            subst h_39
            refine j_lv (lv' := [(0, .ref hMO)]) cx [0] rfl ?_
            exact KXe12
          · have h_40 := it_f h_35 ch_35
            refine j_aload_n (pc' := 77) cx 0 dX7_doOrder_76 rfl rfl ?_
            refine j_get (C := RX7) (T := TX7) (N := 16) (pc' := 80) cx uB_X7 0 rfl rfl 0 (by decide) wF_X7_7 (.ref hMOz) rfl dX7_doOrder_77 rfl ?_
            refine j_iconst (pc' := 81) cx 4 dX7_doOrder_80 ki_4 rfl ?_
            refine j_aload_n (pc' := 82) cx 0 dX7_doOrder_81 rfl rfl ?_
            refine j_get (C := RX7) (T := TX7) (N := 16) (pc' := 85) cx uB_X7 0 rfl rfl 15 (by decide) wF_X7_37 (.ref hMOn) rfl dX7_doOrder_82 rfl ?_
            refine j_iconst (pc' := 86) cx 0 dX7_doOrder_85 ki_0 rfl ?_
            obtain ⟨i13, h_41⟩ := ck_s h_40
            refine j_iald (pc' := 87) cx 4 0 rfl rfl i13 dX7_doOrder_86 rfl ?_
            refine j_imul (pc' := 88) cx dX7_doOrder_87 rfl ?_
            refine j_iload_n (pc' := 89) cx 1 dX7_doOrder_88 rfl rfl ?_
            refine j_iadd (pc' := 90) cx dX7_doOrder_89 rfl ?_
            refine j_aload_n (pc' := 91) cx 0 dX7_doOrder_90 rfl rfl ?_
            refine j_get (C := RX7) (T := TX7) (N := 16) (pc' := 94) cx uB_X7 0 rfl rfl 15 (by decide) wF_X7_37 (.ref hMOn) rfl dX7_doOrder_91 rfl ?_
            refine j_iconst (pc' := 95) cx 1 dX7_doOrder_94 ki_1 rfl ?_
            refine j_iload_n (pc' := 96) cx 1 dX7_doOrder_95 rfl rfl ?_
            refine j_iadd (pc' := 97) cx dX7_doOrder_96 rfl ?_
            obtain ⟨i14, h_42⟩ := ck_s h_41
            refine j_iald (pc' := 98) cx 4 0 rfl rfl i14 dX7_doOrder_97 rfl ?_
            obtain ⟨i15, h_43⟩ := ck_s h_42
            refine j_iast (ws' := [(hMO, .inr (6, [.ref hMOz, .ref hMOa, .ref hMOb, .int MOst, .ref hMOk, .int MOik, .ref hMOt, .int MOln, .ref hMOo, .ref hMOw, .ref hMOm, .ref hMOq, .int MOpl, .int MOiw, .int MOle, .ref hMOn])), (hMOz, .inl (cI, 116, .inl (upd s11.2 ((4 * (MOnu (0 : Int32).toNatClampNeg)) + s11.1).toNatClampNeg (MOnu (1 + s11.1).toNatClampNeg)))), (hMOo, .inl (cI, 150, .inl MOon)), (hMOw, .inl (cI, 150, .inl MOwy)), (hMOn, .inl (cI, 5, .inl MOnu))]) (pc' := 99) cx 1 0 rfl rfl i15 rfl dX7_doOrder_98 rfl ?_
            refine j_iinc (v := (s11.1 + 1)) (lv' := [(1, .int (s11.1 + 1)), (0, .ref hMO)]) (pc' := 102) cx 1 dX7_doOrder_99 rfl (kn_1 _) (by decide) rfl rfl ?_
            refine j_goto (pc' := 71) cx dX7_doOrder_102 (by decide) ?_
            have h_44 := so_i h_43
            subst h_44
            refine j_lv (lv' := [(0, .ref hMO), (1, .int (s11.1 + 1))]) cx [1, 0] rfl ?_
            exact ihe12 _ (se_l h_36)
      refine j_lv (lv' := [(0, .ref hMO), (1, .int 0)]) cx [1, 0] rfl ?_
      exact LPe12 _ _ h_23
  · have h_45 := it_t hm chm
    refine j_aload_n (pc' := 10) cx 0 dX7_doOrder_9 rfl rfl ?_
    refine j_aload_n (pc' := 11) cx 0 dX7_doOrder_10 rfl rfl ?_
    refine j_get (C := RX7) (T := TX7) (N := 16) (pc' := 14) cx uB_X7 0 rfl rfl 15 (by decide) wF_X7_37 (.ref hMOn) rfl dX7_doOrder_11 rfl ?_
    refine j_iconst (pc' := 15) cx 1 dX7_doOrder_14 ki_1 rfl ?_
    obtain ⟨i19, h_46⟩ := ck_s h_45
    refine j_iald (pc' := 16) cx 4 0 rfl rfl i19 dX7_doOrder_15 rfl ?_
    refine j_aload_n (pc' := 17) cx 0 dX7_doOrder_16 rfl rfl ?_
    refine j_get (C := RX7) (T := TX7) (N := 16) (pc' := 20) cx uB_X7 0 rfl rfl 15 (by decide) wF_X7_37 (.ref hMOn) rfl dX7_doOrder_17 rfl ?_
    refine j_iconst (pc' := 21) cx 2 dX7_doOrder_20 ki_2 rfl ?_
    obtain ⟨i20, h_47⟩ := ck_s h_46
    refine j_iald (pc' := 22) cx 4 0 rfl rfl i20 dX7_doOrder_21 rfl ?_
    refine j_aload_n (pc' := 23) cx 0 dX7_doOrder_22 rfl rfl ?_
    refine j_get (C := RX7) (T := TX7) (N := 16) (pc' := 26) cx uB_X7 0 rfl rfl 15 (by decide) wF_X7_37 (.ref hMOn) rfl dX7_doOrder_23 rfl ?_
    refine j_iconst (pc' := 27) cx 0 dX7_doOrder_26 ki_0 rfl ?_
    obtain ⟨i21, h_48⟩ := ck_s h_47
    refine j_iald (pc' := 28) cx 4 0 rfl rfl i21 dX7_doOrder_27 rfl ?_
    obtain ⟨r22, c23, h_49⟩ := bd_s h_48
    refine j_cV (pc' := 31) cx (c_X7_noLay l D cI cZ cC cS hMO hMOz hMOa hMOb hMOk hMOt hMOo hMOw hMOm hMOq hMOn MOst MOik MOln MOpl MOiw MOle MOza MOon MOwy (MOnu (1 : Int32).toNatClampNeg) (MOnu (2 : Int32).toNatClampNeg) (MOnu (0 : Int32).toNatClampNeg) r22 c23) 3 yk_X7_noLay wM_X7_119 ⟨wN_X7_noLay, wS_X7_noLay, wI_X7, wC_X7_noLay⟩ ⟨rfl, rfl, Nat.le_of_ble_eq_true rfl, Nat.le_of_ble_eq_true rfl, Nat.le_of_ble_eq_true rfl, Nat.le_of_ble_eq_true rfl⟩ [0, 1, 2, 3] [4] [1, 2, 3, 4, 0] rfl [(hMOn, .inl (cI, 5, .inl MOnu))] rfl (by decide) [(hMO, .inr (6, [.ref hMOz, .ref hMOa, .ref hMOb, .int MOst, .ref hMOk, .int MOik, .ref hMOt, .int MOln, .ref hMOo, .ref hMOw, .ref hMOm, .ref hMOq, .int MOpl, .int MOiw, .int MOle, .ref hMOn])), (hMOz, .inl (cI, 116, .inl MOza)), (hMOo, .inl (cI, 150, .inl MOon)), (hMOw, .inl (cI, 150, .inl MOwy)), (hMOn, .inl (cI, 5, .inl MOnu))] rfl (by decide) 0 6 rfl rfl rfl rfl rfl (Nat.le_of_ble_eq_true rfl) dX7_doOrder_28 rfl ?_
    refine j_istore_n (lv' := [(1, .int r22), (0, .ref hMO)]) (pc' := 32) cx dX7_doOrder_31 (by decide) rfl rfl ?_
    refine j_iload_n (pc' := 33) cx 0 dX7_doOrder_32 rfl rfl ?_
    obtain ⟨t29, h_51, h_50⟩ := bd_s h_49
    have Kt29 : j 0 0 [(hMO, .inr (6, [.ref hMOz, .ref hMOa, .ref hMOb, .int MOst, .ref hMOk, .int MOik, .ref hMOt, .int MOln, .ref hMOo, .ref hMOw, .ref hMOm, .ref hMOq, .int MOpl, .int MOiw, .int MOle, .ref hMOn])), (hMOz, .inl (cI, 116, .inl t29.1)), (hMOo, .inl (cI, 150, .inl t29.2.1)), (hMOw, .inl (cI, 150, .inl t29.2.2)), (hMOn, .inl (cI, 5, .inl MOnu))] [(1, .int r22)] 58 [] := by
      refine j_iload_n (pc' := 59) cx 0 dX7_doOrder_58 rfl rfl ?_
      have h_52 := so_i h_50
      subst h_52
      exact j_ret cx (Or.inr (Or.inl ⟨_, _, rfl, rfl, dX7_doOrder_59, rfl, rfl⟩)) ⟨rfl, rfl⟩
    refine j_if_ne (tgt := 58) (pc' := 36) cx dX7_doOrder_33 (by decide) rfl (fun ch_51 => ?_) (fun ch_51 => ?_)
    · have h_53 := it_f h_51 ch_51
      have h_54 := so_i h_53
      subst h_54
      refine j_lv (lv' := [(1, .int r22)]) cx [0] rfl ?_
      exact Kt29
    · have h_55 := it_t h_51 ch_51
      refine j_aload_n (pc' := 37) cx 1 dX7_doOrder_36 rfl rfl ?_
      refine j_aload_n (pc' := 38) cx 1 dX7_doOrder_37 rfl rfl ?_
      refine j_get (C := RX7) (T := TX7) (N := 16) (pc' := 41) cx uB_X7 0 rfl rfl 15 (by decide) wF_X7_37 (.ref hMOn) rfl dX7_doOrder_38 rfl ?_
      refine j_iconst (pc' := 42) cx 1 dX7_doOrder_41 ki_1 rfl ?_
      obtain ⟨i24, h_56⟩ := ck_s h_55
      refine j_iald (pc' := 43) cx 4 0 rfl rfl i24 dX7_doOrder_42 rfl ?_
      refine j_aload_n (pc' := 44) cx 1 dX7_doOrder_43 rfl rfl ?_
      refine j_get (C := RX7) (T := TX7) (N := 16) (pc' := 47) cx uB_X7 0 rfl rfl 15 (by decide) wF_X7_37 (.ref hMOn) rfl dX7_doOrder_44 rfl ?_
      refine j_iconst (pc' := 48) cx 2 dX7_doOrder_47 ki_2 rfl ?_
      obtain ⟨i25, h_57⟩ := ck_s h_56
      refine j_iald (pc' := 49) cx 4 0 rfl rfl i25 dX7_doOrder_48 rfl ?_
      refine j_aload_n (pc' := 50) cx 1 dX7_doOrder_49 rfl rfl ?_
      refine j_get (C := RX7) (T := TX7) (N := 16) (pc' := 53) cx uB_X7 0 rfl rfl 15 (by decide) wF_X7_37 (.ref hMOn) rfl dX7_doOrder_50 rfl ?_
      refine j_iconst (pc' := 54) cx 0 dX7_doOrder_53 ki_0 rfl ?_
      obtain ⟨i26, h_58⟩ := ck_s h_57
      refine j_iald (pc' := 55) cx 4 0 rfl rfl i26 dX7_doOrder_54 rfl ?_
      obtain ⟨r27, c28, h_59⟩ := bd_s h_58
      refine j_cV (pc' := 58) cx (c_X7_add l D cI cZ cC cS hMO hMOz hMOa hMOb hMOk hMOt hMOo hMOw hMOm hMOq hMOn MOst MOik MOln MOpl MOiw MOle MOza MOon MOwy (MOnu (1 : Int32).toNatClampNeg) (MOnu (2 : Int32).toNatClampNeg) (MOnu (0 : Int32).toNatClampNeg) r27 c28) 3 yk_X7_add wM_X7_122 ⟨wN_X7_add, wS_X7_add, wI_X7, wC_X7_add⟩ ⟨rfl, rfl, Nat.le_of_ble_eq_true rfl, Nat.le_of_ble_eq_true rfl, Nat.le_of_ble_eq_true rfl, Nat.le_of_ble_eq_true rfl⟩ [0, 1, 2, 3] [4] [1, 2, 3, 4, 0] rfl [(hMOn, .inl (cI, 5, .inl MOnu))] rfl (by decide) [(hMO, .inr (6, [.ref hMOz, .ref hMOa, .ref hMOb, .int MOst, .ref hMOk, .int MOik, .ref hMOt, .int MOln, .ref hMOo, .ref hMOw, .ref hMOm, .ref hMOq, .int MOpl, .int MOiw, .int MOle, .ref hMOn])), (hMOz, .inl (cI, 116, .inl r27.1)), (hMOo, .inl (cI, 150, .inl r27.2.1)), (hMOw, .inl (cI, 150, .inl r27.2.2)), (hMOn, .inl (cI, 5, .inl MOnu))] rfl (by decide) 0 6 rfl rfl rfl rfl rfl (Nat.le_of_ble_eq_true rfl) dX7_doOrder_55 rfl ?_
      have h_60 := so_i h_59
      subst h_60
      refine j_lv (lv' := [(1, .int r22)]) cx [0] rfl ?_
      exact Kt29
