set_option maxHeartbeats 4000000 in
set_option maxRecDepth 100000 in
theorem c_X7_perform (l : Launch) (D : va_G) (cI cZ cC cS : ClassId) (hMO hMOz hMOa hMOb hMOk hMOt hMOo hMOw hMOm hMOq hMOn : Nat) (MOst : Int32) (MOik : Int32) (MOln : Int32) (MOpl : Int32) (MOiw : Int32) (MOle : Int32) (MOza : Nat → Int32) (MOas : Nat → Int32) (MObe : Nat → Int32) (MOtx : Nat → Int32) (MOon : Nat → Int32) (MOwy : Nat → Int32) (MOnu : Nat → Int32) (out : Int32 × Int32 × Int32 × Int32 × Int32 × (Nat → Int32) × (Nat → Int32) × (Nat → Int32) × (Nat → Int32) × (Nat → Int32) × (Nat → Int32)) (hm : f_X7_perform MOst MOln MOpl MOiw MOle MOza MOas MObe MOtx MOon MOwy MOnu = some out) : Ct l yX7_perform cX7_perform 4 (some .int) ({ frames := 7, cells := 0, slots := 0, locals := 164 }) (D, TY cI cZ cC cS) [.ref hMO] [(hMO, .inr (6, [.ref hMOz, .ref hMOa, .ref hMOb, .int MOst, .ref hMOk, .int MOik, .ref hMOt, .int MOln, .ref hMOo, .ref hMOw, .ref hMOm, .ref hMOq, .int MOpl, .int MOiw, .int MOle, .ref hMOn])), (hMOz, .inl (cI, 116, .inl MOza)), (hMOa, .inl (cI, 116, .inl MOas)), (hMOb, .inl (cI, 464, .inl MObe)), (hMOt, .inl (cI, 60, .inl MOtx)), (hMOo, .inl (cI, 150, .inl MOon)), (hMOw, .inl (cI, 150, .inl MOwy)), (hMOn, .inl (cI, 5, .inl MOnu))] (jw_P (some (.int out.1)) [(hMO, .inr (6, [.ref hMOz, .ref hMOa, .ref hMOb, .int out.2.1, .ref hMOk, .int MOik, .ref hMOt, .int MOln, .ref hMOo, .ref hMOw, .ref hMOm, .ref hMOq, .int out.2.2.1, .int out.2.2.2.1, .int out.2.2.2.2.1, .ref hMOn])), (hMOz, .inl (cI, 116, .inl out.2.2.2.2.2.1)), (hMOa, .inl (cI, 116, .inl out.2.2.2.2.2.2.1)), (hMOb, .inl (cI, 464, .inl out.2.2.2.2.2.2.2.1)), (hMOt, .inl (cI, 60, .inl MOtx)), (hMOo, .inl (cI, 150, .inl out.2.2.2.2.2.2.2.2.1)), (hMOw, .inl (cI, 150, .inl out.2.2.2.2.2.2.2.2.2.1)), (hMOn, .inl (cI, 5, .inl out.2.2.2.2.2.2.2.2.2.2))]) 0 0 := by
  refine ct_of RX7 (by decide +kernel) rfl (Nat.le_of_ble_eq_true rfl) (fun j cx => ?_)
  unfold f_X7_perform at hm
  show j 0 0 [(hMO, .inr (6, [.ref hMOz, .ref hMOa, .ref hMOb, .int MOst, .ref hMOk, .int MOik, .ref hMOt, .int MOln, .ref hMOo, .ref hMOw, .ref hMOm, .ref hMOq, .int MOpl, .int MOiw, .int MOle, .ref hMOn])), (hMOz, .inl (cI, 116, .inl MOza)), (hMOa, .inl (cI, 116, .inl MOas)), (hMOb, .inl (cI, 464, .inl MObe)), (hMOt, .inl (cI, 60, .inl MOtx)), (hMOo, .inl (cI, 150, .inl MOon)), (hMOw, .inl (cI, 150, .inl MOwy)), (hMOn, .inl (cI, 5, .inl MOnu))] [(0, .ref hMO)] 0 []
  refine j_aload_n (pc' := 1) cx 0 dX7_perform_0 rfl rfl ?_
  obtain ⟨r1, c2, h_1⟩ := bd_s hm
  refine j_cV (pc' := 4) cx (c_X7_findFault l D cI cZ cC cS hMO hMOz hMOa hMOb hMOk hMOt hMOo hMOw hMOm hMOq hMOn MOst MOik MOln MOpl MOiw MOle MOtx MOnu r1 c2) 0 yk_X7_findFault wM_X7_168 ⟨wN_X7_findFault, wS_X7_findFault, wI_X7, wC_X7_findFault⟩ ⟨rfl, rfl, Nat.le_of_ble_eq_true rfl, Nat.le_of_ble_eq_true rfl, Nat.le_of_ble_eq_true rfl, Nat.le_of_ble_eq_true rfl⟩ [0, 4, 7] [1, 2, 3, 5, 6] [5, 0, 1, 2, 6, 3, 4, 7] rfl [(hMOz, .inl (cI, 116, .inl MOza)), (hMOa, .inl (cI, 116, .inl MOas)), (hMOb, .inl (cI, 464, .inl MObe)), (hMOo, .inl (cI, 150, .inl MOon)), (hMOw, .inl (cI, 150, .inl MOwy))] rfl (by decide) [(hMO, .inr (6, [.ref hMOz, .ref hMOa, .ref hMOb, .int MOst, .ref hMOk, .int MOik, .ref hMOt, .int MOln, .ref hMOo, .ref hMOw, .ref hMOm, .ref hMOq, .int r1.2.1, .int r1.2.2.1, .int r1.2.2.2.1, .ref hMOn])), (hMOz, .inl (cI, 116, .inl MOza)), (hMOa, .inl (cI, 116, .inl MOas)), (hMOb, .inl (cI, 464, .inl MObe)), (hMOt, .inl (cI, 60, .inl MOtx)), (hMOo, .inl (cI, 150, .inl MOon)), (hMOw, .inl (cI, 150, .inl MOwy)), (hMOn, .inl (cI, 5, .inl r1.2.2.2.2))] rfl (by decide) 0 6 rfl rfl rfl rfl rfl (Nat.le_of_ble_eq_true rfl) dX7_perform_1 rfl ?_
  refine j_istore_n (lv' := [(1, .int r1.1), (0, .ref hMO)]) (pc' := 5) cx dX7_perform_4 (by decide) rfl rfl ?_
  refine j_iload_n (pc' := 6) cx 0 dX7_perform_5 rfl rfl ?_
  refine j_if_lt (tgt := 14) (pc' := 9) cx dX7_perform_6 (by decide) rfl (fun ch_1 => ?_) (fun ch_1 => ?_)
  · have h_2 := it_t h_1 ch_1
    refine j_aload_n (pc' := 15) cx 1 dX7_perform_14 rfl rfl ?_
    obtain ⟨r3, c4, h_3⟩ := bd_s h_2
    refine j_cV (pc' := 18) cx (c_X7_putAside l D cI cZ cC cS hMO hMOz hMOa hMOb hMOk hMOt hMOo hMOw hMOm hMOq hMOn MOst MOik MOln r1.2.1 r1.2.2.1 r1.2.2.2.1 MOza MOas r3 c4) 0 yk_X7_putAside wM_X7_104 ⟨wN_X7_putAside, wS_X7_putAside, wI_X7, wC_X7_putAside⟩ ⟨rfl, rfl, Nat.le_of_ble_eq_true rfl, Nat.le_of_ble_eq_true rfl, Nat.le_of_ble_eq_true rfl, Nat.le_of_ble_eq_true rfl⟩ [0, 1, 2] [3, 4, 5, 6, 7] [5, 6, 7, 0, 1, 2, 3, 4] rfl [(hMOb, .inl (cI, 464, .inl MObe)), (hMOt, .inl (cI, 60, .inl MOtx)), (hMOo, .inl (cI, 150, .inl MOon)), (hMOw, .inl (cI, 150, .inl MOwy)), (hMOn, .inl (cI, 5, .inl r1.2.2.2.2))] rfl (by decide) [(hMO, .inr (6, [.ref hMOz, .ref hMOa, .ref hMOb, .int MOst, .ref hMOk, .int MOik, .ref hMOt, .int MOln, .ref hMOo, .ref hMOw, .ref hMOm, .ref hMOq, .int r1.2.1, .int r1.2.2.1, .int r1.2.2.2.1, .ref hMOn])), (hMOz, .inl (cI, 116, .inl MOza)), (hMOa, .inl (cI, 116, .inl r3)), (hMOb, .inl (cI, 464, .inl MObe)), (hMOt, .inl (cI, 60, .inl MOtx)), (hMOo, .inl (cI, 150, .inl MOon)), (hMOw, .inl (cI, 150, .inl MOwy)), (hMOn, .inl (cI, 5, .inl r1.2.2.2.2))] rfl (by decide) 0 6 rfl rfl rfl rfl rfl (Nat.le_of_ble_eq_true rfl) dX7_perform_15 rfl ?_
    refine j_aload_n (pc' := 19) cx 1 dX7_perform_18 rfl rfl ?_
    refine j_iconst (pc' := 20) cx 0 dX7_perform_19 ki_0 rfl ?_
    refine j_put (C := RX7) (T := TX7) (N := 16) (ws' := [(hMO, .inr (6, [.ref hMOz, .ref hMOa, .ref hMOb, .int MOst, .ref hMOk, .int MOik, .ref hMOt, .int MOln, .ref hMOo, .ref hMOw, .ref hMOm, .ref hMOq, .int 0, .int r1.2.2.1, .int r1.2.2.2.1, .ref hMOn])), (hMOz, .inl (cI, 116, .inl MOza)), (hMOa, .inl (cI, 116, .inl r3)), (hMOb, .inl (cI, 464, .inl MObe)), (hMOt, .inl (cI, 60, .inl MOtx)), (hMOo, .inl (cI, 150, .inl MOon)), (hMOw, .inl (cI, 150, .inl MOwy)), (hMOn, .inl (cI, 5, .inl r1.2.2.2.2))]) (pc' := 23) cx uB_X7 tyX7 tyX7_ok nmX7 0 rfl rfl 12 (by decide) wF_X7_142 rfl rfl rfl (Nat.le_of_ble_eq_true rfl) rfl dX7_perform_20 rfl ?_
    refine j_iconst (pc' := 24) cx 0 dX7_perform_23 ki_0 rfl ?_
    refine j_istore_n (lv' := [(2, .int 0), (1, .int r1.1), (0, .ref hMO)]) (pc' := 25) cx dX7_perform_24 (by decide) rfl rfl ?_
    refine j_iconst (pc' := 26) cx 0 dX7_perform_25 ki_0 rfl ?_
    refine j_istore_n (lv' := [(3, .int 0), (2, .int 0), (1, .int r1.1), (0, .ref hMO)]) (pc' := 27) cx dX7_perform_26 (by decide) rfl rfl ?_
    obtain ⟨e6, h_4, h_5⟩ := bd_s h_3
    have KXe6 : j 0 0 [(hMO, .inr (6, [.ref hMOz, .ref hMOa, .ref hMOb, .int MOst, .ref hMOk, .int MOik, .ref hMOt, .int MOln, .ref hMOo, .ref hMOw, .ref hMOm, .ref hMOq, .int e6.2.2.1, .int e6.2.2.2.1, .int e6.2.2.2.2.1, .ref hMOn])), (hMOz, .inl (cI, 116, .inl e6.2.2.2.2.2.1)), (hMOa, .inl (cI, 116, .inl r3)), (hMOb, .inl (cI, 464, .inl MObe)), (hMOt, .inl (cI, 60, .inl MOtx)), (hMOo, .inl (cI, 150, .inl e6.2.2.2.2.2.2.1)), (hMOw, .inl (cI, 150, .inl e6.2.2.2.2.2.2.2.1)), (hMOn, .inl (cI, 5, .inl e6.2.2.2.2.2.2.2.2))] [(0, .ref hMO), (2, .int e6.1), (3, .int e6.2.1)] 67 [] := by
      refine j_iload_n (pc' := 68) cx 1 dX7_perform_67 rfl rfl ?_
      refine j_if_ge (tgt := 77) (pc' := 71) cx dX7_perform_68 (by decide) rfl (fun ch_5 => ?_) (fun ch_5 => ?_)
      · have h_6 := it_t h_5 ch_5
        refine j_aload_n (pc' := 78) cx 0 dX7_perform_77 rfl rfl ?_
        refine j_aload_n (pc' := 79) cx 0 dX7_perform_78 rfl rfl ?_
        refine j_get (C := RX7) (T := TX7) (N := 16) (pc' := 82) cx uB_X7 0 rfl rfl 1 (by decide) wF_X7_13 (.ref hMOa) rfl dX7_perform_79 rfl ?_
        obtain ⟨r11, c12, h_7⟩ := bd_s h_6
        refine j_cV (pc' := 85) cx (c_X7_record l D cI cZ cC cS hMOa hMO hMOz hMOa hMOb hMOk hMOt hMOo hMOw hMOm hMOq hMOn r3 MOst MOik MOln e6.2.2.1 e6.2.2.2.1 e6.2.2.2.2.1 MObe r11 c12) 1 yk_X7_record wM_X7_90 ⟨wN_X7_record, wS_X7_record, wI_X7, wC_X7_record⟩ ⟨rfl, rfl, Nat.le_of_ble_eq_true rfl, Nat.le_of_ble_eq_true rfl, Nat.le_of_ble_eq_true rfl, Nat.le_of_ble_eq_true rfl⟩ [2, 0, 3] [1, 4, 5, 6, 7] [6, 0, 5, 7, 1, 2, 3, 4] rfl [(hMOz, .inl (cI, 116, .inl e6.2.2.2.2.2.1)), (hMOt, .inl (cI, 60, .inl MOtx)), (hMOo, .inl (cI, 150, .inl e6.2.2.2.2.2.2.1)), (hMOw, .inl (cI, 150, .inl e6.2.2.2.2.2.2.2.1)), (hMOn, .inl (cI, 5, .inl e6.2.2.2.2.2.2.2.2))] rfl (by decide) [(hMO, .inr (6, [.ref hMOz, .ref hMOa, .ref hMOb, .int r11.1, .ref hMOk, .int MOik, .ref hMOt, .int MOln, .ref hMOo, .ref hMOw, .ref hMOm, .ref hMOq, .int e6.2.2.1, .int e6.2.2.2.1, .int e6.2.2.2.2.1, .ref hMOn])), (hMOz, .inl (cI, 116, .inl e6.2.2.2.2.2.1)), (hMOa, .inl (cI, 116, .inl r3)), (hMOb, .inl (cI, 464, .inl r11.2)), (hMOt, .inl (cI, 60, .inl MOtx)), (hMOo, .inl (cI, 150, .inl e6.2.2.2.2.2.2.1)), (hMOw, .inl (cI, 150, .inl e6.2.2.2.2.2.2.2.1)), (hMOn, .inl (cI, 5, .inl e6.2.2.2.2.2.2.2.2))] rfl (by decide) 0 6 rfl rfl rfl rfl rfl (Nat.le_of_ble_eq_true rfl) dX7_perform_82 rfl ?_
        refine j_iload_n (pc' := 86) cx 2 dX7_perform_85 rfl rfl ?_
        have h_8 := so_i h_7
        subst h_8
        exact j_ret cx (Or.inr (Or.inl ⟨_, _, rfl, rfl, dX7_perform_86, rfl, rfl⟩)) ⟨rfl, rfl⟩
      · have h_9 := it_f h_5 ch_5
        refine j_aload_n (pc' := 72) cx 0 dX7_perform_71 rfl rfl ?_
        obtain ⟨r13, c14, h_10⟩ := bd_s h_9
        refine j_cV (pc' := 75) cx (c_X7_putBack l D cI cZ cC cS hMO hMOz hMOa hMOb hMOk hMOt hMOo hMOw hMOm hMOq hMOn MOst MOik MOln e6.2.2.1 e6.2.2.2.1 e6.2.2.2.2.1 e6.2.2.2.2.2.1 r3 e6.2.2.2.2.2.2.1 e6.2.2.2.2.2.2.2.1 r13 c14) 0 yk_X7_putBack wM_X7_98 ⟨wN_X7_putBack, wS_X7_putBack, wI_X7, wC_X7_putBack⟩ ⟨rfl, rfl, Nat.le_of_ble_eq_true rfl, Nat.le_of_ble_eq_true rfl, Nat.le_of_ble_eq_true rfl, Nat.le_of_ble_eq_true rfl⟩ [0, 1, 2, 5, 6] [3, 4, 7] [3, 4, 5, 0, 1, 6, 7, 2] rfl [(hMOb, .inl (cI, 464, .inl MObe)), (hMOt, .inl (cI, 60, .inl MOtx)), (hMOn, .inl (cI, 5, .inl e6.2.2.2.2.2.2.2.2))] rfl (by decide) [(hMO, .inr (6, [.ref hMOz, .ref hMOa, .ref hMOb, .int MOst, .ref hMOk, .int MOik, .ref hMOt, .int MOln, .ref hMOo, .ref hMOw, .ref hMOm, .ref hMOq, .int e6.2.2.1, .int e6.2.2.2.1, .int e6.2.2.2.2.1, .ref hMOn])), (hMOz, .inl (cI, 116, .inl r13.1)), (hMOa, .inl (cI, 116, .inl r3)), (hMOb, .inl (cI, 464, .inl MObe)), (hMOt, .inl (cI, 60, .inl MOtx)), (hMOo, .inl (cI, 150, .inl r13.2.1)), (hMOw, .inl (cI, 150, .inl r13.2.2)), (hMOn, .inl (cI, 5, .inl e6.2.2.2.2.2.2.2.2))] rfl (by decide) 0 6 rfl rfl rfl rfl rfl (Nat.le_of_ble_eq_true rfl) dX7_perform_72 rfl ?_
        refine j_iload_n (pc' := 76) cx 1 dX7_perform_75 rfl rfl ?_
        have h_11 := so_i h_10
        subst h_11
        exact j_ret cx (Or.inr (Or.inl ⟨_, _, rfl, rfl, dX7_perform_76, rfl, rfl⟩)) ⟨rfl, rfl⟩
    have LPe6 : ∀ (n : Nat) (s5 : Int32 × Int32 × Int32 × Int32 × Int32 × (Nat → Int32) × (Nat → Int32) × (Nat → Int32) × (Nat → Int32)), lp (f_X7_perform_b1 MOln MOtx) n s5 = some e6 → j 0 0 [(hMO, .inr (6, [.ref hMOz, .ref hMOa, .ref hMOb, .int MOst, .ref hMOk, .int MOik, .ref hMOt, .int MOln, .ref hMOo, .ref hMOw, .ref hMOm, .ref hMOq, .int s5.2.2.1, .int s5.2.2.2.1, .int s5.2.2.2.2.1, .ref hMOn])), (hMOz, .inl (cI, 116, .inl s5.2.2.2.2.2.1)), (hMOa, .inl (cI, 116, .inl r3)), (hMOb, .inl (cI, 464, .inl MObe)), (hMOt, .inl (cI, 60, .inl MOtx)), (hMOo, .inl (cI, 150, .inl s5.2.2.2.2.2.2.1)), (hMOw, .inl (cI, 150, .inl s5.2.2.2.2.2.2.2.1)), (hMOn, .inl (cI, 5, .inl s5.2.2.2.2.2.2.2.2))] [(0, .ref hMO), (2, .int s5.1), (3, .int s5.2.1)] 27 [] := by
      intro n
      induction n with
      | zero => intro s5 z; exact absurd z (by intro z; cases z)
      | succ n ihe6 =>
        intro s5 h_12
        obtain ⟨q_13, h_14, h_15⟩ := bd_s h_12
        unfold f_X7_perform_b1 at h_14
        refine j_iload_n (pc' := 28) cx 1 dX7_perform_27 rfl rfl ?_
        refine j_if_ne (tgt := 67) (pc' := 31) cx dX7_perform_28 (by decide) rfl (fun ch_14 => ?_) (fun ch_14 => ?_)
        · have h_16 := it_f h_14 ch_14
          have h_17 := so_i h_16
          subst h_17
          have h_18 := so_i (se_r h_15)
          subst h_18
          exact KXe6
        · have h_19 := it_t h_14 ch_14
          refine j_aload_n (pc' := 32) cx 0 dX7_perform_31 rfl rfl ?_
          refine j_get (C := RX7) (T := TX7) (N := 16) (pc' := 35) cx uB_X7 0 rfl rfl 12 (by decide) wF_X7_142 (.int s5.2.2.1) rfl dX7_perform_32 rfl ?_
          refine j_aload_n (pc' := 36) cx 0 dX7_perform_35 rfl rfl ?_
          refine j_get (C := RX7) (T := TX7) (N := 16) (pc' := 39) cx uB_X7 0 rfl rfl 7 (by decide) wF_X7_139 (.int MOln) rfl dX7_perform_36 rfl ?_
          refine j_icmp_ge (tgt := 67) (pc' := 42) cx dX7_perform_39 (by decide) rfl (fun ch_19 => ?_) (fun ch_19 => ?_)
          · have h_20 := it_t h_19 ch_19
            have h_21 := so_i h_20
            subst h_21
            have h_22 := so_i (se_r h_15)
            subst h_22
            exact KXe6
          · have h_23 := it_f h_19 ch_19
            refine j_aload_n (pc' := 43) cx 0 dX7_perform_42 rfl rfl ?_
            obtain ⟨r7, c8, h_24⟩ := bd_s h_23
            refine j_cV (pc' := 46) cx (c_X7_takeOrder l D cI cZ cC cS hMO hMOz hMOa hMOb hMOk hMOt hMOo hMOw hMOm hMOq hMOn MOst MOik MOln s5.2.2.1 s5.2.2.2.1 s5.2.2.2.2.1 MOtx s5.2.2.2.2.2.2.2.2 r7 c8) 0 yk_X7_takeOrder wM_X7_165 ⟨wN_X7_takeOrder, wS_X7_takeOrder, wI_X7, wC_X7_takeOrder⟩ ⟨rfl, rfl, Nat.le_of_ble_eq_true rfl, Nat.le_of_ble_eq_true rfl, Nat.le_of_ble_eq_true rfl, Nat.le_of_ble_eq_true rfl⟩ [0, 4, 7] [1, 2, 3, 5, 6] [5, 0, 1, 2, 6, 3, 4, 7] rfl [(hMOz, .inl (cI, 116, .inl s5.2.2.2.2.2.1)), (hMOa, .inl (cI, 116, .inl r3)), (hMOb, .inl (cI, 464, .inl MObe)), (hMOo, .inl (cI, 150, .inl s5.2.2.2.2.2.2.1)), (hMOw, .inl (cI, 150, .inl s5.2.2.2.2.2.2.2.1))] rfl (by decide) [(hMO, .inr (6, [.ref hMOz, .ref hMOa, .ref hMOb, .int MOst, .ref hMOk, .int MOik, .ref hMOt, .int MOln, .ref hMOo, .ref hMOw, .ref hMOm, .ref hMOq, .int r7.1, .int r7.2.1, .int r7.2.2.1, .ref hMOn])), (hMOz, .inl (cI, 116, .inl s5.2.2.2.2.2.1)), (hMOa, .inl (cI, 116, .inl r3)), (hMOb, .inl (cI, 464, .inl MObe)), (hMOt, .inl (cI, 60, .inl MOtx)), (hMOo, .inl (cI, 150, .inl s5.2.2.2.2.2.2.1)), (hMOw, .inl (cI, 150, .inl s5.2.2.2.2.2.2.2.1)), (hMOn, .inl (cI, 5, .inl r7.2.2.2))] rfl (by decide) 0 6 rfl rfl rfl rfl rfl (Nat.le_of_ble_eq_true rfl) dX7_perform_43 rfl ?_
            refine j_aload_n (pc' := 47) cx 0 dX7_perform_46 rfl rfl ?_
            refine j_dup (pc' := 48) cx dX7_perform_47 rfl rfl ?_
            refine j_get (C := RX7) (T := TX7) (N := 16) (pc' := 51) cx uB_X7 0 rfl rfl 12 (by decide) wF_X7_142 (.int r7.1) rfl dX7_perform_48 rfl ?_
            refine j_iconst (pc' := 52) cx 1 dX7_perform_51 ki_1 rfl ?_
            refine j_iadd (pc' := 53) cx dX7_perform_52 rfl ?_
            refine j_put (C := RX7) (T := TX7) (N := 16) (ws' := [(hMO, .inr (6, [.ref hMOz, .ref hMOa, .ref hMOb, .int MOst, .ref hMOk, .int MOik, .ref hMOt, .int MOln, .ref hMOo, .ref hMOw, .ref hMOm, .ref hMOq, .int (r7.1 + 1), .int r7.2.1, .int r7.2.2.1, .ref hMOn])), (hMOz, .inl (cI, 116, .inl s5.2.2.2.2.2.1)), (hMOa, .inl (cI, 116, .inl r3)), (hMOb, .inl (cI, 464, .inl MObe)), (hMOt, .inl (cI, 60, .inl MOtx)), (hMOo, .inl (cI, 150, .inl s5.2.2.2.2.2.2.1)), (hMOw, .inl (cI, 150, .inl s5.2.2.2.2.2.2.2.1)), (hMOn, .inl (cI, 5, .inl r7.2.2.2))]) (pc' := 56) cx uB_X7 tyX7 tyX7_ok nmX7 0 rfl rfl 12 (by decide) wF_X7_142 rfl rfl rfl (Nat.le_of_ble_eq_true rfl) rfl dX7_perform_53 rfl ?_
            refine j_aload_n (pc' := 57) cx 0 dX7_perform_56 rfl rfl ?_
            obtain ⟨r9, c10, h_25⟩ := bd_s h_24
            refine j_cV (pc' := 60) cx (c_X7_doOrder l D cI cZ cC cS hMO hMOz hMOa hMOb hMOk hMOt hMOo hMOw hMOm hMOq hMOn MOst MOik MOln (r7.1 + 1) r7.2.1 r7.2.2.1 s5.2.2.2.2.2.1 s5.2.2.2.2.2.2.1 s5.2.2.2.2.2.2.2.1 r7.2.2.2 r9 c10) 0 yk_X7_doOrder wM_X7_171 ⟨wN_X7_doOrder, wS_X7_doOrder, wI_X7, wC_X7_doOrder⟩ ⟨rfl, rfl, Nat.le_of_ble_eq_true rfl, Nat.le_of_ble_eq_true rfl, Nat.le_of_ble_eq_true rfl, Nat.le_of_ble_eq_true rfl⟩ [0, 1, 5, 6, 7] [2, 3, 4] [3, 4, 0, 1, 2, 5, 6, 7] rfl [(hMOa, .inl (cI, 116, .inl r3)), (hMOb, .inl (cI, 464, .inl MObe)), (hMOt, .inl (cI, 60, .inl MOtx))] rfl (by decide) [(hMO, .inr (6, [.ref hMOz, .ref hMOa, .ref hMOb, .int MOst, .ref hMOk, .int MOik, .ref hMOt, .int MOln, .ref hMOo, .ref hMOw, .ref hMOm, .ref hMOq, .int (r7.1 + 1), .int r7.2.1, .int r7.2.2.1, .ref hMOn])), (hMOz, .inl (cI, 116, .inl r9.2.1)), (hMOa, .inl (cI, 116, .inl r3)), (hMOb, .inl (cI, 464, .inl MObe)), (hMOt, .inl (cI, 60, .inl MOtx)), (hMOo, .inl (cI, 150, .inl r9.2.2.1)), (hMOw, .inl (cI, 150, .inl r9.2.2.2)), (hMOn, .inl (cI, 5, .inl r7.2.2.2))] rfl (by decide) 0 6 rfl rfl rfl rfl rfl (Nat.le_of_ble_eq_true rfl) dX7_perform_57 rfl ?_
            refine j_istore_n (lv' := [(2, .int r9.1), (0, .ref hMO), (3, .int s5.2.1)]) (pc' := 61) cx dX7_perform_60 (by decide) rfl rfl ?_
            refine j_iinc (v := (s5.2.1 + 1)) (lv' := [(3, .int (s5.2.1 + 1)), (2, .int r9.1), (0, .ref hMO)]) (pc' := 64) cx 2 dX7_perform_61 rfl (kn_1 _) (by decide) rfl rfl ?_
            refine j_goto (pc' := 27) cx dX7_perform_64 (by decide) ?_
            have h_26 := so_i h_25
            subst h_26
            refine j_lv (lv' := [(0, .ref hMO), (2, .int r9.1), (3, .int (s5.2.1 + 1))]) cx [2, 1, 0] rfl ?_
            exact ihe6 _ (se_l h_15)
    refine j_lv (lv' := [(0, .ref hMO), (2, .int 0), (3, .int 0)]) cx [3, 1, 0] rfl ?_
    exact LPe6 _ _ h_4
  · have h_27 := it_f h_1 ch_1
    refine j_bipush (pc' := 11) cx (-100) dX7_perform_9 kb_m100 rfl ?_
    refine j_iload_n (pc' := 12) cx 0 dX7_perform_11 rfl rfl ?_
    refine j_isub (pc' := 13) cx dX7_perform_12 rfl ?_
    have h_28 := so_i h_27
    subst h_28
    exact j_ret cx (Or.inr (Or.inl ⟨_, _, rfl, rfl, dX7_perform_13, rfl, rfl⟩)) ⟨rfl, rfl⟩
set_option maxHeartbeats 4000000 in
set_option maxRecDepth 100000 in
theorem c_X7_colour (l : Launch) (D : va_G) (cI cZ cC cS : ClassId) (hMO hMOz hMOa hMOb hMOk hMOt hMOo hMOw hMOm hMOq hMOn : Nat) (MOst : Int32) (MOik : Int32) (MOln : Int32) (MOpl : Int32) (MOiw : Int32) (MOle : Int32) (MOza : Nat → Int32) (p0 : Int32) (p1 : Int32) (out : Int32) (hm : f_X7_colour MOza p0 p1 = some out) : Ct l yX7_colour cX7_colour 3 (some .int) ({ frames := 2, cells := 0, slots := 0, locals := 42 }) (D, TY cI cZ cC cS) [.ref hMO, .int p0, .int p1] [(hMO, .inr (6, [.ref hMOz, .ref hMOa, .ref hMOb, .int MOst, .ref hMOk, .int MOik, .ref hMOt, .int MOln, .ref hMOo, .ref hMOw, .ref hMOm, .ref hMOq, .int MOpl, .int MOiw, .int MOle, .ref hMOn])), (hMOz, .inl (cI, 116, .inl MOza))] (jw_P (some (.int out)) [(hMO, .inr (6, [.ref hMOz, .ref hMOa, .ref hMOb, .int MOst, .ref hMOk, .int MOik, .ref hMOt, .int MOln, .ref hMOo, .ref hMOw, .ref hMOm, .ref hMOq, .int MOpl, .int MOiw, .int MOle, .ref hMOn])), (hMOz, .inl (cI, 116, .inl MOza))]) 0 0 := by
  refine ct_of RX7 (by decide +kernel) rfl (Nat.le_of_ble_eq_true rfl) (fun j cx => ?_)
  unfold f_X7_colour at hm
  show j 0 0 [(hMO, .inr (6, [.ref hMOz, .ref hMOa, .ref hMOb, .int MOst, .ref hMOk, .int MOik, .ref hMOt, .int MOln, .ref hMOo, .ref hMOw, .ref hMOm, .ref hMOq, .int MOpl, .int MOiw, .int MOle, .ref hMOn])), (hMOz, .inl (cI, 116, .inl MOza))] [(0, .ref hMO), (1, .int p0), (2, .int p1)] 0 []
  refine j_iload_n (pc' := 1) cx 1 dX7_colour_0 rfl rfl ?_
  obtain ⟨r1, c2, h_1⟩ := bd_s hm
  refine j_cS (pc' := 4) cx (c_X7_isKind l D cI cZ cC cS p0 r1 c2) 1 yk_X7_isKind wM_X7_101 ⟨wT_X7_isKind, wI_X7, wC_X7_isKind⟩ ⟨rfl, rfl, Nat.le_of_ble_eq_true rfl, Nat.le_of_ble_eq_true rfl, Nat.le_of_ble_eq_true rfl, Nat.le_of_ble_eq_true rfl⟩ [] [0, 1] [0, 1] rfl [(hMO, .inr (6, [.ref hMOz, .ref hMOa, .ref hMOb, .int MOst, .ref hMOk, .int MOik, .ref hMOt, .int MOln, .ref hMOo, .ref hMOw, .ref hMOm, .ref hMOq, .int MOpl, .int MOiw, .int MOle, .ref hMOn])), (hMOz, .inl (cI, 116, .inl MOza))] rfl (by decide) [(hMO, .inr (6, [.ref hMOz, .ref hMOa, .ref hMOb, .int MOst, .ref hMOk, .int MOik, .ref hMOt, .int MOln, .ref hMOo, .ref hMOw, .ref hMOm, .ref hMOq, .int MOpl, .int MOiw, .int MOle, .ref hMOn])), (hMOz, .inl (cI, 116, .inl MOza))] rfl (by decide) rfl rfl (Nat.le_of_ble_eq_true rfl) dX7_colour_1 rfl ?_
  obtain ⟨t6, h_3, h_2⟩ := bd_s h_1
  have Kt6 : j 0 0 [(hMO, .inr (6, [.ref hMOz, .ref hMOa, .ref hMOb, .int MOst, .ref hMOk, .int MOik, .ref hMOt, .int MOln, .ref hMOo, .ref hMOw, .ref hMOm, .ref hMOq, .int MOpl, .int MOiw, .int MOle, .ref hMOn])), (hMOz, .inl (cI, 116, .inl MOza))] [] 35 [.int t6] := by
    have h_4 := so_i h_2
    subst h_4
    exact j_ret cx (Or.inr (Or.inl ⟨_, _, rfl, rfl, dX7_colour_35, rfl, rfl⟩)) ⟨rfl, rfl⟩
  refine j_if_ne (tgt := 11) (pc' := 7) cx dX7_colour_4 (by decide) rfl (fun ch_3 => ?_) (fun ch_3 => ?_)
  · have h_5 := it_f h_3 ch_3
    refine j_iload_n (pc' := 12) cx 2 dX7_colour_11 rfl rfl ?_
    refine j_iconst (pc' := 13) cx 0 dX7_colour_12 ki_0 rfl ?_
    refine j_iconst (pc' := 14) cx 3 dX7_colour_13 ki_3 rfl ?_
    obtain ⟨r3, c4, h_6⟩ := bd_s h_5
    refine j_cS (pc' := 17) cx (c_X7_in l D cI cZ cC cS p1 0 3 r3 c4) 3 yk_X7_in wM_X7_43 ⟨wT_X7_in, wI_X7, wC_X7_in⟩ ⟨rfl, rfl, Nat.le_of_ble_eq_true rfl, Nat.le_of_ble_eq_true rfl, Nat.le_of_ble_eq_true rfl, Nat.le_of_ble_eq_true rfl⟩ [] [0, 1] [0, 1] rfl [(hMO, .inr (6, [.ref hMOz, .ref hMOa, .ref hMOb, .int MOst, .ref hMOk, .int MOik, .ref hMOt, .int MOln, .ref hMOo, .ref hMOw, .ref hMOm, .ref hMOq, .int MOpl, .int MOiw, .int MOle, .ref hMOn])), (hMOz, .inl (cI, 116, .inl MOza))] rfl (by decide) [(hMO, .inr (6, [.ref hMOz, .ref hMOa, .ref hMOb, .int MOst, .ref hMOk, .int MOik, .ref hMOt, .int MOln, .ref hMOo, .ref hMOw, .ref hMOm, .ref hMOq, .int MOpl, .int MOiw, .int MOle, .ref hMOn])), (hMOz, .inl (cI, 116, .inl MOza))] rfl (by decide) rfl rfl (Nat.le_of_ble_eq_true rfl) dX7_colour_14 rfl ?_
    refine j_if_eq (tgt := 33) (pc' := 20) cx dX7_colour_17 (by decide) rfl (fun ch_6 => ?_) (fun ch_6 => ?_)
    · have h_7 := it_t h_6 ch_6
      refine j_bipush (pc' := 35) cx (-2) dX7_colour_33 kb_m2 rfl ?_
      have h_8 := so_i h_7
      subst h_8
      refine j_lv (lv' := []) cx [] rfl ?_
      exact Kt6
    · have h_9 := it_f h_6 ch_6
      refine j_aload_n (pc' := 21) cx 0 dX7_colour_20 rfl rfl ?_
      refine j_get (C := RX7) (T := TX7) (N := 16) (pc' := 24) cx uB_X7 0 rfl rfl 0 (by decide) wF_X7_7 (.ref hMOz) rfl dX7_colour_21 rfl ?_
      refine j_iconst (pc' := 25) cx 4 dX7_colour_24 ki_4 rfl ?_
      refine j_iload_n (pc' := 26) cx 1 dX7_colour_25 rfl rfl ?_
      refine j_imul (pc' := 27) cx dX7_colour_26 rfl ?_
      refine j_iload_n (pc' := 28) cx 2 dX7_colour_27 rfl rfl ?_
      refine j_iadd (pc' := 29) cx dX7_colour_28 rfl ?_
      obtain ⟨i5, h_10⟩ := ck_s h_9
      refine j_iald (pc' := 30) cx 1 0 rfl rfl i5 dX7_colour_29 rfl ?_
      refine j_goto (pc' := 35) cx dX7_colour_30 (by decide) ?_
      have h_11 := so_i h_10
      subst h_11
      refine j_lv (lv' := []) cx [] rfl ?_
      exact Kt6
  · have h_12 := it_t h_3 ch_3
    refine j_iconst (pc' := 8) cx (-1) dX7_colour_7 ki_m1 rfl ?_
    refine j_goto (pc' := 35) cx dX7_colour_8 (by decide) ?_
    have h_13 := so_i h_12
    subst h_13
    refine j_lv (lv' := []) cx [] rfl ?_
    exact Kt6
set_option maxHeartbeats 4000000 in
set_option maxRecDepth 100000 in
theorem c_X7_freeBeside (l : Launch) (D : va_G) (cI cZ cC cS : ClassId) (hMO hMOz hMOa hMOb hMOk hMOt hMOo hMOw hMOm hMOq hMOn : Nat) (MOst : Int32) (MOik : Int32) (MOln : Int32) (MOpl : Int32) (MOiw : Int32) (MOle : Int32) (MOon : Nat → Int32) (p0 : Int32) (out : Int32) (hm : f_X7_freeBeside MOon p0 = some out) : Ct l yX7_freeBeside cX7_freeBeside 4 (some .int) ({ frames := 1, cells := 0, slots := 0, locals := 23 }) (D, TY cI cZ cC cS) [.ref hMO, .int p0] [(hMO, .inr (6, [.ref hMOz, .ref hMOa, .ref hMOb, .int MOst, .ref hMOk, .int MOik, .ref hMOt, .int MOln, .ref hMOo, .ref hMOw, .ref hMOm, .ref hMOq, .int MOpl, .int MOiw, .int MOle, .ref hMOn])), (hMOo, .inl (cI, 150, .inl MOon))] (jw_P (some (.int out)) [(hMO, .inr (6, [.ref hMOz, .ref hMOa, .ref hMOb, .int MOst, .ref hMOk, .int MOik, .ref hMOt, .int MOln, .ref hMOo, .ref hMOw, .ref hMOm, .ref hMOq, .int MOpl, .int MOiw, .int MOle, .ref hMOn])), (hMOo, .inl (cI, 150, .inl MOon))]) 0 0 := by
  refine ct_of RX7 (by decide +kernel) rfl (Nat.le_of_ble_eq_true rfl) (fun j cx => ?_)
  unfold f_X7_freeBeside at hm
  show j 0 0 [(hMO, .inr (6, [.ref hMOz, .ref hMOa, .ref hMOb, .int MOst, .ref hMOk, .int MOik, .ref hMOt, .int MOln, .ref hMOo, .ref hMOw, .ref hMOm, .ref hMOq, .int MOpl, .int MOiw, .int MOle, .ref hMOn])), (hMOo, .inl (cI, 150, .inl MOon))] [(0, .ref hMO), (1, .int p0)] 0 []
  refine j_iconst (pc' := 1) cx 0 dX7_freeBeside_0 ki_0 rfl ?_
  refine j_istore_n (lv' := [(2, .int 0), (0, .ref hMO), (1, .int p0)]) (pc' := 2) cx dX7_freeBeside_1 (by decide) rfl rfl ?_
  refine j_iconst (pc' := 3) cx 0 dX7_freeBeside_2 ki_0 rfl ?_
  refine j_istore_n (lv' := [(3, .int 0), (2, .int 0), (0, .ref hMO), (1, .int p0)]) (pc' := 4) cx dX7_freeBeside_3 (by decide) rfl rfl ?_
  obtain ⟨e2, h_1, h_2⟩ := bd_s hm
  have KXe2 : j 0 0 [(hMO, .inr (6, [.ref hMOz, .ref hMOa, .ref hMOb, .int MOst, .ref hMOk, .int MOik, .ref hMOt, .int MOln, .ref hMOo, .ref hMOw, .ref hMOm, .ref hMOq, .int MOpl, .int MOiw, .int MOle, .ref hMOn])), (hMOo, .inl (cI, 150, .inl MOon))] [(2, .int e2.1)] 36 [] := by
    refine j_iload_n (pc' := 37) cx 0 dX7_freeBeside_36 rfl rfl ?_
    have h_3 := so_i h_2
    subst h_3
    exact j_ret cx (Or.inr (Or.inl ⟨_, _, rfl, rfl, dX7_freeBeside_37, rfl, rfl⟩)) ⟨rfl, rfl⟩
  have LPe2 : ∀ (n : Nat) (s1 : Int32 × Int32), lp (f_X7_freeBeside_b1 MOon p0) n s1 = some e2 → j 0 0 [(hMO, .inr (6, [.ref hMOz, .ref hMOa, .ref hMOb, .int MOst, .ref hMOk, .int MOik, .ref hMOt, .int MOln, .ref hMOo, .ref hMOw, .ref hMOm, .ref hMOq, .int MOpl, .int MOiw, .int MOle, .ref hMOn])), (hMOo, .inl (cI, 150, .inl MOon))] [(0, .ref hMO), (1, .int p0), (2, .int s1.1), (3, .int s1.2)] 4 [] := by
    intro n
    induction n with
    | zero => intro s1 z; exact absurd z (by intro z; cases z)
    | succ n ihe2 =>
      intro s1 h_4
      obtain ⟨q_5, h_6, h_7⟩ := bd_s h_4
      unfold f_X7_freeBeside_b1 at h_6
      refine j_iload_n (pc' := 5) cx 3 dX7_freeBeside_4 rfl rfl ?_
      refine j_iconst (pc' := 6) cx 4 dX7_freeBeside_5 ki_4 rfl ?_
      refine j_icmp_ge (tgt := 36) (pc' := 9) cx dX7_freeBeside_6 (by decide) rfl (fun ch_6 => ?_) (fun ch_6 => ?_)
      · have h_8 := it_t h_6 ch_6
        have h_9 := so_i h_8
        subst h_9
        have h_10 := so_i (se_r h_7)
        subst h_10
        refine j_lv (lv' := [(2, .int s1.1)]) cx [2] rfl ?_
        exact KXe2
      · have h_11 := it_f h_6 ch_6
        refine j_iload_n (pc' := 10) cx 2 dX7_freeBeside_9 rfl rfl ?_
        refine j_aload_n (pc' := 11) cx 0 dX7_freeBeside_10 rfl rfl ?_
        refine j_get (C := RX7) (T := TX7) (N := 16) (pc' := 14) cx uB_X7 0 rfl rfl 8 (by decide) wF_X7_25 (.ref hMOo) rfl dX7_freeBeside_11 rfl ?_
        refine j_iload_n (pc' := 15) cx 1 dX7_freeBeside_14 rfl rfl ?_
        refine j_iload_n (pc' := 16) cx 3 dX7_freeBeside_15 rfl rfl ?_
        obtain ⟨r3, c4, h_12⟩ := bd_s h_11
        refine j_cS (pc' := 19) cx (c_X7_beside l D cI cZ cC cS p0 s1.2 r3 c4) 2 yk_X7_beside wM_X7_61 ⟨wT_X7_beside, wI_X7, wC_X7_beside⟩ ⟨rfl, rfl, Nat.le_of_ble_eq_true rfl, Nat.le_of_ble_eq_true rfl, Nat.le_of_ble_eq_true rfl, Nat.le_of_ble_eq_true rfl⟩ [] [0, 1] [0, 1] rfl [(hMO, .inr (6, [.ref hMOz, .ref hMOa, .ref hMOb, .int MOst, .ref hMOk, .int MOik, .ref hMOt, .int MOln, .ref hMOo, .ref hMOw, .ref hMOm, .ref hMOq, .int MOpl, .int MOiw, .int MOle, .ref hMOn])), (hMOo, .inl (cI, 150, .inl MOon))] rfl (by decide) [(hMO, .inr (6, [.ref hMOz, .ref hMOa, .ref hMOb, .int MOst, .ref hMOk, .int MOik, .ref hMOt, .int MOln, .ref hMOo, .ref hMOw, .ref hMOm, .ref hMOq, .int MOpl, .int MOiw, .int MOle, .ref hMOn])), (hMOo, .inl (cI, 150, .inl MOon))] rfl (by decide) rfl rfl (Nat.le_of_ble_eq_true rfl) dX7_freeBeside_16 rfl ?_
        obtain ⟨i5, h_13⟩ := ck_s h_12
        refine j_iald (pc' := 20) cx 1 0 rfl rfl i5 dX7_freeBeside_19 rfl ?_
        obtain ⟨t6, h_15, h_14⟩ := bd_s h_13
        have Kt6 : j 0 0 [(hMO, .inr (6, [.ref hMOz, .ref hMOa, .ref hMOb, .int MOst, .ref hMOk, .int MOik, .ref hMOt, .int MOln, .ref hMOo, .ref hMOw, .ref hMOm, .ref hMOq, .int MOpl, .int MOiw, .int MOle, .ref hMOn])), (hMOo, .inl (cI, 150, .inl MOon))] [(0, .ref hMO), (1, .int p0), (3, .int s1.2)] 28 [.int t6, .int s1.1] := by
          refine j_iadd (pc' := 29) cx dX7_freeBeside_28 rfl ?_
          refine j_istore_n (lv' := [(2, .int (s1.1 + t6)), (0, .ref hMO), (1, .int p0), (3, .int s1.2)]) (pc' := 30) cx dX7_freeBeside_29 (by decide) rfl rfl ?_
          refine j_iinc (v := (s1.2 + 1)) (lv' := [(3, .int (s1.2 + 1)), (2, .int (s1.1 + t6)), (0, .ref hMO), (1, .int p0)]) (pc' := 33) cx 3 dX7_freeBeside_30 rfl (kn_1 _) (by decide) rfl rfl ?_
          refine j_goto (pc' := 4) cx dX7_freeBeside_33 (by decide) ?_
          have h_16 := so_i h_14
          subst h_16
          refine j_lv (lv' := [(0, .ref hMO), (1, .int p0), (2, .int (s1.1 + t6)), (3, .int (s1.2 + 1))]) cx [2, 3, 1, 0] rfl ?_
          exact ihe2 _ (se_l h_7)
        refine j_if_ge (tgt := 27) (pc' := 23) cx dX7_freeBeside_20 (by decide) rfl (fun ch_15 => ?_) (fun ch_15 => ?_)
        · have h_17 := it_t h_15 ch_15
          refine j_iconst (pc' := 28) cx 0 dX7_freeBeside_27 ki_0 rfl ?_
          have h_18 := so_i h_17
          subst h_18
          refine j_lv (lv' := [(0, .ref hMO), (1, .int p0), (3, .int s1.2)]) cx [0, 1, 3] rfl ?_
          exact Kt6
        · have h_19 := it_f h_15 ch_15
          refine j_iconst (pc' := 24) cx 1 dX7_freeBeside_23 ki_1 rfl ?_
          refine j_goto (pc' := 28) cx dX7_freeBeside_24 (by decide) ?_
          have h_20 := so_i h_19
          subst h_20
          refine j_lv (lv' := [(0, .ref hMO), (1, .int p0), (3, .int s1.2)]) cx [0, 1, 3] rfl ?_
          exact Kt6
  refine j_lv (lv' := [(0, .ref hMO), (1, .int p0), (2, .int 0), (3, .int 0)]) cx [2, 3, 1, 0] rfl ?_
  exact LPe2 _ _ h_1
set_option maxHeartbeats 4000000 in
set_option maxRecDepth 100000 in
theorem c_X7_cell (l : Launch) (D : va_G) (cI cZ cC cS : ClassId) (hMO hMOz hMOa hMOb hMOk hMOt hMOo hMOw hMOm hMOq hMOn : Nat) (MOst : Int32) (MOik : Int32) (MOln : Int32) (MOpl : Int32) (MOiw : Int32) (MOle : Int32) (MOza : Nat → Int32) (MOon : Nat → Int32) (MOwy : Nat → Int32) (p0 : Int32) (p1 : Int32) (out : Int32) (hm : f_X7_cell MOza MOon MOwy p0 p1 = some out) : Ct l yX7_cell cX7_cell 3 (some .int) ({ frames := 3, cells := 0, slots := 0, locals := 66 }) (D, TY cI cZ cC cS) [.ref hMO, .int p0, .int p1] [(hMO, .inr (6, [.ref hMOz, .ref hMOa, .ref hMOb, .int MOst, .ref hMOk, .int MOik, .ref hMOt, .int MOln, .ref hMOo, .ref hMOw, .ref hMOm, .ref hMOq, .int MOpl, .int MOiw, .int MOle, .ref hMOn])), (hMOz, .inl (cI, 116, .inl MOza)), (hMOo, .inl (cI, 150, .inl MOon)), (hMOw, .inl (cI, 150, .inl MOwy))] (jw_P (some (.int out)) [(hMO, .inr (6, [.ref hMOz, .ref hMOa, .ref hMOb, .int MOst, .ref hMOk, .int MOik, .ref hMOt, .int MOln, .ref hMOo, .ref hMOw, .ref hMOm, .ref hMOq, .int MOpl, .int MOiw, .int MOle, .ref hMOn])), (hMOz, .inl (cI, 116, .inl MOza)), (hMOo, .inl (cI, 150, .inl MOon)), (hMOw, .inl (cI, 150, .inl MOwy))]) 0 0 := by
  refine ct_of RX7 (by decide +kernel) rfl (Nat.le_of_ble_eq_true rfl) (fun j cx => ?_)
  unfold f_X7_cell at hm
  show j 0 0 [(hMO, .inr (6, [.ref hMOz, .ref hMOa, .ref hMOb, .int MOst, .ref hMOk, .int MOik, .ref hMOt, .int MOln, .ref hMOo, .ref hMOw, .ref hMOm, .ref hMOq, .int MOpl, .int MOiw, .int MOle, .ref hMOn])), (hMOz, .inl (cI, 116, .inl MOza)), (hMOo, .inl (cI, 150, .inl MOon)), (hMOw, .inl (cI, 150, .inl MOwy))] [(0, .ref hMO), (1, .int p0), (2, .int p1)] 0 []
  refine j_iload_n (pc' := 1) cx 1 dX7_cell_0 rfl rfl ?_
  obtain ⟨r1, c2, h_1⟩ := bd_s hm
  refine j_cS (pc' := 4) cx (c_X7_isCell l D cI cZ cC cS p0 r1 c2) 1 yk_X7_isCell wM_X7_113 ⟨wT_X7_isCell, wI_X7, wC_X7_isCell⟩ ⟨rfl, rfl, Nat.le_of_ble_eq_true rfl, Nat.le_of_ble_eq_true rfl, Nat.le_of_ble_eq_true rfl, Nat.le_of_ble_eq_true rfl⟩ [] [0, 1, 2, 3] [0, 1, 2, 3] rfl [(hMO, .inr (6, [.ref hMOz, .ref hMOa, .ref hMOb, .int MOst, .ref hMOk, .int MOik, .ref hMOt, .int MOln, .ref hMOo, .ref hMOw, .ref hMOm, .ref hMOq, .int MOpl, .int MOiw, .int MOle, .ref hMOn])), (hMOz, .inl (cI, 116, .inl MOza)), (hMOo, .inl (cI, 150, .inl MOon)), (hMOw, .inl (cI, 150, .inl MOwy))] rfl (by decide) [(hMO, .inr (6, [.ref hMOz, .ref hMOa, .ref hMOb, .int MOst, .ref hMOk, .int MOik, .ref hMOt, .int MOln, .ref hMOo, .ref hMOw, .ref hMOm, .ref hMOq, .int MOpl, .int MOiw, .int MOle, .ref hMOn])), (hMOz, .inl (cI, 116, .inl MOza)), (hMOo, .inl (cI, 150, .inl MOon)), (hMOw, .inl (cI, 150, .inl MOwy))] rfl (by decide) rfl rfl (Nat.le_of_ble_eq_true rfl) dX7_cell_1 rfl ?_
  refine j_if_ne (tgt := 9) (pc' := 7) cx dX7_cell_4 (by decide) rfl (fun ch_1 => ?_) (fun ch_1 => ?_)
  · have h_2 := it_f h_1 ch_1
    refine j_iload_n (pc' := 10) cx 2 dX7_cell_9 rfl rfl ?_
    by_cases k_3 : p1 = 0
    · have h_4 := it_t h_2 k_3
      refine j_tab_in (tgt := 40) cx dX7_cell_10 k_3 (by decide +kernel) (by decide +kernel) (by first | rfl | decide +kernel) (by decide) ?_
      refine j_aload_n (pc' := 41) cx 0 dX7_cell_40 rfl rfl ?_
      refine j_get (C := RX7) (T := TX7) (N := 16) (pc' := 44) cx uB_X7 0 rfl rfl 8 (by decide) wF_X7_25 (.ref hMOo) rfl dX7_cell_41 rfl ?_
      refine j_iload_n (pc' := 45) cx 1 dX7_cell_44 rfl rfl ?_
      obtain ⟨i3, h_5⟩ := ck_s h_4
      refine j_iald (pc' := 46) cx 2 0 rfl rfl i3 dX7_cell_45 rfl ?_
      have h_6 := so_i h_5
      subst h_6
      exact j_ret cx (Or.inr (Or.inl ⟨_, _, rfl, rfl, dX7_cell_46, rfl, rfl⟩)) ⟨rfl, rfl⟩
    · have h_7 := it_f h_2 k_3
      by_cases k_8 : p1 = 1
      · have h_9 := it_t h_7 k_8
        refine j_tab_in (tgt := 47) cx dX7_cell_10 k_8 (by decide +kernel) (by decide +kernel) (by first | rfl | decide +kernel) (by decide) ?_
        refine j_aload_n (pc' := 48) cx 0 dX7_cell_47 rfl rfl ?_
        refine j_get (C := RX7) (T := TX7) (N := 16) (pc' := 51) cx uB_X7 0 rfl rfl 9 (by decide) wF_X7_28 (.ref hMOw) rfl dX7_cell_48 rfl ?_
        refine j_iload_n (pc' := 52) cx 1 dX7_cell_51 rfl rfl ?_
        obtain ⟨i4, h_10⟩ := ck_s h_9
        refine j_iald (pc' := 53) cx 3 0 rfl rfl i4 dX7_cell_52 rfl ?_
        have h_11 := so_i h_10
        subst h_11
        exact j_ret cx (Or.inr (Or.inl ⟨_, _, rfl, rfl, dX7_cell_53, rfl, rfl⟩)) ⟨rfl, rfl⟩
      · have h_12 := it_f h_7 k_8
        by_cases k_13 : p1 = 2
        · have h_14 := it_t h_12 k_13
          refine j_tab_in (tgt := 54) cx dX7_cell_10 k_13 (by decide +kernel) (by decide +kernel) (by first | rfl | decide +kernel) (by decide) ?_
          refine j_aload_n (pc' := 55) cx 0 dX7_cell_54 rfl rfl ?_
          refine j_iload_n (pc' := 56) cx 1 dX7_cell_55 rfl rfl ?_
          obtain ⟨r5, c6, h_15⟩ := bd_s h_14
          refine j_cV (pc' := 59) cx (c_X7_hasArm l D cI cZ cC cS hMO hMOz hMOa hMOb hMOk hMOt hMOo hMOw hMOm hMOq hMOn MOst MOik MOln MOpl MOiw MOle MOwy p0 r5 c6) 1 yk_X7_hasArm wM_X7_68 ⟨wN_X7_hasArm, wS_X7_hasArm, wI_X7, wC_X7_hasArm⟩ ⟨rfl, rfl, Nat.le_of_ble_eq_true rfl, Nat.le_of_ble_eq_true rfl, Nat.le_of_ble_eq_true rfl, Nat.le_of_ble_eq_true rfl⟩ [0, 3] [1, 2] [2, 0, 1, 3] rfl [(hMOz, .inl (cI, 116, .inl MOza)), (hMOo, .inl (cI, 150, .inl MOon))] rfl (by decide) [(hMO, .inr (6, [.ref hMOz, .ref hMOa, .ref hMOb, .int MOst, .ref hMOk, .int MOik, .ref hMOt, .int MOln, .ref hMOo, .ref hMOw, .ref hMOm, .ref hMOq, .int MOpl, .int MOiw, .int MOle, .ref hMOn])), (hMOz, .inl (cI, 116, .inl MOza)), (hMOo, .inl (cI, 150, .inl MOon)), (hMOw, .inl (cI, 150, .inl MOwy))] rfl (by decide) 0 6 rfl rfl rfl rfl rfl (Nat.le_of_ble_eq_true rfl) dX7_cell_56 rfl ?_
          obtain ⟨t9, h_17, h_16⟩ := bd_s h_15
          have Kt9 : j 0 0 [(hMO, .inr (6, [.ref hMOz, .ref hMOa, .ref hMOb, .int MOst, .ref hMOk, .int MOik, .ref hMOt, .int MOln, .ref hMOo, .ref hMOw, .ref hMOm, .ref hMOq, .int MOpl, .int MOiw, .int MOle, .ref hMOn])), (hMOz, .inl (cI, 116, .inl MOza)), (hMOo, .inl (cI, 150, .inl MOon)), (hMOw, .inl (cI, 150, .inl MOwy))] [] 72 [.int t9] := by
            have h_18 := so_i h_16
            subst h_18
            exact j_ret cx (Or.inr (Or.inl ⟨_, _, rfl, rfl, dX7_cell_72, rfl, rfl⟩)) ⟨rfl, rfl⟩
          refine j_if_eq (tgt := 70) (pc' := 62) cx dX7_cell_59 (by decide) rfl (fun ch_17 => ?_) (fun ch_17 => ?_)
          · have h_19 := it_t h_17 ch_17
            refine j_bipush (pc' := 72) cx (-5) dX7_cell_70 kb_m5 rfl ?_
            have h_20 := so_i h_19
            subst h_20
            refine j_lv (lv' := []) cx [] rfl ?_
            exact Kt9
          · have h_21 := it_f h_17 ch_17
            refine j_aload_n (pc' := 63) cx 0 dX7_cell_62 rfl rfl ?_
            refine j_iload_n (pc' := 64) cx 1 dX7_cell_63 rfl rfl ?_
            obtain ⟨r7, c8, h_22⟩ := bd_s h_21
            refine j_cV (pc' := 67) cx (c_X7_armColour l D cI cZ cC cS hMO hMOz hMOa hMOb hMOk hMOt hMOo hMOw hMOm hMOq hMOn MOst MOik MOln MOpl MOiw MOle MOza MOon MOwy p0 r7 c8) 1 yk_X7_armColour wM_X7_76 ⟨wN_X7_armColour, wS_X7_armColour, wI_X7, wC_X7_armColour⟩ ⟨rfl, rfl, Nat.le_of_ble_eq_true rfl, Nat.le_of_ble_eq_true rfl, Nat.le_of_ble_eq_true rfl, Nat.le_of_ble_eq_true rfl⟩ [0, 1, 2, 3] [] [0, 1, 2, 3] rfl [] rfl (by decide) [(hMO, .inr (6, [.ref hMOz, .ref hMOa, .ref hMOb, .int MOst, .ref hMOk, .int MOik, .ref hMOt, .int MOln, .ref hMOo, .ref hMOw, .ref hMOm, .ref hMOq, .int MOpl, .int MOiw, .int MOle, .ref hMOn])), (hMOz, .inl (cI, 116, .inl MOza)), (hMOo, .inl (cI, 150, .inl MOon)), (hMOw, .inl (cI, 150, .inl MOwy))] rfl (by decide) 0 6 rfl rfl rfl rfl rfl (Nat.le_of_ble_eq_true rfl) dX7_cell_64 rfl ?_
            refine j_goto (pc' := 72) cx dX7_cell_67 (by decide) ?_
            have h_23 := so_i h_22
            subst h_23
            refine j_lv (lv' := []) cx [] rfl ?_
            exact Kt9
        · have h_24 := it_f h_12 k_13
          by_cases k_25 : p1 = 3
          · have h_26 := it_t h_24 k_25
            refine j_tab_in (tgt := 73) cx dX7_cell_10 k_25 (by decide +kernel) (by decide +kernel) (by first | rfl | decide +kernel) (by decide) ?_
            refine j_aload_n (pc' := 74) cx 0 dX7_cell_73 rfl rfl ?_
            refine j_iload_n (pc' := 75) cx 1 dX7_cell_74 rfl rfl ?_
            obtain ⟨r10, c11, h_27⟩ := bd_s h_26
            refine j_cV (pc' := 78) cx (c_X7_freeBeside l D cI cZ cC cS hMO hMOz hMOa hMOb hMOk hMOt hMOo hMOw hMOm hMOq hMOn MOst MOik MOln MOpl MOiw MOle MOon p0 r10 c11) 1 yk_X7_freeBeside wM_X7_174 ⟨wN_X7_freeBeside, wS_X7_freeBeside, wI_X7, wC_X7_freeBeside⟩ ⟨rfl, rfl, Nat.le_of_ble_eq_true rfl, Nat.le_of_ble_eq_true rfl, Nat.le_of_ble_eq_true rfl, Nat.le_of_ble_eq_true rfl⟩ [0, 2] [1, 3] [2, 0, 3, 1] rfl [(hMOz, .inl (cI, 116, .inl MOza)), (hMOw, .inl (cI, 150, .inl MOwy))] rfl (by decide) [(hMO, .inr (6, [.ref hMOz, .ref hMOa, .ref hMOb, .int MOst, .ref hMOk, .int MOik, .ref hMOt, .int MOln, .ref hMOo, .ref hMOw, .ref hMOm, .ref hMOq, .int MOpl, .int MOiw, .int MOle, .ref hMOn])), (hMOz, .inl (cI, 116, .inl MOza)), (hMOo, .inl (cI, 150, .inl MOon)), (hMOw, .inl (cI, 150, .inl MOwy))] rfl (by decide) 0 6 rfl rfl rfl rfl rfl (Nat.le_of_ble_eq_true rfl) dX7_cell_75 rfl ?_
            have h_28 := so_i h_27
            subst h_28
            exact j_ret cx (Or.inr (Or.inl ⟨_, _, rfl, rfl, dX7_cell_78, rfl, rfl⟩)) ⟨rfl, rfl⟩
          · have h_29 := it_f h_24 k_25
            refine j_tab_out (tgt := 79) cx dX7_cell_10 (fun n n1 n2 => ?_) (by decide) ?_
            · have n3 : n = 0 ∨ n = 1 ∨ n = 2 ∨ n = 3 := by omega
              rcases n3 with rfl | rfl | rfl | rfl
              · exact k_3
              · exact k_8
              · exact k_13
              · exact k_25
            · skip
              refine j_bipush (pc' := 81) cx (-2) dX7_cell_79 kb_m2 rfl ?_
              have h_30 := so_i h_29
              subst h_30
              exact j_ret cx (Or.inr (Or.inl ⟨_, _, rfl, rfl, dX7_cell_81, rfl, rfl⟩)) ⟨rfl, rfl⟩
  · have h_31 := it_t h_1 ch_1
    refine j_iconst (pc' := 8) cx (-1) dX7_cell_7 ki_m1 rfl ?_
    have h_32 := so_i h_31
    subst h_32
    exact j_ret cx (Or.inr (Or.inl ⟨_, _, rfl, rfl, dX7_cell_8, rfl, rfl⟩)) ⟨rfl, rfl⟩
set_option maxHeartbeats 4000000 in
set_option maxRecDepth 100000 in
theorem c_X7_touchesAt (l : Launch) (D : va_G) (cI cZ cC cS : ClassId) (hMO hMOz hMOa hMOb hMOk hMOt hMOo hMOw hMOm hMOq hMOn : Nat) (MOst : Int32) (MOik : Int32) (MOln : Int32) (MOpl : Int32) (MOiw : Int32) (MOle : Int32) (MOon : Nat → Int32) (MOwy : Nat → Int32) (p0 : Int32) (out : Int32) (hm : f_X7_touchesAt MOon MOwy p0 = some out) : Ct l yX7_touchesAt cX7_touchesAt 4 (some .int) ({ frames := 3, cells := 0, slots := 0, locals := 65 }) (D, TY cI cZ cC cS) [.ref hMO, .int p0] [(hMO, .inr (6, [.ref hMOz, .ref hMOa, .ref hMOb, .int MOst, .ref hMOk, .int MOik, .ref hMOt, .int MOln, .ref hMOo, .ref hMOw, .ref hMOm, .ref hMOq, .int MOpl, .int MOiw, .int MOle, .ref hMOn])), (hMOo, .inl (cI, 150, .inl MOon)), (hMOw, .inl (cI, 150, .inl MOwy))] (jw_P (some (.int out)) [(hMO, .inr (6, [.ref hMOz, .ref hMOa, .ref hMOb, .int MOst, .ref hMOk, .int MOik, .ref hMOt, .int MOln, .ref hMOo, .ref hMOw, .ref hMOm, .ref hMOq, .int MOpl, .int MOiw, .int MOle, .ref hMOn])), (hMOo, .inl (cI, 150, .inl MOon)), (hMOw, .inl (cI, 150, .inl MOwy))]) 0 0 := by
  refine ct_of RX7 (by decide +kernel) rfl (Nat.le_of_ble_eq_true rfl) (fun j cx => ?_)
  unfold f_X7_touchesAt at hm
  show j 0 0 [(hMO, .inr (6, [.ref hMOz, .ref hMOa, .ref hMOb, .int MOst, .ref hMOk, .int MOik, .ref hMOt, .int MOln, .ref hMOo, .ref hMOw, .ref hMOm, .ref hMOq, .int MOpl, .int MOiw, .int MOle, .ref hMOn])), (hMOo, .inl (cI, 150, .inl MOon)), (hMOw, .inl (cI, 150, .inl MOwy))] [(0, .ref hMO), (1, .int p0)] 0 []
  refine j_iconst (pc' := 1) cx 0 dX7_touchesAt_0 ki_0 rfl ?_
  refine j_istore_n (lv' := [(2, .int 0), (0, .ref hMO), (1, .int p0)]) (pc' := 2) cx dX7_touchesAt_1 (by decide) rfl rfl ?_
  refine j_iconst (pc' := 3) cx 0 dX7_touchesAt_2 ki_0 rfl ?_
  refine j_istore_n (lv' := [(3, .int 0), (2, .int 0), (0, .ref hMO), (1, .int p0)]) (pc' := 4) cx dX7_touchesAt_3 (by decide) rfl rfl ?_
  obtain ⟨e2, h_1, h_2⟩ := bd_s hm
  have KXe2 : j 0 0 [(hMO, .inr (6, [.ref hMOz, .ref hMOa, .ref hMOb, .int MOst, .ref hMOk, .int MOik, .ref hMOt, .int MOln, .ref hMOo, .ref hMOw, .ref hMOm, .ref hMOq, .int MOpl, .int MOiw, .int MOle, .ref hMOn])), (hMOo, .inl (cI, 150, .inl MOon)), (hMOw, .inl (cI, 150, .inl MOwy))] [(2, .int e2.1)] 36 [] := by
    refine j_iload_n (pc' := 37) cx 0 dX7_touchesAt_36 rfl rfl ?_
    have h_3 := so_i h_2
    subst h_3
    exact j_ret cx (Or.inr (Or.inl ⟨_, _, rfl, rfl, dX7_touchesAt_37, rfl, rfl⟩)) ⟨rfl, rfl⟩
  have LPe2 : ∀ (n : Nat) (s1 : Int32 × Int32), lp (f_X7_touchesAt_b1 MOon MOwy p0) n s1 = some e2 → j 0 0 [(hMO, .inr (6, [.ref hMOz, .ref hMOa, .ref hMOb, .int MOst, .ref hMOk, .int MOik, .ref hMOt, .int MOln, .ref hMOo, .ref hMOw, .ref hMOm, .ref hMOq, .int MOpl, .int MOiw, .int MOle, .ref hMOn])), (hMOo, .inl (cI, 150, .inl MOon)), (hMOw, .inl (cI, 150, .inl MOwy))] [(0, .ref hMO), (1, .int p0), (2, .int s1.1), (3, .int s1.2)] 4 [] := by
    intro n
    induction n with
    | zero => intro s1 z; exact absurd z (by intro z; cases z)
    | succ n ihe2 =>
      intro s1 h_4
      obtain ⟨q_5, h_6, h_7⟩ := bd_s h_4
      unfold f_X7_touchesAt_b1 at h_6
      refine j_iload_n (pc' := 5) cx 3 dX7_touchesAt_4 rfl rfl ?_
      refine j_iconst (pc' := 6) cx 4 dX7_touchesAt_5 ki_4 rfl ?_
      refine j_icmp_ge (tgt := 36) (pc' := 9) cx dX7_touchesAt_6 (by decide) rfl (fun ch_6 => ?_) (fun ch_6 => ?_)
      · have h_8 := it_t h_6 ch_6
        have h_9 := so_i h_8
        subst h_9
        have h_10 := so_i (se_r h_7)
        subst h_10
        refine j_lv (lv' := [(2, .int s1.1)]) cx [2] rfl ?_
        exact KXe2
      · have h_11 := it_f h_6 ch_6
        refine j_iload_n (pc' := 10) cx 2 dX7_touchesAt_9 rfl rfl ?_
        refine j_aload_n (pc' := 11) cx 0 dX7_touchesAt_10 rfl rfl ?_
        refine j_iload_n (pc' := 12) cx 1 dX7_touchesAt_11 rfl rfl ?_
        refine j_iload_n (pc' := 13) cx 1 dX7_touchesAt_12 rfl rfl ?_
        refine j_iload_n (pc' := 14) cx 3 dX7_touchesAt_13 rfl rfl ?_
        obtain ⟨r3, c4, h_12⟩ := bd_s h_11
        refine j_cS (pc' := 17) cx (c_X7_beside l D cI cZ cC cS p0 s1.2 r3 c4) 2 yk_X7_beside wM_X7_61 ⟨wT_X7_beside, wI_X7, wC_X7_beside⟩ ⟨rfl, rfl, Nat.le_of_ble_eq_true rfl, Nat.le_of_ble_eq_true rfl, Nat.le_of_ble_eq_true rfl, Nat.le_of_ble_eq_true rfl⟩ [] [0, 1, 2] [0, 1, 2] rfl [(hMO, .inr (6, [.ref hMOz, .ref hMOa, .ref hMOb, .int MOst, .ref hMOk, .int MOik, .ref hMOt, .int MOln, .ref hMOo, .ref hMOw, .ref hMOm, .ref hMOq, .int MOpl, .int MOiw, .int MOle, .ref hMOn])), (hMOo, .inl (cI, 150, .inl MOon)), (hMOw, .inl (cI, 150, .inl MOwy))] rfl (by decide) [(hMO, .inr (6, [.ref hMOz, .ref hMOa, .ref hMOb, .int MOst, .ref hMOk, .int MOik, .ref hMOt, .int MOln, .ref hMOo, .ref hMOw, .ref hMOm, .ref hMOq, .int MOpl, .int MOiw, .int MOle, .ref hMOn])), (hMOo, .inl (cI, 150, .inl MOon)), (hMOw, .inl (cI, 150, .inl MOwy))] rfl (by decide) rfl rfl (Nat.le_of_ble_eq_true rfl) dX7_touchesAt_14 rfl ?_
        obtain ⟨r5, c6, h_13⟩ := bd_s h_12
        refine j_cV (pc' := 20) cx (c_X7_touch l D cI cZ cC cS hMO hMOz hMOa hMOb hMOk hMOt hMOo hMOw hMOm hMOq hMOn MOst MOik MOln MOpl MOiw MOle MOon MOwy p0 r3 r5 c6) 2 yk_X7_touch wM_X7_72 ⟨wN_X7_touch, wS_X7_touch, wI_X7, wC_X7_touch⟩ ⟨rfl, rfl, Nat.le_of_ble_eq_true rfl, Nat.le_of_ble_eq_true rfl, Nat.le_of_ble_eq_true rfl, Nat.le_of_ble_eq_true rfl⟩ [0, 1, 2] [] [0, 1, 2] rfl [] rfl (by decide) [(hMO, .inr (6, [.ref hMOz, .ref hMOa, .ref hMOb, .int MOst, .ref hMOk, .int MOik, .ref hMOt, .int MOln, .ref hMOo, .ref hMOw, .ref hMOm, .ref hMOq, .int MOpl, .int MOiw, .int MOle, .ref hMOn])), (hMOo, .inl (cI, 150, .inl MOon)), (hMOw, .inl (cI, 150, .inl MOwy))] rfl (by decide) 0 6 rfl rfl rfl rfl rfl (Nat.le_of_ble_eq_true rfl) dX7_touchesAt_17 rfl ?_
        obtain ⟨t7, h_15, h_14⟩ := bd_s h_13
        have Kt7 : j 0 0 [(hMO, .inr (6, [.ref hMOz, .ref hMOa, .ref hMOb, .int MOst, .ref hMOk, .int MOik, .ref hMOt, .int MOln, .ref hMOo, .ref hMOw, .ref hMOm, .ref hMOq, .int MOpl, .int MOiw, .int MOle, .ref hMOn])), (hMOo, .inl (cI, 150, .inl MOon)), (hMOw, .inl (cI, 150, .inl MOwy))] [(0, .ref hMO), (1, .int p0), (3, .int s1.2)] 28 [.int t7, .int s1.1] := by
          refine j_iadd (pc' := 29) cx dX7_touchesAt_28 rfl ?_
          refine j_istore_n (lv' := [(2, .int (s1.1 + t7)), (0, .ref hMO), (1, .int p0), (3, .int s1.2)]) (pc' := 30) cx dX7_touchesAt_29 (by decide) rfl rfl ?_
          refine j_iinc (v := (s1.2 + 1)) (lv' := [(3, .int (s1.2 + 1)), (2, .int (s1.1 + t7)), (0, .ref hMO), (1, .int p0)]) (pc' := 33) cx 3 dX7_touchesAt_30 rfl (kn_1 _) (by decide) rfl rfl ?_
          refine j_goto (pc' := 4) cx dX7_touchesAt_33 (by decide) ?_
          have h_16 := so_i h_14
          subst h_16
          refine j_lv (lv' := [(0, .ref hMO), (1, .int p0), (2, .int (s1.1 + t7)), (3, .int (s1.2 + 1))]) cx [2, 3, 1, 0] rfl ?_
          exact ihe2 _ (se_l h_7)
        refine j_if_eq (tgt := 27) (pc' := 23) cx dX7_touchesAt_20 (by decide) rfl (fun ch_15 => ?_) (fun ch_15 => ?_)
        · have h_17 := it_t h_15 ch_15
          refine j_iconst (pc' := 28) cx 0 dX7_touchesAt_27 ki_0 rfl ?_
          have h_18 := so_i h_17
          subst h_18
          refine j_lv (lv' := [(0, .ref hMO), (1, .int p0), (3, .int s1.2)]) cx [0, 1, 3] rfl ?_
          exact Kt7
        · have h_19 := it_f h_15 ch_15
          refine j_iconst (pc' := 24) cx 1 dX7_touchesAt_23 ki_1 rfl ?_
          refine j_goto (pc' := 28) cx dX7_touchesAt_24 (by decide) ?_
          have h_20 := so_i h_19
          subst h_20
          refine j_lv (lv' := [(0, .ref hMO), (1, .int p0), (3, .int s1.2)]) cx [0, 1, 3] rfl ?_
          exact Kt7
  refine j_lv (lv' := [(0, .ref hMO), (1, .int p0), (2, .int 0), (3, .int 0)]) cx [2, 3, 1, 0] rfl ?_
  exact LPe2 _ _ h_1
set_option maxHeartbeats 4000000 in
set_option maxRecDepth 100000 in
theorem c_X7_areTouching (l : Launch) (D : va_G) (cI cZ cC cS : ClassId) (hMO hMOz hMOa hMOb hMOk hMOt hMOo hMOw hMOm hMOq hMOn : Nat) (MOst : Int32) (MOik : Int32) (MOln : Int32) (MOpl : Int32) (MOiw : Int32) (MOle : Int32) (MOza : Nat → Int32) (MOon : Nat → Int32) (MOwy : Nat → Int32) (p0 : Int32) (p1 : Int32) (out : Int32) (hm : f_X7_areTouching MOza MOon MOwy p0 p1 = some out) : Ct l yX7_areTouching cX7_areTouching 7 (some .boolean) ({ frames := 3, cells := 0, slots := 0, locals := 65 }) (D, TY cI cZ cC cS) [.ref hMO, .int p0, .int p1] [(hMO, .inr (6, [.ref hMOz, .ref hMOa, .ref hMOb, .int MOst, .ref hMOk, .int MOik, .ref hMOt, .int MOln, .ref hMOo, .ref hMOw, .ref hMOm, .ref hMOq, .int MOpl, .int MOiw, .int MOle, .ref hMOn])), (hMOz, .inl (cI, 116, .inl MOza)), (hMOo, .inl (cI, 150, .inl MOon)), (hMOw, .inl (cI, 150, .inl MOwy))] (jw_P (some (.int out)) [(hMO, .inr (6, [.ref hMOz, .ref hMOa, .ref hMOb, .int MOst, .ref hMOk, .int MOik, .ref hMOt, .int MOln, .ref hMOo, .ref hMOw, .ref hMOm, .ref hMOq, .int MOpl, .int MOiw, .int MOle, .ref hMOn])), (hMOz, .inl (cI, 116, .inl MOza)), (hMOo, .inl (cI, 150, .inl MOon)), (hMOw, .inl (cI, 150, .inl MOwy))]) 0 0 := by
  refine ct_of RX7 (by decide +kernel) rfl (Nat.le_of_ble_eq_true rfl) (fun j cx => ?_)
  unfold f_X7_areTouching at hm
  show j 0 0 [(hMO, .inr (6, [.ref hMOz, .ref hMOa, .ref hMOb, .int MOst, .ref hMOk, .int MOik, .ref hMOt, .int MOln, .ref hMOo, .ref hMOw, .ref hMOm, .ref hMOq, .int MOpl, .int MOiw, .int MOle, .ref hMOn])), (hMOz, .inl (cI, 116, .inl MOza)), (hMOo, .inl (cI, 150, .inl MOon)), (hMOw, .inl (cI, 150, .inl MOwy))] [(0, .ref hMO), (1, .int p0), (2, .int p1)] 0 []
  refine j_iconst (pc' := 1) cx 0 dX7_areTouching_0 ki_0 rfl ?_
  refine j_istore_n (lv' := [(3, .int 0), (0, .ref hMO), (1, .int p0), (2, .int p1)]) (pc' := 2) cx dX7_areTouching_1 (by decide) rfl rfl ?_
  refine j_iconst (pc' := 3) cx 0 dX7_areTouching_2 ki_0 rfl ?_
  refine j_istore (lv' := [(4, .int 0), (3, .int 0), (0, .ref hMO), (1, .int p0), (2, .int p1)]) (pc' := 5) cx dX7_areTouching_3 (by decide) rfl rfl ?_
  obtain ⟨e2, h_1, h_2⟩ := bd_s hm
  have KXe2 : j 0 0 [(hMO, .inr (6, [.ref hMOz, .ref hMOa, .ref hMOb, .int MOst, .ref hMOk, .int MOik, .ref hMOt, .int MOln, .ref hMOo, .ref hMOw, .ref hMOm, .ref hMOq, .int MOpl, .int MOiw, .int MOle, .ref hMOn])), (hMOz, .inl (cI, 116, .inl MOza)), (hMOo, .inl (cI, 150, .inl MOon)), (hMOw, .inl (cI, 150, .inl MOwy))] [(3, .int e2.1)] 86 [] := by
    refine j_iload_n (pc' := 87) cx 0 dX7_areTouching_86 rfl rfl ?_
    obtain ⟨b17, h_3⟩ := ckP_s h_2
    have h_4 := so_i h_3
    subst h_4
    exact j_ret cx (Or.inr (Or.inl ⟨_, _, rfl, (nz_n b17), dX7_areTouching_87, rfl, rfl⟩)) ⟨rfl, rfl⟩
  have LPe2 : ∀ (n : Nat) (s1 : Int32 × Int32), lp (f_X7_areTouching_b2 MOza MOon MOwy p0 p1) n s1 = some e2 → j 0 0 [(hMO, .inr (6, [.ref hMOz, .ref hMOa, .ref hMOb, .int MOst, .ref hMOk, .int MOik, .ref hMOt, .int MOln, .ref hMOo, .ref hMOw, .ref hMOm, .ref hMOq, .int MOpl, .int MOiw, .int MOle, .ref hMOn])), (hMOz, .inl (cI, 116, .inl MOza)), (hMOo, .inl (cI, 150, .inl MOon)), (hMOw, .inl (cI, 150, .inl MOwy))] [(0, .ref hMO), (1, .int p0), (2, .int p1), (3, .int s1.1), (4, .int s1.2)] 5 [] := by
    intro n
    induction n with
    | zero => intro s1 z; exact absurd z (by intro z; cases z)
    | succ n ihe2 =>
      intro s1 h_5
      obtain ⟨q_6, h_7, h_8⟩ := bd_s h_5
      unfold f_X7_areTouching_b2 at h_7
      refine j_iload (pc' := 7) cx 4 dX7_areTouching_5 rfl rfl ?_
      refine j_iconst (pc' := 8) cx 4 dX7_areTouching_7 ki_4 rfl ?_
      refine j_icmp_ge (tgt := 86) (pc' := 11) cx dX7_areTouching_8 (by decide) rfl (fun ch_7 => ?_) (fun ch_7 => ?_)
      · have h_9 := it_t h_7 ch_7
        have h_10 := so_i h_9
        subst h_10
        have h_11 := so_i (se_r h_8)
        subst h_11
        refine j_lv (lv' := [(3, .int s1.1)]) cx [3] rfl ?_
        exact KXe2
      · have h_12 := it_f h_7 ch_7
        refine j_aload_n (pc' := 12) cx 0 dX7_areTouching_11 rfl rfl ?_
        refine j_iload_n (pc' := 13) cx 1 dX7_areTouching_12 rfl rfl ?_
        obtain ⟨r3, c4, h_13⟩ := bd_s h_12
        refine j_cV (pc' := 16) cx (c_X7_middleOf l D cI cZ cC cS hMO hMOz hMOa hMOb hMOk hMOt hMOo hMOw hMOm hMOq hMOn MOst MOik MOln MOpl MOiw MOle MOza p0 r3 c4) 1 yk_X7_middleOf wM_X7_58 ⟨wN_X7_middleOf, wS_X7_middleOf, wI_X7, wC_X7_middleOf⟩ ⟨rfl, rfl, Nat.le_of_ble_eq_true rfl, Nat.le_of_ble_eq_true rfl, Nat.le_of_ble_eq_true rfl, Nat.le_of_ble_eq_true rfl⟩ [0, 1] [2, 3] [2, 3, 0, 1] rfl [(hMOo, .inl (cI, 150, .inl MOon)), (hMOw, .inl (cI, 150, .inl MOwy))] rfl (by decide) [(hMO, .inr (6, [.ref hMOz, .ref hMOa, .ref hMOb, .int MOst, .ref hMOk, .int MOik, .ref hMOt, .int MOln, .ref hMOo, .ref hMOw, .ref hMOm, .ref hMOq, .int MOpl, .int MOiw, .int MOle, .ref hMOn])), (hMOz, .inl (cI, 116, .inl MOza)), (hMOo, .inl (cI, 150, .inl MOon)), (hMOw, .inl (cI, 150, .inl MOwy))] rfl (by decide) 0 6 rfl rfl rfl rfl rfl (Nat.le_of_ble_eq_true rfl) dX7_areTouching_13 rfl ?_
        refine j_iload (pc' := 18) cx 4 dX7_areTouching_16 rfl rfl ?_
        obtain ⟨r5, c6, h_14⟩ := bd_s h_13
        refine j_cS (pc' := 21) cx (c_X7_beside l D cI cZ cC cS r3 s1.2 r5 c6) 2 yk_X7_beside wM_X7_61 ⟨wT_X7_beside, wI_X7, wC_X7_beside⟩ ⟨rfl, rfl, Nat.le_of_ble_eq_true rfl, Nat.le_of_ble_eq_true rfl, Nat.le_of_ble_eq_true rfl, Nat.le_of_ble_eq_true rfl⟩ [] [0, 1, 2, 3] [0, 1, 2, 3] rfl [(hMO, .inr (6, [.ref hMOz, .ref hMOa, .ref hMOb, .int MOst, .ref hMOk, .int MOik, .ref hMOt, .int MOln, .ref hMOo, .ref hMOw, .ref hMOm, .ref hMOq, .int MOpl, .int MOiw, .int MOle, .ref hMOn])), (hMOz, .inl (cI, 116, .inl MOza)), (hMOo, .inl (cI, 150, .inl MOon)), (hMOw, .inl (cI, 150, .inl MOwy))] rfl (by decide) [(hMO, .inr (6, [.ref hMOz, .ref hMOa, .ref hMOb, .int MOst, .ref hMOk, .int MOik, .ref hMOt, .int MOln, .ref hMOo, .ref hMOw, .ref hMOm, .ref hMOq, .int MOpl, .int MOiw, .int MOle, .ref hMOn])), (hMOz, .inl (cI, 116, .inl MOza)), (hMOo, .inl (cI, 150, .inl MOon)), (hMOw, .inl (cI, 150, .inl MOwy))] rfl (by decide) rfl rfl (Nat.le_of_ble_eq_true rfl) dX7_areTouching_18 rfl ?_
        refine j_istore (lv' := [(5, .int r5), (0, .ref hMO), (1, .int p0), (2, .int p1), (3, .int s1.1), (4, .int s1.2)]) (pc' := 23) cx dX7_areTouching_21 (by decide) rfl rfl ?_
        refine j_iconst (pc' := 24) cx 0 dX7_areTouching_23 ki_0 rfl ?_
        refine j_istore (lv' := [(6, .int 0), (5, .int r5), (0, .ref hMO), (1, .int p0), (2, .int p1), (3, .int s1.1), (4, .int s1.2)]) (pc' := 26) cx dX7_areTouching_24 (by decide) rfl rfl ?_
        obtain ⟨e8, h_15, h_16⟩ := bd_s h_14
        have KXe8 : j 0 0 [(hMO, .inr (6, [.ref hMOz, .ref hMOa, .ref hMOb, .int MOst, .ref hMOk, .int MOik, .ref hMOt, .int MOln, .ref hMOo, .ref hMOw, .ref hMOm, .ref hMOq, .int MOpl, .int MOiw, .int MOle, .ref hMOn])), (hMOz, .inl (cI, 116, .inl MOza)), (hMOo, .inl (cI, 150, .inl MOon)), (hMOw, .inl (cI, 150, .inl MOwy))] [(0, .ref hMO), (1, .int p0), (2, .int p1), (3, .int e8.1), (4, .int s1.2)] 80 [] := by
          refine j_iinc (v := (s1.2 + 1)) (lv' := [(4, .int (s1.2 + 1)), (0, .ref hMO), (1, .int p0), (2, .int p1), (3, .int e8.1)]) (pc' := 83) cx 4 dX7_areTouching_80 rfl (kn_1 _) (by decide) rfl rfl ?_
          refine j_goto (pc' := 5) cx dX7_areTouching_83 (by decide) ?_
          have h_17 := so_i h_16
          subst h_17
          refine j_lv (lv' := [(0, .ref hMO), (1, .int p0), (2, .int p1), (3, .int e8.1), (4, .int (s1.2 + 1))]) cx [1, 2, 3, 4, 0] rfl ?_
          exact ihe2 _ (se_l h_8)
        have LPe8 : ∀ (n : Nat) (s7 : Int32 × Int32), lp (f_X7_areTouching_b1 MOon MOwy p1 r5) n s7 = some e8 → j 0 0 [(hMO, .inr (6, [.ref hMOz, .ref hMOa, .ref hMOb, .int MOst, .ref hMOk, .int MOik, .ref hMOt, .int MOln, .ref hMOo, .ref hMOw, .ref hMOm, .ref hMOq, .int MOpl, .int MOiw, .int MOle, .ref hMOn])), (hMOz, .inl (cI, 116, .inl MOza)), (hMOo, .inl (cI, 150, .inl MOon)), (hMOw, .inl (cI, 150, .inl MOwy))] [(0, .ref hMO), (1, .int p0), (2, .int p1), (3, .int s7.1), (4, .int s1.2), (5, .int r5), (6, .int s7.2)] 26 [] := by
          intro n
          induction n with
          | zero => intro s7 z; exact absurd z (by intro z; cases z)
          | succ n ihe8 =>
            intro s7 h_18
            obtain ⟨q_19, h_20, h_21⟩ := bd_s h_18
            unfold f_X7_areTouching_b1 at h_20
            refine j_iload (pc' := 28) cx 6 dX7_areTouching_26 rfl rfl ?_
            refine j_iconst (pc' := 29) cx 4 dX7_areTouching_28 ki_4 rfl ?_
            refine j_icmp_ge (tgt := 80) (pc' := 32) cx dX7_areTouching_29 (by decide) rfl (fun ch_20 => ?_) (fun ch_20 => ?_)
            · have h_22 := it_t h_20 ch_20
              have h_23 := so_i h_22
              subst h_23
              have h_24 := so_i (se_r h_21)
              subst h_24
              refine j_lv (lv' := [(0, .ref hMO), (1, .int p0), (2, .int p1), (3, .int s7.1), (4, .int s1.2)]) cx [0, 1, 2, 3, 4] rfl ?_
              exact KXe8
            · have h_25 := it_f h_20 ch_20
              refine j_iload_n (pc' := 33) cx 3 dX7_areTouching_32 rfl rfl ?_
              obtain ⟨t16, h_27, h_26⟩ := bd_s h_25
              have Kt16 : j 0 0 [(hMO, .inr (6, [.ref hMOz, .ref hMOa, .ref hMOb, .int MOst, .ref hMOk, .int MOik, .ref hMOt, .int MOln, .ref hMOo, .ref hMOw, .ref hMOm, .ref hMOq, .int MOpl, .int MOiw, .int MOle, .ref hMOn])), (hMOz, .inl (cI, 116, .inl MOza)), (hMOo, .inl (cI, 150, .inl MOon)), (hMOw, .inl (cI, 150, .inl MOwy))] [(0, .ref hMO), (1, .int p0), (2, .int p1), (4, .int s1.2), (5, .int r5), (6, .int s7.2)] 73 [.int t16] := by
                refine j_istore_n (lv' := [(3, .int t16), (0, .ref hMO), (1, .int p0), (2, .int p1), (4, .int s1.2), (5, .int r5), (6, .int s7.2)]) (pc' := 74) cx dX7_areTouching_73 (by decide) rfl rfl ?_
                refine j_iinc (v := (s7.2 + 1)) (lv' := [(6, .int (s7.2 + 1)), (3, .int t16), (0, .ref hMO), (1, .int p0), (2, .int p1), (4, .int s1.2), (5, .int r5)]) (pc' := 77) cx 6 dX7_areTouching_74 rfl (kn_1 _) (by decide) rfl rfl ?_
                refine j_goto (pc' := 26) cx dX7_areTouching_77 (by decide) ?_
                have h_28 := so_i h_26
                subst h_28
                refine j_lv (lv' := [(0, .ref hMO), (1, .int p0), (2, .int p1), (3, .int t16), (4, .int s1.2), (5, .int r5), (6, .int (s7.2 + 1))]) cx [2, 3, 4, 1, 5, 6, 0] rfl ?_
                exact ihe8 _ (se_l h_21)
              refine j_if_ne (tgt := 68) (pc' := 36) cx dX7_areTouching_33 (by decide) rfl (fun ch_27 => ?_) (fun ch_27 => ?_)
              · have h_29 := it_f h_27 ch_27
                refine j_iconst (pc' := 69) cx 1 dX7_areTouching_68 ki_1 rfl ?_
                refine j_goto (pc' := 73) cx dX7_areTouching_69 (by decide) ?_
                have h_30 := so_i h_29
                subst h_30
                refine j_lv (lv' := [(0, .ref hMO), (1, .int p0), (2, .int p1), (4, .int s1.2), (5, .int r5), (6, .int s7.2)]) cx [0, 1, 2, 4, 5, 6] rfl ?_
                exact Kt16
              · have h_31 := it_t h_27 ch_27
                refine j_aload_n (pc' := 37) cx 0 dX7_areTouching_36 rfl rfl ?_
                refine j_iload (pc' := 39) cx 5 dX7_areTouching_37 rfl rfl ?_
                refine j_iload (pc' := 41) cx 5 dX7_areTouching_39 rfl rfl ?_
                refine j_iload (pc' := 43) cx 6 dX7_areTouching_41 rfl rfl ?_
                obtain ⟨r9, c10, h_32⟩ := bd_s h_31
                refine j_cS (pc' := 46) cx (c_X7_beside l D cI cZ cC cS r5 s7.2 r9 c10) 2 yk_X7_beside wM_X7_61 ⟨wT_X7_beside, wI_X7, wC_X7_beside⟩ ⟨rfl, rfl, Nat.le_of_ble_eq_true rfl, Nat.le_of_ble_eq_true rfl, Nat.le_of_ble_eq_true rfl, Nat.le_of_ble_eq_true rfl⟩ [] [0, 1, 2, 3] [0, 1, 2, 3] rfl [(hMO, .inr (6, [.ref hMOz, .ref hMOa, .ref hMOb, .int MOst, .ref hMOk, .int MOik, .ref hMOt, .int MOln, .ref hMOo, .ref hMOw, .ref hMOm, .ref hMOq, .int MOpl, .int MOiw, .int MOle, .ref hMOn])), (hMOz, .inl (cI, 116, .inl MOza)), (hMOo, .inl (cI, 150, .inl MOon)), (hMOw, .inl (cI, 150, .inl MOwy))] rfl (by decide) [(hMO, .inr (6, [.ref hMOz, .ref hMOa, .ref hMOb, .int MOst, .ref hMOk, .int MOik, .ref hMOt, .int MOln, .ref hMOo, .ref hMOw, .ref hMOm, .ref hMOq, .int MOpl, .int MOiw, .int MOle, .ref hMOn])), (hMOz, .inl (cI, 116, .inl MOza)), (hMOo, .inl (cI, 150, .inl MOon)), (hMOw, .inl (cI, 150, .inl MOwy))] rfl (by decide) rfl rfl (Nat.le_of_ble_eq_true rfl) dX7_areTouching_43 rfl ?_
                obtain ⟨r11, c12, h_33⟩ := bd_s h_32
                refine j_cV (pc' := 49) cx (c_X7_touch l D cI cZ cC cS hMO hMOz hMOa hMOb hMOk hMOt hMOo hMOw hMOm hMOq hMOn MOst MOik MOln MOpl MOiw MOle MOon MOwy r5 r9 r11 c12) 2 yk_X7_touch wM_X7_72 ⟨wN_X7_touch, wS_X7_touch, wI_X7, wC_X7_touch⟩ ⟨rfl, rfl, Nat.le_of_ble_eq_true rfl, Nat.le_of_ble_eq_true rfl, Nat.le_of_ble_eq_true rfl, Nat.le_of_ble_eq_true rfl⟩ [0, 2, 3] [1] [1, 0, 2, 3] rfl [(hMOz, .inl (cI, 116, .inl MOza))] rfl (by decide) [(hMO, .inr (6, [.ref hMOz, .ref hMOa, .ref hMOb, .int MOst, .ref hMOk, .int MOik, .ref hMOt, .int MOln, .ref hMOo, .ref hMOw, .ref hMOm, .ref hMOq, .int MOpl, .int MOiw, .int MOle, .ref hMOn])), (hMOz, .inl (cI, 116, .inl MOza)), (hMOo, .inl (cI, 150, .inl MOon)), (hMOw, .inl (cI, 150, .inl MOwy))] rfl (by decide) 0 6 rfl rfl rfl rfl rfl (Nat.le_of_ble_eq_true rfl) dX7_areTouching_46 rfl ?_
                refine j_if_eq (tgt := 72) (pc' := 52) cx dX7_areTouching_49 (by decide) rfl (fun ch_33 => ?_) (fun ch_33 => ?_)
                · have h_34 := it_t h_33 ch_33
                  refine j_iconst (pc' := 73) cx 0 dX7_areTouching_72 ki_0 rfl ?_
                  have h_35 := so_i h_34
                  subst h_35
                  refine j_lv (lv' := [(0, .ref hMO), (1, .int p0), (2, .int p1), (4, .int s1.2), (5, .int r5), (6, .int s7.2)]) cx [0, 1, 2, 4, 5, 6] rfl ?_
                  exact Kt16
                · have h_36 := it_f h_33 ch_33
                  refine j_aload_n (pc' := 53) cx 0 dX7_areTouching_52 rfl rfl ?_
                  refine j_get (C := RX7) (T := TX7) (N := 16) (pc' := 56) cx uB_X7 0 rfl rfl 8 (by decide) wF_X7_25 (.ref hMOo) rfl dX7_areTouching_53 rfl ?_
                  refine j_iload (pc' := 58) cx 5 dX7_areTouching_56 rfl rfl ?_
                  refine j_iload (pc' := 60) cx 6 dX7_areTouching_58 rfl rfl ?_
                  obtain ⟨r13, c14, h_37⟩ := bd_s h_36
                  refine j_cS (pc' := 63) cx (c_X7_beside l D cI cZ cC cS r5 s7.2 r13 c14) 2 yk_X7_beside wM_X7_61 ⟨wT_X7_beside, wI_X7, wC_X7_beside⟩ ⟨rfl, rfl, Nat.le_of_ble_eq_true rfl, Nat.le_of_ble_eq_true rfl, Nat.le_of_ble_eq_true rfl, Nat.le_of_ble_eq_true rfl⟩ [] [0, 1, 2, 3] [0, 1, 2, 3] rfl [(hMO, .inr (6, [.ref hMOz, .ref hMOa, .ref hMOb, .int MOst, .ref hMOk, .int MOik, .ref hMOt, .int MOln, .ref hMOo, .ref hMOw, .ref hMOm, .ref hMOq, .int MOpl, .int MOiw, .int MOle, .ref hMOn])), (hMOz, .inl (cI, 116, .inl MOza)), (hMOo, .inl (cI, 150, .inl MOon)), (hMOw, .inl (cI, 150, .inl MOwy))] rfl (by decide) [(hMO, .inr (6, [.ref hMOz, .ref hMOa, .ref hMOb, .int MOst, .ref hMOk, .int MOik, .ref hMOt, .int MOln, .ref hMOo, .ref hMOw, .ref hMOm, .ref hMOq, .int MOpl, .int MOiw, .int MOle, .ref hMOn])), (hMOz, .inl (cI, 116, .inl MOza)), (hMOo, .inl (cI, 150, .inl MOon)), (hMOw, .inl (cI, 150, .inl MOwy))] rfl (by decide) rfl rfl (Nat.le_of_ble_eq_true rfl) dX7_areTouching_60 rfl ?_
                  obtain ⟨i15, h_38⟩ := ck_s h_37
                  refine j_iald (pc' := 64) cx 2 0 rfl rfl i15 dX7_areTouching_63 rfl ?_
                  refine j_iload_n (pc' := 65) cx 2 dX7_areTouching_64 rfl rfl ?_
                  refine j_icmp_ne (tgt := 72) (pc' := 68) cx dX7_areTouching_65 (by decide) rfl (fun ch_38 => ?_) (fun ch_38 => ?_)
                  · have h_39 := it_f h_38 ch_38
                    refine j_iconst (pc' := 73) cx 0 dX7_areTouching_72 ki_0 rfl ?_
                    have h_40 := so_i h_39
                    subst h_40
                    refine j_lv (lv' := [(0, .ref hMO), (1, .int p0), (2, .int p1), (4, .int s1.2), (5, .int r5), (6, .int s7.2)]) cx [0, 1, 2, 4, 5, 6] rfl ?_
                    exact Kt16
                  · have h_41 := it_t h_38 ch_38
                    refine j_iconst (pc' := 69) cx 1 dX7_areTouching_68 ki_1 rfl ?_
                    refine j_goto (pc' := 73) cx dX7_areTouching_69 (by decide) ?_
                    have h_42 := so_i h_41
                    subst h_42
                    refine j_lv (lv' := [(0, .ref hMO), (1, .int p0), (2, .int p1), (4, .int s1.2), (5, .int r5), (6, .int s7.2)]) cx [0, 1, 2, 4, 5, 6] rfl ?_
                    exact Kt16
        refine j_lv (lv' := [(0, .ref hMO), (1, .int p0), (2, .int p1), (3, .int s1.1), (4, .int s1.2), (5, .int r5), (6, .int 0)]) cx [2, 3, 4, 5, 6, 1, 0] rfl ?_
        exact LPe8 _ _ h_15
  refine j_lv (lv' := [(0, .ref hMO), (1, .int p0), (2, .int p1), (3, .int 0), (4, .int 0)]) cx [2, 3, 4, 1, 0] rfl ?_
  exact LPe2 _ _ h_1
set_option maxHeartbeats 4000000 in
set_option maxRecDepth 100000 in
theorem c_X7_touchesOf (l : Launch) (D : va_G) (cI cZ cC cS : ClassId) (hMO hMOz hMOa hMOb hMOk hMOt hMOo hMOw hMOm hMOq hMOn : Nat) (MOst : Int32) (MOik : Int32) (MOln : Int32) (MOpl : Int32) (MOiw : Int32) (MOle : Int32) (MOza : Nat → Int32) (MOon : Nat → Int32) (MOwy : Nat → Int32) (p0 : Int32) (out : Int32) (hm : f_X7_touchesOf MOza MOon MOwy p0 = some out) : Ct l yX7_touchesOf cX7_touchesOf 4 (some .int) ({ frames := 4, cells := 0, slots := 0, locals := 88 }) (D, TY cI cZ cC cS) [.ref hMO, .int p0] [(hMO, .inr (6, [.ref hMOz, .ref hMOa, .ref hMOb, .int MOst, .ref hMOk, .int MOik, .ref hMOt, .int MOln, .ref hMOo, .ref hMOw, .ref hMOm, .ref hMOq, .int MOpl, .int MOiw, .int MOle, .ref hMOn])), (hMOz, .inl (cI, 116, .inl MOza)), (hMOo, .inl (cI, 150, .inl MOon)), (hMOw, .inl (cI, 150, .inl MOwy))] (jw_P (some (.int out)) [(hMO, .inr (6, [.ref hMOz, .ref hMOa, .ref hMOb, .int MOst, .ref hMOk, .int MOik, .ref hMOt, .int MOln, .ref hMOo, .ref hMOw, .ref hMOm, .ref hMOq, .int MOpl, .int MOiw, .int MOle, .ref hMOn])), (hMOz, .inl (cI, 116, .inl MOza)), (hMOo, .inl (cI, 150, .inl MOon)), (hMOw, .inl (cI, 150, .inl MOwy))]) 0 0 := by
  refine ct_of RX7 (by decide +kernel) rfl (Nat.le_of_ble_eq_true rfl) (fun j cx => ?_)
  unfold f_X7_touchesOf at hm
  show j 0 0 [(hMO, .inr (6, [.ref hMOz, .ref hMOa, .ref hMOb, .int MOst, .ref hMOk, .int MOik, .ref hMOt, .int MOln, .ref hMOo, .ref hMOw, .ref hMOm, .ref hMOq, .int MOpl, .int MOiw, .int MOle, .ref hMOn])), (hMOz, .inl (cI, 116, .inl MOza)), (hMOo, .inl (cI, 150, .inl MOon)), (hMOw, .inl (cI, 150, .inl MOwy))] [(0, .ref hMO), (1, .int p0)] 0 []
  refine j_iconst (pc' := 1) cx 0 dX7_touchesOf_0 ki_0 rfl ?_
  refine j_istore_n (lv' := [(2, .int 0), (0, .ref hMO), (1, .int p0)]) (pc' := 2) cx dX7_touchesOf_1 (by decide) rfl rfl ?_
  refine j_iconst (pc' := 3) cx 0 dX7_touchesOf_2 ki_0 rfl ?_
  refine j_istore_n (lv' := [(3, .int 0), (2, .int 0), (0, .ref hMO), (1, .int p0)]) (pc' := 4) cx dX7_touchesOf_3 (by decide) rfl rfl ?_
  obtain ⟨e2, h_1, h_2⟩ := bd_s hm
  have KXe2 : j 0 0 [(hMO, .inr (6, [.ref hMOz, .ref hMOa, .ref hMOb, .int MOst, .ref hMOk, .int MOik, .ref hMOt, .int MOln, .ref hMOo, .ref hMOw, .ref hMOm, .ref hMOq, .int MOpl, .int MOiw, .int MOle, .ref hMOn])), (hMOz, .inl (cI, 116, .inl MOza)), (hMOo, .inl (cI, 150, .inl MOon)), (hMOw, .inl (cI, 150, .inl MOwy))] [(2, .int e2.1)] 31 [] := by
    refine j_iload_n (pc' := 32) cx 0 dX7_touchesOf_31 rfl rfl ?_
    have h_3 := so_i h_2
    subst h_3
    exact j_ret cx (Or.inr (Or.inl ⟨_, _, rfl, rfl, dX7_touchesOf_32, rfl, rfl⟩)) ⟨rfl, rfl⟩
  have LPe2 : ∀ (n : Nat) (s1 : Int32 × Int32), lp (f_X7_touchesOf_b1 MOza MOon MOwy p0) n s1 = some e2 → j 0 0 [(hMO, .inr (6, [.ref hMOz, .ref hMOa, .ref hMOb, .int MOst, .ref hMOk, .int MOik, .ref hMOt, .int MOln, .ref hMOo, .ref hMOw, .ref hMOm, .ref hMOq, .int MOpl, .int MOiw, .int MOle, .ref hMOn])), (hMOz, .inl (cI, 116, .inl MOza)), (hMOo, .inl (cI, 150, .inl MOon)), (hMOw, .inl (cI, 150, .inl MOwy))] [(0, .ref hMO), (1, .int p0), (2, .int s1.1), (3, .int s1.2)] 4 [] := by
    intro n
    induction n with
    | zero => intro s1 z; exact absurd z (by intro z; cases z)
    | succ n ihe2 =>
      intro s1 h_4
      obtain ⟨q_5, h_6, h_7⟩ := bd_s h_4
      unfold f_X7_touchesOf_b1 at h_6
      refine j_iload_n (pc' := 5) cx 3 dX7_touchesOf_4 rfl rfl ?_
      refine j_iconst (pc' := 6) cx 4 dX7_touchesOf_5 ki_4 rfl ?_
      refine j_icmp_ge (tgt := 31) (pc' := 9) cx dX7_touchesOf_6 (by decide) rfl (fun ch_6 => ?_) (fun ch_6 => ?_)
      · have h_8 := it_t h_6 ch_6
        have h_9 := so_i h_8
        subst h_9
        have h_10 := so_i (se_r h_7)
        subst h_10
        refine j_lv (lv' := [(2, .int s1.1)]) cx [2] rfl ?_
        exact KXe2
      · have h_11 := it_f h_6 ch_6
        refine j_iload_n (pc' := 10) cx 2 dX7_touchesOf_9 rfl rfl ?_
        refine j_aload_n (pc' := 11) cx 0 dX7_touchesOf_10 rfl rfl ?_
        refine j_aload_n (pc' := 12) cx 0 dX7_touchesOf_11 rfl rfl ?_
        refine j_iload_n (pc' := 13) cx 1 dX7_touchesOf_12 rfl rfl ?_
        obtain ⟨r3, c4, h_12⟩ := bd_s h_11
        refine j_cV (pc' := 16) cx (c_X7_middleOf l D cI cZ cC cS hMO hMOz hMOa hMOb hMOk hMOt hMOo hMOw hMOm hMOq hMOn MOst MOik MOln MOpl MOiw MOle MOza p0 r3 c4) 1 yk_X7_middleOf wM_X7_58 ⟨wN_X7_middleOf, wS_X7_middleOf, wI_X7, wC_X7_middleOf⟩ ⟨rfl, rfl, Nat.le_of_ble_eq_true rfl, Nat.le_of_ble_eq_true rfl, Nat.le_of_ble_eq_true rfl, Nat.le_of_ble_eq_true rfl⟩ [0, 1] [2, 3] [2, 3, 0, 1] rfl [(hMOo, .inl (cI, 150, .inl MOon)), (hMOw, .inl (cI, 150, .inl MOwy))] rfl (by decide) [(hMO, .inr (6, [.ref hMOz, .ref hMOa, .ref hMOb, .int MOst, .ref hMOk, .int MOik, .ref hMOt, .int MOln, .ref hMOo, .ref hMOw, .ref hMOm, .ref hMOq, .int MOpl, .int MOiw, .int MOle, .ref hMOn])), (hMOz, .inl (cI, 116, .inl MOza)), (hMOo, .inl (cI, 150, .inl MOon)), (hMOw, .inl (cI, 150, .inl MOwy))] rfl (by decide) 0 6 rfl rfl rfl rfl rfl (Nat.le_of_ble_eq_true rfl) dX7_touchesOf_13 rfl ?_
        refine j_iload_n (pc' := 17) cx 3 dX7_touchesOf_16 rfl rfl ?_
        obtain ⟨r5, c6, h_13⟩ := bd_s h_12
        refine j_cS (pc' := 20) cx (c_X7_beside l D cI cZ cC cS r3 s1.2 r5 c6) 2 yk_X7_beside wM_X7_61 ⟨wT_X7_beside, wI_X7, wC_X7_beside⟩ ⟨rfl, rfl, Nat.le_of_ble_eq_true rfl, Nat.le_of_ble_eq_true rfl, Nat.le_of_ble_eq_true rfl, Nat.le_of_ble_eq_true rfl⟩ [] [0, 1, 2, 3] [0, 1, 2, 3] rfl [(hMO, .inr (6, [.ref hMOz, .ref hMOa, .ref hMOb, .int MOst, .ref hMOk, .int MOik, .ref hMOt, .int MOln, .ref hMOo, .ref hMOw, .ref hMOm, .ref hMOq, .int MOpl, .int MOiw, .int MOle, .ref hMOn])), (hMOz, .inl (cI, 116, .inl MOza)), (hMOo, .inl (cI, 150, .inl MOon)), (hMOw, .inl (cI, 150, .inl MOwy))] rfl (by decide) [(hMO, .inr (6, [.ref hMOz, .ref hMOa, .ref hMOb, .int MOst, .ref hMOk, .int MOik, .ref hMOt, .int MOln, .ref hMOo, .ref hMOw, .ref hMOm, .ref hMOq, .int MOpl, .int MOiw, .int MOle, .ref hMOn])), (hMOz, .inl (cI, 116, .inl MOza)), (hMOo, .inl (cI, 150, .inl MOon)), (hMOw, .inl (cI, 150, .inl MOwy))] rfl (by decide) rfl rfl (Nat.le_of_ble_eq_true rfl) dX7_touchesOf_17 rfl ?_
        obtain ⟨r7, c8, h_14⟩ := bd_s h_13
        refine j_cV (pc' := 23) cx (c_X7_touchesAt l D cI cZ cC cS hMO hMOz hMOa hMOb hMOk hMOt hMOo hMOw hMOm hMOq hMOn MOst MOik MOln MOpl MOiw MOle MOon MOwy r5 r7 c8) 1 yk_X7_touchesAt wM_X7_177 ⟨wN_X7_touchesAt, wS_X7_touchesAt, wI_X7, wC_X7_touchesAt⟩ ⟨rfl, rfl, Nat.le_of_ble_eq_true rfl, Nat.le_of_ble_eq_true rfl, Nat.le_of_ble_eq_true rfl, Nat.le_of_ble_eq_true rfl⟩ [0, 2, 3] [1] [1, 0, 2, 3] rfl [(hMOz, .inl (cI, 116, .inl MOza))] rfl (by decide) [(hMO, .inr (6, [.ref hMOz, .ref hMOa, .ref hMOb, .int MOst, .ref hMOk, .int MOik, .ref hMOt, .int MOln, .ref hMOo, .ref hMOw, .ref hMOm, .ref hMOq, .int MOpl, .int MOiw, .int MOle, .ref hMOn])), (hMOz, .inl (cI, 116, .inl MOza)), (hMOo, .inl (cI, 150, .inl MOon)), (hMOw, .inl (cI, 150, .inl MOwy))] rfl (by decide) 0 6 rfl rfl rfl rfl rfl (Nat.le_of_ble_eq_true rfl) dX7_touchesOf_20 rfl ?_
        refine j_iadd (pc' := 24) cx dX7_touchesOf_23 rfl ?_
        refine j_istore_n (lv' := [(2, .int (s1.1 + r7)), (0, .ref hMO), (1, .int p0), (3, .int s1.2)]) (pc' := 25) cx dX7_touchesOf_24 (by decide) rfl rfl ?_
        refine j_iinc (v := (s1.2 + 1)) (lv' := [(3, .int (s1.2 + 1)), (2, .int (s1.1 + r7)), (0, .ref hMO), (1, .int p0)]) (pc' := 28) cx 3 dX7_touchesOf_25 rfl (kn_1 _) (by decide) rfl rfl ?_
        refine j_goto (pc' := 4) cx dX7_touchesOf_28 (by decide) ?_
        have h_15 := so_i h_14
        subst h_15
        refine j_lv (lv' := [(0, .ref hMO), (1, .int p0), (2, .int (s1.1 + r7)), (3, .int (s1.2 + 1))]) cx [2, 3, 1, 0] rfl ?_
        exact ihe2 _ (se_l h_7)
  refine j_lv (lv' := [(0, .ref hMO), (1, .int p0), (2, .int 0), (3, .int 0)]) cx [2, 3, 1, 0] rfl ?_
  exact LPe2 _ _ h_1
set_option maxHeartbeats 4000000 in
set_option maxRecDepth 100000 in
theorem c_X7_others (l : Launch) (D : va_G) (cI cZ cC cS : ClassId) (hMO hMOz hMOa hMOb hMOk hMOt hMOo hMOw hMOm hMOq hMOn : Nat) (MOst : Int32) (MOik : Int32) (MOln : Int32) (MOpl : Int32) (MOiw : Int32) (MOle : Int32) (MOza : Nat → Int32) (MOon : Nat → Int32) (MOwy : Nat → Int32) (p0 : Int32) (out : Int32) (hm : f_X7_others MOza MOon MOwy p0 = some out) : Ct l yX7_others cX7_others 4 (some .int) ({ frames := 4, cells := 0, slots := 0, locals := 91 }) (D, TY cI cZ cC cS) [.ref hMO, .int p0] [(hMO, .inr (6, [.ref hMOz, .ref hMOa, .ref hMOb, .int MOst, .ref hMOk, .int MOik, .ref hMOt, .int MOln, .ref hMOo, .ref hMOw, .ref hMOm, .ref hMOq, .int MOpl, .int MOiw, .int MOle, .ref hMOn])), (hMOz, .inl (cI, 116, .inl MOza)), (hMOo, .inl (cI, 150, .inl MOon)), (hMOw, .inl (cI, 150, .inl MOwy))] (jw_P (some (.int out)) [(hMO, .inr (6, [.ref hMOz, .ref hMOa, .ref hMOb, .int MOst, .ref hMOk, .int MOik, .ref hMOt, .int MOln, .ref hMOo, .ref hMOw, .ref hMOm, .ref hMOq, .int MOpl, .int MOiw, .int MOle, .ref hMOn])), (hMOz, .inl (cI, 116, .inl MOza)), (hMOo, .inl (cI, 150, .inl MOon)), (hMOw, .inl (cI, 150, .inl MOwy))]) 0 0 := by
  refine ct_of RX7 (by decide +kernel) rfl (Nat.le_of_ble_eq_true rfl) (fun j cx => ?_)
  unfold f_X7_others at hm
  show j 0 0 [(hMO, .inr (6, [.ref hMOz, .ref hMOa, .ref hMOb, .int MOst, .ref hMOk, .int MOik, .ref hMOt, .int MOln, .ref hMOo, .ref hMOw, .ref hMOm, .ref hMOq, .int MOpl, .int MOiw, .int MOle, .ref hMOn])), (hMOz, .inl (cI, 116, .inl MOza)), (hMOo, .inl (cI, 150, .inl MOon)), (hMOw, .inl (cI, 150, .inl MOwy))] [(0, .ref hMO), (1, .int p0)] 0 []
  refine j_iconst (pc' := 1) cx 0 dX7_others_0 ki_0 rfl ?_
  refine j_istore_n (lv' := [(2, .int 0), (0, .ref hMO), (1, .int p0)]) (pc' := 2) cx dX7_others_1 (by decide) rfl rfl ?_
  refine j_iconst (pc' := 3) cx 0 dX7_others_2 ki_0 rfl ?_
  refine j_istore_n (lv' := [(3, .int 0), (2, .int 0), (0, .ref hMO), (1, .int p0)]) (pc' := 4) cx dX7_others_3 (by decide) rfl rfl ?_
  obtain ⟨e2, h_1, h_2⟩ := bd_s hm
  have KXe2 : j 0 0 [(hMO, .inr (6, [.ref hMOz, .ref hMOa, .ref hMOb, .int MOst, .ref hMOk, .int MOik, .ref hMOt, .int MOln, .ref hMOo, .ref hMOw, .ref hMOm, .ref hMOq, .int MOpl, .int MOiw, .int MOle, .ref hMOn])), (hMOz, .inl (cI, 116, .inl MOza)), (hMOo, .inl (cI, 150, .inl MOon)), (hMOw, .inl (cI, 150, .inl MOwy))] [(2, .int e2.1)] 43 [] := by
    refine j_iload_n (pc' := 44) cx 0 dX7_others_43 rfl rfl ?_
    have h_3 := so_i h_2
    subst h_3
    exact j_ret cx (Or.inr (Or.inl ⟨_, _, rfl, rfl, dX7_others_44, rfl, rfl⟩)) ⟨rfl, rfl⟩
  have LPe2 : ∀ (n : Nat) (s1 : Int32 × Int32), lp (f_X7_others_b1 MOza MOon MOwy p0) n s1 = some e2 → j 0 0 [(hMO, .inr (6, [.ref hMOz, .ref hMOa, .ref hMOb, .int MOst, .ref hMOk, .int MOik, .ref hMOt, .int MOln, .ref hMOo, .ref hMOw, .ref hMOm, .ref hMOq, .int MOpl, .int MOiw, .int MOle, .ref hMOn])), (hMOz, .inl (cI, 116, .inl MOza)), (hMOo, .inl (cI, 150, .inl MOon)), (hMOw, .inl (cI, 150, .inl MOwy))] [(0, .ref hMO), (1, .int p0), (2, .int s1.1), (3, .int s1.2)] 4 [] := by
    intro n
    induction n with
    | zero => intro s1 z; exact absurd z (by intro z; cases z)
    | succ n ihe2 =>
      intro s1 h_4
      obtain ⟨q_5, h_6, h_7⟩ := bd_s h_4
      unfold f_X7_others_b1 at h_6
      refine j_iload_n (pc' := 5) cx 3 dX7_others_4 rfl rfl ?_
      refine j_aload_n (pc' := 6) cx 0 dX7_others_5 rfl rfl ?_
      refine j_get (C := RX7) (T := TX7) (N := 16) (pc' := 9) cx uB_X7 0 rfl rfl 0 (by decide) wF_X7_7 (.ref hMOz) rfl dX7_others_6 rfl ?_
      refine j_bipush (pc' := 11) cx 25 dX7_others_9 kb_25 rfl ?_
      obtain ⟨i3, h_8⟩ := ck_s h_6
      refine j_iald (pc' := 12) cx 1 0 rfl rfl i3 dX7_others_11 rfl ?_
      refine j_icmp_ge (tgt := 43) (pc' := 15) cx dX7_others_12 (by decide) rfl (fun ch_8 => ?_) (fun ch_8 => ?_)
      · have h_9 := it_t h_8 ch_8
        have h_10 := so_i h_9
        subst h_10
        have h_11 := so_i (se_r h_7)
        subst h_11
        refine j_lv (lv' := [(2, .int s1.1)]) cx [2] rfl ?_
        exact KXe2
      · have h_12 := it_f h_8 ch_8
        refine j_iload_n (pc' := 16) cx 2 dX7_others_15 rfl rfl ?_
        refine j_iload_n (pc' := 17) cx 3 dX7_others_16 rfl rfl ?_
        refine j_iload_n (pc' := 18) cx 1 dX7_others_17 rfl rfl ?_
        obtain ⟨t6, h_14, h_13⟩ := bd_s h_12
        have Kt6 : j 0 0 [(hMO, .inr (6, [.ref hMOz, .ref hMOa, .ref hMOb, .int MOst, .ref hMOk, .int MOik, .ref hMOt, .int MOln, .ref hMOo, .ref hMOw, .ref hMOm, .ref hMOq, .int MOpl, .int MOiw, .int MOle, .ref hMOn])), (hMOz, .inl (cI, 116, .inl MOza)), (hMOo, .inl (cI, 150, .inl MOon)), (hMOw, .inl (cI, 150, .inl MOwy))] [(0, .ref hMO), (1, .int p0), (3, .int s1.2)] 35 [.int t6, .int s1.1] := by
          refine j_iadd (pc' := 36) cx dX7_others_35 rfl ?_
          refine j_istore_n (lv' := [(2, .int (s1.1 + t6)), (0, .ref hMO), (1, .int p0), (3, .int s1.2)]) (pc' := 37) cx dX7_others_36 (by decide) rfl rfl ?_
          refine j_iinc (v := (s1.2 + 1)) (lv' := [(3, .int (s1.2 + 1)), (2, .int (s1.1 + t6)), (0, .ref hMO), (1, .int p0)]) (pc' := 40) cx 3 dX7_others_37 rfl (kn_1 _) (by decide) rfl rfl ?_
          refine j_goto (pc' := 4) cx dX7_others_40 (by decide) ?_
          have h_15 := so_i h_13
          subst h_15
          refine j_lv (lv' := [(0, .ref hMO), (1, .int p0), (2, .int (s1.1 + t6)), (3, .int (s1.2 + 1))]) cx [2, 3, 1, 0] rfl ?_
          exact ihe2 _ (se_l h_7)
        refine j_icmp_eq (tgt := 34) (pc' := 21) cx dX7_others_18 (by decide) rfl (fun ch_14 => ?_) (fun ch_14 => ?_)
        · have h_16 := it_t h_14 ch_14
          refine j_iconst (pc' := 35) cx 0 dX7_others_34 ki_0 rfl ?_
          have h_17 := so_i h_16
          subst h_17
          refine j_lv (lv' := [(0, .ref hMO), (1, .int p0), (3, .int s1.2)]) cx [0, 1, 3] rfl ?_
          exact Kt6
        · have h_18 := it_f h_14 ch_14
          refine j_aload_n (pc' := 22) cx 0 dX7_others_21 rfl rfl ?_
          refine j_iload_n (pc' := 23) cx 1 dX7_others_22 rfl rfl ?_
          refine j_iload_n (pc' := 24) cx 3 dX7_others_23 rfl rfl ?_
          obtain ⟨r4, c5, h_19⟩ := bd_s h_18
          refine j_cV (pc' := 27) cx (c_X7_areTouching l D cI cZ cC cS hMO hMOz hMOa hMOb hMOk hMOt hMOo hMOw hMOm hMOq hMOn MOst MOik MOln MOpl MOiw MOle MOza MOon MOwy p0 s1.2 r4 c5) 2 yk_X7_areTouching wM_X7_180 ⟨wN_X7_areTouching, wS_X7_areTouching, wI_X7, wC_X7_areTouching⟩ ⟨rfl, rfl, Nat.le_of_ble_eq_true rfl, Nat.le_of_ble_eq_true rfl, Nat.le_of_ble_eq_true rfl, Nat.le_of_ble_eq_true rfl⟩ [0, 1, 2, 3] [] [0, 1, 2, 3] rfl [] rfl (by decide) [(hMO, .inr (6, [.ref hMOz, .ref hMOa, .ref hMOb, .int MOst, .ref hMOk, .int MOik, .ref hMOt, .int MOln, .ref hMOo, .ref hMOw, .ref hMOm, .ref hMOq, .int MOpl, .int MOiw, .int MOle, .ref hMOn])), (hMOz, .inl (cI, 116, .inl MOza)), (hMOo, .inl (cI, 150, .inl MOon)), (hMOw, .inl (cI, 150, .inl MOwy))] rfl (by decide) 0 6 rfl rfl rfl rfl rfl (Nat.le_of_ble_eq_true rfl) dX7_others_24 rfl ?_
          refine j_if_eq (tgt := 34) (pc' := 30) cx dX7_others_27 (by decide) rfl (fun ch_19 => ?_) (fun ch_19 => ?_)
          · have h_20 := it_t h_19 ch_19
            refine j_iconst (pc' := 35) cx 0 dX7_others_34 ki_0 rfl ?_
            have h_21 := so_i h_20
            subst h_21
            refine j_lv (lv' := [(0, .ref hMO), (1, .int p0), (3, .int s1.2)]) cx [0, 1, 3] rfl ?_
            exact Kt6
          · have h_22 := it_f h_19 ch_19
            refine j_iconst (pc' := 31) cx 1 dX7_others_30 ki_1 rfl ?_
            refine j_goto (pc' := 35) cx dX7_others_31 (by decide) ?_
            have h_23 := so_i h_22
            subst h_23
            refine j_lv (lv' := [(0, .ref hMO), (1, .int p0), (3, .int s1.2)]) cx [0, 1, 3] rfl ?_
            exact Kt6
  refine j_lv (lv' := [(0, .ref hMO), (1, .int p0), (2, .int 0), (3, .int 0)]) cx [2, 3, 1, 0] rfl ?_
  exact LPe2 _ _ h_1
set_option maxHeartbeats 4000000 in
set_option maxRecDepth 100000 in
theorem c_X7_freeArms (l : Launch) (D : va_G) (cI cZ cC cS : ClassId) (hMO hMOz hMOa hMOb hMOk hMOt hMOo hMOw hMOm hMOq hMOn : Nat) (MOst : Int32) (MOik : Int32) (MOln : Int32) (MOpl : Int32) (MOiw : Int32) (MOle : Int32) (MOza : Nat → Int32) (MOon : Nat → Int32) (MOwy : Nat → Int32) (p0 : Int32) (out : Int32) (hm : f_X7_freeArms MOza MOon MOwy p0 = some out) : Ct l yX7_freeArms cX7_freeArms 4 (some .int) ({ frames := 4, cells := 0, slots := 0, locals := 88 }) (D, TY cI cZ cC cS) [.ref hMO, .int p0] [(hMO, .inr (6, [.ref hMOz, .ref hMOa, .ref hMOb, .int MOst, .ref hMOk, .int MOik, .ref hMOt, .int MOln, .ref hMOo, .ref hMOw, .ref hMOm, .ref hMOq, .int MOpl, .int MOiw, .int MOle, .ref hMOn])), (hMOz, .inl (cI, 116, .inl MOza)), (hMOo, .inl (cI, 150, .inl MOon)), (hMOw, .inl (cI, 150, .inl MOwy))] (jw_P (some (.int out)) [(hMO, .inr (6, [.ref hMOz, .ref hMOa, .ref hMOb, .int MOst, .ref hMOk, .int MOik, .ref hMOt, .int MOln, .ref hMOo, .ref hMOw, .ref hMOm, .ref hMOq, .int MOpl, .int MOiw, .int MOle, .ref hMOn])), (hMOz, .inl (cI, 116, .inl MOza)), (hMOo, .inl (cI, 150, .inl MOon)), (hMOw, .inl (cI, 150, .inl MOwy))]) 0 0 := by
  refine ct_of RX7 (by decide +kernel) rfl (Nat.le_of_ble_eq_true rfl) (fun j cx => ?_)
  unfold f_X7_freeArms at hm
  show j 0 0 [(hMO, .inr (6, [.ref hMOz, .ref hMOa, .ref hMOb, .int MOst, .ref hMOk, .int MOik, .ref hMOt, .int MOln, .ref hMOo, .ref hMOw, .ref hMOm, .ref hMOq, .int MOpl, .int MOiw, .int MOle, .ref hMOn])), (hMOz, .inl (cI, 116, .inl MOza)), (hMOo, .inl (cI, 150, .inl MOon)), (hMOw, .inl (cI, 150, .inl MOwy))] [(0, .ref hMO), (1, .int p0)] 0 []
  refine j_iconst (pc' := 1) cx 0 dX7_freeArms_0 ki_0 rfl ?_
  refine j_istore_n (lv' := [(2, .int 0), (0, .ref hMO), (1, .int p0)]) (pc' := 2) cx dX7_freeArms_1 (by decide) rfl rfl ?_
  refine j_iconst (pc' := 3) cx 0 dX7_freeArms_2 ki_0 rfl ?_
  refine j_istore_n (lv' := [(3, .int 0), (2, .int 0), (0, .ref hMO), (1, .int p0)]) (pc' := 4) cx dX7_freeArms_3 (by decide) rfl rfl ?_
  obtain ⟨e2, h_1, h_2⟩ := bd_s hm
  have KXe2 : j 0 0 [(hMO, .inr (6, [.ref hMOz, .ref hMOa, .ref hMOb, .int MOst, .ref hMOk, .int MOik, .ref hMOt, .int MOln, .ref hMOo, .ref hMOw, .ref hMOm, .ref hMOq, .int MOpl, .int MOiw, .int MOle, .ref hMOn])), (hMOz, .inl (cI, 116, .inl MOza)), (hMOo, .inl (cI, 150, .inl MOon)), (hMOw, .inl (cI, 150, .inl MOwy))] [(2, .int e2.1)] 39 [] := by
    refine j_iload_n (pc' := 40) cx 0 dX7_freeArms_39 rfl rfl ?_
    have h_3 := so_i h_2
    subst h_3
    exact j_ret cx (Or.inr (Or.inl ⟨_, _, rfl, rfl, dX7_freeArms_40, rfl, rfl⟩)) ⟨rfl, rfl⟩
  have LPe2 : ∀ (n : Nat) (s1 : Int32 × Int32), lp (f_X7_freeArms_b1 MOza MOon MOwy p0) n s1 = some e2 → j 0 0 [(hMO, .inr (6, [.ref hMOz, .ref hMOa, .ref hMOb, .int MOst, .ref hMOk, .int MOik, .ref hMOt, .int MOln, .ref hMOo, .ref hMOw, .ref hMOm, .ref hMOq, .int MOpl, .int MOiw, .int MOle, .ref hMOn])), (hMOz, .inl (cI, 116, .inl MOza)), (hMOo, .inl (cI, 150, .inl MOon)), (hMOw, .inl (cI, 150, .inl MOwy))] [(0, .ref hMO), (1, .int p0), (2, .int s1.1), (3, .int s1.2)] 4 [] := by
    intro n
    induction n with
    | zero => intro s1 z; exact absurd z (by intro z; cases z)
    | succ n ihe2 =>
      intro s1 h_4
      obtain ⟨q_5, h_6, h_7⟩ := bd_s h_4
      unfold f_X7_freeArms_b1 at h_6
      refine j_iload_n (pc' := 5) cx 3 dX7_freeArms_4 rfl rfl ?_
      refine j_iconst (pc' := 6) cx 4 dX7_freeArms_5 ki_4 rfl ?_
      refine j_icmp_ge (tgt := 39) (pc' := 9) cx dX7_freeArms_6 (by decide) rfl (fun ch_6 => ?_) (fun ch_6 => ?_)
      · have h_8 := it_t h_6 ch_6
        have h_9 := so_i h_8
        subst h_9
        have h_10 := so_i (se_r h_7)
        subst h_10
        refine j_lv (lv' := [(2, .int s1.1)]) cx [2] rfl ?_
        exact KXe2
      · have h_11 := it_f h_6 ch_6
        refine j_iload_n (pc' := 10) cx 2 dX7_freeArms_9 rfl rfl ?_
        refine j_aload_n (pc' := 11) cx 0 dX7_freeArms_10 rfl rfl ?_
        refine j_aload_n (pc' := 12) cx 0 dX7_freeArms_11 rfl rfl ?_
        refine j_iload_n (pc' := 13) cx 1 dX7_freeArms_12 rfl rfl ?_
        obtain ⟨r3, c4, h_12⟩ := bd_s h_11
        refine j_cV (pc' := 16) cx (c_X7_middleOf l D cI cZ cC cS hMO hMOz hMOa hMOb hMOk hMOt hMOo hMOw hMOm hMOq hMOn MOst MOik MOln MOpl MOiw MOle MOza p0 r3 c4) 1 yk_X7_middleOf wM_X7_58 ⟨wN_X7_middleOf, wS_X7_middleOf, wI_X7, wC_X7_middleOf⟩ ⟨rfl, rfl, Nat.le_of_ble_eq_true rfl, Nat.le_of_ble_eq_true rfl, Nat.le_of_ble_eq_true rfl, Nat.le_of_ble_eq_true rfl⟩ [0, 1] [2, 3] [2, 3, 0, 1] rfl [(hMOo, .inl (cI, 150, .inl MOon)), (hMOw, .inl (cI, 150, .inl MOwy))] rfl (by decide) [(hMO, .inr (6, [.ref hMOz, .ref hMOa, .ref hMOb, .int MOst, .ref hMOk, .int MOik, .ref hMOt, .int MOln, .ref hMOo, .ref hMOw, .ref hMOm, .ref hMOq, .int MOpl, .int MOiw, .int MOle, .ref hMOn])), (hMOz, .inl (cI, 116, .inl MOza)), (hMOo, .inl (cI, 150, .inl MOon)), (hMOw, .inl (cI, 150, .inl MOwy))] rfl (by decide) 0 6 rfl rfl rfl rfl rfl (Nat.le_of_ble_eq_true rfl) dX7_freeArms_13 rfl ?_
        refine j_iload_n (pc' := 17) cx 3 dX7_freeArms_16 rfl rfl ?_
        obtain ⟨r5, c6, h_13⟩ := bd_s h_12
        refine j_cS (pc' := 20) cx (c_X7_beside l D cI cZ cC cS r3 s1.2 r5 c6) 2 yk_X7_beside wM_X7_61 ⟨wT_X7_beside, wI_X7, wC_X7_beside⟩ ⟨rfl, rfl, Nat.le_of_ble_eq_true rfl, Nat.le_of_ble_eq_true rfl, Nat.le_of_ble_eq_true rfl, Nat.le_of_ble_eq_true rfl⟩ [] [0, 1, 2, 3] [0, 1, 2, 3] rfl [(hMO, .inr (6, [.ref hMOz, .ref hMOa, .ref hMOb, .int MOst, .ref hMOk, .int MOik, .ref hMOt, .int MOln, .ref hMOo, .ref hMOw, .ref hMOm, .ref hMOq, .int MOpl, .int MOiw, .int MOle, .ref hMOn])), (hMOz, .inl (cI, 116, .inl MOza)), (hMOo, .inl (cI, 150, .inl MOon)), (hMOw, .inl (cI, 150, .inl MOwy))] rfl (by decide) [(hMO, .inr (6, [.ref hMOz, .ref hMOa, .ref hMOb, .int MOst, .ref hMOk, .int MOik, .ref hMOt, .int MOln, .ref hMOo, .ref hMOw, .ref hMOm, .ref hMOq, .int MOpl, .int MOiw, .int MOle, .ref hMOn])), (hMOz, .inl (cI, 116, .inl MOza)), (hMOo, .inl (cI, 150, .inl MOon)), (hMOw, .inl (cI, 150, .inl MOwy))] rfl (by decide) rfl rfl (Nat.le_of_ble_eq_true rfl) dX7_freeArms_17 rfl ?_
        obtain ⟨r7, c8, h_14⟩ := bd_s h_13
        refine j_cV (pc' := 23) cx (c_X7_touchesAt l D cI cZ cC cS hMO hMOz hMOa hMOb hMOk hMOt hMOo hMOw hMOm hMOq hMOn MOst MOik MOln MOpl MOiw MOle MOon MOwy r5 r7 c8) 1 yk_X7_touchesAt wM_X7_177 ⟨wN_X7_touchesAt, wS_X7_touchesAt, wI_X7, wC_X7_touchesAt⟩ ⟨rfl, rfl, Nat.le_of_ble_eq_true rfl, Nat.le_of_ble_eq_true rfl, Nat.le_of_ble_eq_true rfl, Nat.le_of_ble_eq_true rfl⟩ [0, 2, 3] [1] [1, 0, 2, 3] rfl [(hMOz, .inl (cI, 116, .inl MOza))] rfl (by decide) [(hMO, .inr (6, [.ref hMOz, .ref hMOa, .ref hMOb, .int MOst, .ref hMOk, .int MOik, .ref hMOt, .int MOln, .ref hMOo, .ref hMOw, .ref hMOm, .ref hMOq, .int MOpl, .int MOiw, .int MOle, .ref hMOn])), (hMOz, .inl (cI, 116, .inl MOza)), (hMOo, .inl (cI, 150, .inl MOon)), (hMOw, .inl (cI, 150, .inl MOwy))] rfl (by decide) 0 6 rfl rfl rfl rfl rfl (Nat.le_of_ble_eq_true rfl) dX7_freeArms_20 rfl ?_
        obtain ⟨t9, h_16, h_15⟩ := bd_s h_14
        have Kt9 : j 0 0 [(hMO, .inr (6, [.ref hMOz, .ref hMOa, .ref hMOb, .int MOst, .ref hMOk, .int MOik, .ref hMOt, .int MOln, .ref hMOo, .ref hMOw, .ref hMOm, .ref hMOq, .int MOpl, .int MOiw, .int MOle, .ref hMOn])), (hMOz, .inl (cI, 116, .inl MOza)), (hMOo, .inl (cI, 150, .inl MOon)), (hMOw, .inl (cI, 150, .inl MOwy))] [(0, .ref hMO), (1, .int p0), (3, .int s1.2)] 31 [.int t9, .int s1.1] := by
          refine j_iadd (pc' := 32) cx dX7_freeArms_31 rfl ?_
          refine j_istore_n (lv' := [(2, .int (s1.1 + t9)), (0, .ref hMO), (1, .int p0), (3, .int s1.2)]) (pc' := 33) cx dX7_freeArms_32 (by decide) rfl rfl ?_
          refine j_iinc (v := (s1.2 + 1)) (lv' := [(3, .int (s1.2 + 1)), (2, .int (s1.1 + t9)), (0, .ref hMO), (1, .int p0)]) (pc' := 36) cx 3 dX7_freeArms_33 rfl (kn_1 _) (by decide) rfl rfl ?_
          refine j_goto (pc' := 4) cx dX7_freeArms_36 (by decide) ?_
          have h_17 := so_i h_15
          subst h_17
          refine j_lv (lv' := [(0, .ref hMO), (1, .int p0), (2, .int (s1.1 + t9)), (3, .int (s1.2 + 1))]) cx [2, 3, 1, 0] rfl ?_
          exact ihe2 _ (se_l h_7)
        refine j_if_ne (tgt := 30) (pc' := 26) cx dX7_freeArms_23 (by decide) rfl (fun ch_16 => ?_) (fun ch_16 => ?_)
        · have h_18 := it_f h_16 ch_16
          refine j_iconst (pc' := 31) cx 0 dX7_freeArms_30 ki_0 rfl ?_
          have h_19 := so_i h_18
          subst h_19
          refine j_lv (lv' := [(0, .ref hMO), (1, .int p0), (3, .int s1.2)]) cx [0, 1, 3] rfl ?_
          exact Kt9
        · have h_20 := it_t h_16 ch_16
          refine j_iconst (pc' := 27) cx 1 dX7_freeArms_26 ki_1 rfl ?_
          refine j_goto (pc' := 31) cx dX7_freeArms_27 (by decide) ?_
          have h_21 := so_i h_20
          subst h_21
          refine j_lv (lv' := [(0, .ref hMO), (1, .int p0), (3, .int s1.2)]) cx [0, 1, 3] rfl ?_
          exact Kt9
  refine j_lv (lv' := [(0, .ref hMO), (1, .int p0), (2, .int 0), (3, .int 0)]) cx [2, 3, 1, 0] rfl ?_
  exact LPe2 _ _ h_1
set_option maxHeartbeats 4000000 in
set_option maxRecDepth 100000 in
theorem c_X7_waysToTurn (l : Launch) (D : va_G) (cI cZ cC cS : ClassId) (hMO hMOz hMOa hMOb hMOk hMOt hMOo hMOw hMOm hMOq hMOn : Nat) (MOst : Int32) (MOik : Int32) (MOln : Int32) (MOpl : Int32) (MOiw : Int32) (MOle : Int32) (MOza : Nat → Int32) (MOon : Nat → Int32) (MOwy : Nat → Int32) (p0 : Int32) (out : Int32 × (Nat → Int32)) (hm : f_X7_waysToTurn MOza MOon MOwy p0 = some out) : Ct l yX7_waysToTurn cX7_waysToTurn 5 (some .int) ({ frames := 4, cells := 0, slots := 0, locals := 90 }) (D, TY cI cZ cC cS) [.ref hMO, .int p0] [(hMO, .inr (6, [.ref hMOz, .ref hMOa, .ref hMOb, .int MOst, .ref hMOk, .int MOik, .ref hMOt, .int MOln, .ref hMOo, .ref hMOw, .ref hMOm, .ref hMOq, .int MOpl, .int MOiw, .int MOle, .ref hMOn])), (hMOz, .inl (cI, 116, .inl MOza)), (hMOo, .inl (cI, 150, .inl MOon)), (hMOw, .inl (cI, 150, .inl MOwy))] (jw_P (some (.int out.1)) [(hMO, .inr (6, [.ref hMOz, .ref hMOa, .ref hMOb, .int MOst, .ref hMOk, .int MOik, .ref hMOt, .int MOln, .ref hMOo, .ref hMOw, .ref hMOm, .ref hMOq, .int MOpl, .int MOiw, .int MOle, .ref hMOn])), (hMOz, .inl (cI, 116, .inl out.2)), (hMOo, .inl (cI, 150, .inl MOon)), (hMOw, .inl (cI, 150, .inl MOwy))]) 0 0 := by
  refine ct_of RX7 (by decide +kernel) rfl (Nat.le_of_ble_eq_true rfl) (fun j cx => ?_)
  unfold f_X7_waysToTurn at hm
  show j 0 0 [(hMO, .inr (6, [.ref hMOz, .ref hMOa, .ref hMOb, .int MOst, .ref hMOk, .int MOik, .ref hMOt, .int MOln, .ref hMOo, .ref hMOw, .ref hMOm, .ref hMOq, .int MOpl, .int MOiw, .int MOle, .ref hMOn])), (hMOz, .inl (cI, 116, .inl MOza)), (hMOo, .inl (cI, 150, .inl MOon)), (hMOw, .inl (cI, 150, .inl MOwy))] [(0, .ref hMO), (1, .int p0)] 0 []
  refine j_aload_n (pc' := 1) cx 0 dX7_waysToTurn_0 rfl rfl ?_
  refine j_iload_n (pc' := 2) cx 1 dX7_waysToTurn_1 rfl rfl ?_
  obtain ⟨r1, c2, h_1⟩ := bd_s hm
  refine j_cV (pc' := 5) cx (c_X7_turnsOf l D cI cZ cC cS hMO hMOz hMOa hMOb hMOk hMOt hMOo hMOw hMOm hMOq hMOn MOst MOik MOln MOpl MOiw MOle MOza p0 r1 c2) 1 yk_X7_turnsOf wM_X7_51 ⟨wN_X7_turnsOf, wS_X7_turnsOf, wI_X7, wC_X7_turnsOf⟩ ⟨rfl, rfl, Nat.le_of_ble_eq_true rfl, Nat.le_of_ble_eq_true rfl, Nat.le_of_ble_eq_true rfl, Nat.le_of_ble_eq_true rfl⟩ [0, 1] [2, 3] [2, 3, 0, 1] rfl [(hMOo, .inl (cI, 150, .inl MOon)), (hMOw, .inl (cI, 150, .inl MOwy))] rfl (by decide) [(hMO, .inr (6, [.ref hMOz, .ref hMOa, .ref hMOb, .int MOst, .ref hMOk, .int MOik, .ref hMOt, .int MOln, .ref hMOo, .ref hMOw, .ref hMOm, .ref hMOq, .int MOpl, .int MOiw, .int MOle, .ref hMOn])), (hMOz, .inl (cI, 116, .inl MOza)), (hMOo, .inl (cI, 150, .inl MOon)), (hMOw, .inl (cI, 150, .inl MOwy))] rfl (by decide) 0 6 rfl rfl rfl rfl rfl (Nat.le_of_ble_eq_true rfl) dX7_waysToTurn_2 rfl ?_
  refine j_istore_n (lv' := [(2, .int r1), (0, .ref hMO), (1, .int p0)]) (pc' := 6) cx dX7_waysToTurn_5 (by decide) rfl rfl ?_
  refine j_iconst (pc' := 7) cx 0 dX7_waysToTurn_6 ki_0 rfl ?_
  refine j_istore_n (lv' := [(3, .int 0), (2, .int r1), (0, .ref hMO), (1, .int p0)]) (pc' := 8) cx dX7_waysToTurn_7 (by decide) rfl rfl ?_
  refine j_iconst (pc' := 9) cx 0 dX7_waysToTurn_8 ki_0 rfl ?_
  refine j_istore (lv' := [(4, .int 0), (3, .int 0), (2, .int r1), (0, .ref hMO), (1, .int p0)]) (pc' := 11) cx dX7_waysToTurn_9 (by decide) rfl rfl ?_
  obtain ⟨e4, h_2, h_3⟩ := bd_s h_1
  have KXe4 : j 0 0 [(hMO, .inr (6, [.ref hMOz, .ref hMOa, .ref hMOb, .int MOst, .ref hMOk, .int MOik, .ref hMOt, .int MOln, .ref hMOo, .ref hMOw, .ref hMOm, .ref hMOq, .int MOpl, .int MOiw, .int MOle, .ref hMOn])), (hMOz, .inl (cI, 116, .inl e4.2.2)), (hMOo, .inl (cI, 150, .inl MOon)), (hMOw, .inl (cI, 150, .inl MOwy))] [(0, .ref hMO), (1, .int p0), (2, .int r1), (3, .int e4.1)] 53 [] := by
    refine j_aload_n (pc' := 54) cx 0 dX7_waysToTurn_53 rfl rfl ?_
    refine j_get (C := RX7) (T := TX7) (N := 16) (pc' := 57) cx uB_X7 0 rfl rfl 0 (by decide) wF_X7_7 (.ref hMOz) rfl dX7_waysToTurn_54 rfl ?_
    refine j_bipush (pc' := 59) cx 26 dX7_waysToTurn_57 kb_26 rfl ?_
    refine j_iconst (pc' := 60) cx 3 dX7_waysToTurn_59 ki_3 rfl ?_
    refine j_iload_n (pc' := 61) cx 1 dX7_waysToTurn_60 rfl rfl ?_
    refine j_imul (pc' := 62) cx dX7_waysToTurn_61 rfl ?_
    refine j_iadd (pc' := 63) cx dX7_waysToTurn_62 rfl ?_
    refine j_iconst (pc' := 64) cx 1 dX7_waysToTurn_63 ki_1 rfl ?_
    refine j_iadd (pc' := 65) cx dX7_waysToTurn_64 rfl ?_
    refine j_iload_n (pc' := 66) cx 2 dX7_waysToTurn_65 rfl rfl ?_
    obtain ⟨i9, h_4⟩ := ck_s h_3
    refine j_iast (ws' := [(hMO, .inr (6, [.ref hMOz, .ref hMOa, .ref hMOb, .int MOst, .ref hMOk, .int MOik, .ref hMOt, .int MOln, .ref hMOo, .ref hMOw, .ref hMOm, .ref hMOq, .int MOpl, .int MOiw, .int MOle, .ref hMOn])), (hMOz, .inl (cI, 116, .inl (upd e4.2.2 ((26 + (3 * p0)) + 1).toNatClampNeg r1))), (hMOo, .inl (cI, 150, .inl MOon)), (hMOw, .inl (cI, 150, .inl MOwy))]) (pc' := 67) cx 1 0 rfl rfl i9 rfl dX7_waysToTurn_66 rfl ?_
    refine j_iload_n (pc' := 68) cx 3 dX7_waysToTurn_67 rfl rfl ?_
    have h_5 := so_i h_4
    subst h_5
    exact j_ret cx (Or.inr (Or.inl ⟨_, _, rfl, rfl, dX7_waysToTurn_68, rfl, rfl⟩)) ⟨rfl, rfl⟩
  have LPe4 : ∀ (n : Nat) (s3 : Int32 × Int32 × (Nat → Int32)), lp (f_X7_waysToTurn_b1 MOon MOwy p0) n s3 = some e4 → j 0 0 [(hMO, .inr (6, [.ref hMOz, .ref hMOa, .ref hMOb, .int MOst, .ref hMOk, .int MOik, .ref hMOt, .int MOln, .ref hMOo, .ref hMOw, .ref hMOm, .ref hMOq, .int MOpl, .int MOiw, .int MOle, .ref hMOn])), (hMOz, .inl (cI, 116, .inl s3.2.2)), (hMOo, .inl (cI, 150, .inl MOon)), (hMOw, .inl (cI, 150, .inl MOwy))] [(0, .ref hMO), (1, .int p0), (2, .int r1), (3, .int s3.1), (4, .int s3.2.1)] 11 [] := by
    intro n
    induction n with
    | zero => intro s3 z; exact absurd z (by intro z; cases z)
    | succ n ihe4 =>
      intro s3 h_6
      obtain ⟨q_7, h_8, h_9⟩ := bd_s h_6
      unfold f_X7_waysToTurn_b1 at h_8
      refine j_iload (pc' := 13) cx 4 dX7_waysToTurn_11 rfl rfl ?_
      refine j_iconst (pc' := 14) cx 4 dX7_waysToTurn_13 ki_4 rfl ?_
      refine j_icmp_ge (tgt := 53) (pc' := 17) cx dX7_waysToTurn_14 (by decide) rfl (fun ch_8 => ?_) (fun ch_8 => ?_)
      · have h_10 := it_t h_8 ch_8
        have h_11 := so_i h_10
        subst h_11
        have h_12 := so_i (se_r h_9)
        subst h_12
        refine j_lv (lv' := [(0, .ref hMO), (1, .int p0), (2, .int r1), (3, .int s3.1)]) cx [0, 1, 2, 3] rfl ?_
        exact KXe4
      · have h_13 := it_f h_8 ch_8
        refine j_aload_n (pc' := 18) cx 0 dX7_waysToTurn_17 rfl rfl ?_
        refine j_get (C := RX7) (T := TX7) (N := 16) (pc' := 21) cx uB_X7 0 rfl rfl 0 (by decide) wF_X7_7 (.ref hMOz) rfl dX7_waysToTurn_18 rfl ?_
        refine j_bipush (pc' := 23) cx 26 dX7_waysToTurn_21 kb_26 rfl ?_
        refine j_iconst (pc' := 24) cx 3 dX7_waysToTurn_23 ki_3 rfl ?_
        refine j_iload_n (pc' := 25) cx 1 dX7_waysToTurn_24 rfl rfl ?_
        refine j_imul (pc' := 26) cx dX7_waysToTurn_25 rfl ?_
        refine j_iadd (pc' := 27) cx dX7_waysToTurn_26 rfl ?_
        refine j_iconst (pc' := 28) cx 1 dX7_waysToTurn_27 ki_1 rfl ?_
        refine j_iadd (pc' := 29) cx dX7_waysToTurn_28 rfl ?_
        refine j_iload (pc' := 31) cx 4 dX7_waysToTurn_29 rfl rfl ?_
        obtain ⟨i5, h_14⟩ := ck_s h_13
        refine j_iast (ws' := [(hMO, .inr (6, [.ref hMOz, .ref hMOa, .ref hMOb, .int MOst, .ref hMOk, .int MOik, .ref hMOt, .int MOln, .ref hMOo, .ref hMOw, .ref hMOm, .ref hMOq, .int MOpl, .int MOiw, .int MOle, .ref hMOn])), (hMOz, .inl (cI, 116, .inl (upd s3.2.2 ((26 + (3 * p0)) + 1).toNatClampNeg s3.2.1))), (hMOo, .inl (cI, 150, .inl MOon)), (hMOw, .inl (cI, 150, .inl MOwy))]) (pc' := 32) cx 1 0 rfl rfl i5 rfl dX7_waysToTurn_31 rfl ?_
        refine j_iload_n (pc' := 33) cx 3 dX7_waysToTurn_32 rfl rfl ?_
        refine j_aload_n (pc' := 34) cx 0 dX7_waysToTurn_33 rfl rfl ?_
        obtain ⟨r6, c7, h_15⟩ := bd_s h_14
        refine j_cV (pc' := 37) cx (c_X7_areClashing l D cI cZ cC cS hMO hMOz hMOa hMOb hMOk hMOt hMOo hMOw hMOm hMOq hMOn MOst MOik MOln MOpl MOiw MOle (upd s3.2.2 ((26 + (3 * p0)) + 1).toNatClampNeg s3.2.1) MOon MOwy r6 c7) 0 yk_X7_areClashing wM_X7_94 ⟨wN_X7_areClashing, wS_X7_areClashing, wI_X7, wC_X7_areClashing⟩ ⟨rfl, rfl, Nat.le_of_ble_eq_true rfl, Nat.le_of_ble_eq_true rfl, Nat.le_of_ble_eq_true rfl, Nat.le_of_ble_eq_true rfl⟩ [0, 1, 2, 3] [] [0, 1, 2, 3] rfl [] rfl (by decide) [(hMO, .inr (6, [.ref hMOz, .ref hMOa, .ref hMOb, .int MOst, .ref hMOk, .int MOik, .ref hMOt, .int MOln, .ref hMOo, .ref hMOw, .ref hMOm, .ref hMOq, .int MOpl, .int MOiw, .int MOle, .ref hMOn])), (hMOz, .inl (cI, 116, .inl (upd s3.2.2 ((26 + (3 * p0)) + 1).toNatClampNeg s3.2.1))), (hMOo, .inl (cI, 150, .inl MOon)), (hMOw, .inl (cI, 150, .inl MOwy))] rfl (by decide) 0 6 rfl rfl rfl rfl rfl (Nat.le_of_ble_eq_true rfl) dX7_waysToTurn_34 rfl ?_
        obtain ⟨t8, h_17, h_16⟩ := bd_s h_15
        have Kt8 : j 0 0 [(hMO, .inr (6, [.ref hMOz, .ref hMOa, .ref hMOb, .int MOst, .ref hMOk, .int MOik, .ref hMOt, .int MOln, .ref hMOo, .ref hMOw, .ref hMOm, .ref hMOq, .int MOpl, .int MOiw, .int MOle, .ref hMOn])), (hMOz, .inl (cI, 116, .inl (upd s3.2.2 ((26 + (3 * p0)) + 1).toNatClampNeg s3.2.1))), (hMOo, .inl (cI, 150, .inl MOon)), (hMOw, .inl (cI, 150, .inl MOwy))] [(0, .ref hMO), (1, .int p0), (2, .int r1), (4, .int s3.2.1)] 45 [.int t8, .int s3.1] := by
          refine j_iadd (pc' := 46) cx dX7_waysToTurn_45 rfl ?_
          refine j_istore_n (lv' := [(3, .int (s3.1 + t8)), (0, .ref hMO), (1, .int p0), (2, .int r1), (4, .int s3.2.1)]) (pc' := 47) cx dX7_waysToTurn_46 (by decide) rfl rfl ?_
          refine j_iinc (v := (s3.2.1 + 1)) (lv' := [(4, .int (s3.2.1 + 1)), (3, .int (s3.1 + t8)), (0, .ref hMO), (1, .int p0), (2, .int r1)]) (pc' := 50) cx 4 dX7_waysToTurn_47 rfl (kn_1 _) (by decide) rfl rfl ?_
          refine j_goto (pc' := 11) cx dX7_waysToTurn_50 (by decide) ?_
          have h_18 := so_i h_16
          subst h_18
          refine j_lv (lv' := [(0, .ref hMO), (1, .int p0), (2, .int r1), (3, .int (s3.1 + t8)), (4, .int (s3.2.1 + 1))]) cx [2, 3, 4, 1, 0] rfl ?_
          exact ihe4 _ (se_l h_9)
        refine j_if_eq (tgt := 44) (pc' := 40) cx dX7_waysToTurn_37 (by decide) rfl (fun ch_17 => ?_) (fun ch_17 => ?_)
        · have h_19 := it_t h_17 ch_17
          refine j_iconst (pc' := 45) cx 1 dX7_waysToTurn_44 ki_1 rfl ?_
          have h_20 := so_i h_19
          subst h_20
          refine j_lv (lv' := [(0, .ref hMO), (1, .int p0), (2, .int r1), (4, .int s3.2.1)]) cx [0, 1, 2, 4] rfl ?_
          exact Kt8
        · have h_21 := it_f h_17 ch_17
          refine j_iconst (pc' := 41) cx 0 dX7_waysToTurn_40 ki_0 rfl ?_
          refine j_goto (pc' := 45) cx dX7_waysToTurn_41 (by decide) ?_
          have h_22 := so_i h_21
          subst h_22
          refine j_lv (lv' := [(0, .ref hMO), (1, .int p0), (2, .int r1), (4, .int s3.2.1)]) cx [0, 1, 2, 4] rfl ?_
          exact Kt8
  refine j_lv (lv' := [(0, .ref hMO), (1, .int p0), (2, .int r1), (3, .int 0), (4, .int 0)]) cx [3, 4, 2, 1, 0] rfl ?_
  exact LPe4 _ _ h_2
set_option maxHeartbeats 4000000 in
set_option maxRecDepth 100000 in
theorem c_X7_cross (l : Launch) (D : va_G) (cI cZ cC cS : ClassId) (hMO hMOz hMOa hMOb hMOk hMOt hMOo hMOw hMOm hMOq hMOn : Nat) (MOst : Int32) (MOik : Int32) (MOln : Int32) (MOpl : Int32) (MOiw : Int32) (MOle : Int32) (MOza : Nat → Int32) (MOon : Nat → Int32) (MOwy : Nat → Int32) (p0 : Int32) (p1 : Int32) (out : Int32 × (Nat → Int32)) (hm : f_X7_cross MOza MOon MOwy p0 p1 = some out) : Ct l yX7_cross cX7_cross 3 (some .int) ({ frames := 5, cells := 0, slots := 0, locals := 114 }) (D, TY cI cZ cC cS) [.ref hMO, .int p0, .int p1] [(hMO, .inr (6, [.ref hMOz, .ref hMOa, .ref hMOb, .int MOst, .ref hMOk, .int MOik, .ref hMOt, .int MOln, .ref hMOo, .ref hMOw, .ref hMOm, .ref hMOq, .int MOpl, .int MOiw, .int MOle, .ref hMOn])), (hMOz, .inl (cI, 116, .inl MOza)), (hMOo, .inl (cI, 150, .inl MOon)), (hMOw, .inl (cI, 150, .inl MOwy))] (jw_P (some (.int out.1)) [(hMO, .inr (6, [.ref hMOz, .ref hMOa, .ref hMOb, .int MOst, .ref hMOk, .int MOik, .ref hMOt, .int MOln, .ref hMOo, .ref hMOw, .ref hMOm, .ref hMOq, .int MOpl, .int MOiw, .int MOle, .ref hMOn])), (hMOz, .inl (cI, 116, .inl out.2)), (hMOo, .inl (cI, 150, .inl MOon)), (hMOw, .inl (cI, 150, .inl MOwy))]) 0 0 := by
  refine ct_of RX7 (by decide +kernel) rfl (Nat.le_of_ble_eq_true rfl) (fun j cx => ?_)
  unfold f_X7_cross at hm
  show j 0 0 [(hMO, .inr (6, [.ref hMOz, .ref hMOa, .ref hMOb, .int MOst, .ref hMOk, .int MOik, .ref hMOt, .int MOln, .ref hMOo, .ref hMOw, .ref hMOm, .ref hMOq, .int MOpl, .int MOiw, .int MOle, .ref hMOn])), (hMOz, .inl (cI, 116, .inl MOza)), (hMOo, .inl (cI, 150, .inl MOon)), (hMOw, .inl (cI, 150, .inl MOwy))] [(0, .ref hMO), (1, .int p0), (2, .int p1)] 0 []
  refine j_aload_n (pc' := 1) cx 0 dX7_cross_0 rfl rfl ?_
  refine j_iload_n (pc' := 2) cx 1 dX7_cross_1 rfl rfl ?_
  obtain ⟨r1, c2, h_1⟩ := bd_s hm
  refine j_cV (pc' := 5) cx (c_X7_isCross l D cI cZ cC cS hMO hMOz hMOa hMOb hMOk hMOt hMOo hMOw hMOm hMOq hMOn MOst MOik MOln MOpl MOiw MOle MOza p0 r1 c2) 1 yk_X7_isCross wM_X7_126 ⟨wN_X7_isCross, wS_X7_isCross, wI_X7, wC_X7_isCross⟩ ⟨rfl, rfl, Nat.le_of_ble_eq_true rfl, Nat.le_of_ble_eq_true rfl, Nat.le_of_ble_eq_true rfl, Nat.le_of_ble_eq_true rfl⟩ [0, 1] [2, 3] [2, 3, 0, 1] rfl [(hMOo, .inl (cI, 150, .inl MOon)), (hMOw, .inl (cI, 150, .inl MOwy))] rfl (by decide) [(hMO, .inr (6, [.ref hMOz, .ref hMOa, .ref hMOb, .int MOst, .ref hMOk, .int MOik, .ref hMOt, .int MOln, .ref hMOo, .ref hMOw, .ref hMOm, .ref hMOq, .int MOpl, .int MOiw, .int MOle, .ref hMOn])), (hMOz, .inl (cI, 116, .inl MOza)), (hMOo, .inl (cI, 150, .inl MOon)), (hMOw, .inl (cI, 150, .inl MOwy))] rfl (by decide) 0 6 rfl rfl rfl rfl rfl (Nat.le_of_ble_eq_true rfl) dX7_cross_2 rfl ?_
  refine j_if_ne (tgt := 10) (pc' := 8) cx dX7_cross_5 (by decide) rfl (fun ch_1 => ?_) (fun ch_1 => ?_)
  · have h_2 := it_f h_1 ch_1
    refine j_iload_n (pc' := 11) cx 2 dX7_cross_10 rfl rfl ?_
    by_cases k_3 : p1 = 0
    · have h_4 := it_t h_2 k_3
      refine j_tab_in (tgt := 52) cx dX7_cross_11 k_3 (by decide +kernel) (by decide +kernel) (by first | rfl | decide +kernel) (by decide) ?_
      refine j_aload_n (pc' := 53) cx 0 dX7_cross_52 rfl rfl ?_
      refine j_iload_n (pc' := 54) cx 1 dX7_cross_53 rfl rfl ?_
      obtain ⟨r3, c4, h_5⟩ := bd_s h_4
      refine j_cV (pc' := 57) cx (c_X7_kindOf l D cI cZ cC cS hMO hMOz hMOa hMOb hMOk hMOt hMOo hMOw hMOm hMOq hMOn MOst MOik MOln MOpl MOiw MOle MOza p0 r3 c4) 1 yk_X7_kindOf wM_X7_47 ⟨wN_X7_kindOf, wS_X7_kindOf, wI_X7, wC_X7_kindOf⟩ ⟨rfl, rfl, Nat.le_of_ble_eq_true rfl, Nat.le_of_ble_eq_true rfl, Nat.le_of_ble_eq_true rfl, Nat.le_of_ble_eq_true rfl⟩ [0, 1] [2, 3] [2, 3, 0, 1] rfl [(hMOo, .inl (cI, 150, .inl MOon)), (hMOw, .inl (cI, 150, .inl MOwy))] rfl (by decide) [(hMO, .inr (6, [.ref hMOz, .ref hMOa, .ref hMOb, .int MOst, .ref hMOk, .int MOik, .ref hMOt, .int MOln, .ref hMOo, .ref hMOw, .ref hMOm, .ref hMOq, .int MOpl, .int MOiw, .int MOle, .ref hMOn])), (hMOz, .inl (cI, 116, .inl MOza)), (hMOo, .inl (cI, 150, .inl MOon)), (hMOw, .inl (cI, 150, .inl MOwy))] rfl (by decide) 0 6 rfl rfl rfl rfl rfl (Nat.le_of_ble_eq_true rfl) dX7_cross_54 rfl ?_
      have h_6 := so_i h_5
      subst h_6
      exact j_ret cx (Or.inr (Or.inl ⟨_, _, rfl, rfl, dX7_cross_57, rfl, rfl⟩)) ⟨rfl, rfl⟩
    · have h_7 := it_f h_2 k_3
      by_cases k_8 : p1 = 1
      · have h_9 := it_t h_7 k_8
        refine j_tab_in (tgt := 58) cx dX7_cross_11 k_8 (by decide +kernel) (by decide +kernel) (by first | rfl | decide +kernel) (by decide) ?_
        refine j_aload_n (pc' := 59) cx 0 dX7_cross_58 rfl rfl ?_
        refine j_iload_n (pc' := 60) cx 1 dX7_cross_59 rfl rfl ?_
        obtain ⟨r5, c6, h_10⟩ := bd_s h_9
        refine j_cV (pc' := 63) cx (c_X7_turnsOf l D cI cZ cC cS hMO hMOz hMOa hMOb hMOk hMOt hMOo hMOw hMOm hMOq hMOn MOst MOik MOln MOpl MOiw MOle MOza p0 r5 c6) 1 yk_X7_turnsOf wM_X7_51 ⟨wN_X7_turnsOf, wS_X7_turnsOf, wI_X7, wC_X7_turnsOf⟩ ⟨rfl, rfl, Nat.le_of_ble_eq_true rfl, Nat.le_of_ble_eq_true rfl, Nat.le_of_ble_eq_true rfl, Nat.le_of_ble_eq_true rfl⟩ [0, 1] [2, 3] [2, 3, 0, 1] rfl [(hMOo, .inl (cI, 150, .inl MOon)), (hMOw, .inl (cI, 150, .inl MOwy))] rfl (by decide) [(hMO, .inr (6, [.ref hMOz, .ref hMOa, .ref hMOb, .int MOst, .ref hMOk, .int MOik, .ref hMOt, .int MOln, .ref hMOo, .ref hMOw, .ref hMOm, .ref hMOq, .int MOpl, .int MOiw, .int MOle, .ref hMOn])), (hMOz, .inl (cI, 116, .inl MOza)), (hMOo, .inl (cI, 150, .inl MOon)), (hMOw, .inl (cI, 150, .inl MOwy))] rfl (by decide) 0 6 rfl rfl rfl rfl rfl (Nat.le_of_ble_eq_true rfl) dX7_cross_60 rfl ?_
        have h_11 := so_i h_10
        subst h_11
        exact j_ret cx (Or.inr (Or.inl ⟨_, _, rfl, rfl, dX7_cross_63, rfl, rfl⟩)) ⟨rfl, rfl⟩
      · have h_12 := it_f h_7 k_8
        by_cases k_13 : p1 = 2
        · have h_14 := it_t h_12 k_13
          refine j_tab_in (tgt := 64) cx dX7_cross_11 k_13 (by decide +kernel) (by decide +kernel) (by first | rfl | decide +kernel) (by decide) ?_
          refine j_aload_n (pc' := 65) cx 0 dX7_cross_64 rfl rfl ?_
          refine j_iload_n (pc' := 66) cx 1 dX7_cross_65 rfl rfl ?_
          obtain ⟨r7, c8, h_15⟩ := bd_s h_14
          refine j_cV (pc' := 69) cx (c_X7_middleOf l D cI cZ cC cS hMO hMOz hMOa hMOb hMOk hMOt hMOo hMOw hMOm hMOq hMOn MOst MOik MOln MOpl MOiw MOle MOza p0 r7 c8) 1 yk_X7_middleOf wM_X7_58 ⟨wN_X7_middleOf, wS_X7_middleOf, wI_X7, wC_X7_middleOf⟩ ⟨rfl, rfl, Nat.le_of_ble_eq_true rfl, Nat.le_of_ble_eq_true rfl, Nat.le_of_ble_eq_true rfl, Nat.le_of_ble_eq_true rfl⟩ [0, 1] [2, 3] [2, 3, 0, 1] rfl [(hMOo, .inl (cI, 150, .inl MOon)), (hMOw, .inl (cI, 150, .inl MOwy))] rfl (by decide) [(hMO, .inr (6, [.ref hMOz, .ref hMOa, .ref hMOb, .int MOst, .ref hMOk, .int MOik, .ref hMOt, .int MOln, .ref hMOo, .ref hMOw, .ref hMOm, .ref hMOq, .int MOpl, .int MOiw, .int MOle, .ref hMOn])), (hMOz, .inl (cI, 116, .inl MOza)), (hMOo, .inl (cI, 150, .inl MOon)), (hMOw, .inl (cI, 150, .inl MOwy))] rfl (by decide) 0 6 rfl rfl rfl rfl rfl (Nat.le_of_ble_eq_true rfl) dX7_cross_66 rfl ?_
          have h_16 := so_i h_15
          subst h_16
          exact j_ret cx (Or.inr (Or.inl ⟨_, _, rfl, rfl, dX7_cross_69, rfl, rfl⟩)) ⟨rfl, rfl⟩
        · have h_17 := it_f h_12 k_13
          by_cases k_18 : p1 = 3
          · have h_19 := it_t h_17 k_18
            refine j_tab_in (tgt := 70) cx dX7_cross_11 k_18 (by decide +kernel) (by decide +kernel) (by first | rfl | decide +kernel) (by decide) ?_
            refine j_aload_n (pc' := 71) cx 0 dX7_cross_70 rfl rfl ?_
            refine j_iload_n (pc' := 72) cx 1 dX7_cross_71 rfl rfl ?_
            obtain ⟨r9, c10, h_20⟩ := bd_s h_19
            refine j_cV (pc' := 75) cx (c_X7_touchesOf l D cI cZ cC cS hMO hMOz hMOa hMOb hMOk hMOt hMOo hMOw hMOm hMOq hMOn MOst MOik MOln MOpl MOiw MOle MOza MOon MOwy p0 r9 c10) 1 yk_X7_touchesOf wM_X7_183 ⟨wN_X7_touchesOf, wS_X7_touchesOf, wI_X7, wC_X7_touchesOf⟩ ⟨rfl, rfl, Nat.le_of_ble_eq_true rfl, Nat.le_of_ble_eq_true rfl, Nat.le_of_ble_eq_true rfl, Nat.le_of_ble_eq_true rfl⟩ [0, 1, 2, 3] [] [0, 1, 2, 3] rfl [] rfl (by decide) [(hMO, .inr (6, [.ref hMOz, .ref hMOa, .ref hMOb, .int MOst, .ref hMOk, .int MOik, .ref hMOt, .int MOln, .ref hMOo, .ref hMOw, .ref hMOm, .ref hMOq, .int MOpl, .int MOiw, .int MOle, .ref hMOn])), (hMOz, .inl (cI, 116, .inl MOza)), (hMOo, .inl (cI, 150, .inl MOon)), (hMOw, .inl (cI, 150, .inl MOwy))] rfl (by decide) 0 6 rfl rfl rfl rfl rfl (Nat.le_of_ble_eq_true rfl) dX7_cross_72 rfl ?_
            have h_21 := so_i h_20
            subst h_21
            exact j_ret cx (Or.inr (Or.inl ⟨_, _, rfl, rfl, dX7_cross_75, rfl, rfl⟩)) ⟨rfl, rfl⟩
          · have h_22 := it_f h_17 k_18
            by_cases k_23 : p1 = 4
            · have h_24 := it_t h_22 k_23
              refine j_tab_in (tgt := 76) cx dX7_cross_11 k_23 (by decide +kernel) (by decide +kernel) (by first | rfl | decide +kernel) (by decide) ?_
              refine j_aload_n (pc' := 77) cx 0 dX7_cross_76 rfl rfl ?_
              refine j_iload_n (pc' := 78) cx 1 dX7_cross_77 rfl rfl ?_
              obtain ⟨r11, c12, h_25⟩ := bd_s h_24
              refine j_cV (pc' := 81) cx (c_X7_others l D cI cZ cC cS hMO hMOz hMOa hMOb hMOk hMOt hMOo hMOw hMOm hMOq hMOn MOst MOik MOln MOpl MOiw MOle MOza MOon MOwy p0 r11 c12) 1 yk_X7_others wM_X7_186 ⟨wN_X7_others, wS_X7_others, wI_X7, wC_X7_others⟩ ⟨rfl, rfl, Nat.le_of_ble_eq_true rfl, Nat.le_of_ble_eq_true rfl, Nat.le_of_ble_eq_true rfl, Nat.le_of_ble_eq_true rfl⟩ [0, 1, 2, 3] [] [0, 1, 2, 3] rfl [] rfl (by decide) [(hMO, .inr (6, [.ref hMOz, .ref hMOa, .ref hMOb, .int MOst, .ref hMOk, .int MOik, .ref hMOt, .int MOln, .ref hMOo, .ref hMOw, .ref hMOm, .ref hMOq, .int MOpl, .int MOiw, .int MOle, .ref hMOn])), (hMOz, .inl (cI, 116, .inl MOza)), (hMOo, .inl (cI, 150, .inl MOon)), (hMOw, .inl (cI, 150, .inl MOwy))] rfl (by decide) 0 6 rfl rfl rfl rfl rfl (Nat.le_of_ble_eq_true rfl) dX7_cross_78 rfl ?_
              have h_26 := so_i h_25
              subst h_26
              exact j_ret cx (Or.inr (Or.inl ⟨_, _, rfl, rfl, dX7_cross_81, rfl, rfl⟩)) ⟨rfl, rfl⟩
            · have h_27 := it_f h_22 k_23
              by_cases k_28 : p1 = 5
              · have h_29 := it_t h_27 k_28
                refine j_tab_in (tgt := 82) cx dX7_cross_11 k_28 (by decide +kernel) (by decide +kernel) (by first | rfl | decide +kernel) (by decide) ?_
                refine j_aload_n (pc' := 83) cx 0 dX7_cross_82 rfl rfl ?_
                refine j_iload_n (pc' := 84) cx 1 dX7_cross_83 rfl rfl ?_
                obtain ⟨r13, c14, h_30⟩ := bd_s h_29
                refine j_cV (pc' := 87) cx (c_X7_freeArms l D cI cZ cC cS hMO hMOz hMOa hMOb hMOk hMOt hMOo hMOw hMOm hMOq hMOn MOst MOik MOln MOpl MOiw MOle MOza MOon MOwy p0 r13 c14) 1 yk_X7_freeArms wM_X7_189 ⟨wN_X7_freeArms, wS_X7_freeArms, wI_X7, wC_X7_freeArms⟩ ⟨rfl, rfl, Nat.le_of_ble_eq_true rfl, Nat.le_of_ble_eq_true rfl, Nat.le_of_ble_eq_true rfl, Nat.le_of_ble_eq_true rfl⟩ [0, 1, 2, 3] [] [0, 1, 2, 3] rfl [] rfl (by decide) [(hMO, .inr (6, [.ref hMOz, .ref hMOa, .ref hMOb, .int MOst, .ref hMOk, .int MOik, .ref hMOt, .int MOln, .ref hMOo, .ref hMOw, .ref hMOm, .ref hMOq, .int MOpl, .int MOiw, .int MOle, .ref hMOn])), (hMOz, .inl (cI, 116, .inl MOza)), (hMOo, .inl (cI, 150, .inl MOon)), (hMOw, .inl (cI, 150, .inl MOwy))] rfl (by decide) 0 6 rfl rfl rfl rfl rfl (Nat.le_of_ble_eq_true rfl) dX7_cross_84 rfl ?_
                have h_31 := so_i h_30
                subst h_31
                exact j_ret cx (Or.inr (Or.inl ⟨_, _, rfl, rfl, dX7_cross_87, rfl, rfl⟩)) ⟨rfl, rfl⟩
              · have h_32 := it_f h_27 k_28
                by_cases k_33 : p1 = 6
                · have h_34 := it_t h_32 k_33
                  refine j_tab_in (tgt := 88) cx dX7_cross_11 k_33 (by decide +kernel) (by decide +kernel) (by first | rfl | decide +kernel) (by decide) ?_
                  refine j_aload_n (pc' := 89) cx 0 dX7_cross_88 rfl rfl ?_
                  refine j_iload_n (pc' := 90) cx 1 dX7_cross_89 rfl rfl ?_
                  obtain ⟨r15, c16, h_35⟩ := bd_s h_34
                  refine j_cV (pc' := 93) cx (c_X7_waysToTurn l D cI cZ cC cS hMO hMOz hMOa hMOb hMOk hMOt hMOo hMOw hMOm hMOq hMOn MOst MOik MOln MOpl MOiw MOle MOza MOon MOwy p0 r15 c16) 1 yk_X7_waysToTurn wM_X7_192 ⟨wN_X7_waysToTurn, wS_X7_waysToTurn, wI_X7, wC_X7_waysToTurn⟩ ⟨rfl, rfl, Nat.le_of_ble_eq_true rfl, Nat.le_of_ble_eq_true rfl, Nat.le_of_ble_eq_true rfl, Nat.le_of_ble_eq_true rfl⟩ [0, 1, 2, 3] [] [0, 1, 2, 3] rfl [] rfl (by decide) [(hMO, .inr (6, [.ref hMOz, .ref hMOa, .ref hMOb, .int MOst, .ref hMOk, .int MOik, .ref hMOt, .int MOln, .ref hMOo, .ref hMOw, .ref hMOm, .ref hMOq, .int MOpl, .int MOiw, .int MOle, .ref hMOn])), (hMOz, .inl (cI, 116, .inl r15.2)), (hMOo, .inl (cI, 150, .inl MOon)), (hMOw, .inl (cI, 150, .inl MOwy))] rfl (by decide) 0 6 rfl rfl rfl rfl rfl (Nat.le_of_ble_eq_true rfl) dX7_cross_90 rfl ?_
                  have h_36 := so_i h_35
                  subst h_36
                  exact j_ret cx (Or.inr (Or.inl ⟨_, _, rfl, rfl, dX7_cross_93, rfl, rfl⟩)) ⟨rfl, rfl⟩
                · have h_37 := it_f h_32 k_33
                  refine j_tab_out (tgt := 94) cx dX7_cross_11 (fun n n1 n2 => ?_) (by decide) ?_
                  · have n3 : n = 0 ∨ n = 1 ∨ n = 2 ∨ n = 3 ∨ n = 4 ∨ n = 5 ∨ n = 6 := by omega
                    rcases n3 with rfl | rfl | rfl | rfl | rfl | rfl | rfl
                    · exact k_3
                    · exact k_8
                    · exact k_13
                    · exact k_18
                    · exact k_23
                    · exact k_28
                    · exact k_33
                  · skip
                    refine j_bipush (pc' := 96) cx (-2) dX7_cross_94 kb_m2 rfl ?_
                    have h_38 := so_i h_37
                    subst h_38
                    exact j_ret cx (Or.inr (Or.inl ⟨_, _, rfl, rfl, dX7_cross_96, rfl, rfl⟩)) ⟨rfl, rfl⟩
  · have h_39 := it_t h_1 ch_1
    refine j_iconst (pc' := 9) cx (-1) dX7_cross_8 ki_m1 rfl ?_
    have h_40 := so_i h_39
    subst h_40
    exact j_ret cx (Or.inr (Or.inl ⟨_, _, rfl, rfl, dX7_cross_9, rfl, rfl⟩)) ⟨rfl, rfl⟩
set_option maxHeartbeats 4000000 in
set_option maxRecDepth 100000 in
theorem c_X7_allTouches (l : Launch) (D : va_G) (cI cZ cC cS : ClassId) (hMO hMOz hMOa hMOb hMOk hMOt hMOo hMOw hMOm hMOq hMOn : Nat) (MOst : Int32) (MOik : Int32) (MOln : Int32) (MOpl : Int32) (MOiw : Int32) (MOle : Int32) (MOza : Nat → Int32) (MOon : Nat → Int32) (MOwy : Nat → Int32) (p0 : Int32) (out : Int32) (hm : f_X7_allTouches MOza MOon MOwy p0 = some out) : Ct l yX7_allTouches cX7_allTouches 6 (some .int) ({ frames := 3, cells := 0, slots := 0, locals := 66 }) (D, TY cI cZ cC cS) [.ref hMO, .int p0] [(hMO, .inr (6, [.ref hMOz, .ref hMOa, .ref hMOb, .int MOst, .ref hMOk, .int MOik, .ref hMOt, .int MOln, .ref hMOo, .ref hMOw, .ref hMOm, .ref hMOq, .int MOpl, .int MOiw, .int MOle, .ref hMOn])), (hMOz, .inl (cI, 116, .inl MOza)), (hMOo, .inl (cI, 150, .inl MOon)), (hMOw, .inl (cI, 150, .inl MOwy))] (jw_P (some (.int out)) [(hMO, .inr (6, [.ref hMOz, .ref hMOa, .ref hMOb, .int MOst, .ref hMOk, .int MOik, .ref hMOt, .int MOln, .ref hMOo, .ref hMOw, .ref hMOm, .ref hMOq, .int MOpl, .int MOiw, .int MOle, .ref hMOn])), (hMOz, .inl (cI, 116, .inl MOza)), (hMOo, .inl (cI, 150, .inl MOon)), (hMOw, .inl (cI, 150, .inl MOwy))]) 0 0 := by
  refine ct_of RX7 (by decide +kernel) rfl (Nat.le_of_ble_eq_true rfl) (fun j cx => ?_)
  unfold f_X7_allTouches at hm
  show j 0 0 [(hMO, .inr (6, [.ref hMOz, .ref hMOa, .ref hMOb, .int MOst, .ref hMOk, .int MOik, .ref hMOt, .int MOln, .ref hMOo, .ref hMOw, .ref hMOm, .ref hMOq, .int MOpl, .int MOiw, .int MOle, .ref hMOn])), (hMOz, .inl (cI, 116, .inl MOza)), (hMOo, .inl (cI, 150, .inl MOon)), (hMOw, .inl (cI, 150, .inl MOwy))] [(0, .ref hMO), (1, .int p0)] 0 []
  refine j_iconst (pc' := 1) cx 0 dX7_allTouches_0 ki_0 rfl ?_
  refine j_istore_n (lv' := [(2, .int 0), (0, .ref hMO), (1, .int p0)]) (pc' := 2) cx dX7_allTouches_1 (by decide) rfl rfl ?_
  refine j_iconst (pc' := 3) cx 0 dX7_allTouches_2 ki_0 rfl ?_
  refine j_istore_n (lv' := [(3, .int 0), (2, .int 0), (0, .ref hMO), (1, .int p0)]) (pc' := 4) cx dX7_allTouches_3 (by decide) rfl rfl ?_
  obtain ⟨e2, h_1, h_2⟩ := bd_s hm
  have KXe2 : j 0 0 [(hMO, .inr (6, [.ref hMOz, .ref hMOa, .ref hMOb, .int MOst, .ref hMOk, .int MOik, .ref hMOt, .int MOln, .ref hMOo, .ref hMOw, .ref hMOm, .ref hMOq, .int MOpl, .int MOiw, .int MOle, .ref hMOn])), (hMOz, .inl (cI, 116, .inl MOza)), (hMOo, .inl (cI, 150, .inl MOon)), (hMOw, .inl (cI, 150, .inl MOwy))] [(2, .int e2.1)] 76 [] := by
    refine j_iload_n (pc' := 77) cx 0 dX7_allTouches_76 rfl rfl ?_
    have h_3 := so_i h_2
    subst h_3
    exact j_ret cx (Or.inr (Or.inl ⟨_, _, rfl, rfl, dX7_allTouches_77, rfl, rfl⟩)) ⟨rfl, rfl⟩
  have LPe2 : ∀ (n : Nat) (s1 : Int32 × Int32), lp (f_X7_allTouches_b2 MOza MOon MOwy p0) n s1 = some e2 → j 0 0 [(hMO, .inr (6, [.ref hMOz, .ref hMOa, .ref hMOb, .int MOst, .ref hMOk, .int MOik, .ref hMOt, .int MOln, .ref hMOo, .ref hMOw, .ref hMOm, .ref hMOq, .int MOpl, .int MOiw, .int MOle, .ref hMOn])), (hMOz, .inl (cI, 116, .inl MOza)), (hMOo, .inl (cI, 150, .inl MOon)), (hMOw, .inl (cI, 150, .inl MOwy))] [(0, .ref hMO), (1, .int p0), (2, .int s1.1), (3, .int s1.2)] 4 [] := by
    intro n
    induction n with
    | zero => intro s1 z; exact absurd z (by intro z; cases z)
    | succ n ihe2 =>
      intro s1 h_4
      obtain ⟨q_5, h_6, h_7⟩ := bd_s h_4
      unfold f_X7_allTouches_b2 at h_6
      refine j_iload_n (pc' := 5) cx 3 dX7_allTouches_4 rfl rfl ?_
      refine j_sipush (pc' := 8) cx 150 dX7_allTouches_5 ks_150 rfl ?_
      refine j_icmp_ge (tgt := 76) (pc' := 11) cx dX7_allTouches_8 (by decide) rfl (fun ch_6 => ?_) (fun ch_6 => ?_)
      · have h_8 := it_t h_6 ch_6
        have h_9 := so_i h_8
        subst h_9
        have h_10 := so_i (se_r h_7)
        subst h_10
        refine j_lv (lv' := [(2, .int s1.1)]) cx [2] rfl ?_
        exact KXe2
      · have h_11 := it_f h_6 ch_6
        refine j_iconst (pc' := 12) cx 1 dX7_allTouches_11 ki_1 rfl ?_
        refine j_istore (lv' := [(4, .int 1), (0, .ref hMO), (1, .int p0), (2, .int s1.1), (3, .int s1.2)]) (pc' := 14) cx dX7_allTouches_12 (by decide) rfl rfl ?_
        obtain ⟨e4, h_12, h_13⟩ := bd_s h_11
        have KXe4 : j 0 0 [(hMO, .inr (6, [.ref hMOz, .ref hMOa, .ref hMOb, .int MOst, .ref hMOk, .int MOik, .ref hMOt, .int MOln, .ref hMOo, .ref hMOw, .ref hMOm, .ref hMOq, .int MOpl, .int MOiw, .int MOle, .ref hMOn])), (hMOz, .inl (cI, 116, .inl MOza)), (hMOo, .inl (cI, 150, .inl MOon)), (hMOw, .inl (cI, 150, .inl MOwy))] [(0, .ref hMO), (1, .int p0), (2, .int e4.1), (3, .int s1.2)] 70 [] := by
          refine j_iinc (v := (s1.2 + 1)) (lv' := [(3, .int (s1.2 + 1)), (0, .ref hMO), (1, .int p0), (2, .int e4.1)]) (pc' := 73) cx 3 dX7_allTouches_70 rfl (kn_1 _) (by decide) rfl rfl ?_
          refine j_goto (pc' := 4) cx dX7_allTouches_73 (by decide) ?_
          have h_14 := so_i h_13
          subst h_14
          refine j_lv (lv' := [(0, .ref hMO), (1, .int p0), (2, .int e4.1), (3, .int (s1.2 + 1))]) cx [1, 2, 3, 0] rfl ?_
          exact ihe2 _ (se_l h_7)
        have LPe4 : ∀ (n : Nat) (s3 : Int32 × Int32), lp (f_X7_allTouches_b1 MOza MOon MOwy p0 s1) n s3 = some e4 → j 0 0 [(hMO, .inr (6, [.ref hMOz, .ref hMOa, .ref hMOb, .int MOst, .ref hMOk, .int MOik, .ref hMOt, .int MOln, .ref hMOo, .ref hMOw, .ref hMOm, .ref hMOq, .int MOpl, .int MOiw, .int MOle, .ref hMOn])), (hMOz, .inl (cI, 116, .inl MOza)), (hMOo, .inl (cI, 150, .inl MOon)), (hMOw, .inl (cI, 150, .inl MOwy))] [(0, .ref hMO), (1, .int p0), (2, .int s3.1), (3, .int s1.2), (4, .int s3.2)] 14 [] := by
          intro n
          induction n with
          | zero => intro s3 z; exact absurd z (by intro z; cases z)
          | succ n ihe4 =>
            intro s3 h_15
            obtain ⟨q_16, h_17, h_18⟩ := bd_s h_15
            unfold f_X7_allTouches_b1 at h_17
            refine j_iload (pc' := 16) cx 4 dX7_allTouches_14 rfl rfl ?_
            refine j_iconst (pc' := 17) cx 3 dX7_allTouches_16 ki_3 rfl ?_
            refine j_icmp_ge (tgt := 70) (pc' := 20) cx dX7_allTouches_17 (by decide) rfl (fun ch_17 => ?_) (fun ch_17 => ?_)
            · have h_19 := it_t h_17 ch_17
              have h_20 := so_i h_19
              subst h_20
              have h_21 := so_i (se_r h_18)
              subst h_21
              refine j_lv (lv' := [(0, .ref hMO), (1, .int p0), (2, .int s3.1), (3, .int s1.2)]) cx [0, 1, 2, 3] rfl ?_
              exact KXe4
            · have h_22 := it_f h_17 ch_17
              refine j_iload_n (pc' := 21) cx 3 dX7_allTouches_20 rfl rfl ?_
              refine j_iload (pc' := 23) cx 4 dX7_allTouches_21 rfl rfl ?_
              obtain ⟨r5, c6, h_23⟩ := bd_s h_22
              refine j_cS (pc' := 26) cx (c_X7_beside l D cI cZ cC cS s1.2 s3.2 r5 c6) 2 yk_X7_beside wM_X7_61 ⟨wT_X7_beside, wI_X7, wC_X7_beside⟩ ⟨rfl, rfl, Nat.le_of_ble_eq_true rfl, Nat.le_of_ble_eq_true rfl, Nat.le_of_ble_eq_true rfl, Nat.le_of_ble_eq_true rfl⟩ [] [0, 1, 2, 3] [0, 1, 2, 3] rfl [(hMO, .inr (6, [.ref hMOz, .ref hMOa, .ref hMOb, .int MOst, .ref hMOk, .int MOik, .ref hMOt, .int MOln, .ref hMOo, .ref hMOw, .ref hMOm, .ref hMOq, .int MOpl, .int MOiw, .int MOle, .ref hMOn])), (hMOz, .inl (cI, 116, .inl MOza)), (hMOo, .inl (cI, 150, .inl MOon)), (hMOw, .inl (cI, 150, .inl MOwy))] rfl (by decide) [(hMO, .inr (6, [.ref hMOz, .ref hMOa, .ref hMOb, .int MOst, .ref hMOk, .int MOik, .ref hMOt, .int MOln, .ref hMOo, .ref hMOw, .ref hMOm, .ref hMOq, .int MOpl, .int MOiw, .int MOle, .ref hMOn])), (hMOz, .inl (cI, 116, .inl MOza)), (hMOo, .inl (cI, 150, .inl MOon)), (hMOw, .inl (cI, 150, .inl MOwy))] rfl (by decide) rfl rfl (Nat.le_of_ble_eq_true rfl) dX7_allTouches_23 rfl ?_
              refine j_istore (lv' := [(5, .int r5), (0, .ref hMO), (1, .int p0), (2, .int s3.1), (3, .int s1.2), (4, .int s3.2)]) (pc' := 28) cx dX7_allTouches_26 (by decide) rfl rfl ?_
              refine j_iload_n (pc' := 29) cx 3 dX7_allTouches_28 rfl rfl ?_
              refine j_aload_n (pc' := 30) cx 1 dX7_allTouches_29 rfl rfl ?_
              refine j_iload_n (pc' := 31) cx 4 dX7_allTouches_30 rfl rfl ?_
              refine j_iload (pc' := 33) cx 0 dX7_allTouches_31 rfl rfl ?_
              obtain ⟨r7, c8, h_24⟩ := bd_s h_23
              refine j_cV (pc' := 36) cx (c_X7_touch l D cI cZ cC cS hMO hMOz hMOa hMOb hMOk hMOt hMOo hMOw hMOm hMOq hMOn MOst MOik MOln MOpl MOiw MOle MOon MOwy s1.2 r5 r7 c8) 2 yk_X7_touch wM_X7_72 ⟨wN_X7_touch, wS_X7_touch, wI_X7, wC_X7_touch⟩ ⟨rfl, rfl, Nat.le_of_ble_eq_true rfl, Nat.le_of_ble_eq_true rfl, Nat.le_of_ble_eq_true rfl, Nat.le_of_ble_eq_true rfl⟩ [0, 2, 3] [1] [1, 0, 2, 3] rfl [(hMOz, .inl (cI, 116, .inl MOza))] rfl (by decide) [(hMO, .inr (6, [.ref hMOz, .ref hMOa, .ref hMOb, .int MOst, .ref hMOk, .int MOik, .ref hMOt, .int MOln, .ref hMOo, .ref hMOw, .ref hMOm, .ref hMOq, .int MOpl, .int MOiw, .int MOle, .ref hMOn])), (hMOz, .inl (cI, 116, .inl MOza)), (hMOo, .inl (cI, 150, .inl MOon)), (hMOw, .inl (cI, 150, .inl MOwy))] rfl (by decide) 0 6 rfl rfl rfl rfl rfl (Nat.le_of_ble_eq_true rfl) dX7_allTouches_33 rfl ?_
              obtain ⟨t13, h_26, h_25⟩ := bd_s h_24
              have Kt13 : j 0 0 [(hMO, .inr (6, [.ref hMOz, .ref hMOa, .ref hMOb, .int MOst, .ref hMOk, .int MOik, .ref hMOt, .int MOln, .ref hMOo, .ref hMOw, .ref hMOm, .ref hMOq, .int MOpl, .int MOiw, .int MOle, .ref hMOn])), (hMOz, .inl (cI, 116, .inl MOza)), (hMOo, .inl (cI, 150, .inl MOon)), (hMOw, .inl (cI, 150, .inl MOwy))] [(0, .ref hMO), (1, .int p0), (3, .int s1.2), (4, .int s3.2)] 62 [.int t13, .int s3.1] := by
                refine j_iadd (pc' := 63) cx dX7_allTouches_62 rfl ?_
                refine j_istore_n (lv' := [(2, .int (s3.1 + t13)), (0, .ref hMO), (1, .int p0), (3, .int s1.2), (4, .int s3.2)]) (pc' := 64) cx dX7_allTouches_63 (by decide) rfl rfl ?_
                refine j_iinc (v := (s3.2 + 1)) (lv' := [(4, .int (s3.2 + 1)), (2, .int (s3.1 + t13)), (0, .ref hMO), (1, .int p0), (3, .int s1.2)]) (pc' := 67) cx 4 dX7_allTouches_64 rfl (kn_1 _) (by decide) rfl rfl ?_
                refine j_goto (pc' := 14) cx dX7_allTouches_67 (by decide) ?_
                have h_27 := so_i h_25
                subst h_27
                refine j_lv (lv' := [(0, .ref hMO), (1, .int p0), (2, .int (s3.1 + t13)), (3, .int s1.2), (4, .int (s3.2 + 1))]) cx [2, 3, 1, 4, 0] rfl ?_
                exact ihe4 _ (se_l h_18)
              refine j_if_eq (tgt := 61) (pc' := 39) cx dX7_allTouches_36 (by decide) rfl (fun ch_26 => ?_) (fun ch_26 => ?_)
              · have h_28 := it_t h_26 ch_26
                refine j_iconst (pc' := 62) cx 0 dX7_allTouches_61 ki_0 rfl ?_
                have h_29 := so_i h_28
                subst h_29
                refine j_lv (lv' := [(0, .ref hMO), (1, .int p0), (3, .int s1.2), (4, .int s3.2)]) cx [1, 2, 4, 5] rfl ?_
                exact Kt13
              · have h_30 := it_f h_26 ch_26
                refine j_iload_n (pc' := 40) cx 2 dX7_allTouches_39 rfl rfl ?_
                refine j_if_eq (tgt := 57) (pc' := 43) cx dX7_allTouches_40 (by decide) rfl (fun ch_30 => ?_) (fun ch_30 => ?_)
                · have h_31 := it_t h_30 ch_30
                  refine j_iconst (pc' := 58) cx 1 dX7_allTouches_57 ki_1 rfl ?_
                  refine j_goto (pc' := 62) cx dX7_allTouches_58 (by decide) ?_
                  have h_32 := so_i h_31
                  subst h_32
                  refine j_lv (lv' := [(0, .ref hMO), (1, .int p0), (3, .int s1.2), (4, .int s3.2)]) cx [1, 2, 4, 5] rfl ?_
                  exact Kt13
                · have h_33 := it_f h_30 ch_30
                  refine j_aload_n (pc' := 44) cx 1 dX7_allTouches_43 rfl rfl ?_
                  refine j_iload_n (pc' := 45) cx 4 dX7_allTouches_44 rfl rfl ?_
                  obtain ⟨r9, c10, h_34⟩ := bd_s h_33
                  refine j_cV (pc' := 48) cx (c_X7_armColour l D cI cZ cC cS hMO hMOz hMOa hMOb hMOk hMOt hMOo hMOw hMOm hMOq hMOn MOst MOik MOln MOpl MOiw MOle MOza MOon MOwy s1.2 r9 c10) 1 yk_X7_armColour wM_X7_76 ⟨wN_X7_armColour, wS_X7_armColour, wI_X7, wC_X7_armColour⟩ ⟨rfl, rfl, Nat.le_of_ble_eq_true rfl, Nat.le_of_ble_eq_true rfl, Nat.le_of_ble_eq_true rfl, Nat.le_of_ble_eq_true rfl⟩ [0, 1, 2, 3] [] [0, 1, 2, 3] rfl [] rfl (by decide) [(hMO, .inr (6, [.ref hMOz, .ref hMOa, .ref hMOb, .int MOst, .ref hMOk, .int MOik, .ref hMOt, .int MOln, .ref hMOo, .ref hMOw, .ref hMOm, .ref hMOq, .int MOpl, .int MOiw, .int MOle, .ref hMOn])), (hMOz, .inl (cI, 116, .inl MOza)), (hMOo, .inl (cI, 150, .inl MOon)), (hMOw, .inl (cI, 150, .inl MOwy))] rfl (by decide) 0 6 rfl rfl rfl rfl rfl (Nat.le_of_ble_eq_true rfl) dX7_allTouches_45 rfl ?_
                  refine j_aload_n (pc' := 49) cx 1 dX7_allTouches_48 rfl rfl ?_
                  refine j_iload (pc' := 51) cx 0 dX7_allTouches_49 rfl rfl ?_
                  obtain ⟨r11, c12, h_35⟩ := bd_s h_34
                  refine j_cV (pc' := 54) cx (c_X7_armColour l D cI cZ cC cS hMO hMOz hMOa hMOb hMOk hMOt hMOo hMOw hMOm hMOq hMOn MOst MOik MOln MOpl MOiw MOle MOza MOon MOwy r5 r11 c12) 1 yk_X7_armColour wM_X7_76 ⟨wN_X7_armColour, wS_X7_armColour, wI_X7, wC_X7_armColour⟩ ⟨rfl, rfl, Nat.le_of_ble_eq_true rfl, Nat.le_of_ble_eq_true rfl, Nat.le_of_ble_eq_true rfl, Nat.le_of_ble_eq_true rfl⟩ [0, 1, 2, 3] [] [0, 1, 2, 3] rfl [] rfl (by decide) [(hMO, .inr (6, [.ref hMOz, .ref hMOa, .ref hMOb, .int MOst, .ref hMOk, .int MOik, .ref hMOt, .int MOln, .ref hMOo, .ref hMOw, .ref hMOm, .ref hMOq, .int MOpl, .int MOiw, .int MOle, .ref hMOn])), (hMOz, .inl (cI, 116, .inl MOza)), (hMOo, .inl (cI, 150, .inl MOon)), (hMOw, .inl (cI, 150, .inl MOwy))] rfl (by decide) 0 6 rfl rfl rfl rfl rfl (Nat.le_of_ble_eq_true rfl) dX7_allTouches_51 rfl ?_
                  refine j_icmp_ne (tgt := 61) (pc' := 57) cx dX7_allTouches_54 (by decide) rfl (fun ch_35 => ?_) (fun ch_35 => ?_)
                  · have h_36 := it_f h_35 ch_35
                    refine j_iconst (pc' := 62) cx 0 dX7_allTouches_61 ki_0 rfl ?_
                    have h_37 := so_i h_36
                    subst h_37
                    refine j_lv (lv' := [(0, .ref hMO), (1, .int p0), (3, .int s1.2), (4, .int s3.2)]) cx [1, 2, 4, 5] rfl ?_
                    exact Kt13
                  · have h_38 := it_t h_35 ch_35
                    refine j_iconst (pc' := 58) cx 1 dX7_allTouches_57 ki_1 rfl ?_
                    refine j_goto (pc' := 62) cx dX7_allTouches_58 (by decide) ?_
                    have h_39 := so_i h_38
                    subst h_39
                    refine j_lv (lv' := [(0, .ref hMO), (1, .int p0), (3, .int s1.2), (4, .int s3.2)]) cx [1, 2, 4, 5] rfl ?_
                    exact Kt13
        refine j_lv (lv' := [(0, .ref hMO), (1, .int p0), (2, .int s1.1), (3, .int s1.2), (4, .int 1)]) cx [1, 2, 3, 4, 0] rfl ?_
        exact LPe4 _ _ h_12
  refine j_lv (lv' := [(0, .ref hMO), (1, .int p0), (2, .int 0), (3, .int 0)]) cx [2, 3, 1, 0] rfl ?_
  exact LPe2 _ _ h_1
set_option maxHeartbeats 4000000 in
set_option maxRecDepth 100000 in
theorem c_X7_markRegion (l : Launch) (D : va_G) (cI cZ cC cS : ClassId) (hMO hMOz hMOa hMOb hMOk hMOt hMOo hMOw hMOm hMOq hMOn : Nat) (MOst : Int32) (MOik : Int32) (MOln : Int32) (MOpl : Int32) (MOiw : Int32) (MOle : Int32) (MOon : Nat → Int32) (MOmk : Nat → Int32) (MOqu : Nat → Int32) (p0 : Int32) (out : Int32 × (Nat → Int32) × (Nat → Int32)) (hm : f_X7_markRegion MOon MOmk MOqu p0 = some out) : Ct l yX7_markRegion cX7_markRegion 6 (some .int) ({ frames := 1, cells := 0, slots := 0, locals := 23 }) (D, TY cI cZ cC cS) [.ref hMO, .int p0] [(hMO, .inr (6, [.ref hMOz, .ref hMOa, .ref hMOb, .int MOst, .ref hMOk, .int MOik, .ref hMOt, .int MOln, .ref hMOo, .ref hMOw, .ref hMOm, .ref hMOq, .int MOpl, .int MOiw, .int MOle, .ref hMOn])), (hMOo, .inl (cI, 150, .inl MOon)), (hMOm, .inl (cI, 150, .inl MOmk)), (hMOq, .inl (cI, 150, .inl MOqu))] (jw_P (some (.int out.1)) [(hMO, .inr (6, [.ref hMOz, .ref hMOa, .ref hMOb, .int MOst, .ref hMOk, .int MOik, .ref hMOt, .int MOln, .ref hMOo, .ref hMOw, .ref hMOm, .ref hMOq, .int MOpl, .int MOiw, .int MOle, .ref hMOn])), (hMOo, .inl (cI, 150, .inl MOon)), (hMOm, .inl (cI, 150, .inl out.2.1)), (hMOq, .inl (cI, 150, .inl out.2.2))]) 0 0 := by
  refine ct_of RX7 (by decide +kernel) rfl (Nat.le_of_ble_eq_true rfl) (fun j cx => ?_)
  unfold f_X7_markRegion at hm
  show j 0 0 [(hMO, .inr (6, [.ref hMOz, .ref hMOa, .ref hMOb, .int MOst, .ref hMOk, .int MOik, .ref hMOt, .int MOln, .ref hMOo, .ref hMOw, .ref hMOm, .ref hMOq, .int MOpl, .int MOiw, .int MOle, .ref hMOn])), (hMOo, .inl (cI, 150, .inl MOon)), (hMOm, .inl (cI, 150, .inl MOmk)), (hMOq, .inl (cI, 150, .inl MOqu))] [(0, .ref hMO), (1, .int p0)] 0 []
  refine j_iconst (pc' := 1) cx 0 dX7_markRegion_0 ki_0 rfl ?_
  refine j_istore_n (lv' := [(2, .int 0), (0, .ref hMO), (1, .int p0)]) (pc' := 2) cx dX7_markRegion_1 (by decide) rfl rfl ?_
  refine j_iconst (pc' := 3) cx 1 dX7_markRegion_2 ki_1 rfl ?_
  refine j_istore_n (lv' := [(3, .int 1), (2, .int 0), (0, .ref hMO), (1, .int p0)]) (pc' := 4) cx dX7_markRegion_3 (by decide) rfl rfl ?_
  refine j_aload_n (pc' := 5) cx 2 dX7_markRegion_4 rfl rfl ?_
  refine j_get (C := RX7) (T := TX7) (N := 16) (pc' := 8) cx uB_X7 0 rfl rfl 11 (by decide) wF_X7_34 (.ref hMOq) rfl dX7_markRegion_5 rfl ?_
  refine j_iconst (pc' := 9) cx 0 dX7_markRegion_8 ki_0 rfl ?_
  refine j_iload_n (pc' := 10) cx 3 dX7_markRegion_9 rfl rfl ?_
  obtain ⟨i1, h_1⟩ := ck_s hm
  refine j_iast (ws' := [(hMO, .inr (6, [.ref hMOz, .ref hMOa, .ref hMOb, .int MOst, .ref hMOk, .int MOik, .ref hMOt, .int MOln, .ref hMOo, .ref hMOw, .ref hMOm, .ref hMOq, .int MOpl, .int MOiw, .int MOle, .ref hMOn])), (hMOo, .inl (cI, 150, .inl MOon)), (hMOm, .inl (cI, 150, .inl MOmk)), (hMOq, .inl (cI, 150, .inl (upd MOqu (0 : Int32).toNatClampNeg p0)))]) (pc' := 11) cx 3 0 rfl rfl i1 rfl dX7_markRegion_10 rfl ?_
  refine j_aload_n (pc' := 12) cx 2 dX7_markRegion_11 rfl rfl ?_
  refine j_get (C := RX7) (T := TX7) (N := 16) (pc' := 15) cx uB_X7 0 rfl rfl 10 (by decide) wF_X7_31 (.ref hMOm) rfl dX7_markRegion_12 rfl ?_
  refine j_iload_n (pc' := 16) cx 3 dX7_markRegion_15 rfl rfl ?_
  refine j_iconst (pc' := 17) cx 1 dX7_markRegion_16 ki_1 rfl ?_
  obtain ⟨i2, h_2⟩ := ck_s h_1
  refine j_iast (ws' := [(hMO, .inr (6, [.ref hMOz, .ref hMOa, .ref hMOb, .int MOst, .ref hMOk, .int MOik, .ref hMOt, .int MOln, .ref hMOo, .ref hMOw, .ref hMOm, .ref hMOq, .int MOpl, .int MOiw, .int MOle, .ref hMOn])), (hMOo, .inl (cI, 150, .inl MOon)), (hMOm, .inl (cI, 150, .inl (upd MOmk p0.toNatClampNeg 1))), (hMOq, .inl (cI, 150, .inl (upd MOqu (0 : Int32).toNatClampNeg p0)))]) (pc' := 18) cx 2 0 rfl rfl i2 rfl dX7_markRegion_17 rfl ?_
  obtain ⟨e4, h_3, h_4⟩ := bd_s h_2
  have KXe4 : j 0 0 [(hMO, .inr (6, [.ref hMOz, .ref hMOa, .ref hMOb, .int MOst, .ref hMOk, .int MOik, .ref hMOt, .int MOln, .ref hMOo, .ref hMOw, .ref hMOm, .ref hMOq, .int MOpl, .int MOiw, .int MOle, .ref hMOn])), (hMOo, .inl (cI, 150, .inl MOon)), (hMOm, .inl (cI, 150, .inl e4.2.2.1)), (hMOq, .inl (cI, 150, .inl e4.2.2.2))] [(3, .int e4.2.1)] 96 [] := by
    refine j_iload_n (pc' := 97) cx 0 dX7_markRegion_96 rfl rfl ?_
    have h_5 := so_i h_4
    subst h_5
    exact j_ret cx (Or.inr (Or.inl ⟨_, _, rfl, rfl, dX7_markRegion_97, rfl, rfl⟩)) ⟨rfl, rfl⟩
  have LPe4 : ∀ (n : Nat) (s3 : Int32 × Int32 × (Nat → Int32) × (Nat → Int32)), lp (f_X7_markRegion_b2 MOon) n s3 = some e4 → j 0 0 [(hMO, .inr (6, [.ref hMOz, .ref hMOa, .ref hMOb, .int MOst, .ref hMOk, .int MOik, .ref hMOt, .int MOln, .ref hMOo, .ref hMOw, .ref hMOm, .ref hMOq, .int MOpl, .int MOiw, .int MOle, .ref hMOn])), (hMOo, .inl (cI, 150, .inl MOon)), (hMOm, .inl (cI, 150, .inl s3.2.2.1)), (hMOq, .inl (cI, 150, .inl s3.2.2.2))] [(0, .ref hMO), (2, .int s3.1), (3, .int s3.2.1)] 18 [] := by
    intro n
    induction n with
    | zero => intro s3 z; exact absurd z (by intro z; cases z)
    | succ n ihe4 =>
      intro s3 h_6
      obtain ⟨q_7, h_8, h_9⟩ := bd_s h_6
      unfold f_X7_markRegion_b2 at h_8
      refine j_iload_n (pc' := 19) cx 1 dX7_markRegion_18 rfl rfl ?_
      refine j_iload_n (pc' := 20) cx 2 dX7_markRegion_19 rfl rfl ?_
      refine j_icmp_ge (tgt := 96) (pc' := 23) cx dX7_markRegion_20 (by decide) rfl (fun ch_8 => ?_) (fun ch_8 => ?_)
      · have h_10 := it_t h_8 ch_8
        have h_11 := so_i h_10
        subst h_11
        have h_12 := so_i (se_r h_9)
        subst h_12
        refine j_lv (lv' := [(3, .int s3.2.1)]) cx [2] rfl ?_
        exact KXe4
      · have h_13 := it_f h_8 ch_8
        refine j_iconst (pc' := 24) cx 0 dX7_markRegion_23 ki_0 rfl ?_
        refine j_istore (lv' := [(4, .int 0), (0, .ref hMO), (2, .int s3.1), (3, .int s3.2.1)]) (pc' := 26) cx dX7_markRegion_24 (by decide) rfl rfl ?_
        obtain ⟨e6, h_14, h_15⟩ := bd_s h_13
        have KXe6 : j 0 0 [(hMO, .inr (6, [.ref hMOz, .ref hMOa, .ref hMOb, .int MOst, .ref hMOk, .int MOik, .ref hMOt, .int MOln, .ref hMOo, .ref hMOw, .ref hMOm, .ref hMOq, .int MOpl, .int MOiw, .int MOle, .ref hMOn])), (hMOo, .inl (cI, 150, .inl MOon)), (hMOm, .inl (cI, 150, .inl e6.2.2.1)), (hMOq, .inl (cI, 150, .inl e6.2.2.2))] [(0, .ref hMO), (2, .int s3.1), (3, .int e6.1)] 90 [] := by
          refine j_iinc (v := (s3.1 + 1)) (lv' := [(2, .int (s3.1 + 1)), (0, .ref hMO), (3, .int e6.1)]) (pc' := 93) cx 1 dX7_markRegion_90 rfl (kn_1 _) (by decide) rfl rfl ?_
          refine j_goto (pc' := 18) cx dX7_markRegion_93 (by decide) ?_
          have h_16 := so_i h_15
          subst h_16
          refine j_lv (lv' := [(0, .ref hMO), (2, .int (s3.1 + 1)), (3, .int e6.1)]) cx [1, 0, 2] rfl ?_
          exact ihe4 _ (se_l h_9)
        have LPe6 : ∀ (n : Nat) (s5 : Int32 × Int32 × (Nat → Int32) × (Nat → Int32)), lp (f_X7_markRegion_b1 MOon s3) n s5 = some e6 → j 0 0 [(hMO, .inr (6, [.ref hMOz, .ref hMOa, .ref hMOb, .int MOst, .ref hMOk, .int MOik, .ref hMOt, .int MOln, .ref hMOo, .ref hMOw, .ref hMOm, .ref hMOq, .int MOpl, .int MOiw, .int MOle, .ref hMOn])), (hMOo, .inl (cI, 150, .inl MOon)), (hMOm, .inl (cI, 150, .inl s5.2.2.1)), (hMOq, .inl (cI, 150, .inl s5.2.2.2))] [(0, .ref hMO), (2, .int s3.1), (3, .int s5.1), (4, .int s5.2.1)] 26 [] := by
          intro n
          induction n with
          | zero => intro s5 z; exact absurd z (by intro z; cases z)
          | succ n ihe6 =>
            intro s5 h_17
            obtain ⟨q_18, h_19, h_20⟩ := bd_s h_17
            unfold f_X7_markRegion_b1 at h_19
            refine j_iload (pc' := 28) cx 3 dX7_markRegion_26 rfl rfl ?_
            refine j_iconst (pc' := 29) cx 4 dX7_markRegion_28 ki_4 rfl ?_
            refine j_icmp_ge (tgt := 90) (pc' := 32) cx dX7_markRegion_29 (by decide) rfl (fun ch_19 => ?_) (fun ch_19 => ?_)
            · have h_21 := it_t h_19 ch_19
              have h_22 := so_i h_21
              subst h_22
              have h_23 := so_i (se_r h_20)
              subst h_23
              refine j_lv (lv' := [(0, .ref hMO), (2, .int s3.1), (3, .int s5.1)]) cx [0, 1, 2] rfl ?_
              exact KXe6
            · have h_24 := it_f h_19 ch_19
              refine j_aload_n (pc' := 33) cx 0 dX7_markRegion_32 rfl rfl ?_
              refine j_get (C := RX7) (T := TX7) (N := 16) (pc' := 36) cx uB_X7 0 rfl rfl 11 (by decide) wF_X7_34 (.ref hMOq) rfl dX7_markRegion_33 rfl ?_
              refine j_iload_n (pc' := 37) cx 1 dX7_markRegion_36 rfl rfl ?_
              obtain ⟨i7, h_25⟩ := ck_s h_24
              refine j_iald (pc' := 38) cx 3 0 rfl rfl i7 dX7_markRegion_37 rfl ?_
              refine j_iload (pc' := 40) cx 3 dX7_markRegion_38 rfl rfl ?_
              obtain ⟨r8, c9, h_26⟩ := bd_s h_25
              refine j_cS (pc' := 43) cx (c_X7_beside l D cI cZ cC cS (s5.2.2.2 s3.1.toNatClampNeg) s5.2.1 r8 c9) 2 yk_X7_beside wM_X7_61 ⟨wT_X7_beside, wI_X7, wC_X7_beside⟩ ⟨rfl, rfl, Nat.le_of_ble_eq_true rfl, Nat.le_of_ble_eq_true rfl, Nat.le_of_ble_eq_true rfl, Nat.le_of_ble_eq_true rfl⟩ [] [0, 1, 2, 3] [0, 1, 2, 3] rfl [(hMO, .inr (6, [.ref hMOz, .ref hMOa, .ref hMOb, .int MOst, .ref hMOk, .int MOik, .ref hMOt, .int MOln, .ref hMOo, .ref hMOw, .ref hMOm, .ref hMOq, .int MOpl, .int MOiw, .int MOle, .ref hMOn])), (hMOo, .inl (cI, 150, .inl MOon)), (hMOm, .inl (cI, 150, .inl s5.2.2.1)), (hMOq, .inl (cI, 150, .inl s5.2.2.2))] rfl (by decide) [(hMO, .inr (6, [.ref hMOz, .ref hMOa, .ref hMOb, .int MOst, .ref hMOk, .int MOik, .ref hMOt, .int MOln, .ref hMOo, .ref hMOw, .ref hMOm, .ref hMOq, .int MOpl, .int MOiw, .int MOle, .ref hMOn])), (hMOo, .inl (cI, 150, .inl MOon)), (hMOm, .inl (cI, 150, .inl s5.2.2.1)), (hMOq, .inl (cI, 150, .inl s5.2.2.2))] rfl (by decide) rfl rfl (Nat.le_of_ble_eq_true rfl) dX7_markRegion_40 rfl ?_
              refine j_istore (lv' := [(5, .int r8), (0, .ref hMO), (2, .int s3.1), (3, .int s5.1), (4, .int s5.2.1)]) (pc' := 45) cx dX7_markRegion_43 (by decide) rfl rfl ?_
              refine j_aload_n (pc' := 46) cx 1 dX7_markRegion_45 rfl rfl ?_
              refine j_get (C := RX7) (T := TX7) (N := 16) (pc' := 49) cx uB_X7 0 rfl rfl 8 (by decide) wF_X7_25 (.ref hMOo) rfl dX7_markRegion_46 rfl ?_
              refine j_iload (pc' := 51) cx 0 dX7_markRegion_49 rfl rfl ?_
              obtain ⟨i10, h_27⟩ := ck_s h_26
              refine j_iald (pc' := 52) cx 1 0 rfl rfl i10 dX7_markRegion_51 rfl ?_
              obtain ⟨t14, h_29, h_28⟩ := bd_s h_27
              have Kt14 : j 0 0 [(hMO, .inr (6, [.ref hMOz, .ref hMOa, .ref hMOb, .int MOst, .ref hMOk, .int MOik, .ref hMOt, .int MOln, .ref hMOo, .ref hMOw, .ref hMOm, .ref hMOq, .int MOpl, .int MOiw, .int MOle, .ref hMOn])), (hMOo, .inl (cI, 150, .inl MOon)), (hMOm, .inl (cI, 150, .inl t14.2.1)), (hMOq, .inl (cI, 150, .inl t14.2.2))] [(0, .ref hMO), (2, .int s3.1), (3, .int t14.1), (4, .int s5.2.1)] 84 [] := by
                refine j_iinc (v := (s5.2.1 + 1)) (lv' := [(4, .int (s5.2.1 + 1)), (0, .ref hMO), (2, .int s3.1), (3, .int t14.1)]) (pc' := 87) cx 3 dX7_markRegion_84 rfl (kn_1 _) (by decide) rfl rfl ?_
                refine j_goto (pc' := 26) cx dX7_markRegion_87 (by decide) ?_
                have h_30 := so_i h_28
                subst h_30
                refine j_lv (lv' := [(0, .ref hMO), (2, .int s3.1), (3, .int t14.1), (4, .int (s5.2.1 + 1))]) cx [1, 2, 3, 0] rfl ?_
                exact ihe6 _ (se_l h_20)
              refine j_if_ge (tgt := 84) (pc' := 55) cx dX7_markRegion_52 (by decide) rfl (fun ch_29 => ?_) (fun ch_29 => ?_)
              · have h_31 := it_t h_29 ch_29
                have h_32 := so_i h_31
                subst h_32
                refine j_lv (lv' := [(0, .ref hMO), (2, .int s3.1), (3, .int s5.1), (4, .int s5.2.1)]) cx [1, 2, 3, 4] rfl ?_
                exact Kt14
              · have h_33 := it_f h_29 ch_29
                refine j_aload_n (pc' := 56) cx 1 dX7_markRegion_55 rfl rfl ?_
                refine j_get (C := RX7) (T := TX7) (N := 16) (pc' := 59) cx uB_X7 0 rfl rfl 10 (by decide) wF_X7_31 (.ref hMOm) rfl dX7_markRegion_56 rfl ?_
                refine j_iload (pc' := 61) cx 0 dX7_markRegion_59 rfl rfl ?_
                obtain ⟨i11, h_34⟩ := ck_s h_33
                refine j_iald (pc' := 62) cx 2 0 rfl rfl i11 dX7_markRegion_61 rfl ?_
                refine j_if_ne (tgt := 84) (pc' := 65) cx dX7_markRegion_62 (by decide) rfl (fun ch_34 => ?_) (fun ch_34 => ?_)
                · have h_35 := it_f h_34 ch_34
                  have h_36 := so_i h_35
                  subst h_36
                  refine j_lv (lv' := [(0, .ref hMO), (2, .int s3.1), (3, .int s5.1), (4, .int s5.2.1)]) cx [1, 2, 3, 4] rfl ?_
                  exact Kt14
                · have h_37 := it_t h_34 ch_34
                  refine j_aload_n (pc' := 66) cx 1 dX7_markRegion_65 rfl rfl ?_
                  refine j_get (C := RX7) (T := TX7) (N := 16) (pc' := 69) cx uB_X7 0 rfl rfl 10 (by decide) wF_X7_31 (.ref hMOm) rfl dX7_markRegion_66 rfl ?_
                  refine j_iload (pc' := 71) cx 0 dX7_markRegion_69 rfl rfl ?_
                  refine j_iconst (pc' := 72) cx 1 dX7_markRegion_71 ki_1 rfl ?_
                  obtain ⟨i12, h_38⟩ := ck_s h_37
                  refine j_iast (ws' := [(hMO, .inr (6, [.ref hMOz, .ref hMOa, .ref hMOb, .int MOst, .ref hMOk, .int MOik, .ref hMOt, .int MOln, .ref hMOo, .ref hMOw, .ref hMOm, .ref hMOq, .int MOpl, .int MOiw, .int MOle, .ref hMOn])), (hMOo, .inl (cI, 150, .inl MOon)), (hMOm, .inl (cI, 150, .inl (upd s5.2.2.1 r8.toNatClampNeg 1))), (hMOq, .inl (cI, 150, .inl s5.2.2.2))]) (pc' := 73) cx 2 0 rfl rfl i12 rfl dX7_markRegion_72 rfl ?_
                  refine j_aload_n (pc' := 74) cx 1 dX7_markRegion_73 rfl rfl ?_
                  refine j_get (C := RX7) (T := TX7) (N := 16) (pc' := 77) cx uB_X7 0 rfl rfl 11 (by decide) wF_X7_34 (.ref hMOq) rfl dX7_markRegion_74 rfl ?_
                  refine j_iload_n (pc' := 78) cx 3 dX7_markRegion_77 rfl rfl ?_
                  refine j_iload (pc' := 80) cx 0 dX7_markRegion_78 rfl rfl ?_
                  obtain ⟨i13, h_39⟩ := ck_s h_38
                  refine j_iast (ws' := [(hMO, .inr (6, [.ref hMOz, .ref hMOa, .ref hMOb, .int MOst, .ref hMOk, .int MOik, .ref hMOt, .int MOln, .ref hMOo, .ref hMOw, .ref hMOm, .ref hMOq, .int MOpl, .int MOiw, .int MOle, .ref hMOn])), (hMOo, .inl (cI, 150, .inl MOon)), (hMOm, .inl (cI, 150, .inl (upd s5.2.2.1 r8.toNatClampNeg 1))), (hMOq, .inl (cI, 150, .inl (upd s5.2.2.2 s5.1.toNatClampNeg r8)))]) (pc' := 81) cx 3 0 rfl rfl i13 rfl dX7_markRegion_80 rfl ?_
                  refine j_iinc (v := (s5.1 + 1)) (lv' := [(3, .int (s5.1 + 1)), (5, .int r8), (0, .ref hMO), (2, .int s3.1), (4, .int s5.2.1)]) (pc' := 84) cx 3 dX7_markRegion_81 rfl (kn_1 _) (by decide) rfl rfl ?_
                  have h_40 := so_i h_39
                  subst h_40
                  refine j_lv (lv' := [(0, .ref hMO), (2, .int s3.1), (3, .int (s5.1 + 1)), (4, .int s5.2.1)]) cx [2, 3, 0, 4] rfl ?_
                  exact Kt14
        refine j_lv (lv' := [(0, .ref hMO), (2, .int s3.1), (3, .int s3.2.1), (4, .int 0)]) cx [1, 2, 3, 0] rfl ?_
        exact LPe6 _ _ h_14
  refine j_lv (lv' := [(0, .ref hMO), (2, .int 0), (3, .int 1)]) cx [2, 1, 0] rfl ?_
  exact LPe4 _ _ h_3
set_option maxHeartbeats 4000000 in
set_option maxRecDepth 100000 in
theorem c_X7_regions (l : Launch) (D : va_G) (cI cZ cC cS : ClassId) (hMO hMOz hMOa hMOb hMOk hMOt hMOo hMOw hMOm hMOq hMOn : Nat) (MOst : Int32) (MOik : Int32) (MOln : Int32) (MOpl : Int32) (MOiw : Int32) (MOle : Int32) (MOon : Nat → Int32) (MOmk : Nat → Int32) (MOqu : Nat → Int32) (p0 : Int32) (out : Int32 × (Nat → Int32) × (Nat → Int32)) (hm : f_X7_regions MOon MOmk MOqu p0 = some out) : Ct l yX7_regions cX7_regions 6 (some .int) ({ frames := 2, cells := 0, slots := 0, locals := 48 }) (D, TY cI cZ cC cS) [.ref hMO, .int p0] [(hMO, .inr (6, [.ref hMOz, .ref hMOa, .ref hMOb, .int MOst, .ref hMOk, .int MOik, .ref hMOt, .int MOln, .ref hMOo, .ref hMOw, .ref hMOm, .ref hMOq, .int MOpl, .int MOiw, .int MOle, .ref hMOn])), (hMOo, .inl (cI, 150, .inl MOon)), (hMOm, .inl (cI, 150, .inl MOmk)), (hMOq, .inl (cI, 150, .inl MOqu))] (jw_P (some (.int out.1)) [(hMO, .inr (6, [.ref hMOz, .ref hMOa, .ref hMOb, .int MOst, .ref hMOk, .int MOik, .ref hMOt, .int MOln, .ref hMOo, .ref hMOw, .ref hMOm, .ref hMOq, .int MOpl, .int MOiw, .int MOle, .ref hMOn])), (hMOo, .inl (cI, 150, .inl MOon)), (hMOm, .inl (cI, 150, .inl out.2.1)), (hMOq, .inl (cI, 150, .inl out.2.2))]) 0 0 := by
  refine ct_of RX7 (by decide +kernel) rfl (Nat.le_of_ble_eq_true rfl) (fun j cx => ?_)
  unfold f_X7_regions at hm
  show j 0 0 [(hMO, .inr (6, [.ref hMOz, .ref hMOa, .ref hMOb, .int MOst, .ref hMOk, .int MOik, .ref hMOt, .int MOln, .ref hMOo, .ref hMOw, .ref hMOm, .ref hMOq, .int MOpl, .int MOiw, .int MOle, .ref hMOn])), (hMOo, .inl (cI, 150, .inl MOon)), (hMOm, .inl (cI, 150, .inl MOmk)), (hMOq, .inl (cI, 150, .inl MOqu))] [(0, .ref hMO), (1, .int p0)] 0 []
  refine j_iconst (pc' := 1) cx 0 dX7_regions_0 ki_0 rfl ?_
  refine j_istore_n (lv' := [(2, .int 0), (0, .ref hMO), (1, .int p0)]) (pc' := 2) cx dX7_regions_1 (by decide) rfl rfl ?_
  obtain ⟨e2, h_1, h_2⟩ := bd_s hm
  have KXe2 : j 0 0 [(hMO, .inr (6, [.ref hMOz, .ref hMOa, .ref hMOb, .int MOst, .ref hMOk, .int MOik, .ref hMOt, .int MOln, .ref hMOo, .ref hMOw, .ref hMOm, .ref hMOq, .int MOpl, .int MOiw, .int MOle, .ref hMOn])), (hMOo, .inl (cI, 150, .inl MOon)), (hMOm, .inl (cI, 150, .inl e2.2)), (hMOq, .inl (cI, 150, .inl MOqu))] [(0, .ref hMO), (1, .int p0)] 22 [] := by
    refine j_iconst (pc' := 23) cx 0 dX7_regions_22 ki_0 rfl ?_
    refine j_istore_n (lv' := [(2, .int 0), (0, .ref hMO), (1, .int p0)]) (pc' := 24) cx dX7_regions_23 (by decide) rfl rfl ?_
    refine j_iconst (pc' := 25) cx 0 dX7_regions_24 ki_0 rfl ?_
    refine j_istore_n (lv' := [(3, .int 0), (2, .int 0), (0, .ref hMO), (1, .int p0)]) (pc' := 26) cx dX7_regions_25 (by decide) rfl rfl ?_
    refine j_iconst (pc' := 27) cx 0 dX7_regions_26 ki_0 rfl ?_
    refine j_istore (lv' := [(4, .int 0), (3, .int 0), (2, .int 0), (0, .ref hMO), (1, .int p0)]) (pc' := 29) cx dX7_regions_27 (by decide) rfl rfl ?_
    obtain ⟨e5, h_3, h_4⟩ := bd_s h_2
    have KXe5 : j 0 0 [(hMO, .inr (6, [.ref hMOz, .ref hMOa, .ref hMOb, .int MOst, .ref hMOk, .int MOik, .ref hMOt, .int MOln, .ref hMOo, .ref hMOw, .ref hMOm, .ref hMOq, .int MOpl, .int MOiw, .int MOle, .ref hMOn])), (hMOo, .inl (cI, 150, .inl MOon)), (hMOm, .inl (cI, 150, .inl e5.2.2.2.1)), (hMOq, .inl (cI, 150, .inl e5.2.2.2.2))] [(1, .int p0), (2, .int e5.1), (3, .int e5.2.1)] 87 [] := by
      refine j_iload_n (pc' := 88) cx 0 dX7_regions_87 rfl rfl ?_
      obtain ⟨t12, h_6, h_5⟩ := bd_s h_4
      have Kt12 : j 0 0 [(hMO, .inr (6, [.ref hMOz, .ref hMOa, .ref hMOb, .int MOst, .ref hMOk, .int MOik, .ref hMOt, .int MOln, .ref hMOo, .ref hMOw, .ref hMOm, .ref hMOq, .int MOpl, .int MOiw, .int MOle, .ref hMOn])), (hMOo, .inl (cI, 150, .inl MOon)), (hMOm, .inl (cI, 150, .inl e5.2.2.2.1)), (hMOq, .inl (cI, 150, .inl e5.2.2.2.2))] [] 96 [.int t12] := by
        have h_7 := so_i h_5
        subst h_7
        exact j_ret cx (Or.inr (Or.inl ⟨_, _, rfl, rfl, dX7_regions_96, rfl, rfl⟩)) ⟨rfl, rfl⟩
      refine j_if_eq (tgt := 95) (pc' := 91) cx dX7_regions_88 (by decide) rfl (fun ch_6 => ?_) (fun ch_6 => ?_)
      · have h_8 := it_t h_6 ch_6
        refine j_iload_n (pc' := 96) cx 1 dX7_regions_95 rfl rfl ?_
        have h_9 := so_i h_8
        subst h_9
        refine j_lv (lv' := []) cx [] rfl ?_
        exact Kt12
      · have h_10 := it_f h_6 ch_6
        refine j_iload_n (pc' := 92) cx 2 dX7_regions_91 rfl rfl ?_
        refine j_goto (pc' := 96) cx dX7_regions_92 (by decide) ?_
        have h_11 := so_i h_10
        subst h_11
        refine j_lv (lv' := []) cx [] rfl ?_
        exact Kt12
    have LPe5 : ∀ (n : Nat) (s4 : Int32 × Int32 × Int32 × (Nat → Int32) × (Nat → Int32)), lp (f_X7_regions_b2 MOon) n s4 = some e5 → j 0 0 [(hMO, .inr (6, [.ref hMOz, .ref hMOa, .ref hMOb, .int MOst, .ref hMOk, .int MOik, .ref hMOt, .int MOln, .ref hMOo, .ref hMOw, .ref hMOm, .ref hMOq, .int MOpl, .int MOiw, .int MOle, .ref hMOn])), (hMOo, .inl (cI, 150, .inl MOon)), (hMOm, .inl (cI, 150, .inl s4.2.2.2.1)), (hMOq, .inl (cI, 150, .inl s4.2.2.2.2))] [(0, .ref hMO), (1, .int p0), (2, .int s4.1), (3, .int s4.2.1), (4, .int s4.2.2.1)] 29 [] := by
      intro n
      induction n with
      | zero => intro s4 z; exact absurd z (by intro z; cases z)
      | succ n ihe5 =>
        intro s4 h_12
        obtain ⟨q_13, h_14, h_15⟩ := bd_s h_12
        unfold f_X7_regions_b2 at h_14
        refine j_iload (pc' := 31) cx 4 dX7_regions_29 rfl rfl ?_
        refine j_sipush (pc' := 34) cx 150 dX7_regions_31 ks_150 rfl ?_
        refine j_icmp_ge (tgt := 87) (pc' := 37) cx dX7_regions_34 (by decide) rfl (fun ch_14 => ?_) (fun ch_14 => ?_)
        · have h_16 := it_t h_14 ch_14
          have h_17 := so_i h_16
          subst h_17
          have h_18 := so_i (se_r h_15)
          subst h_18
          refine j_lv (lv' := [(1, .int p0), (2, .int s4.1), (3, .int s4.2.1)]) cx [1, 2, 3] rfl ?_
          exact KXe5
        · have h_19 := it_f h_14 ch_14
          refine j_aload_n (pc' := 38) cx 0 dX7_regions_37 rfl rfl ?_
          refine j_get (C := RX7) (T := TX7) (N := 16) (pc' := 41) cx uB_X7 0 rfl rfl 8 (by decide) wF_X7_25 (.ref hMOo) rfl dX7_regions_38 rfl ?_
          refine j_iload (pc' := 43) cx 4 dX7_regions_41 rfl rfl ?_
          obtain ⟨i6, h_20⟩ := ck_s h_19
          refine j_iald (pc' := 44) cx 1 0 rfl rfl i6 dX7_regions_43 rfl ?_
          obtain ⟨t11, h_22, h_21⟩ := bd_s h_20
          have Kt11 : j 0 0 [(hMO, .inr (6, [.ref hMOz, .ref hMOa, .ref hMOb, .int MOst, .ref hMOk, .int MOik, .ref hMOt, .int MOln, .ref hMOo, .ref hMOw, .ref hMOm, .ref hMOq, .int MOpl, .int MOiw, .int MOle, .ref hMOn])), (hMOo, .inl (cI, 150, .inl MOon)), (hMOm, .inl (cI, 150, .inl t11.2.2.1)), (hMOq, .inl (cI, 150, .inl t11.2.2.2))] [(0, .ref hMO), (1, .int p0), (2, .int t11.1), (3, .int t11.2.1), (4, .int s4.2.2.1)] 81 [] := by
            refine j_iinc (v := (s4.2.2.1 + 1)) (lv' := [(4, .int (s4.2.2.1 + 1)), (0, .ref hMO), (1, .int p0), (2, .int t11.1), (3, .int t11.2.1)]) (pc' := 84) cx 4 dX7_regions_81 rfl (kn_1 _) (by decide) rfl rfl ?_
            refine j_goto (pc' := 29) cx dX7_regions_84 (by decide) ?_
            have h_23 := so_i h_21
            subst h_23
            refine j_lv (lv' := [(0, .ref hMO), (1, .int p0), (2, .int t11.1), (3, .int t11.2.1), (4, .int (s4.2.2.1 + 1))]) cx [1, 2, 3, 4, 0] rfl ?_
            exact ihe5 _ (se_l h_15)
          refine j_if_ge (tgt := 81) (pc' := 47) cx dX7_regions_44 (by decide) rfl (fun ch_22 => ?_) (fun ch_22 => ?_)
          · have h_24 := it_t h_22 ch_22
            have h_25 := so_i h_24
            subst h_25
            exact Kt11
          · have h_26 := it_f h_22 ch_22
            refine j_aload_n (pc' := 48) cx 0 dX7_regions_47 rfl rfl ?_
            refine j_get (C := RX7) (T := TX7) (N := 16) (pc' := 51) cx uB_X7 0 rfl rfl 10 (by decide) wF_X7_31 (.ref hMOm) rfl dX7_regions_48 rfl ?_
            refine j_iload (pc' := 53) cx 4 dX7_regions_51 rfl rfl ?_
            obtain ⟨i7, h_27⟩ := ck_s h_26
            refine j_iald (pc' := 54) cx 2 0 rfl rfl i7 dX7_regions_53 rfl ?_
            refine j_if_ne (tgt := 81) (pc' := 57) cx dX7_regions_54 (by decide) rfl (fun ch_27 => ?_) (fun ch_27 => ?_)
            · have h_28 := it_f h_27 ch_27
              have h_29 := so_i h_28
              subst h_29
              exact Kt11
            · have h_30 := it_t h_27 ch_27
              refine j_aload_n (pc' := 58) cx 0 dX7_regions_57 rfl rfl ?_
              refine j_iload (pc' := 60) cx 4 dX7_regions_58 rfl rfl ?_
              obtain ⟨r8, c9, h_31⟩ := bd_s h_30
              refine j_cV (pc' := 63) cx (c_X7_markRegion l D cI cZ cC cS hMO hMOz hMOa hMOb hMOk hMOt hMOo hMOw hMOm hMOq hMOn MOst MOik MOln MOpl MOiw MOle MOon s4.2.2.2.1 s4.2.2.2.2 s4.2.2.1 r8 c9) 1 yk_X7_markRegion wM_X7_195 ⟨wN_X7_markRegion, wS_X7_markRegion, wI_X7, wC_X7_markRegion⟩ ⟨rfl, rfl, Nat.le_of_ble_eq_true rfl, Nat.le_of_ble_eq_true rfl, Nat.le_of_ble_eq_true rfl, Nat.le_of_ble_eq_true rfl⟩ [0, 1, 2, 3] [] [0, 1, 2, 3] rfl [] rfl (by decide) [(hMO, .inr (6, [.ref hMOz, .ref hMOa, .ref hMOb, .int MOst, .ref hMOk, .int MOik, .ref hMOt, .int MOln, .ref hMOo, .ref hMOw, .ref hMOm, .ref hMOq, .int MOpl, .int MOiw, .int MOle, .ref hMOn])), (hMOo, .inl (cI, 150, .inl MOon)), (hMOm, .inl (cI, 150, .inl r8.2.1)), (hMOq, .inl (cI, 150, .inl r8.2.2))] rfl (by decide) 0 6 rfl rfl rfl rfl rfl (Nat.le_of_ble_eq_true rfl) dX7_regions_60 rfl ?_
              refine j_istore (lv' := [(5, .int r8.1), (0, .ref hMO), (1, .int p0), (2, .int s4.1), (3, .int s4.2.1), (4, .int s4.2.2.1)]) (pc' := 65) cx dX7_regions_63 (by decide) rfl rfl ?_
              refine j_iinc (v := (s4.1 + 1)) (lv' := [(2, .int (s4.1 + 1)), (5, .int r8.1), (0, .ref hMO), (1, .int p0), (3, .int s4.2.1), (4, .int s4.2.2.1)]) (pc' := 68) cx 3 dX7_regions_65 rfl (kn_1 _) (by decide) rfl rfl ?_
              refine j_iload (pc' := 70) cx 1 dX7_regions_68 rfl rfl ?_
              refine j_iload_n (pc' := 71) cx 4 dX7_regions_70 rfl rfl ?_
              obtain ⟨t10, h_33, h_32⟩ := bd_s h_31
              have Kt10 : j 0 0 [(hMO, .inr (6, [.ref hMOz, .ref hMOa, .ref hMOb, .int MOst, .ref hMOk, .int MOik, .ref hMOt, .int MOln, .ref hMOo, .ref hMOw, .ref hMOm, .ref hMOq, .int MOpl, .int MOiw, .int MOle, .ref hMOn])), (hMOo, .inl (cI, 150, .inl MOon)), (hMOm, .inl (cI, 150, .inl r8.2.1)), (hMOq, .inl (cI, 150, .inl r8.2.2))] [(0, .ref hMO), (1, .int p0), (2, .int (s4.1 + 1)), (4, .int s4.2.2.1)] 80 [.int t10] := by
                refine j_istore_n (lv' := [(3, .int t10), (0, .ref hMO), (1, .int p0), (2, .int (s4.1 + 1)), (4, .int s4.2.2.1)]) (pc' := 81) cx dX7_regions_80 (by decide) rfl rfl ?_
                have h_34 := so_i h_32
                subst h_34
                refine j_lv (lv' := [(0, .ref hMO), (1, .int p0), (2, .int (s4.1 + 1)), (3, .int t10), (4, .int s4.2.2.1)]) cx [1, 2, 3, 0, 4] rfl ?_
                exact Kt11
              refine j_icmp_le (tgt := 79) (pc' := 74) cx dX7_regions_71 (by decide) rfl (fun ch_33 => ?_) (fun ch_33 => ?_)
              · have h_35 := it_t h_33 ch_33
                refine j_iload_n (pc' := 80) cx 4 dX7_regions_79 rfl rfl ?_
                have h_36 := so_i h_35
                subst h_36
                refine j_lv (lv' := [(0, .ref hMO), (1, .int p0), (2, .int (s4.1 + 1)), (4, .int s4.2.2.1)]) cx [2, 3, 0, 5] rfl ?_
                exact Kt10
              · have h_37 := it_f h_33 ch_33
                refine j_iload (pc' := 76) cx 1 dX7_regions_74 rfl rfl ?_
                refine j_goto (pc' := 80) cx dX7_regions_76 (by decide) ?_
                have h_38 := so_i h_37
                subst h_38
                refine j_lv (lv' := [(0, .ref hMO), (1, .int p0), (2, .int (s4.1 + 1)), (4, .int s4.2.2.1)]) cx [2, 3, 0, 5] rfl ?_
                exact Kt10
    refine j_lv (lv' := [(0, .ref hMO), (1, .int p0), (2, .int 0), (3, .int 0), (4, .int 0)]) cx [3, 4, 2, 1, 0] rfl ?_
    exact LPe5 _ _ h_3
  have LPe2 : ∀ (n : Nat) (s1 : Int32 × (Nat → Int32)), lp (f_X7_regions_b1) n s1 = some e2 → j 0 0 [(hMO, .inr (6, [.ref hMOz, .ref hMOa, .ref hMOb, .int MOst, .ref hMOk, .int MOik, .ref hMOt, .int MOln, .ref hMOo, .ref hMOw, .ref hMOm, .ref hMOq, .int MOpl, .int MOiw, .int MOle, .ref hMOn])), (hMOo, .inl (cI, 150, .inl MOon)), (hMOm, .inl (cI, 150, .inl s1.2)), (hMOq, .inl (cI, 150, .inl MOqu))] [(0, .ref hMO), (1, .int p0), (2, .int s1.1)] 2 [] := by
    intro n
    induction n with
    | zero => intro s1 z; exact absurd z (by intro z; cases z)
    | succ n ihe2 =>
      intro s1 h_39
      obtain ⟨q_40, h_41, h_42⟩ := bd_s h_39
      unfold f_X7_regions_b1 at h_41
      refine j_iload_n (pc' := 3) cx 2 dX7_regions_2 rfl rfl ?_
      refine j_sipush (pc' := 6) cx 150 dX7_regions_3 ks_150 rfl ?_
      refine j_icmp_ge (tgt := 22) (pc' := 9) cx dX7_regions_6 (by decide) rfl (fun ch_41 => ?_) (fun ch_41 => ?_)
      · have h_43 := it_t h_41 ch_41
        have h_44 := so_i h_43
        subst h_44
        have h_45 := so_i (se_r h_42)
        subst h_45
        refine j_lv (lv' := [(0, .ref hMO), (1, .int p0)]) cx [0, 1] rfl ?_
        exact KXe2
      · have h_46 := it_f h_41 ch_41
        refine j_aload_n (pc' := 10) cx 0 dX7_regions_9 rfl rfl ?_
        refine j_get (C := RX7) (T := TX7) (N := 16) (pc' := 13) cx uB_X7 0 rfl rfl 10 (by decide) wF_X7_31 (.ref hMOm) rfl dX7_regions_10 rfl ?_
        refine j_iload_n (pc' := 14) cx 2 dX7_regions_13 rfl rfl ?_
        refine j_iconst (pc' := 15) cx 0 dX7_regions_14 ki_0 rfl ?_
        obtain ⟨i3, h_47⟩ := ck_s h_46
        refine j_iast (ws' := [(hMO, .inr (6, [.ref hMOz, .ref hMOa, .ref hMOb, .int MOst, .ref hMOk, .int MOik, .ref hMOt, .int MOln, .ref hMOo, .ref hMOw, .ref hMOm, .ref hMOq, .int MOpl, .int MOiw, .int MOle, .ref hMOn])), (hMOo, .inl (cI, 150, .inl MOon)), (hMOm, .inl (cI, 150, .inl (upd s1.2 s1.1.toNatClampNeg 0))), (hMOq, .inl (cI, 150, .inl MOqu))]) (pc' := 16) cx 2 0 rfl rfl i3 rfl dX7_regions_15 rfl ?_
        refine j_iinc (v := (s1.1 + 1)) (lv' := [(2, .int (s1.1 + 1)), (0, .ref hMO), (1, .int p0)]) (pc' := 19) cx 2 dX7_regions_16 rfl (kn_1 _) (by decide) rfl rfl ?_
        refine j_goto (pc' := 2) cx dX7_regions_19 (by decide) ?_
        have h_48 := so_i h_47
        subst h_48
        refine j_lv (lv' := [(0, .ref hMO), (1, .int p0), (2, .int (s1.1 + 1))]) cx [1, 2, 0] rfl ?_
        exact ihe2 _ (se_l h_42)
  refine j_lv (lv' := [(0, .ref hMO), (1, .int p0), (2, .int 0)]) cx [1, 2, 0] rfl ?_
  exact LPe2 _ _ h_1
set_option maxHeartbeats 4000000 in
set_option maxRecDepth 100000 in
theorem c_X7_groups (l : Launch) (D : va_G) (cI cZ cC cS : ClassId) (hMO hMOz hMOa hMOb hMOk hMOt hMOo hMOw hMOm hMOq hMOn : Nat) (MOst : Int32) (MOik : Int32) (MOln : Int32) (MOpl : Int32) (MOiw : Int32) (MOle : Int32) (MOza : Nat → Int32) (MOon : Nat → Int32) (MOwy : Nat → Int32) (MOmk : Nat → Int32) (out : Int32 × (Nat → Int32)) (hm : f_X7_groups MOza MOon MOwy MOmk = some out) : Ct l yX7_groups cX7_groups 6 (some .int) ({ frames := 4, cells := 0, slots := 0, locals := 91 }) (D, TY cI cZ cC cS) [.ref hMO] [(hMO, .inr (6, [.ref hMOz, .ref hMOa, .ref hMOb, .int MOst, .ref hMOk, .int MOik, .ref hMOt, .int MOln, .ref hMOo, .ref hMOw, .ref hMOm, .ref hMOq, .int MOpl, .int MOiw, .int MOle, .ref hMOn])), (hMOz, .inl (cI, 116, .inl MOza)), (hMOo, .inl (cI, 150, .inl MOon)), (hMOw, .inl (cI, 150, .inl MOwy)), (hMOm, .inl (cI, 150, .inl MOmk))] (jw_P (some (.int out.1)) [(hMO, .inr (6, [.ref hMOz, .ref hMOa, .ref hMOb, .int MOst, .ref hMOk, .int MOik, .ref hMOt, .int MOln, .ref hMOo, .ref hMOw, .ref hMOm, .ref hMOq, .int MOpl, .int MOiw, .int MOle, .ref hMOn])), (hMOz, .inl (cI, 116, .inl MOza)), (hMOo, .inl (cI, 150, .inl MOon)), (hMOw, .inl (cI, 150, .inl MOwy)), (hMOm, .inl (cI, 150, .inl out.2))]) 0 0 := by
  refine ct_of RX7 (by decide +kernel) rfl (Nat.le_of_ble_eq_true rfl) (fun j cx => ?_)
  unfold f_X7_groups at hm
  show j 0 0 [(hMO, .inr (6, [.ref hMOz, .ref hMOa, .ref hMOb, .int MOst, .ref hMOk, .int MOik, .ref hMOt, .int MOln, .ref hMOo, .ref hMOw, .ref hMOm, .ref hMOq, .int MOpl, .int MOiw, .int MOle, .ref hMOn])), (hMOz, .inl (cI, 116, .inl MOza)), (hMOo, .inl (cI, 150, .inl MOon)), (hMOw, .inl (cI, 150, .inl MOwy)), (hMOm, .inl (cI, 150, .inl MOmk))] [(0, .ref hMO)] 0 []
  refine j_iconst (pc' := 1) cx 0 dX7_groups_0 ki_0 rfl ?_
  refine j_istore_n (lv' := [(1, .int 0), (0, .ref hMO)]) (pc' := 2) cx dX7_groups_1 (by decide) rfl rfl ?_
  obtain ⟨e2, h_1, h_2⟩ := bd_s hm
  have KXe2 : j 0 0 [(hMO, .inr (6, [.ref hMOz, .ref hMOa, .ref hMOb, .int MOst, .ref hMOk, .int MOik, .ref hMOt, .int MOln, .ref hMOo, .ref hMOw, .ref hMOm, .ref hMOq, .int MOpl, .int MOiw, .int MOle, .ref hMOn])), (hMOz, .inl (cI, 116, .inl MOza)), (hMOo, .inl (cI, 150, .inl MOon)), (hMOw, .inl (cI, 150, .inl MOwy)), (hMOm, .inl (cI, 150, .inl e2.2))] [(0, .ref hMO)] 26 [] := by
    refine j_aload_n (pc' := 27) cx 0 dX7_groups_26 rfl rfl ?_
    refine j_get (C := RX7) (T := TX7) (N := 16) (pc' := 30) cx uB_X7 0 rfl rfl 0 (by decide) wF_X7_7 (.ref hMOz) rfl dX7_groups_27 rfl ?_
    refine j_bipush (pc' := 32) cx 25 dX7_groups_30 kb_25 rfl ?_
    obtain ⟨i5, h_3⟩ := ck_s h_2
    refine j_iald (pc' := 33) cx 1 0 rfl rfl i5 dX7_groups_32 rfl ?_
    refine j_istore_n (lv' := [(1, .int (MOza (25 : Int32).toNatClampNeg)), (0, .ref hMO)]) (pc' := 34) cx dX7_groups_33 (by decide) rfl rfl ?_
    refine j_iconst (pc' := 35) cx 0 dX7_groups_34 ki_0 rfl ?_
    refine j_istore_n (lv' := [(2, .int 0), (1, .int (MOza (25 : Int32).toNatClampNeg)), (0, .ref hMO)]) (pc' := 36) cx dX7_groups_35 (by decide) rfl rfl ?_
    obtain ⟨e7, h_4, h_5⟩ := bd_s h_3
    have KXe7 : j 0 0 [(hMO, .inr (6, [.ref hMOz, .ref hMOa, .ref hMOb, .int MOst, .ref hMOk, .int MOik, .ref hMOt, .int MOln, .ref hMOo, .ref hMOw, .ref hMOm, .ref hMOq, .int MOpl, .int MOiw, .int MOle, .ref hMOn])), (hMOz, .inl (cI, 116, .inl MOza)), (hMOo, .inl (cI, 150, .inl MOon)), (hMOw, .inl (cI, 150, .inl MOwy)), (hMOm, .inl (cI, 150, .inl e7.2.2))] [(1, .int e7.1)] 157 [] := by
      refine j_iload_n (pc' := 158) cx 0 dX7_groups_157 rfl rfl ?_
      have h_6 := so_i h_5
      subst h_6
      exact j_ret cx (Or.inr (Or.inl ⟨_, _, rfl, rfl, dX7_groups_158, rfl, rfl⟩)) ⟨rfl, rfl⟩
    have LPe7 : ∀ (n : Nat) (s6 : Int32 × Int32 × (Nat → Int32)), lp (f_X7_groups_b4 MOza MOon MOwy) n s6 = some e7 → j 0 0 [(hMO, .inr (6, [.ref hMOz, .ref hMOa, .ref hMOb, .int MOst, .ref hMOk, .int MOik, .ref hMOt, .int MOln, .ref hMOo, .ref hMOw, .ref hMOm, .ref hMOq, .int MOpl, .int MOiw, .int MOle, .ref hMOn])), (hMOz, .inl (cI, 116, .inl MOza)), (hMOo, .inl (cI, 150, .inl MOon)), (hMOw, .inl (cI, 150, .inl MOwy)), (hMOm, .inl (cI, 150, .inl s6.2.2))] [(0, .ref hMO), (1, .int s6.1), (2, .int s6.2.1)] 36 [] := by
      intro n
      induction n with
      | zero => intro s6 z; exact absurd z (by intro z; cases z)
      | succ n ihe7 =>
        intro s6 h_7
        obtain ⟨q_8, h_9, h_10⟩ := bd_s h_7
        unfold f_X7_groups_b4 at h_9
        refine j_iload_n (pc' := 37) cx 2 dX7_groups_36 rfl rfl ?_
        refine j_aload_n (pc' := 38) cx 0 dX7_groups_37 rfl rfl ?_
        refine j_get (C := RX7) (T := TX7) (N := 16) (pc' := 41) cx uB_X7 0 rfl rfl 0 (by decide) wF_X7_7 (.ref hMOz) rfl dX7_groups_38 rfl ?_
        refine j_bipush (pc' := 43) cx 25 dX7_groups_41 kb_25 rfl ?_
        obtain ⟨i8, h_11⟩ := ck_s h_9
        refine j_iald (pc' := 44) cx 1 0 rfl rfl i8 dX7_groups_43 rfl ?_
        refine j_icmp_ge (tgt := 157) (pc' := 47) cx dX7_groups_44 (by decide) rfl (fun ch_11 => ?_) (fun ch_11 => ?_)
        · have h_12 := it_t h_11 ch_11
          have h_13 := so_i h_12
          subst h_13
          have h_14 := so_i (se_r h_10)
          subst h_14
          refine j_lv (lv' := [(1, .int s6.1)]) cx [1] rfl ?_
          exact KXe7
        · have h_15 := it_f h_11 ch_11
          refine j_iconst (pc' := 48) cx 0 dX7_groups_47 ki_0 rfl ?_
          refine j_istore_n (lv' := [(3, .int 0), (0, .ref hMO), (1, .int s6.1), (2, .int s6.2.1)]) (pc' := 49) cx dX7_groups_48 (by decide) rfl rfl ?_
          obtain ⟨e10, h_16, h_17⟩ := bd_s h_15
          have KXe10 : j 0 0 [(hMO, .inr (6, [.ref hMOz, .ref hMOa, .ref hMOb, .int MOst, .ref hMOk, .int MOik, .ref hMOt, .int MOln, .ref hMOo, .ref hMOw, .ref hMOm, .ref hMOq, .int MOpl, .int MOiw, .int MOle, .ref hMOn])), (hMOz, .inl (cI, 116, .inl MOza)), (hMOo, .inl (cI, 150, .inl MOon)), (hMOw, .inl (cI, 150, .inl MOwy)), (hMOm, .inl (cI, 150, .inl e10.2.2))] [(0, .ref hMO), (1, .int e10.1), (2, .int s6.2.1)] 151 [] := by
            refine j_iinc (v := (s6.2.1 + 1)) (lv' := [(2, .int (s6.2.1 + 1)), (0, .ref hMO), (1, .int e10.1)]) (pc' := 154) cx 2 dX7_groups_151 rfl (kn_1 _) (by decide) rfl rfl ?_
            refine j_goto (pc' := 36) cx dX7_groups_154 (by decide) ?_
            have h_18 := so_i h_17
            subst h_18
            refine j_lv (lv' := [(0, .ref hMO), (1, .int e10.1), (2, .int (s6.2.1 + 1))]) cx [1, 2, 0] rfl ?_
            exact ihe7 _ (se_l h_10)
          have LPe10 : ∀ (n : Nat) (s9 : Int32 × Int32 × (Nat → Int32)), lp (f_X7_groups_b3 MOza MOon MOwy s6) n s9 = some e10 → j 0 0 [(hMO, .inr (6, [.ref hMOz, .ref hMOa, .ref hMOb, .int MOst, .ref hMOk, .int MOik, .ref hMOt, .int MOln, .ref hMOo, .ref hMOw, .ref hMOm, .ref hMOq, .int MOpl, .int MOiw, .int MOle, .ref hMOn])), (hMOz, .inl (cI, 116, .inl MOza)), (hMOo, .inl (cI, 150, .inl MOon)), (hMOw, .inl (cI, 150, .inl MOwy)), (hMOm, .inl (cI, 150, .inl s9.2.2))] [(0, .ref hMO), (1, .int s9.1), (2, .int s6.2.1), (3, .int s9.2.1)] 49 [] := by
            intro n
            induction n with
            | zero => intro s9 z; exact absurd z (by intro z; cases z)
            | succ n ihe10 =>
              intro s9 h_19
              obtain ⟨q_20, h_21, h_22⟩ := bd_s h_19
              unfold f_X7_groups_b3 at h_21
              refine j_iload_n (pc' := 50) cx 3 dX7_groups_49 rfl rfl ?_
              refine j_iload_n (pc' := 51) cx 2 dX7_groups_50 rfl rfl ?_
              refine j_icmp_ge (tgt := 151) (pc' := 54) cx dX7_groups_51 (by decide) rfl (fun ch_21 => ?_) (fun ch_21 => ?_)
              · have h_23 := it_t h_21 ch_21
                have h_24 := so_i h_23
                subst h_24
                have h_25 := so_i (se_r h_22)
                subst h_25
                refine j_lv (lv' := [(0, .ref hMO), (1, .int s9.1), (2, .int s6.2.1)]) cx [0, 1, 2] rfl ?_
                exact KXe10
              · have h_26 := it_f h_21 ch_21
                refine j_aload_n (pc' := 55) cx 0 dX7_groups_54 rfl rfl ?_
                refine j_get (C := RX7) (T := TX7) (N := 16) (pc' := 58) cx uB_X7 0 rfl rfl 10 (by decide) wF_X7_31 (.ref hMOm) rfl dX7_groups_55 rfl ?_
                refine j_iload_n (pc' := 59) cx 2 dX7_groups_58 rfl rfl ?_
                obtain ⟨i11, h_27⟩ := ck_s h_26
                refine j_iald (pc' := 60) cx 4 0 rfl rfl i11 dX7_groups_59 rfl ?_
                refine j_aload_n (pc' := 61) cx 0 dX7_groups_60 rfl rfl ?_
                refine j_get (C := RX7) (T := TX7) (N := 16) (pc' := 64) cx uB_X7 0 rfl rfl 10 (by decide) wF_X7_31 (.ref hMOm) rfl dX7_groups_61 rfl ?_
                refine j_iload_n (pc' := 65) cx 3 dX7_groups_64 rfl rfl ?_
                obtain ⟨i12, h_28⟩ := ck_s h_27
                refine j_iald (pc' := 66) cx 4 0 rfl rfl i12 dX7_groups_65 rfl ?_
                obtain ⟨t24, h_30, h_29⟩ := bd_s h_28
                have Kt24 : j 0 0 [(hMO, .inr (6, [.ref hMOz, .ref hMOa, .ref hMOb, .int MOst, .ref hMOk, .int MOik, .ref hMOt, .int MOln, .ref hMOo, .ref hMOw, .ref hMOm, .ref hMOq, .int MOpl, .int MOiw, .int MOle, .ref hMOn])), (hMOz, .inl (cI, 116, .inl MOza)), (hMOo, .inl (cI, 150, .inl MOon)), (hMOw, .inl (cI, 150, .inl MOwy)), (hMOm, .inl (cI, 150, .inl t24.2))] [(0, .ref hMO), (1, .int t24.1), (2, .int s6.2.1), (3, .int s9.2.1)] 145 [] := by
                  refine j_iinc (v := (s9.2.1 + 1)) (lv' := [(3, .int (s9.2.1 + 1)), (0, .ref hMO), (1, .int t24.1), (2, .int s6.2.1)]) (pc' := 148) cx 3 dX7_groups_145 rfl (kn_1 _) (by decide) rfl rfl ?_
                  refine j_goto (pc' := 49) cx dX7_groups_148 (by decide) ?_
                  have h_31 := so_i h_29
                  subst h_31
                  refine j_lv (lv' := [(0, .ref hMO), (1, .int t24.1), (2, .int s6.2.1), (3, .int (s9.2.1 + 1))]) cx [1, 2, 3, 0] rfl ?_
                  exact ihe10 _ (se_l h_22)
                refine j_icmp_eq (tgt := 145) (pc' := 69) cx dX7_groups_66 (by decide) rfl (fun ch_30 => ?_) (fun ch_30 => ?_)
                · have h_32 := it_t h_30 ch_30
                  have h_33 := so_i h_32
                  subst h_33
                  exact Kt24
                · have h_34 := it_f h_30 ch_30
                  refine j_aload_n (pc' := 70) cx 0 dX7_groups_69 rfl rfl ?_
                  refine j_iload_n (pc' := 71) cx 2 dX7_groups_70 rfl rfl ?_
                  refine j_iload_n (pc' := 72) cx 3 dX7_groups_71 rfl rfl ?_
                  obtain ⟨r13, c14, h_35⟩ := bd_s h_34
                  refine j_cV (pc' := 75) cx (c_X7_areTouching l D cI cZ cC cS hMO hMOz hMOa hMOb hMOk hMOt hMOo hMOw hMOm hMOq hMOn MOst MOik MOln MOpl MOiw MOle MOza MOon MOwy s6.2.1 s9.2.1 r13 c14) 2 yk_X7_areTouching wM_X7_180 ⟨wN_X7_areTouching, wS_X7_areTouching, wI_X7, wC_X7_areTouching⟩ ⟨rfl, rfl, Nat.le_of_ble_eq_true rfl, Nat.le_of_ble_eq_true rfl, Nat.le_of_ble_eq_true rfl, Nat.le_of_ble_eq_true rfl⟩ [0, 1, 2, 3] [4] [1, 2, 3, 4, 0] rfl [(hMOm, .inl (cI, 150, .inl s9.2.2))] rfl (by decide) [(hMO, .inr (6, [.ref hMOz, .ref hMOa, .ref hMOb, .int MOst, .ref hMOk, .int MOik, .ref hMOt, .int MOln, .ref hMOo, .ref hMOw, .ref hMOm, .ref hMOq, .int MOpl, .int MOiw, .int MOle, .ref hMOn])), (hMOz, .inl (cI, 116, .inl MOza)), (hMOo, .inl (cI, 150, .inl MOon)), (hMOw, .inl (cI, 150, .inl MOwy)), (hMOm, .inl (cI, 150, .inl s9.2.2))] rfl (by decide) 0 6 rfl rfl rfl rfl rfl (Nat.le_of_ble_eq_true rfl) dX7_groups_72 rfl ?_
                  refine j_if_eq (tgt := 145) (pc' := 78) cx dX7_groups_75 (by decide) rfl (fun ch_35 => ?_) (fun ch_35 => ?_)
                  · have h_36 := it_t h_35 ch_35
                    have h_37 := so_i h_36
                    subst h_37
                    exact Kt24
                  · have h_38 := it_f h_35 ch_35
                    refine j_iinc (v := (s9.1 + (-1))) (lv' := [(1, .int (s9.1 + (-1))), (0, .ref hMO), (2, .int s6.2.1), (3, .int s9.2.1)]) (pc' := 81) cx 1 dX7_groups_78 rfl (kn_m1 _) (by decide) rfl rfl ?_
                    refine j_aload_n (pc' := 82) cx 1 dX7_groups_81 rfl rfl ?_
                    refine j_get (C := RX7) (T := TX7) (N := 16) (pc' := 85) cx uB_X7 0 rfl rfl 10 (by decide) wF_X7_31 (.ref hMOm) rfl dX7_groups_82 rfl ?_
                    refine j_iload_n (pc' := 86) cx 3 dX7_groups_85 rfl rfl ?_
                    obtain ⟨i15, h_39⟩ := ck_s h_38
                    refine j_iald (pc' := 87) cx 4 0 rfl rfl i15 dX7_groups_86 rfl ?_
                    refine j_istore (lv' := [(4, .int (s9.2.2 s9.2.1.toNatClampNeg)), (1, .int (s9.1 + (-1))), (0, .ref hMO), (2, .int s6.2.1), (3, .int s9.2.1)]) (pc' := 89) cx dX7_groups_87 (by decide) rfl rfl ?_
                    refine j_iconst (pc' := 90) cx 0 dX7_groups_89 ki_0 rfl ?_
                    refine j_istore (lv' := [(5, .int 0), (4, .int (s9.2.2 s9.2.1.toNatClampNeg)), (1, .int (s9.1 + (-1))), (0, .ref hMO), (2, .int s6.2.1), (3, .int s9.2.1)]) (pc' := 92) cx dX7_groups_90 (by decide) rfl rfl ?_
                    obtain ⟨e17, h_40, h_41⟩ := bd_s h_39
                    have KXe17 : j 0 0 [(hMO, .inr (6, [.ref hMOz, .ref hMOa, .ref hMOb, .int MOst, .ref hMOk, .int MOik, .ref hMOt, .int MOln, .ref hMOo, .ref hMOw, .ref hMOm, .ref hMOq, .int MOpl, .int MOiw, .int MOle, .ref hMOn])), (hMOz, .inl (cI, 116, .inl MOza)), (hMOo, .inl (cI, 150, .inl MOon)), (hMOw, .inl (cI, 150, .inl MOwy)), (hMOm, .inl (cI, 150, .inl e17.2))] [(0, .ref hMO), (1, .int (s9.1 + (-1))), (2, .int s6.2.1), (3, .int s9.2.1)] 145 [] := by
                      have h_42 := so_i h_41
                      subst h_42
                      exact Kt24
                    have LPe17 : ∀ (n : Nat) (s16 : Int32 × (Nat → Int32)), lp (f_X7_groups_b2 MOza s6 s9) n s16 = some e17 → j 0 0 [(hMO, .inr (6, [.ref hMOz, .ref hMOa, .ref hMOb, .int MOst, .ref hMOk, .int MOik, .ref hMOt, .int MOln, .ref hMOo, .ref hMOw, .ref hMOm, .ref hMOq, .int MOpl, .int MOiw, .int MOle, .ref hMOn])), (hMOz, .inl (cI, 116, .inl MOza)), (hMOo, .inl (cI, 150, .inl MOon)), (hMOw, .inl (cI, 150, .inl MOwy)), (hMOm, .inl (cI, 150, .inl s16.2))] [(0, .ref hMO), (1, .int (s9.1 + (-1))), (2, .int s6.2.1), (3, .int s9.2.1), (4, .int (s9.2.2 s9.2.1.toNatClampNeg)), (5, .int s16.1)] 92 [] := by
                      intro n
                      induction n with
                      | zero => intro s16 z; exact absurd z (by intro z; cases z)
                      | succ n ihe17 =>
                        intro s16 h_43
                        obtain ⟨q_44, h_45, h_46⟩ := bd_s h_43
                        unfold f_X7_groups_b2 at h_45
                        refine j_iload (pc' := 94) cx 5 dX7_groups_92 rfl rfl ?_
                        refine j_aload_n (pc' := 95) cx 0 dX7_groups_94 rfl rfl ?_
                        refine j_get (C := RX7) (T := TX7) (N := 16) (pc' := 98) cx uB_X7 0 rfl rfl 0 (by decide) wF_X7_7 (.ref hMOz) rfl dX7_groups_95 rfl ?_
                        refine j_bipush (pc' := 100) cx 25 dX7_groups_98 kb_25 rfl ?_
                        obtain ⟨i18, h_47⟩ := ck_s h_45
                        refine j_iald (pc' := 101) cx 1 0 rfl rfl i18 dX7_groups_100 rfl ?_
                        refine j_icmp_ge (tgt := 145) (pc' := 104) cx dX7_groups_101 (by decide) rfl (fun ch_47 => ?_) (fun ch_47 => ?_)
                        · have h_48 := it_t h_47 ch_47
                          have h_49 := so_i h_48
                          subst h_49
                          have h_50 := so_i (se_r h_46)
                          subst h_50
                          refine j_lv (lv' := [(0, .ref hMO), (1, .int (s9.1 + (-1))), (2, .int s6.2.1), (3, .int s9.2.1)]) cx [0, 1, 2, 3] rfl ?_
                          exact KXe17
                        · have h_51 := it_f h_47 ch_47
                          refine j_aload_n (pc' := 105) cx 0 dX7_groups_104 rfl rfl ?_
                          refine j_get (C := RX7) (T := TX7) (N := 16) (pc' := 108) cx uB_X7 0 rfl rfl 10 (by decide) wF_X7_31 (.ref hMOm) rfl dX7_groups_105 rfl ?_
                          refine j_iload (pc' := 110) cx 5 dX7_groups_108 rfl rfl ?_
                          refine j_aload_n (pc' := 111) cx 0 dX7_groups_110 rfl rfl ?_
                          refine j_get (C := RX7) (T := TX7) (N := 16) (pc' := 114) cx uB_X7 0 rfl rfl 10 (by decide) wF_X7_31 (.ref hMOm) rfl dX7_groups_111 rfl ?_
                          refine j_iload (pc' := 116) cx 5 dX7_groups_114 rfl rfl ?_
                          obtain ⟨i19, h_52⟩ := ck_s h_51
                          refine j_iald (pc' := 117) cx 4 0 rfl rfl i19 dX7_groups_116 rfl ?_
                          refine j_iload (pc' := 119) cx 4 dX7_groups_117 rfl rfl ?_
                          obtain ⟨t22, h_54, h_53⟩ := bd_s h_52
                          have Kt22 : j 0 0 [(hMO, .inr (6, [.ref hMOz, .ref hMOa, .ref hMOb, .int MOst, .ref hMOk, .int MOik, .ref hMOt, .int MOln, .ref hMOo, .ref hMOw, .ref hMOm, .ref hMOq, .int MOpl, .int MOiw, .int MOle, .ref hMOn])), (hMOz, .inl (cI, 116, .inl MOza)), (hMOo, .inl (cI, 150, .inl MOon)), (hMOw, .inl (cI, 150, .inl MOwy)), (hMOm, .inl (cI, 150, .inl s16.2))] [(0, .ref hMO), (1, .int (s9.1 + (-1))), (2, .int s6.2.1), (3, .int s9.2.1), (4, .int (s9.2.2 s9.2.1.toNatClampNeg)), (5, .int s16.1)] 138 [.int t22, .int s16.1, .ref hMOm] := by
                            obtain ⟨i23, h_55⟩ := ck_s h_53
                            refine j_iast (ws' := [(hMO, .inr (6, [.ref hMOz, .ref hMOa, .ref hMOb, .int MOst, .ref hMOk, .int MOik, .ref hMOt, .int MOln, .ref hMOo, .ref hMOw, .ref hMOm, .ref hMOq, .int MOpl, .int MOiw, .int MOle, .ref hMOn])), (hMOz, .inl (cI, 116, .inl MOza)), (hMOo, .inl (cI, 150, .inl MOon)), (hMOw, .inl (cI, 150, .inl MOwy)), (hMOm, .inl (cI, 150, .inl (upd s16.2 s16.1.toNatClampNeg t22)))]) (pc' := 139) cx 4 0 rfl rfl i23 rfl dX7_groups_138 rfl ?_
                            refine j_iinc (v := (s16.1 + 1)) (lv' := [(5, .int (s16.1 + 1)), (0, .ref hMO), (1, .int (s9.1 + (-1))), (2, .int s6.2.1), (3, .int s9.2.1), (4, .int (s9.2.2 s9.2.1.toNatClampNeg))]) (pc' := 142) cx 5 dX7_groups_139 rfl (kn_1 _) (by decide) rfl rfl ?_
                            refine j_goto (pc' := 92) cx dX7_groups_142 (by decide) ?_
                            have h_56 := so_i h_55
                            subst h_56
                            refine j_lv (lv' := [(0, .ref hMO), (1, .int (s9.1 + (-1))), (2, .int s6.2.1), (3, .int s9.2.1), (4, .int (s9.2.2 s9.2.1.toNatClampNeg)), (5, .int (s16.1 + 1))]) cx [1, 2, 3, 4, 5, 0] rfl ?_
                            exact ihe17 _ (se_l h_46)
                          refine j_icmp_ne (tgt := 131) (pc' := 122) cx dX7_groups_119 (by decide) rfl (fun ch_54 => ?_) (fun ch_54 => ?_)
                          · have h_57 := it_f h_54 ch_54
                            refine j_aload_n (pc' := 132) cx 0 dX7_groups_131 rfl rfl ?_
                            refine j_get (C := RX7) (T := TX7) (N := 16) (pc' := 135) cx uB_X7 0 rfl rfl 10 (by decide) wF_X7_31 (.ref hMOm) rfl dX7_groups_132 rfl ?_
                            refine j_iload (pc' := 137) cx 5 dX7_groups_135 rfl rfl ?_
                            obtain ⟨i20, h_58⟩ := ck_s h_57
                            refine j_iald (pc' := 138) cx 4 0 rfl rfl i20 dX7_groups_137 rfl ?_
                            have h_59 := so_i h_58
                            subst h_59
                            exact Kt22
                          · have h_60 := it_t h_54 ch_54
                            refine j_aload_n (pc' := 123) cx 0 dX7_groups_122 rfl rfl ?_
                            refine j_get (C := RX7) (T := TX7) (N := 16) (pc' := 126) cx uB_X7 0 rfl rfl 10 (by decide) wF_X7_31 (.ref hMOm) rfl dX7_groups_123 rfl ?_
                            refine j_iload_n (pc' := 127) cx 2 dX7_groups_126 rfl rfl ?_
                            obtain ⟨i21, h_61⟩ := ck_s h_60
                            refine j_iald (pc' := 128) cx 4 0 rfl rfl i21 dX7_groups_127 rfl ?_
                            refine j_goto (pc' := 138) cx dX7_groups_128 (by decide) ?_
                            have h_62 := so_i h_61
                            subst h_62
                            exact Kt22
                    refine j_lv (lv' := [(0, .ref hMO), (1, .int (s9.1 + (-1))), (2, .int s6.2.1), (3, .int s9.2.1), (4, .int (s9.2.2 s9.2.1.toNatClampNeg)), (5, .int 0)]) cx [3, 2, 4, 5, 1, 0] rfl ?_
                    exact LPe17 _ _ h_40
          refine j_lv (lv' := [(0, .ref hMO), (1, .int s6.1), (2, .int s6.2.1), (3, .int 0)]) cx [1, 2, 3, 0] rfl ?_
          exact LPe10 _ _ h_16
    refine j_lv (lv' := [(0, .ref hMO), (1, .int (MOza (25 : Int32).toNatClampNeg)), (2, .int 0)]) cx [2, 1, 0] rfl ?_
    exact LPe7 _ _ h_4
  have LPe2 : ∀ (n : Nat) (s1 : Int32 × (Nat → Int32)), lp (f_X7_groups_b1 MOza) n s1 = some e2 → j 0 0 [(hMO, .inr (6, [.ref hMOz, .ref hMOa, .ref hMOb, .int MOst, .ref hMOk, .int MOik, .ref hMOt, .int MOln, .ref hMOo, .ref hMOw, .ref hMOm, .ref hMOq, .int MOpl, .int MOiw, .int MOle, .ref hMOn])), (hMOz, .inl (cI, 116, .inl MOza)), (hMOo, .inl (cI, 150, .inl MOon)), (hMOw, .inl (cI, 150, .inl MOwy)), (hMOm, .inl (cI, 150, .inl s1.2))] [(0, .ref hMO), (1, .int s1.1)] 2 [] := by
    intro n
    induction n with
    | zero => intro s1 z; exact absurd z (by intro z; cases z)
    | succ n ihe2 =>
      intro s1 h_63
      obtain ⟨q_64, h_65, h_66⟩ := bd_s h_63
      unfold f_X7_groups_b1 at h_65
      refine j_iload_n (pc' := 3) cx 1 dX7_groups_2 rfl rfl ?_
      refine j_aload_n (pc' := 4) cx 0 dX7_groups_3 rfl rfl ?_
      refine j_get (C := RX7) (T := TX7) (N := 16) (pc' := 7) cx uB_X7 0 rfl rfl 0 (by decide) wF_X7_7 (.ref hMOz) rfl dX7_groups_4 rfl ?_
      refine j_bipush (pc' := 9) cx 25 dX7_groups_7 kb_25 rfl ?_
      obtain ⟨i3, h_67⟩ := ck_s h_65
      refine j_iald (pc' := 10) cx 1 0 rfl rfl i3 dX7_groups_9 rfl ?_
      refine j_icmp_ge (tgt := 26) (pc' := 13) cx dX7_groups_10 (by decide) rfl (fun ch_67 => ?_) (fun ch_67 => ?_)
      · have h_68 := it_t h_67 ch_67
        have h_69 := so_i h_68
        subst h_69
        have h_70 := so_i (se_r h_66)
        subst h_70
        refine j_lv (lv' := [(0, .ref hMO)]) cx [0] rfl ?_
        exact KXe2
      · have h_71 := it_f h_67 ch_67
        refine j_aload_n (pc' := 14) cx 0 dX7_groups_13 rfl rfl ?_
        refine j_get (C := RX7) (T := TX7) (N := 16) (pc' := 17) cx uB_X7 0 rfl rfl 10 (by decide) wF_X7_31 (.ref hMOm) rfl dX7_groups_14 rfl ?_
        refine j_iload_n (pc' := 18) cx 1 dX7_groups_17 rfl rfl ?_
        refine j_iload_n (pc' := 19) cx 1 dX7_groups_18 rfl rfl ?_
        obtain ⟨i4, h_72⟩ := ck_s h_71
        refine j_iast (ws' := [(hMO, .inr (6, [.ref hMOz, .ref hMOa, .ref hMOb, .int MOst, .ref hMOk, .int MOik, .ref hMOt, .int MOln, .ref hMOo, .ref hMOw, .ref hMOm, .ref hMOq, .int MOpl, .int MOiw, .int MOle, .ref hMOn])), (hMOz, .inl (cI, 116, .inl MOza)), (hMOo, .inl (cI, 150, .inl MOon)), (hMOw, .inl (cI, 150, .inl MOwy)), (hMOm, .inl (cI, 150, .inl (upd s1.2 s1.1.toNatClampNeg s1.1)))]) (pc' := 20) cx 4 0 rfl rfl i4 rfl dX7_groups_19 rfl ?_
        refine j_iinc (v := (s1.1 + 1)) (lv' := [(1, .int (s1.1 + 1)), (0, .ref hMO)]) (pc' := 23) cx 1 dX7_groups_20 rfl (kn_1 _) (by decide) rfl rfl ?_
        refine j_goto (pc' := 2) cx dX7_groups_23 (by decide) ?_
        have h_73 := so_i h_72
        subst h_73
        refine j_lv (lv' := [(0, .ref hMO), (1, .int (s1.1 + 1))]) cx [1, 0] rfl ?_
        exact ihe2 _ (se_l h_66)
  refine j_lv (lv' := [(0, .ref hMO), (1, .int 0)]) cx [1, 0] rfl ?_
  exact LPe2 _ _ h_1
set_option maxHeartbeats 4000000 in
set_option maxRecDepth 100000 in
theorem c_X7_alone (l : Launch) (D : va_G) (cI cZ cC cS : ClassId) (hMO hMOz hMOa hMOb hMOk hMOt hMOo hMOw hMOm hMOq hMOn : Nat) (MOst : Int32) (MOik : Int32) (MOln : Int32) (MOpl : Int32) (MOiw : Int32) (MOle : Int32) (MOza : Nat → Int32) (MOon : Nat → Int32) (MOwy : Nat → Int32) (out : Int32) (hm : f_X7_alone MOza MOon MOwy = some out) : Ct l yX7_alone cX7_alone 3 (some .int) ({ frames := 5, cells := 0, slots := 0, locals := 111 }) (D, TY cI cZ cC cS) [.ref hMO] [(hMO, .inr (6, [.ref hMOz, .ref hMOa, .ref hMOb, .int MOst, .ref hMOk, .int MOik, .ref hMOt, .int MOln, .ref hMOo, .ref hMOw, .ref hMOm, .ref hMOq, .int MOpl, .int MOiw, .int MOle, .ref hMOn])), (hMOz, .inl (cI, 116, .inl MOza)), (hMOo, .inl (cI, 150, .inl MOon)), (hMOw, .inl (cI, 150, .inl MOwy))] (jw_P (some (.int out)) [(hMO, .inr (6, [.ref hMOz, .ref hMOa, .ref hMOb, .int MOst, .ref hMOk, .int MOik, .ref hMOt, .int MOln, .ref hMOo, .ref hMOw, .ref hMOm, .ref hMOq, .int MOpl, .int MOiw, .int MOle, .ref hMOn])), (hMOz, .inl (cI, 116, .inl MOza)), (hMOo, .inl (cI, 150, .inl MOon)), (hMOw, .inl (cI, 150, .inl MOwy))]) 0 0 := by
  refine ct_of RX7 (by decide +kernel) rfl (Nat.le_of_ble_eq_true rfl) (fun j cx => ?_)
  unfold f_X7_alone at hm
  show j 0 0 [(hMO, .inr (6, [.ref hMOz, .ref hMOa, .ref hMOb, .int MOst, .ref hMOk, .int MOik, .ref hMOt, .int MOln, .ref hMOo, .ref hMOw, .ref hMOm, .ref hMOq, .int MOpl, .int MOiw, .int MOle, .ref hMOn])), (hMOz, .inl (cI, 116, .inl MOza)), (hMOo, .inl (cI, 150, .inl MOon)), (hMOw, .inl (cI, 150, .inl MOwy))] [(0, .ref hMO)] 0 []
  refine j_iconst (pc' := 1) cx 0 dX7_alone_0 ki_0 rfl ?_
  refine j_istore_n (lv' := [(1, .int 0), (0, .ref hMO)]) (pc' := 2) cx dX7_alone_1 (by decide) rfl rfl ?_
  refine j_iconst (pc' := 3) cx 0 dX7_alone_2 ki_0 rfl ?_
  refine j_istore_n (lv' := [(2, .int 0), (1, .int 0), (0, .ref hMO)]) (pc' := 4) cx dX7_alone_3 (by decide) rfl rfl ?_
  obtain ⟨e2, h_1, h_2⟩ := bd_s hm
  have KXe2 : j 0 0 [(hMO, .inr (6, [.ref hMOz, .ref hMOa, .ref hMOb, .int MOst, .ref hMOk, .int MOik, .ref hMOt, .int MOln, .ref hMOo, .ref hMOw, .ref hMOm, .ref hMOq, .int MOpl, .int MOiw, .int MOle, .ref hMOn])), (hMOz, .inl (cI, 116, .inl MOza)), (hMOo, .inl (cI, 150, .inl MOon)), (hMOw, .inl (cI, 150, .inl MOwy))] [(1, .int e2.1)] 37 [] := by
    refine j_iload_n (pc' := 38) cx 0 dX7_alone_37 rfl rfl ?_
    have h_3 := so_i h_2
    subst h_3
    exact j_ret cx (Or.inr (Or.inl ⟨_, _, rfl, rfl, dX7_alone_38, rfl, rfl⟩)) ⟨rfl, rfl⟩
  have LPe2 : ∀ (n : Nat) (s1 : Int32 × Int32), lp (f_X7_alone_b1 MOza MOon MOwy) n s1 = some e2 → j 0 0 [(hMO, .inr (6, [.ref hMOz, .ref hMOa, .ref hMOb, .int MOst, .ref hMOk, .int MOik, .ref hMOt, .int MOln, .ref hMOo, .ref hMOw, .ref hMOm, .ref hMOq, .int MOpl, .int MOiw, .int MOle, .ref hMOn])), (hMOz, .inl (cI, 116, .inl MOza)), (hMOo, .inl (cI, 150, .inl MOon)), (hMOw, .inl (cI, 150, .inl MOwy))] [(0, .ref hMO), (1, .int s1.1), (2, .int s1.2)] 4 [] := by
    intro n
    induction n with
    | zero => intro s1 z; exact absurd z (by intro z; cases z)
    | succ n ihe2 =>
      intro s1 h_4
      obtain ⟨q_5, h_6, h_7⟩ := bd_s h_4
      unfold f_X7_alone_b1 at h_6
      refine j_iload_n (pc' := 5) cx 2 dX7_alone_4 rfl rfl ?_
      refine j_aload_n (pc' := 6) cx 0 dX7_alone_5 rfl rfl ?_
      refine j_get (C := RX7) (T := TX7) (N := 16) (pc' := 9) cx uB_X7 0 rfl rfl 0 (by decide) wF_X7_7 (.ref hMOz) rfl dX7_alone_6 rfl ?_
      refine j_bipush (pc' := 11) cx 25 dX7_alone_9 kb_25 rfl ?_
      obtain ⟨i3, h_8⟩ := ck_s h_6
      refine j_iald (pc' := 12) cx 1 0 rfl rfl i3 dX7_alone_11 rfl ?_
      refine j_icmp_ge (tgt := 37) (pc' := 15) cx dX7_alone_12 (by decide) rfl (fun ch_8 => ?_) (fun ch_8 => ?_)
      · have h_9 := it_t h_8 ch_8
        have h_10 := so_i h_9
        subst h_10
        have h_11 := so_i (se_r h_7)
        subst h_11
        refine j_lv (lv' := [(1, .int s1.1)]) cx [1] rfl ?_
        exact KXe2
      · have h_12 := it_f h_8 ch_8
        refine j_iload_n (pc' := 16) cx 1 dX7_alone_15 rfl rfl ?_
        refine j_aload_n (pc' := 17) cx 0 dX7_alone_16 rfl rfl ?_
        refine j_iload_n (pc' := 18) cx 2 dX7_alone_17 rfl rfl ?_
        obtain ⟨r4, c5, h_13⟩ := bd_s h_12
        refine j_cV (pc' := 21) cx (c_X7_touchesOf l D cI cZ cC cS hMO hMOz hMOa hMOb hMOk hMOt hMOo hMOw hMOm hMOq hMOn MOst MOik MOln MOpl MOiw MOle MOza MOon MOwy s1.2 r4 c5) 1 yk_X7_touchesOf wM_X7_183 ⟨wN_X7_touchesOf, wS_X7_touchesOf, wI_X7, wC_X7_touchesOf⟩ ⟨rfl, rfl, Nat.le_of_ble_eq_true rfl, Nat.le_of_ble_eq_true rfl, Nat.le_of_ble_eq_true rfl, Nat.le_of_ble_eq_true rfl⟩ [0, 1, 2, 3] [] [0, 1, 2, 3] rfl [] rfl (by decide) [(hMO, .inr (6, [.ref hMOz, .ref hMOa, .ref hMOb, .int MOst, .ref hMOk, .int MOik, .ref hMOt, .int MOln, .ref hMOo, .ref hMOw, .ref hMOm, .ref hMOq, .int MOpl, .int MOiw, .int MOle, .ref hMOn])), (hMOz, .inl (cI, 116, .inl MOza)), (hMOo, .inl (cI, 150, .inl MOon)), (hMOw, .inl (cI, 150, .inl MOwy))] rfl (by decide) 0 6 rfl rfl rfl rfl rfl (Nat.le_of_ble_eq_true rfl) dX7_alone_18 rfl ?_
        obtain ⟨t6, h_15, h_14⟩ := bd_s h_13
        have Kt6 : j 0 0 [(hMO, .inr (6, [.ref hMOz, .ref hMOa, .ref hMOb, .int MOst, .ref hMOk, .int MOik, .ref hMOt, .int MOln, .ref hMOo, .ref hMOw, .ref hMOm, .ref hMOq, .int MOpl, .int MOiw, .int MOle, .ref hMOn])), (hMOz, .inl (cI, 116, .inl MOza)), (hMOo, .inl (cI, 150, .inl MOon)), (hMOw, .inl (cI, 150, .inl MOwy))] [(0, .ref hMO), (2, .int s1.2)] 29 [.int t6, .int s1.1] := by
          refine j_iadd (pc' := 30) cx dX7_alone_29 rfl ?_
          refine j_istore_n (lv' := [(1, .int (s1.1 + t6)), (0, .ref hMO), (2, .int s1.2)]) (pc' := 31) cx dX7_alone_30 (by decide) rfl rfl ?_
          refine j_iinc (v := (s1.2 + 1)) (lv' := [(2, .int (s1.2 + 1)), (1, .int (s1.1 + t6)), (0, .ref hMO)]) (pc' := 34) cx 2 dX7_alone_31 rfl (kn_1 _) (by decide) rfl rfl ?_
          refine j_goto (pc' := 4) cx dX7_alone_34 (by decide) ?_
          have h_16 := so_i h_14
          subst h_16
          refine j_lv (lv' := [(0, .ref hMO), (1, .int (s1.1 + t6)), (2, .int (s1.2 + 1))]) cx [2, 1, 0] rfl ?_
          exact ihe2 _ (se_l h_7)
        refine j_if_ne (tgt := 28) (pc' := 24) cx dX7_alone_21 (by decide) rfl (fun ch_15 => ?_) (fun ch_15 => ?_)
        · have h_17 := it_f h_15 ch_15
          refine j_iconst (pc' := 29) cx 0 dX7_alone_28 ki_0 rfl ?_
          have h_18 := so_i h_17
          subst h_18
          refine j_lv (lv' := [(0, .ref hMO), (2, .int s1.2)]) cx [0, 2] rfl ?_
          exact Kt6
        · have h_19 := it_t h_15 ch_15
          refine j_iconst (pc' := 25) cx 1 dX7_alone_24 ki_1 rfl ?_
          refine j_goto (pc' := 29) cx dX7_alone_25 (by decide) ?_
          have h_20 := so_i h_19
          subst h_20
          refine j_lv (lv' := [(0, .ref hMO), (2, .int s1.2)]) cx [0, 2] rfl ?_
          exact Kt6
  refine j_lv (lv' := [(0, .ref hMO), (1, .int 0), (2, .int 0)]) cx [2, 1, 0] rfl ?_
  exact LPe2 _ _ h_1
set_option maxHeartbeats 4000000 in
set_option maxRecDepth 100000 in
theorem c_X7_total (l : Launch) (D : va_G) (cI cZ cC cS : ClassId) (hMO hMOz hMOa hMOb hMOk hMOt hMOo hMOw hMOm hMOq hMOn : Nat) (MOst : Int32) (MOik : Int32) (MOln : Int32) (MOpl : Int32) (MOiw : Int32) (MOle : Int32) (MOza : Nat → Int32) (MOon : Nat → Int32) (MOwy : Nat → Int32) (MOmk : Nat → Int32) (MOqu : Nat → Int32) (p0 : Int32) (out : Int32 × (Nat → Int32) × (Nat → Int32)) (hm : f_X7_total MOst MOln MOza MOon MOwy MOmk MOqu p0 = some out) : Ct l yX7_total cX7_total 2 (some .int) ({ frames := 6, cells := 0, slots := 0, locals := 133 }) (D, TY cI cZ cC cS) [.ref hMO, .int p0] [(hMO, .inr (6, [.ref hMOz, .ref hMOa, .ref hMOb, .int MOst, .ref hMOk, .int MOik, .ref hMOt, .int MOln, .ref hMOo, .ref hMOw, .ref hMOm, .ref hMOq, .int MOpl, .int MOiw, .int MOle, .ref hMOn])), (hMOz, .inl (cI, 116, .inl MOza)), (hMOo, .inl (cI, 150, .inl MOon)), (hMOw, .inl (cI, 150, .inl MOwy)), (hMOm, .inl (cI, 150, .inl MOmk)), (hMOq, .inl (cI, 150, .inl MOqu))] (jw_P (some (.int out.1)) [(hMO, .inr (6, [.ref hMOz, .ref hMOa, .ref hMOb, .int MOst, .ref hMOk, .int MOik, .ref hMOt, .int MOln, .ref hMOo, .ref hMOw, .ref hMOm, .ref hMOq, .int MOpl, .int MOiw, .int MOle, .ref hMOn])), (hMOz, .inl (cI, 116, .inl MOza)), (hMOo, .inl (cI, 150, .inl MOon)), (hMOw, .inl (cI, 150, .inl MOwy)), (hMOm, .inl (cI, 150, .inl out.2.1)), (hMOq, .inl (cI, 150, .inl out.2.2))]) 0 0 := by
  refine ct_of RX7 (by decide +kernel) rfl (Nat.le_of_ble_eq_true rfl) (fun j cx => ?_)
  unfold f_X7_total at hm
  show j 0 0 [(hMO, .inr (6, [.ref hMOz, .ref hMOa, .ref hMOb, .int MOst, .ref hMOk, .int MOik, .ref hMOt, .int MOln, .ref hMOo, .ref hMOw, .ref hMOm, .ref hMOq, .int MOpl, .int MOiw, .int MOle, .ref hMOn])), (hMOz, .inl (cI, 116, .inl MOza)), (hMOo, .inl (cI, 150, .inl MOon)), (hMOw, .inl (cI, 150, .inl MOwy)), (hMOm, .inl (cI, 150, .inl MOmk)), (hMOq, .inl (cI, 150, .inl MOqu))] [(0, .ref hMO), (1, .int p0)] 0 []
  refine j_iload_n (pc' := 1) cx 1 dX7_total_0 rfl rfl ?_
  by_cases k_1 : p0 = 0
  · have h_2 := it_t hm k_1
    refine j_tab_in (tgt := 60) cx dX7_total_1 k_1 (by decide +kernel) (by decide +kernel) (by first | rfl | decide +kernel) (by decide) ?_
    refine j_aload_n (pc' := 61) cx 0 dX7_total_60 rfl rfl ?_
    refine j_get (C := RX7) (T := TX7) (N := 16) (pc' := 64) cx uB_X7 0 rfl rfl 0 (by decide) wF_X7_7 (.ref hMOz) rfl dX7_total_61 rfl ?_
    refine j_bipush (pc' := 66) cx 25 dX7_total_64 kb_25 rfl ?_
    obtain ⟨i1, h_3⟩ := ck_s h_2
    refine j_iald (pc' := 67) cx 1 0 rfl rfl i1 dX7_total_66 rfl ?_
    have h_4 := so_i h_3
    subst h_4
    exact j_ret cx (Or.inr (Or.inl ⟨_, _, rfl, rfl, dX7_total_67, rfl, rfl⟩)) ⟨rfl, rfl⟩
  · have h_5 := it_f hm k_1
    by_cases k_6 : p0 = 1
    · have h_7 := it_t h_5 k_6
      refine j_tab_in (tgt := 68) cx dX7_total_1 k_6 (by decide +kernel) (by decide +kernel) (by first | rfl | decide +kernel) (by decide) ?_
      refine j_aload_n (pc' := 69) cx 0 dX7_total_68 rfl rfl ?_
      refine j_get (C := RX7) (T := TX7) (N := 16) (pc' := 72) cx uB_X7 0 rfl rfl 0 (by decide) wF_X7_7 (.ref hMOz) rfl dX7_total_69 rfl ?_
      refine j_bipush (pc' := 74) cx 24 dX7_total_72 kb_24 rfl ?_
      obtain ⟨i2, h_8⟩ := ck_s h_7
      refine j_iald (pc' := 75) cx 1 0 rfl rfl i2 dX7_total_74 rfl ?_
      have h_9 := so_i h_8
      subst h_9
      exact j_ret cx (Or.inr (Or.inl ⟨_, _, rfl, rfl, dX7_total_75, rfl, rfl⟩)) ⟨rfl, rfl⟩
    · have h_10 := it_f h_5 k_6
      by_cases k_11 : p0 = 2
      · have h_12 := it_t h_10 k_11
        refine j_tab_in (tgt := 76) cx dX7_total_1 k_11 (by decide +kernel) (by decide +kernel) (by first | rfl | decide +kernel) (by decide) ?_
        refine j_sipush (pc' := 79) cx 150 dX7_total_76 ks_150 rfl ?_
        refine j_iconst (pc' := 80) cx 5 dX7_total_79 ki_5 rfl ?_
        refine j_aload_n (pc' := 81) cx 0 dX7_total_80 rfl rfl ?_
        refine j_get (C := RX7) (T := TX7) (N := 16) (pc' := 84) cx uB_X7 0 rfl rfl 0 (by decide) wF_X7_7 (.ref hMOz) rfl dX7_total_81 rfl ?_
        refine j_bipush (pc' := 86) cx 25 dX7_total_84 kb_25 rfl ?_
        obtain ⟨i3, h_13⟩ := ck_s h_12
        refine j_iald (pc' := 87) cx 1 0 rfl rfl i3 dX7_total_86 rfl ?_
        refine j_imul (pc' := 88) cx dX7_total_87 rfl ?_
        refine j_isub (pc' := 89) cx dX7_total_88 rfl ?_
        have h_14 := so_i h_13
        subst h_14
        exact j_ret cx (Or.inr (Or.inl ⟨_, _, rfl, rfl, dX7_total_89, rfl, rfl⟩)) ⟨rfl, rfl⟩
      · have h_15 := it_f h_10 k_11
        by_cases k_16 : p0 = 3
        · have h_17 := it_t h_15 k_16
          refine j_tab_in (tgt := 90) cx dX7_total_1 k_16 (by decide +kernel) (by decide +kernel) (by first | rfl | decide +kernel) (by decide) ?_
          refine j_aload_n (pc' := 91) cx 0 dX7_total_90 rfl rfl ?_
          refine j_iconst (pc' := 92) cx 0 dX7_total_91 ki_0 rfl ?_
          obtain ⟨r4, c5, h_18⟩ := bd_s h_17
          refine j_cV (pc' := 95) cx (c_X7_allTouches l D cI cZ cC cS hMO hMOz hMOa hMOb hMOk hMOt hMOo hMOw hMOm hMOq hMOn MOst MOik MOln MOpl MOiw MOle MOza MOon MOwy 0 r4 c5) 1 yk_X7_allTouches wM_X7_198 ⟨wN_X7_allTouches, wS_X7_allTouches, wI_X7, wC_X7_allTouches⟩ ⟨rfl, rfl, Nat.le_of_ble_eq_true rfl, Nat.le_of_ble_eq_true rfl, Nat.le_of_ble_eq_true rfl, Nat.le_of_ble_eq_true rfl⟩ [0, 1, 2, 3] [4, 5] [2, 3, 4, 5, 0, 1] rfl [(hMOm, .inl (cI, 150, .inl MOmk)), (hMOq, .inl (cI, 150, .inl MOqu))] rfl (by decide) [(hMO, .inr (6, [.ref hMOz, .ref hMOa, .ref hMOb, .int MOst, .ref hMOk, .int MOik, .ref hMOt, .int MOln, .ref hMOo, .ref hMOw, .ref hMOm, .ref hMOq, .int MOpl, .int MOiw, .int MOle, .ref hMOn])), (hMOz, .inl (cI, 116, .inl MOza)), (hMOo, .inl (cI, 150, .inl MOon)), (hMOw, .inl (cI, 150, .inl MOwy)), (hMOm, .inl (cI, 150, .inl MOmk)), (hMOq, .inl (cI, 150, .inl MOqu))] rfl (by decide) 0 6 rfl rfl rfl rfl rfl (Nat.le_of_ble_eq_true rfl) dX7_total_92 rfl ?_
          have h_19 := so_i h_18
          subst h_19
          exact j_ret cx (Or.inr (Or.inl ⟨_, _, rfl, rfl, dX7_total_95, rfl, rfl⟩)) ⟨rfl, rfl⟩
        · have h_20 := it_f h_15 k_16
          by_cases k_21 : p0 = 4
          · have h_22 := it_t h_20 k_21
            refine j_tab_in (tgt := 96) cx dX7_total_1 k_21 (by decide +kernel) (by decide +kernel) (by first | rfl | decide +kernel) (by decide) ?_
            refine j_aload_n (pc' := 97) cx 0 dX7_total_96 rfl rfl ?_
            refine j_iconst (pc' := 98) cx 1 dX7_total_97 ki_1 rfl ?_
            obtain ⟨r6, c7, h_23⟩ := bd_s h_22
            refine j_cV (pc' := 101) cx (c_X7_allTouches l D cI cZ cC cS hMO hMOz hMOa hMOb hMOk hMOt hMOo hMOw hMOm hMOq hMOn MOst MOik MOln MOpl MOiw MOle MOza MOon MOwy 1 r6 c7) 1 yk_X7_allTouches wM_X7_198 ⟨wN_X7_allTouches, wS_X7_allTouches, wI_X7, wC_X7_allTouches⟩ ⟨rfl, rfl, Nat.le_of_ble_eq_true rfl, Nat.le_of_ble_eq_true rfl, Nat.le_of_ble_eq_true rfl, Nat.le_of_ble_eq_true rfl⟩ [0, 1, 2, 3] [4, 5] [2, 3, 4, 5, 0, 1] rfl [(hMOm, .inl (cI, 150, .inl MOmk)), (hMOq, .inl (cI, 150, .inl MOqu))] rfl (by decide) [(hMO, .inr (6, [.ref hMOz, .ref hMOa, .ref hMOb, .int MOst, .ref hMOk, .int MOik, .ref hMOt, .int MOln, .ref hMOo, .ref hMOw, .ref hMOm, .ref hMOq, .int MOpl, .int MOiw, .int MOle, .ref hMOn])), (hMOz, .inl (cI, 116, .inl MOza)), (hMOo, .inl (cI, 150, .inl MOon)), (hMOw, .inl (cI, 150, .inl MOwy)), (hMOm, .inl (cI, 150, .inl MOmk)), (hMOq, .inl (cI, 150, .inl MOqu))] rfl (by decide) 0 6 rfl rfl rfl rfl rfl (Nat.le_of_ble_eq_true rfl) dX7_total_98 rfl ?_
            have h_24 := so_i h_23
            subst h_24
            exact j_ret cx (Or.inr (Or.inl ⟨_, _, rfl, rfl, dX7_total_101, rfl, rfl⟩)) ⟨rfl, rfl⟩
          · have h_25 := it_f h_20 k_21
            by_cases k_26 : p0 = 5
            · have h_27 := it_t h_25 k_26
              refine j_tab_in (tgt := 102) cx dX7_total_1 k_26 (by decide +kernel) (by decide +kernel) (by first | rfl | decide +kernel) (by decide) ?_
              refine j_aload_n (pc' := 103) cx 0 dX7_total_102 rfl rfl ?_
              refine j_iconst (pc' := 104) cx 0 dX7_total_103 ki_0 rfl ?_
              obtain ⟨r8, c9, h_28⟩ := bd_s h_27
              refine j_cV (pc' := 107) cx (c_X7_regions l D cI cZ cC cS hMO hMOz hMOa hMOb hMOk hMOt hMOo hMOw hMOm hMOq hMOn MOst MOik MOln MOpl MOiw MOle MOon MOmk MOqu 0 r8 c9) 1 yk_X7_regions wM_X7_202 ⟨wN_X7_regions, wS_X7_regions, wI_X7, wC_X7_regions⟩ ⟨rfl, rfl, Nat.le_of_ble_eq_true rfl, Nat.le_of_ble_eq_true rfl, Nat.le_of_ble_eq_true rfl, Nat.le_of_ble_eq_true rfl⟩ [0, 2, 4, 5] [1, 3] [2, 0, 3, 1, 4, 5] rfl [(hMOz, .inl (cI, 116, .inl MOza)), (hMOw, .inl (cI, 150, .inl MOwy))] rfl (by decide) [(hMO, .inr (6, [.ref hMOz, .ref hMOa, .ref hMOb, .int MOst, .ref hMOk, .int MOik, .ref hMOt, .int MOln, .ref hMOo, .ref hMOw, .ref hMOm, .ref hMOq, .int MOpl, .int MOiw, .int MOle, .ref hMOn])), (hMOz, .inl (cI, 116, .inl MOza)), (hMOo, .inl (cI, 150, .inl MOon)), (hMOw, .inl (cI, 150, .inl MOwy)), (hMOm, .inl (cI, 150, .inl r8.2.1)), (hMOq, .inl (cI, 150, .inl r8.2.2))] rfl (by decide) 0 6 rfl rfl rfl rfl rfl (Nat.le_of_ble_eq_true rfl) dX7_total_104 rfl ?_
              have h_29 := so_i h_28
              subst h_29
              exact j_ret cx (Or.inr (Or.inl ⟨_, _, rfl, rfl, dX7_total_107, rfl, rfl⟩)) ⟨rfl, rfl⟩
            · have h_30 := it_f h_25 k_26
              by_cases k_31 : p0 = 6
              · have h_32 := it_t h_30 k_31
                refine j_tab_in (tgt := 108) cx dX7_total_1 k_31 (by decide +kernel) (by decide +kernel) (by first | rfl | decide +kernel) (by decide) ?_
                refine j_aload_n (pc' := 109) cx 0 dX7_total_108 rfl rfl ?_
                refine j_iconst (pc' := 110) cx 1 dX7_total_109 ki_1 rfl ?_
                obtain ⟨r10, c11, h_33⟩ := bd_s h_32
                refine j_cV (pc' := 113) cx (c_X7_regions l D cI cZ cC cS hMO hMOz hMOa hMOb hMOk hMOt hMOo hMOw hMOm hMOq hMOn MOst MOik MOln MOpl MOiw MOle MOon MOmk MOqu 1 r10 c11) 1 yk_X7_regions wM_X7_202 ⟨wN_X7_regions, wS_X7_regions, wI_X7, wC_X7_regions⟩ ⟨rfl, rfl, Nat.le_of_ble_eq_true rfl, Nat.le_of_ble_eq_true rfl, Nat.le_of_ble_eq_true rfl, Nat.le_of_ble_eq_true rfl⟩ [0, 2, 4, 5] [1, 3] [2, 0, 3, 1, 4, 5] rfl [(hMOz, .inl (cI, 116, .inl MOza)), (hMOw, .inl (cI, 150, .inl MOwy))] rfl (by decide) [(hMO, .inr (6, [.ref hMOz, .ref hMOa, .ref hMOb, .int MOst, .ref hMOk, .int MOik, .ref hMOt, .int MOln, .ref hMOo, .ref hMOw, .ref hMOm, .ref hMOq, .int MOpl, .int MOiw, .int MOle, .ref hMOn])), (hMOz, .inl (cI, 116, .inl MOza)), (hMOo, .inl (cI, 150, .inl MOon)), (hMOw, .inl (cI, 150, .inl MOwy)), (hMOm, .inl (cI, 150, .inl r10.2.1)), (hMOq, .inl (cI, 150, .inl r10.2.2))] rfl (by decide) 0 6 rfl rfl rfl rfl rfl (Nat.le_of_ble_eq_true rfl) dX7_total_110 rfl ?_
                have h_34 := so_i h_33
                subst h_34
                exact j_ret cx (Or.inr (Or.inl ⟨_, _, rfl, rfl, dX7_total_113, rfl, rfl⟩)) ⟨rfl, rfl⟩
              · have h_35 := it_f h_30 k_31
                by_cases k_36 : p0 = 7
                · have h_37 := it_t h_35 k_36
                  refine j_tab_in (tgt := 114) cx dX7_total_1 k_36 (by decide +kernel) (by decide +kernel) (by first | rfl | decide +kernel) (by decide) ?_
                  refine j_aload_n (pc' := 115) cx 0 dX7_total_114 rfl rfl ?_
                  obtain ⟨r12, c13, h_38⟩ := bd_s h_37
                  refine j_cV (pc' := 118) cx (c_X7_groups l D cI cZ cC cS hMO hMOz hMOa hMOb hMOk hMOt hMOo hMOw hMOm hMOq hMOn MOst MOik MOln MOpl MOiw MOle MOza MOon MOwy MOmk r12 c13) 0 yk_X7_groups wM_X7_205 ⟨wN_X7_groups, wS_X7_groups, wI_X7, wC_X7_groups⟩ ⟨rfl, rfl, Nat.le_of_ble_eq_true rfl, Nat.le_of_ble_eq_true rfl, Nat.le_of_ble_eq_true rfl, Nat.le_of_ble_eq_true rfl⟩ [0, 1, 2, 3, 4] [5] [1, 2, 3, 4, 5, 0] rfl [(hMOq, .inl (cI, 150, .inl MOqu))] rfl (by decide) [(hMO, .inr (6, [.ref hMOz, .ref hMOa, .ref hMOb, .int MOst, .ref hMOk, .int MOik, .ref hMOt, .int MOln, .ref hMOo, .ref hMOw, .ref hMOm, .ref hMOq, .int MOpl, .int MOiw, .int MOle, .ref hMOn])), (hMOz, .inl (cI, 116, .inl MOza)), (hMOo, .inl (cI, 150, .inl MOon)), (hMOw, .inl (cI, 150, .inl MOwy)), (hMOm, .inl (cI, 150, .inl r12.2)), (hMOq, .inl (cI, 150, .inl MOqu))] rfl (by decide) 0 6 rfl rfl rfl rfl rfl (Nat.le_of_ble_eq_true rfl) dX7_total_115 rfl ?_
                  have h_39 := so_i h_38
                  subst h_39
                  exact j_ret cx (Or.inr (Or.inl ⟨_, _, rfl, rfl, dX7_total_118, rfl, rfl⟩)) ⟨rfl, rfl⟩
                · have h_40 := it_f h_35 k_36
                  by_cases k_41 : p0 = 8
                  · have h_42 := it_t h_40 k_41
                    refine j_tab_in (tgt := 119) cx dX7_total_1 k_41 (by decide +kernel) (by decide +kernel) (by first | rfl | decide +kernel) (by decide) ?_
                    refine j_aload_n (pc' := 120) cx 0 dX7_total_119 rfl rfl ?_
                    obtain ⟨r14, c15, h_43⟩ := bd_s h_42
                    refine j_cV (pc' := 123) cx (c_X7_alone l D cI cZ cC cS hMO hMOz hMOa hMOb hMOk hMOt hMOo hMOw hMOm hMOq hMOn MOst MOik MOln MOpl MOiw MOle MOza MOon MOwy r14 c15) 0 yk_X7_alone wM_X7_208 ⟨wN_X7_alone, wS_X7_alone, wI_X7, wC_X7_alone⟩ ⟨rfl, rfl, Nat.le_of_ble_eq_true rfl, Nat.le_of_ble_eq_true rfl, Nat.le_of_ble_eq_true rfl, Nat.le_of_ble_eq_true rfl⟩ [0, 1, 2, 3] [4, 5] [2, 3, 4, 5, 0, 1] rfl [(hMOm, .inl (cI, 150, .inl MOmk)), (hMOq, .inl (cI, 150, .inl MOqu))] rfl (by decide) [(hMO, .inr (6, [.ref hMOz, .ref hMOa, .ref hMOb, .int MOst, .ref hMOk, .int MOik, .ref hMOt, .int MOln, .ref hMOo, .ref hMOw, .ref hMOm, .ref hMOq, .int MOpl, .int MOiw, .int MOle, .ref hMOn])), (hMOz, .inl (cI, 116, .inl MOza)), (hMOo, .inl (cI, 150, .inl MOon)), (hMOw, .inl (cI, 150, .inl MOwy)), (hMOm, .inl (cI, 150, .inl MOmk)), (hMOq, .inl (cI, 150, .inl MOqu))] rfl (by decide) 0 6 rfl rfl rfl rfl rfl (Nat.le_of_ble_eq_true rfl) dX7_total_120 rfl ?_
                    have h_44 := so_i h_43
                    subst h_44
                    exact j_ret cx (Or.inr (Or.inl ⟨_, _, rfl, rfl, dX7_total_123, rfl, rfl⟩)) ⟨rfl, rfl⟩
                  · have h_45 := it_f h_40 k_41
                    by_cases k_46 : p0 = 9
                    · have h_47 := it_t h_45 k_46
                      refine j_tab_in (tgt := 124) cx dX7_total_1 k_46 (by decide +kernel) (by decide +kernel) (by first | rfl | decide +kernel) (by decide) ?_
                      refine j_aload_n (pc' := 125) cx 0 dX7_total_124 rfl rfl ?_
                      refine j_get (C := RX7) (T := TX7) (N := 16) (pc' := 128) cx uB_X7 0 rfl rfl 3 (by decide) wF_X7_82 (.int MOst) rfl dX7_total_125 rfl ?_
                      have h_48 := so_i h_47
                      subst h_48
                      exact j_ret cx (Or.inr (Or.inl ⟨_, _, rfl, rfl, dX7_total_128, rfl, rfl⟩)) ⟨rfl, rfl⟩
                    · have h_49 := it_f h_45 k_46
                      by_cases k_50 : p0 = 10
                      · have h_51 := it_t h_49 k_50
                        refine j_tab_in (tgt := 129) cx dX7_total_1 k_50 (by decide +kernel) (by decide +kernel) (by first | rfl | decide +kernel) (by decide) ?_
                        refine j_aload_n (pc' := 130) cx 0 dX7_total_129 rfl rfl ?_
                        refine j_get (C := RX7) (T := TX7) (N := 16) (pc' := 133) cx uB_X7 0 rfl rfl 7 (by decide) wF_X7_139 (.int MOln) rfl dX7_total_130 rfl ?_
                        have h_52 := so_i h_51
                        subst h_52
                        exact j_ret cx (Or.inr (Or.inl ⟨_, _, rfl, rfl, dX7_total_133, rfl, rfl⟩)) ⟨rfl, rfl⟩
                      · have h_53 := it_f h_49 k_50
                        refine j_tab_out (tgt := 134) cx dX7_total_1 (fun n n1 n2 => ?_) (by decide) ?_
                        · have n3 : n = 0 ∨ n = 1 ∨ n = 2 ∨ n = 3 ∨ n = 4 ∨ n = 5 ∨ n = 6 ∨ n = 7 ∨ n = 8 ∨ n = 9 ∨ n = 10 := by omega
                          rcases n3 with rfl | rfl | rfl | rfl | rfl | rfl | rfl | rfl | rfl | rfl | rfl
                          · exact k_1
                          · exact k_6
                          · exact k_11
                          · exact k_16
                          · exact k_21
                          · exact k_26
                          · exact k_31
                          · exact k_36
                          · exact k_41
                          · exact k_46
                          · exact k_50
                        · skip
                          refine j_bipush (pc' := 136) cx (-2) dX7_total_134 kb_m2 rfl ?_
                          have h_54 := so_i h_53
                          subst h_54
                          exact j_ret cx (Or.inr (Or.inl ⟨_, _, rfl, rfl, dX7_total_136, rfl, rfl⟩)) ⟨rfl, rfl⟩
set_option maxHeartbeats 4000000 in
set_option maxRecDepth 100000 in
theorem c_X7_reason (l : Launch) (D : va_G) (cI cZ cC cS : ClassId) (hMO hMOz hMOa hMOb hMOk hMOt hMOo hMOw hMOm hMOq hMOn : Nat) (MOst : Int32) (MOik : Int32) (MOln : Int32) (MOpl : Int32) (MOiw : Int32) (MOle : Int32) (MOza : Nat → Int32) (MOon : Nat → Int32) (MOwy : Nat → Int32) (p0 : Int32) (p1 : Int32) (p2 : Int32) (out : Int32) (hm : f_X7_reason MOza MOon MOwy p0 p1 p2 = some out) : Ct l yX7_reason cX7_reason 4 (some .int) ({ frames := 5, cells := 0, slots := 0, locals := 119 }) (D, TY cI cZ cC cS) [.ref hMO, .int p0, .int p1, .int p2] [(hMO, .inr (6, [.ref hMOz, .ref hMOa, .ref hMOb, .int MOst, .ref hMOk, .int MOik, .ref hMOt, .int MOln, .ref hMOo, .ref hMOw, .ref hMOm, .ref hMOq, .int MOpl, .int MOiw, .int MOle, .ref hMOn])), (hMOz, .inl (cI, 116, .inl MOza)), (hMOo, .inl (cI, 150, .inl MOon)), (hMOw, .inl (cI, 150, .inl MOwy))] (jw_P (some (.int out)) [(hMO, .inr (6, [.ref hMOz, .ref hMOa, .ref hMOb, .int MOst, .ref hMOk, .int MOik, .ref hMOt, .int MOln, .ref hMOo, .ref hMOw, .ref hMOm, .ref hMOq, .int MOpl, .int MOiw, .int MOle, .ref hMOn])), (hMOz, .inl (cI, 116, .inl MOza)), (hMOo, .inl (cI, 150, .inl MOon)), (hMOw, .inl (cI, 150, .inl MOwy))]) 0 0 := by
  refine ct_of RX7 (by decide +kernel) rfl (Nat.le_of_ble_eq_true rfl) (fun j cx => ?_)
  unfold f_X7_reason at hm
  show j 0 0 [(hMO, .inr (6, [.ref hMOz, .ref hMOa, .ref hMOb, .int MOst, .ref hMOk, .int MOik, .ref hMOt, .int MOln, .ref hMOo, .ref hMOw, .ref hMOm, .ref hMOq, .int MOpl, .int MOiw, .int MOle, .ref hMOn])), (hMOz, .inl (cI, 116, .inl MOza)), (hMOo, .inl (cI, 150, .inl MOon)), (hMOw, .inl (cI, 150, .inl MOwy))] [(0, .ref hMO), (1, .int p0), (2, .int p1), (3, .int p2)] 0 []
  refine j_iload_n (pc' := 1) cx 1 dX7_reason_0 rfl rfl ?_
  obtain ⟨r1, c2, h_1⟩ := bd_s hm
  refine j_cS (pc' := 4) cx (c_X7_isKind l D cI cZ cC cS p0 r1 c2) 1 yk_X7_isKind wM_X7_101 ⟨wT_X7_isKind, wI_X7, wC_X7_isKind⟩ ⟨rfl, rfl, Nat.le_of_ble_eq_true rfl, Nat.le_of_ble_eq_true rfl, Nat.le_of_ble_eq_true rfl, Nat.le_of_ble_eq_true rfl⟩ [] [0, 1, 2, 3] [0, 1, 2, 3] rfl [(hMO, .inr (6, [.ref hMOz, .ref hMOa, .ref hMOb, .int MOst, .ref hMOk, .int MOik, .ref hMOt, .int MOln, .ref hMOo, .ref hMOw, .ref hMOm, .ref hMOq, .int MOpl, .int MOiw, .int MOle, .ref hMOn])), (hMOz, .inl (cI, 116, .inl MOza)), (hMOo, .inl (cI, 150, .inl MOon)), (hMOw, .inl (cI, 150, .inl MOwy))] rfl (by decide) [(hMO, .inr (6, [.ref hMOz, .ref hMOa, .ref hMOb, .int MOst, .ref hMOk, .int MOik, .ref hMOt, .int MOln, .ref hMOo, .ref hMOw, .ref hMOm, .ref hMOq, .int MOpl, .int MOiw, .int MOle, .ref hMOn])), (hMOz, .inl (cI, 116, .inl MOza)), (hMOo, .inl (cI, 150, .inl MOon)), (hMOw, .inl (cI, 150, .inl MOwy))] rfl (by decide) rfl rfl (Nat.le_of_ble_eq_true rfl) dX7_reason_1 rfl ?_
  refine j_if_eq (tgt := 14) (pc' := 7) cx dX7_reason_4 (by decide) rfl (fun ch_1 => ?_) (fun ch_1 => ?_)
  · have h_2 := it_t h_1 ch_1
    refine j_iconst (pc' := 15) cx (-1) dX7_reason_14 ki_m1 rfl ?_
    have h_3 := so_i h_2
    subst h_3
    exact j_ret cx (Or.inr (Or.inl ⟨_, _, rfl, rfl, dX7_reason_15, rfl, rfl⟩)) ⟨rfl, rfl⟩
  · have h_4 := it_f h_1 ch_1
    refine j_iload_n (pc' := 8) cx 3 dX7_reason_7 rfl rfl ?_
    obtain ⟨r3, c4, h_5⟩ := bd_s h_4
    refine j_cS (pc' := 11) cx (c_X7_isCell l D cI cZ cC cS p2 r3 c4) 1 yk_X7_isCell wM_X7_113 ⟨wT_X7_isCell, wI_X7, wC_X7_isCell⟩ ⟨rfl, rfl, Nat.le_of_ble_eq_true rfl, Nat.le_of_ble_eq_true rfl, Nat.le_of_ble_eq_true rfl, Nat.le_of_ble_eq_true rfl⟩ [] [0, 1, 2, 3] [0, 1, 2, 3] rfl [(hMO, .inr (6, [.ref hMOz, .ref hMOa, .ref hMOb, .int MOst, .ref hMOk, .int MOik, .ref hMOt, .int MOln, .ref hMOo, .ref hMOw, .ref hMOm, .ref hMOq, .int MOpl, .int MOiw, .int MOle, .ref hMOn])), (hMOz, .inl (cI, 116, .inl MOza)), (hMOo, .inl (cI, 150, .inl MOon)), (hMOw, .inl (cI, 150, .inl MOwy))] rfl (by decide) [(hMO, .inr (6, [.ref hMOz, .ref hMOa, .ref hMOb, .int MOst, .ref hMOk, .int MOik, .ref hMOt, .int MOln, .ref hMOo, .ref hMOw, .ref hMOm, .ref hMOq, .int MOpl, .int MOiw, .int MOle, .ref hMOn])), (hMOz, .inl (cI, 116, .inl MOza)), (hMOo, .inl (cI, 150, .inl MOon)), (hMOw, .inl (cI, 150, .inl MOwy))] rfl (by decide) rfl rfl (Nat.le_of_ble_eq_true rfl) dX7_reason_8 rfl ?_
    refine j_if_ne (tgt := 16) (pc' := 14) cx dX7_reason_11 (by decide) rfl (fun ch_5 => ?_) (fun ch_5 => ?_)
    · have h_6 := it_f h_5 ch_5
      refine j_iload_n (pc' := 17) cx 2 dX7_reason_16 rfl rfl ?_
      refine j_iconst (pc' := 18) cx 0 dX7_reason_17 ki_0 rfl ?_
      refine j_iconst (pc' := 19) cx 3 dX7_reason_18 ki_3 rfl ?_
      obtain ⟨r5, c6, h_7⟩ := bd_s h_6
      refine j_cS (pc' := 22) cx (c_X7_in l D cI cZ cC cS p1 0 3 r5 c6) 3 yk_X7_in wM_X7_43 ⟨wT_X7_in, wI_X7, wC_X7_in⟩ ⟨rfl, rfl, Nat.le_of_ble_eq_true rfl, Nat.le_of_ble_eq_true rfl, Nat.le_of_ble_eq_true rfl, Nat.le_of_ble_eq_true rfl⟩ [] [0, 1, 2, 3] [0, 1, 2, 3] rfl [(hMO, .inr (6, [.ref hMOz, .ref hMOa, .ref hMOb, .int MOst, .ref hMOk, .int MOik, .ref hMOt, .int MOln, .ref hMOo, .ref hMOw, .ref hMOm, .ref hMOq, .int MOpl, .int MOiw, .int MOle, .ref hMOn])), (hMOz, .inl (cI, 116, .inl MOza)), (hMOo, .inl (cI, 150, .inl MOon)), (hMOw, .inl (cI, 150, .inl MOwy))] rfl (by decide) [(hMO, .inr (6, [.ref hMOz, .ref hMOa, .ref hMOb, .int MOst, .ref hMOk, .int MOik, .ref hMOt, .int MOln, .ref hMOo, .ref hMOw, .ref hMOm, .ref hMOq, .int MOpl, .int MOiw, .int MOle, .ref hMOn])), (hMOz, .inl (cI, 116, .inl MOza)), (hMOo, .inl (cI, 150, .inl MOon)), (hMOw, .inl (cI, 150, .inl MOwy))] rfl (by decide) rfl rfl (Nat.le_of_ble_eq_true rfl) dX7_reason_19 rfl ?_
      obtain ⟨t9, h_9, h_8⟩ := bd_s h_7
      have Kt9 : j 0 0 [(hMO, .inr (6, [.ref hMOz, .ref hMOa, .ref hMOb, .int MOst, .ref hMOk, .int MOik, .ref hMOt, .int MOln, .ref hMOo, .ref hMOw, .ref hMOm, .ref hMOq, .int MOpl, .int MOiw, .int MOle, .ref hMOn])), (hMOz, .inl (cI, 116, .inl MOza)), (hMOo, .inl (cI, 150, .inl MOon)), (hMOw, .inl (cI, 150, .inl MOwy))] [] 37 [.int t9] := by
        have h_10 := so_i h_8
        subst h_10
        exact j_ret cx (Or.inr (Or.inl ⟨_, _, rfl, rfl, dX7_reason_37, rfl, rfl⟩)) ⟨rfl, rfl⟩
      refine j_if_eq (tgt := 35) (pc' := 25) cx dX7_reason_22 (by decide) rfl (fun ch_9 => ?_) (fun ch_9 => ?_)
      · have h_11 := it_t h_9 ch_9
        refine j_bipush (pc' := 37) cx (-2) dX7_reason_35 kb_m2 rfl ?_
        have h_12 := so_i h_11
        subst h_12
        refine j_lv (lv' := []) cx [] rfl ?_
        exact Kt9
      · have h_13 := it_f h_9 ch_9
        refine j_aload_n (pc' := 26) cx 0 dX7_reason_25 rfl rfl ?_
        refine j_iload_n (pc' := 27) cx 1 dX7_reason_26 rfl rfl ?_
        refine j_iload_n (pc' := 28) cx 2 dX7_reason_27 rfl rfl ?_
        refine j_iload_n (pc' := 29) cx 3 dX7_reason_28 rfl rfl ?_
        obtain ⟨r7, c8, h_14⟩ := bd_s h_13
        refine j_cV (pc' := 32) cx (c_X7_why l D cI cZ cC cS hMO hMOz hMOa hMOb hMOk hMOt hMOo hMOw hMOm hMOq hMOn MOst MOik MOln MOpl MOiw MOle MOza MOon MOwy p0 p1 p2 r7 c8) 3 yk_X7_why wM_X7_116 ⟨wN_X7_why, wS_X7_why, wI_X7, wC_X7_why⟩ ⟨rfl, rfl, Nat.le_of_ble_eq_true rfl, Nat.le_of_ble_eq_true rfl, Nat.le_of_ble_eq_true rfl, Nat.le_of_ble_eq_true rfl⟩ [0, 1, 2, 3] [] [0, 1, 2, 3] rfl [] rfl (by decide) [(hMO, .inr (6, [.ref hMOz, .ref hMOa, .ref hMOb, .int MOst, .ref hMOk, .int MOik, .ref hMOt, .int MOln, .ref hMOo, .ref hMOw, .ref hMOm, .ref hMOq, .int MOpl, .int MOiw, .int MOle, .ref hMOn])), (hMOz, .inl (cI, 116, .inl MOza)), (hMOo, .inl (cI, 150, .inl MOon)), (hMOw, .inl (cI, 150, .inl MOwy))] rfl (by decide) 0 6 rfl rfl rfl rfl rfl (Nat.le_of_ble_eq_true rfl) dX7_reason_29 rfl ?_
        refine j_goto (pc' := 37) cx dX7_reason_32 (by decide) ?_
        have h_15 := so_i h_14
        subst h_15
        refine j_lv (lv' := []) cx [] rfl ?_
        exact Kt9
    · have h_16 := it_t h_5 ch_5
      refine j_iconst (pc' := 15) cx (-1) dX7_reason_14 ki_m1 rfl ?_
      have h_17 := so_i h_16
      subst h_17
      exact j_ret cx (Or.inr (Or.inl ⟨_, _, rfl, rfl, dX7_reason_15, rfl, rfl⟩)) ⟨rfl, rfl⟩
set_option maxHeartbeats 4000000 in
set_option maxRecDepth 100000 in
theorem c_X7_places (l : Launch) (D : va_G) (cI cZ cC cS : ClassId) (hMO hMOz hMOa hMOb hMOk hMOt hMOo hMOw hMOm hMOq hMOn : Nat) (MOst : Int32) (MOik : Int32) (MOln : Int32) (MOpl : Int32) (MOiw : Int32) (MOle : Int32) (MOza : Nat → Int32) (MOon : Nat → Int32) (MOwy : Nat → Int32) (p0 : Int32) (out : Int32) (hm : f_X7_places MOza MOon MOwy p0 = some out) : Ct l yX7_places cX7_places 4 (some .int) ({ frames := 5, cells := 0, slots := 0, locals := 119 }) (D, TY cI cZ cC cS) [.ref hMO, .int p0] [(hMO, .inr (6, [.ref hMOz, .ref hMOa, .ref hMOb, .int MOst, .ref hMOk, .int MOik, .ref hMOt, .int MOln, .ref hMOo, .ref hMOw, .ref hMOm, .ref hMOq, .int MOpl, .int MOiw, .int MOle, .ref hMOn])), (hMOz, .inl (cI, 116, .inl MOza)), (hMOo, .inl (cI, 150, .inl MOon)), (hMOw, .inl (cI, 150, .inl MOwy))] (jw_P (some (.int out)) [(hMO, .inr (6, [.ref hMOz, .ref hMOa, .ref hMOb, .int MOst, .ref hMOk, .int MOik, .ref hMOt, .int MOln, .ref hMOo, .ref hMOw, .ref hMOm, .ref hMOq, .int MOpl, .int MOiw, .int MOle, .ref hMOn])), (hMOz, .inl (cI, 116, .inl MOza)), (hMOo, .inl (cI, 150, .inl MOon)), (hMOw, .inl (cI, 150, .inl MOwy))]) 0 0 := by
  refine ct_of RX7 (by decide +kernel) rfl (Nat.le_of_ble_eq_true rfl) (fun j cx => ?_)
  unfold f_X7_places at hm
  show j 0 0 [(hMO, .inr (6, [.ref hMOz, .ref hMOa, .ref hMOb, .int MOst, .ref hMOk, .int MOik, .ref hMOt, .int MOln, .ref hMOo, .ref hMOw, .ref hMOm, .ref hMOq, .int MOpl, .int MOiw, .int MOle, .ref hMOn])), (hMOz, .inl (cI, 116, .inl MOza)), (hMOo, .inl (cI, 150, .inl MOon)), (hMOw, .inl (cI, 150, .inl MOwy))] [(0, .ref hMO), (1, .int p0)] 0 []
  refine j_iload_n (pc' := 1) cx 1 dX7_places_0 rfl rfl ?_
  obtain ⟨r1, c2, h_1⟩ := bd_s hm
  refine j_cS (pc' := 4) cx (c_X7_isKind l D cI cZ cC cS p0 r1 c2) 1 yk_X7_isKind wM_X7_101 ⟨wT_X7_isKind, wI_X7, wC_X7_isKind⟩ ⟨rfl, rfl, Nat.le_of_ble_eq_true rfl, Nat.le_of_ble_eq_true rfl, Nat.le_of_ble_eq_true rfl, Nat.le_of_ble_eq_true rfl⟩ [] [0, 1, 2, 3] [0, 1, 2, 3] rfl [(hMO, .inr (6, [.ref hMOz, .ref hMOa, .ref hMOb, .int MOst, .ref hMOk, .int MOik, .ref hMOt, .int MOln, .ref hMOo, .ref hMOw, .ref hMOm, .ref hMOq, .int MOpl, .int MOiw, .int MOle, .ref hMOn])), (hMOz, .inl (cI, 116, .inl MOza)), (hMOo, .inl (cI, 150, .inl MOon)), (hMOw, .inl (cI, 150, .inl MOwy))] rfl (by decide) [(hMO, .inr (6, [.ref hMOz, .ref hMOa, .ref hMOb, .int MOst, .ref hMOk, .int MOik, .ref hMOt, .int MOln, .ref hMOo, .ref hMOw, .ref hMOm, .ref hMOq, .int MOpl, .int MOiw, .int MOle, .ref hMOn])), (hMOz, .inl (cI, 116, .inl MOza)), (hMOo, .inl (cI, 150, .inl MOon)), (hMOw, .inl (cI, 150, .inl MOwy))] rfl (by decide) rfl rfl (Nat.le_of_ble_eq_true rfl) dX7_places_1 rfl ?_
  refine j_if_ne (tgt := 9) (pc' := 7) cx dX7_places_4 (by decide) rfl (fun ch_1 => ?_) (fun ch_1 => ?_)
  · have h_2 := it_f h_1 ch_1
    refine j_iconst (pc' := 10) cx 0 dX7_places_9 ki_0 rfl ?_
    refine j_istore_n (lv' := [(2, .int 0), (0, .ref hMO), (1, .int p0)]) (pc' := 11) cx dX7_places_10 (by decide) rfl rfl ?_
    refine j_iconst (pc' := 12) cx 0 dX7_places_11 ki_0 rfl ?_
    refine j_istore_n (lv' := [(3, .int 0), (2, .int 0), (0, .ref hMO), (1, .int p0)]) (pc' := 13) cx dX7_places_12 (by decide) rfl rfl ?_
    obtain ⟨e4, h_3, h_4⟩ := bd_s h_2
    have KXe4 : j 0 0 [(hMO, .inr (6, [.ref hMOz, .ref hMOa, .ref hMOb, .int MOst, .ref hMOk, .int MOik, .ref hMOt, .int MOln, .ref hMOo, .ref hMOw, .ref hMOm, .ref hMOq, .int MOpl, .int MOiw, .int MOle, .ref hMOn])), (hMOz, .inl (cI, 116, .inl MOza)), (hMOo, .inl (cI, 150, .inl MOon)), (hMOw, .inl (cI, 150, .inl MOwy))] [(2, .int e4.1)] 48 [] := by
      refine j_iload_n (pc' := 49) cx 0 dX7_places_48 rfl rfl ?_
      have h_5 := so_i h_4
      subst h_5
      exact j_ret cx (Or.inr (Or.inl ⟨_, _, rfl, rfl, dX7_places_49, rfl, rfl⟩)) ⟨rfl, rfl⟩
    have LPe4 : ∀ (n : Nat) (s3 : Int32 × Int32), lp (f_X7_places_b1 MOza MOon MOwy p0) n s3 = some e4 → j 0 0 [(hMO, .inr (6, [.ref hMOz, .ref hMOa, .ref hMOb, .int MOst, .ref hMOk, .int MOik, .ref hMOt, .int MOln, .ref hMOo, .ref hMOw, .ref hMOm, .ref hMOq, .int MOpl, .int MOiw, .int MOle, .ref hMOn])), (hMOz, .inl (cI, 116, .inl MOza)), (hMOo, .inl (cI, 150, .inl MOon)), (hMOw, .inl (cI, 150, .inl MOwy))] [(0, .ref hMO), (1, .int p0), (2, .int s3.1), (3, .int s3.2)] 13 [] := by
      intro n
      induction n with
      | zero => intro s3 z; exact absurd z (by intro z; cases z)
      | succ n ihe4 =>
        intro s3 h_6
        obtain ⟨q_7, h_8, h_9⟩ := bd_s h_6
        unfold f_X7_places_b1 at h_8
        refine j_iload_n (pc' := 14) cx 3 dX7_places_13 rfl rfl ?_
        refine j_sipush (pc' := 17) cx 600 dX7_places_14 ks_600 rfl ?_
        refine j_icmp_ge (tgt := 48) (pc' := 20) cx dX7_places_17 (by decide) rfl (fun ch_8 => ?_) (fun ch_8 => ?_)
        · have h_10 := it_t h_8 ch_8
          have h_11 := so_i h_10
          subst h_11
          have h_12 := so_i (se_r h_9)
          subst h_12
          refine j_lv (lv' := [(2, .int s3.1)]) cx [2] rfl ?_
          exact KXe4
        · have h_13 := it_f h_8 ch_8
          refine j_iload_n (pc' := 21) cx 2 dX7_places_20 rfl rfl ?_
          refine j_aload_n (pc' := 22) cx 0 dX7_places_21 rfl rfl ?_
          refine j_iload_n (pc' := 23) cx 1 dX7_places_22 rfl rfl ?_
          refine j_iload_n (pc' := 24) cx 3 dX7_places_23 rfl rfl ?_
          refine j_iconst (pc' := 25) cx 4 dX7_places_24 ki_4 rfl ?_
          refine j_irem (pc' := 26) cx dX7_places_25 kz_4 rfl ?_
          refine j_iload_n (pc' := 27) cx 3 dX7_places_26 rfl rfl ?_
          refine j_iconst (pc' := 28) cx 4 dX7_places_27 ki_4 rfl ?_
          refine j_idiv (pc' := 29) cx dX7_places_28 kz_4 rfl ?_
          obtain ⟨r5, c6, h_14⟩ := bd_s h_13
          refine j_cV (pc' := 32) cx (c_X7_why l D cI cZ cC cS hMO hMOz hMOa hMOb hMOk hMOt hMOo hMOw hMOm hMOq hMOn MOst MOik MOln MOpl MOiw MOle MOza MOon MOwy p0 (rm s3.2 4) (s3.2 / 4) r5 c6) 3 yk_X7_why wM_X7_116 ⟨wN_X7_why, wS_X7_why, wI_X7, wC_X7_why⟩ ⟨rfl, rfl, Nat.le_of_ble_eq_true rfl, Nat.le_of_ble_eq_true rfl, Nat.le_of_ble_eq_true rfl, Nat.le_of_ble_eq_true rfl⟩ [0, 1, 2, 3] [] [0, 1, 2, 3] rfl [] rfl (by decide) [(hMO, .inr (6, [.ref hMOz, .ref hMOa, .ref hMOb, .int MOst, .ref hMOk, .int MOik, .ref hMOt, .int MOln, .ref hMOo, .ref hMOw, .ref hMOm, .ref hMOq, .int MOpl, .int MOiw, .int MOle, .ref hMOn])), (hMOz, .inl (cI, 116, .inl MOza)), (hMOo, .inl (cI, 150, .inl MOon)), (hMOw, .inl (cI, 150, .inl MOwy))] rfl (by decide) 0 6 rfl rfl rfl rfl rfl (Nat.le_of_ble_eq_true rfl) dX7_places_29 rfl ?_
          obtain ⟨t7, h_16, h_15⟩ := bd_s h_14
          have Kt7 : j 0 0 [(hMO, .inr (6, [.ref hMOz, .ref hMOa, .ref hMOb, .int MOst, .ref hMOk, .int MOik, .ref hMOt, .int MOln, .ref hMOo, .ref hMOw, .ref hMOm, .ref hMOq, .int MOpl, .int MOiw, .int MOle, .ref hMOn])), (hMOz, .inl (cI, 116, .inl MOza)), (hMOo, .inl (cI, 150, .inl MOon)), (hMOw, .inl (cI, 150, .inl MOwy))] [(0, .ref hMO), (1, .int p0), (3, .int s3.2)] 40 [.int t7, .int s3.1] := by
            refine j_iadd (pc' := 41) cx dX7_places_40 rfl ?_
            refine j_istore_n (lv' := [(2, .int (s3.1 + t7)), (0, .ref hMO), (1, .int p0), (3, .int s3.2)]) (pc' := 42) cx dX7_places_41 (by decide) rfl rfl ?_
            refine j_iinc (v := (s3.2 + 1)) (lv' := [(3, .int (s3.2 + 1)), (2, .int (s3.1 + t7)), (0, .ref hMO), (1, .int p0)]) (pc' := 45) cx 3 dX7_places_42 rfl (kn_1 _) (by decide) rfl rfl ?_
            refine j_goto (pc' := 13) cx dX7_places_45 (by decide) ?_
            have h_17 := so_i h_15
            subst h_17
            refine j_lv (lv' := [(0, .ref hMO), (1, .int p0), (2, .int (s3.1 + t7)), (3, .int (s3.2 + 1))]) cx [2, 3, 1, 0] rfl ?_
            exact ihe4 _ (se_l h_9)
          refine j_if_ne (tgt := 39) (pc' := 35) cx dX7_places_32 (by decide) rfl (fun ch_16 => ?_) (fun ch_16 => ?_)
          · have h_18 := it_f h_16 ch_16
            refine j_iconst (pc' := 40) cx 0 dX7_places_39 ki_0 rfl ?_
            have h_19 := so_i h_18
            subst h_19
            refine j_lv (lv' := [(0, .ref hMO), (1, .int p0), (3, .int s3.2)]) cx [0, 1, 3] rfl ?_
            exact Kt7
          · have h_20 := it_t h_16 ch_16
            refine j_iconst (pc' := 36) cx 1 dX7_places_35 ki_1 rfl ?_
            refine j_goto (pc' := 40) cx dX7_places_36 (by decide) ?_
            have h_21 := so_i h_20
            subst h_21
            refine j_lv (lv' := [(0, .ref hMO), (1, .int p0), (3, .int s3.2)]) cx [0, 1, 3] rfl ?_
            exact Kt7
    refine j_lv (lv' := [(0, .ref hMO), (1, .int p0), (2, .int 0), (3, .int 0)]) cx [2, 3, 1, 0] rfl ?_
    exact LPe4 _ _ h_3
  · have h_22 := it_t h_1 ch_1
    refine j_iconst (pc' := 8) cx (-1) dX7_places_7 ki_m1 rfl ?_
    have h_23 := so_i h_22
    subst h_23
    exact j_ret cx (Or.inr (Or.inl ⟨_, _, rfl, rfl, dX7_places_8, rfl, rfl⟩)) ⟨rfl, rfl⟩
