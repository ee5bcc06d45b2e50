set_option maxHeartbeats 4000000 in
set_option maxRecDepth 100000 in
theorem c_X7_middleOf (l : Launch) (D : va_G) (cI cZ cC cS : ClassId) (hMO hMOz hMOa hMOb hMOk hMOt hMOo hMOw hMOm hMOq hMOn : Nat) (MOst : Int32) (MOik : Int32) (MOln : Int32) (MOpl : Int32) (MOiw : Int32) (MOle : Int32) (MOza : Nat → Int32) (p0 : Int32) (out : Int32) (hm : f_X7_middleOf MOza p0 = some out) : Ct l yX7_middleOf cX7_middleOf 2 (some .int) ({ frames := 0, cells := 0, slots := 0, locals := 0 }) (D, TY cI cZ cC cS) [.ref hMO, .int p0] [(hMO, .inr (6, [.ref hMOz, .ref hMOa, .ref hMOb, .int MOst, .ref hMOk, .int MOik, .ref hMOt, .int MOln, .ref hMOo, .ref hMOw, .ref hMOm, .ref hMOq, .int MOpl, .int MOiw, .int MOle, .ref hMOn])), (hMOz, .inl (cI, 116, .inl MOza))] (jw_P (some (.int out)) [(hMO, .inr (6, [.ref hMOz, .ref hMOa, .ref hMOb, .int MOst, .ref hMOk, .int MOik, .ref hMOt, .int MOln, .ref hMOo, .ref hMOw, .ref hMOm, .ref hMOq, .int MOpl, .int MOiw, .int MOle, .ref hMOn])), (hMOz, .inl (cI, 116, .inl MOza))]) 0 0 := by
  refine ct_of RX7 (by decide +kernel) rfl (Nat.le_of_ble_eq_true rfl) (fun j cx => ?_)
  unfold f_X7_middleOf at hm
  show j 0 0 [(hMO, .inr (6, [.ref hMOz, .ref hMOa, .ref hMOb, .int MOst, .ref hMOk, .int MOik, .ref hMOt, .int MOln, .ref hMOo, .ref hMOw, .ref hMOm, .ref hMOq, .int MOpl, .int MOiw, .int MOle, .ref hMOn])), (hMOz, .inl (cI, 116, .inl MOza))] [(0, .ref hMO), (1, .int p0)] 0 []
  refine j_aload_n (pc' := 1) cx 0 dX7_middleOf_0 rfl rfl ?_
  refine j_get (C := RX7) (T := TX7) (N := 16) (pc' := 4) cx uB_X7 0 rfl rfl 0 (by decide) wF_X7_7 (.ref hMOz) rfl dX7_middleOf_1 rfl ?_
  refine j_bipush (pc' := 6) cx 26 dX7_middleOf_4 kb_26 rfl ?_
  refine j_iconst (pc' := 7) cx 3 dX7_middleOf_6 ki_3 rfl ?_
  refine j_iload_n (pc' := 8) cx 1 dX7_middleOf_7 rfl rfl ?_
  refine j_imul (pc' := 9) cx dX7_middleOf_8 rfl ?_
  refine j_iadd (pc' := 10) cx dX7_middleOf_9 rfl ?_
  refine j_iconst (pc' := 11) cx 2 dX7_middleOf_10 ki_2 rfl ?_
  refine j_iadd (pc' := 12) cx dX7_middleOf_11 rfl ?_
  obtain ⟨i1, h_1⟩ := ck_s hm
  refine j_iald (pc' := 13) cx 1 0 rfl rfl i1 dX7_middleOf_12 rfl ?_
  have h_2 := so_i h_1
  subst h_2
  exact j_ret cx (Or.inr (Or.inl ⟨_, _, rfl, rfl, dX7_middleOf_13, rfl, rfl⟩)) ⟨rfl, rfl⟩
set_option maxHeartbeats 4000000 in
set_option maxRecDepth 100000 in
theorem c_X7_beside (l : Launch) (D : va_G) (cI cZ cC cS : ClassId) (p0 : Int32) (p1 : Int32) (out : Int32) (hm : f_X7_beside p0 p1 = some out) : Ct l yX7_beside cX7_beside 4 (some .int) ({ frames := 0, cells := 0, slots := 0, locals := 0 }) (D, TY cI cZ cC cS) [.int p0, .int p1] [] (jw_P (some (.int out)) []) 0 0 := by
  refine ct_of RX7 (by decide +kernel) rfl (Nat.le_of_ble_eq_true rfl) (fun j cx => ?_)
  unfold f_X7_beside at hm
  show j 0 0 [] [(0, .int p0), (1, .int p1)] 0 []
  refine j_iload_n (pc' := 1) cx 0 dX7_beside_0 rfl rfl ?_
  refine j_bipush (pc' := 3) cx 15 dX7_beside_1 kb_15 rfl ?_
  refine j_irem (pc' := 4) cx dX7_beside_3 kz_15 rfl ?_
  refine j_istore_n (lv' := [(2, .int (rm p0 15)), (0, .int p0), (1, .int p1)]) (pc' := 5) cx dX7_beside_4 (by decide) rfl rfl ?_
  refine j_iload_n (pc' := 6) cx 1 dX7_beside_5 rfl rfl ?_
  refine j_bipush (pc' := 8) cx 15 dX7_beside_6 kb_15 rfl ?_
  refine j_idiv (pc' := 9) cx dX7_beside_8 kz_15 rfl ?_
  refine j_istore_n (lv' := [(3, .int (p0 / 15)), (2, .int (rm p0 15)), (0, .int p0), (1, .int p1)]) (pc' := 10) cx dX7_beside_9 (by decide) rfl rfl ?_
  refine j_iload_n (pc' := 11) cx 3 dX7_beside_10 rfl rfl ?_
  by_cases k_1 : p1 = 0
  · have h_2 := it_t hm k_1
    refine j_tab_in (tgt := 36) cx dX7_beside_11 k_1 (by decide +kernel) (by decide +kernel) (by first | rfl | decide +kernel) (by decide) ?_
    refine j_bipush (pc' := 38) cx 15 dX7_beside_36 kb_15 rfl ?_
    refine j_iload_n (pc' := 39) cx 0 dX7_beside_38 rfl rfl ?_
    refine j_bipush (pc' := 41) cx 10 dX7_beside_39 kb_10 rfl ?_
    refine j_iadd (pc' := 42) cx dX7_beside_41 rfl ?_
    refine j_iconst (pc' := 43) cx 1 dX7_beside_42 ki_1 rfl ?_
    refine j_isub (pc' := 44) cx dX7_beside_43 rfl ?_
    refine j_bipush (pc' := 46) cx 10 dX7_beside_44 kb_10 rfl ?_
    refine j_irem (pc' := 47) cx dX7_beside_46 kz_10 rfl ?_
    refine j_imul (pc' := 48) cx dX7_beside_47 rfl ?_
    refine j_iload_n (pc' := 49) cx 1 dX7_beside_48 rfl rfl ?_
    refine j_iadd (pc' := 50) cx dX7_beside_49 rfl ?_
    have h_3 := so_i h_2
    subst h_3
    exact j_ret cx (Or.inr (Or.inl ⟨_, _, rfl, rfl, dX7_beside_50, rfl, rfl⟩)) ⟨rfl, rfl⟩
  · have h_4 := it_f hm k_1
    by_cases k_5 : p1 = 1
    · have h_6 := it_t h_4 k_5
      refine j_tab_in (tgt := 51) cx dX7_beside_11 k_5 (by decide +kernel) (by decide +kernel) (by first | rfl | decide +kernel) (by decide) ?_
      refine j_bipush (pc' := 53) cx 15 dX7_beside_51 kb_15 rfl ?_
      refine j_iload_n (pc' := 54) cx 0 dX7_beside_53 rfl rfl ?_
      refine j_imul (pc' := 55) cx dX7_beside_54 rfl ?_
      refine j_iload_n (pc' := 56) cx 1 dX7_beside_55 rfl rfl ?_
      refine j_iconst (pc' := 57) cx 1 dX7_beside_56 ki_1 rfl ?_
      refine j_iadd (pc' := 58) cx dX7_beside_57 rfl ?_
      refine j_bipush (pc' := 60) cx 15 dX7_beside_58 kb_15 rfl ?_
      refine j_irem (pc' := 61) cx dX7_beside_60 kz_15 rfl ?_
      refine j_iadd (pc' := 62) cx dX7_beside_61 rfl ?_
      have h_7 := so_i h_6
      subst h_7
      exact j_ret cx (Or.inr (Or.inl ⟨_, _, rfl, rfl, dX7_beside_62, rfl, rfl⟩)) ⟨rfl, rfl⟩
    · have h_8 := it_f h_4 k_5
      by_cases k_9 : p1 = 2
      · have h_10 := it_t h_8 k_9
        refine j_tab_in (tgt := 63) cx dX7_beside_11 k_9 (by decide +kernel) (by decide +kernel) (by first | rfl | decide +kernel) (by decide) ?_
        refine j_bipush (pc' := 65) cx 15 dX7_beside_63 kb_15 rfl ?_
        refine j_iload_n (pc' := 66) cx 0 dX7_beside_65 rfl rfl ?_
        refine j_iconst (pc' := 67) cx 1 dX7_beside_66 ki_1 rfl ?_
        refine j_iadd (pc' := 68) cx dX7_beside_67 rfl ?_
        refine j_bipush (pc' := 70) cx 10 dX7_beside_68 kb_10 rfl ?_
        refine j_irem (pc' := 71) cx dX7_beside_70 kz_10 rfl ?_
        refine j_imul (pc' := 72) cx dX7_beside_71 rfl ?_
        refine j_iload_n (pc' := 73) cx 1 dX7_beside_72 rfl rfl ?_
        refine j_iadd (pc' := 74) cx dX7_beside_73 rfl ?_
        have h_11 := so_i h_10
        subst h_11
        exact j_ret cx (Or.inr (Or.inl ⟨_, _, rfl, rfl, dX7_beside_74, rfl, rfl⟩)) ⟨rfl, rfl⟩
      · have h_12 := it_f h_8 k_9
        refine j_tab_out (tgt := 75) cx dX7_beside_11 (fun n n1 n2 => ?_) (by decide) ?_
        · have n3 : n = 0 ∨ n = 1 ∨ n = 2 := by omega
          rcases n3 with rfl | rfl | rfl
          · exact k_1
          · exact k_5
          · exact k_9
        · skip
          refine j_bipush (pc' := 77) cx 15 dX7_beside_75 kb_15 rfl ?_
          refine j_iload_n (pc' := 78) cx 0 dX7_beside_77 rfl rfl ?_
          refine j_imul (pc' := 79) cx dX7_beside_78 rfl ?_
          refine j_iload_n (pc' := 80) cx 1 dX7_beside_79 rfl rfl ?_
          refine j_bipush (pc' := 82) cx 15 dX7_beside_80 kb_15 rfl ?_
          refine j_iadd (pc' := 83) cx dX7_beside_82 rfl ?_
          refine j_iconst (pc' := 84) cx 1 dX7_beside_83 ki_1 rfl ?_
          refine j_isub (pc' := 85) cx dX7_beside_84 rfl ?_
          refine j_bipush (pc' := 87) cx 15 dX7_beside_85 kb_15 rfl ?_
          refine j_irem (pc' := 88) cx dX7_beside_87 kz_15 rfl ?_
          refine j_iadd (pc' := 89) cx dX7_beside_88 rfl ?_
          have h_13 := so_i h_12
          subst h_13
          exact j_ret cx (Or.inr (Or.inl ⟨_, _, rfl, rfl, dX7_beside_89, rfl, rfl⟩)) ⟨rfl, rfl⟩
set_option maxHeartbeats 4000000 in
set_option maxRecDepth 100000 in
theorem c_X7_draw (l : Launch) (D : va_G) (cI cZ cC cS : ClassId) (hMO hMOz hMOa hMOb hMOk hMOt hMOo hMOw hMOm hMOq hMOn : Nat) (MOst : Int32) (MOik : Int32) (MOln : Int32) (MOpl : Int32) (MOiw : Int32) (MOle : Int32) (MOza : Nat → Int32) (MOon : Nat → Int32) (MOwy : Nat → Int32) (out : (Nat → Int32) × (Nat → Int32)) (hm : f_X7_draw MOza MOon MOwy = some out) : Ct l yX7_draw cX7_draw 3 none ({ frames := 1, cells := 0, slots := 0, locals := 23 }) (D, TY cI cZ cC cS) [.ref hMO] [(hMO, .inr (6, [.ref hMOz, .ref hMOa, .ref hMOb, .int MOst, .ref hMOk, .int MOik, .ref hMOt, .int MOln, .ref hMOo, .ref hMOw, .ref hMOm, .ref hMOq, .int MOpl, .int MOiw, .int MOle, .ref hMOn])), (hMOz, .inl (cI, 116, .inl MOza)), (hMOo, .inl (cI, 150, .inl MOon)), (hMOw, .inl (cI, 150, .inl MOwy))] (jw_P none [(hMO, .inr (6, [.ref hMOz, .ref hMOa, .ref hMOb, .int MOst, .ref hMOk, .int MOik, .ref hMOt, .int MOln, .ref hMOo, .ref hMOw, .ref hMOm, .ref hMOq, .int MOpl, .int MOiw, .int MOle, .ref hMOn])), (hMOz, .inl (cI, 116, .inl MOza)), (hMOo, .inl (cI, 150, .inl out.1)), (hMOw, .inl (cI, 150, .inl out.2))]) 0 0 := by
  refine ct_of RX7 (by decide +kernel) rfl (Nat.le_of_ble_eq_true rfl) (fun j cx => ?_)
  unfold f_X7_draw at hm
  show j 0 0 [(hMO, .inr (6, [.ref hMOz, .ref hMOa, .ref hMOb, .int MOst, .ref hMOk, .int MOik, .ref hMOt, .int MOln, .ref hMOo, .ref hMOw, .ref hMOm, .ref hMOq, .int MOpl, .int MOiw, .int MOle, .ref hMOn])), (hMOz, .inl (cI, 116, .inl MOza)), (hMOo, .inl (cI, 150, .inl MOon)), (hMOw, .inl (cI, 150, .inl MOwy))] [(0, .ref hMO)] 0 []
  refine j_iconst (pc' := 1) cx 0 dX7_draw_0 ki_0 rfl ?_
  refine j_istore_n (lv' := [(1, .int 0), (0, .ref hMO)]) (pc' := 2) cx dX7_draw_1 (by decide) rfl rfl ?_
  obtain ⟨e2, h_1, h_2⟩ := bd_s hm
  have KXe2 : j 0 0 [(hMO, .inr (6, [.ref hMOz, .ref hMOa, .ref hMOb, .int MOst, .ref hMOk, .int MOik, .ref hMOt, .int MOln, .ref hMOo, .ref hMOw, .ref hMOm, .ref hMOq, .int MOpl, .int MOiw, .int MOle, .ref hMOn])), (hMOz, .inl (cI, 116, .inl MOza)), (hMOo, .inl (cI, 150, .inl e2.2.1)), (hMOw, .inl (cI, 150, .inl e2.2.2))] [(0, .ref hMO)] 31 [] := by
    refine j_iconst (pc' := 32) cx 0 dX7_draw_31 ki_0 rfl ?_
    refine j_istore_n (lv' := [(1, .int 0), (0, .ref hMO)]) (pc' := 33) cx dX7_draw_32 (by decide) rfl rfl ?_
    obtain ⟨e6, h_3, h_4⟩ := bd_s h_2
    have KXe6 : j 0 0 [(hMO, .inr (6, [.ref hMOz, .ref hMOa, .ref hMOb, .int MOst, .ref hMOk, .int MOik, .ref hMOt, .int MOln, .ref hMOo, .ref hMOw, .ref hMOm, .ref hMOq, .int MOpl, .int MOiw, .int MOle, .ref hMOn])), (hMOz, .inl (cI, 116, .inl MOza)), (hMOo, .inl (cI, 150, .inl e6.2.1)), (hMOw, .inl (cI, 150, .inl e6.2.2))] [] 115 [] := by
      have h_5 := so_i h_4
      subst h_5
      exact j_ret cx (Or.inl ⟨rfl, dX7_draw_115, rfl, rfl⟩) ⟨rfl, rfl⟩
    have LPe6 : ∀ (n : Nat) (s5 : Int32 × (Nat → Int32) × (Nat → Int32)), lp (f_X7_draw_b3 MOza) n s5 = some e6 → j 0 0 [(hMO, .inr (6, [.ref hMOz, .ref hMOa, .ref hMOb, .int MOst, .ref hMOk, .int MOik, .ref hMOt, .int MOln, .ref hMOo, .ref hMOw, .ref hMOm, .ref hMOq, .int MOpl, .int MOiw, .int MOle, .ref hMOn])), (hMOz, .inl (cI, 116, .inl MOza)), (hMOo, .inl (cI, 150, .inl s5.2.1)), (hMOw, .inl (cI, 150, .inl s5.2.2))] [(0, .ref hMO), (1, .int s5.1)] 33 [] := by
      intro n
      induction n with
      | zero => intro s5 z; exact absurd z (by intro z; cases z)
      | succ n ihe6 =>
        intro s5 h_6
        obtain ⟨q_7, h_8, h_9⟩ := bd_s h_6
        unfold f_X7_draw_b3 at h_8
        refine j_iload_n (pc' := 34) cx 1 dX7_draw_33 rfl rfl ?_
        refine j_aload_n (pc' := 35) cx 0 dX7_draw_34 rfl rfl ?_
        refine j_get (C := RX7) (T := TX7) (N := 16) (pc' := 38) cx uB_X7 0 rfl rfl 0 (by decide) wF_X7_7 (.ref hMOz) rfl dX7_draw_35 rfl ?_
        refine j_bipush (pc' := 40) cx 25 dX7_draw_38 kb_25 rfl ?_
        obtain ⟨i7, h_10⟩ := ck_s h_8
        refine j_iald (pc' := 41) cx 1 0 rfl rfl i7 dX7_draw_40 rfl ?_
        refine j_icmp_ge (tgt := 115) (pc' := 44) cx dX7_draw_41 (by decide) rfl (fun ch_10 => ?_) (fun ch_10 => ?_)
        · have h_11 := it_t h_10 ch_10
          have h_12 := so_i h_11
          subst h_12
          have h_13 := so_i (se_r h_9)
          subst h_13
          refine j_lv (lv' := []) cx [] rfl ?_
          exact KXe6
        · have h_14 := it_f h_10 ch_10
          refine j_aload_n (pc' := 45) cx 0 dX7_draw_44 rfl rfl ?_
          refine j_get (C := RX7) (T := TX7) (N := 16) (pc' := 48) cx uB_X7 0 rfl rfl 8 (by decide) wF_X7_25 (.ref hMOo) rfl dX7_draw_45 rfl ?_
          refine j_aload_n (pc' := 49) cx 0 dX7_draw_48 rfl rfl ?_
          refine j_iload_n (pc' := 50) cx 1 dX7_draw_49 rfl rfl ?_
          obtain ⟨r8, c9, h_15⟩ := bd_s h_14
          refine j_cV (pc' := 53) cx (c_X7_middleOf l D cI cZ cC cS hMO hMOz hMOa hMOb hMOk hMOt hMOo hMOw hMOm hMOq hMOn MOst MOik MOln MOpl MOiw MOle MOza s5.1 r8 c9) 1 yk_X7_middleOf wM_X7_58 ⟨wN_X7_middleOf, wS_X7_middleOf, wI_X7, wC_X7_middleOf⟩ ⟨rfl, rfl, Nat.le_of_ble_eq_true rfl, Nat.le_of_ble_eq_true rfl, Nat.le_of_ble_eq_true rfl, Nat.le_of_ble_eq_true rfl⟩ [0, 1] [2, 3] [2, 3, 0, 1] rfl [(hMOo, .inl (cI, 150, .inl s5.2.1)), (hMOw, .inl (cI, 150, .inl s5.2.2))] rfl (by decide) [(hMO, .inr (6, [.ref hMOz, .ref hMOa, .ref hMOb, .int MOst, .ref hMOk, .int MOik, .ref hMOt, .int MOln, .ref hMOo, .ref hMOw, .ref hMOm, .ref hMOq, .int MOpl, .int MOiw, .int MOle, .ref hMOn])), (hMOz, .inl (cI, 116, .inl MOza)), (hMOo, .inl (cI, 150, .inl s5.2.1)), (hMOw, .inl (cI, 150, .inl s5.2.2))] rfl (by decide) 0 6 rfl rfl rfl rfl rfl (Nat.le_of_ble_eq_true rfl) dX7_draw_50 rfl ?_
          refine j_iload_n (pc' := 54) cx 1 dX7_draw_53 rfl rfl ?_
          obtain ⟨i10, h_16⟩ := ck_s h_15
          refine j_iast (ws' := [(hMO, .inr (6, [.ref hMOz, .ref hMOa, .ref hMOb, .int MOst, .ref hMOk, .int MOik, .ref hMOt, .int MOln, .ref hMOo, .ref hMOw, .ref hMOm, .ref hMOq, .int MOpl, .int MOiw, .int MOle, .ref hMOn])), (hMOz, .inl (cI, 116, .inl MOza)), (hMOo, .inl (cI, 150, .inl (upd s5.2.1 r8.toNatClampNeg s5.1))), (hMOw, .inl (cI, 150, .inl s5.2.2))]) (pc' := 55) cx 2 0 rfl rfl i10 rfl dX7_draw_54 rfl ?_
          refine j_aload_n (pc' := 56) cx 0 dX7_draw_55 rfl rfl ?_
          refine j_get (C := RX7) (T := TX7) (N := 16) (pc' := 59) cx uB_X7 0 rfl rfl 9 (by decide) wF_X7_28 (.ref hMOw) rfl dX7_draw_56 rfl ?_
          refine j_aload_n (pc' := 60) cx 0 dX7_draw_59 rfl rfl ?_
          refine j_iload_n (pc' := 61) cx 1 dX7_draw_60 rfl rfl ?_
          obtain ⟨r11, c12, h_17⟩ := bd_s h_16
          refine j_cV (pc' := 64) cx (c_X7_middleOf l D cI cZ cC cS hMO hMOz hMOa hMOb hMOk hMOt hMOo hMOw hMOm hMOq hMOn MOst MOik MOln MOpl MOiw MOle MOza s5.1 r11 c12) 1 yk_X7_middleOf wM_X7_58 ⟨wN_X7_middleOf, wS_X7_middleOf, wI_X7, wC_X7_middleOf⟩ ⟨rfl, rfl, Nat.le_of_ble_eq_true rfl, Nat.le_of_ble_eq_true rfl, Nat.le_of_ble_eq_true rfl, Nat.le_of_ble_eq_true rfl⟩ [0, 1] [2, 3] [2, 3, 0, 1] rfl [(hMOo, .inl (cI, 150, .inl (upd s5.2.1 r8.toNatClampNeg s5.1))), (hMOw, .inl (cI, 150, .inl s5.2.2))] rfl (by decide) [(hMO, .inr (6, [.ref hMOz, .ref hMOa, .ref hMOb, .int MOst, .ref hMOk, .int MOik, .ref hMOt, .int MOln, .ref hMOo, .ref hMOw, .ref hMOm, .ref hMOq, .int MOpl, .int MOiw, .int MOle, .ref hMOn])), (hMOz, .inl (cI, 116, .inl MOza)), (hMOo, .inl (cI, 150, .inl (upd s5.2.1 r8.toNatClampNeg s5.1))), (hMOw, .inl (cI, 150, .inl s5.2.2))] rfl (by decide) 0 6 rfl rfl rfl rfl rfl (Nat.le_of_ble_eq_true rfl) dX7_draw_61 rfl ?_
          refine j_iconst (pc' := 65) cx 4 dX7_draw_64 ki_4 rfl ?_
          obtain ⟨i13, h_18⟩ := ck_s h_17
          refine j_iast (ws' := [(hMO, .inr (6, [.ref hMOz, .ref hMOa, .ref hMOb, .int MOst, .ref hMOk, .int MOik, .ref hMOt, .int MOln, .ref hMOo, .ref hMOw, .ref hMOm, .ref hMOq, .int MOpl, .int MOiw, .int MOle, .ref hMOn])), (hMOz, .inl (cI, 116, .inl MOza)), (hMOo, .inl (cI, 150, .inl (upd s5.2.1 r8.toNatClampNeg s5.1))), (hMOw, .inl (cI, 150, .inl (upd s5.2.2 r11.toNatClampNeg 4)))]) (pc' := 66) cx 3 0 rfl rfl i13 rfl dX7_draw_65 rfl ?_
          refine j_iconst (pc' := 67) cx 0 dX7_draw_66 ki_0 rfl ?_
          refine j_istore_n (lv' := [(2, .int 0), (0, .ref hMO), (1, .int s5.1)]) (pc' := 68) cx dX7_draw_67 (by decide) rfl rfl ?_
          obtain ⟨e15, h_19, h_20⟩ := bd_s h_18
          have KXe15 : j 0 0 [(hMO, .inr (6, [.ref hMOz, .ref hMOa, .ref hMOb, .int MOst, .ref hMOk, .int MOik, .ref hMOt, .int MOln, .ref hMOo, .ref hMOw, .ref hMOm, .ref hMOq, .int MOpl, .int MOiw, .int MOle, .ref hMOn])), (hMOz, .inl (cI, 116, .inl MOza)), (hMOo, .inl (cI, 150, .inl e15.2.1)), (hMOw, .inl (cI, 150, .inl e15.2.2))] [(0, .ref hMO), (1, .int s5.1)] 109 [] := by
            refine j_iinc (v := (s5.1 + 1)) (lv' := [(1, .int (s5.1 + 1)), (0, .ref hMO)]) (pc' := 112) cx 1 dX7_draw_109 rfl (kn_1 _) (by decide) rfl rfl ?_
            refine j_goto (pc' := 33) cx dX7_draw_112 (by decide) ?_
            have h_21 := so_i h_20
            subst h_21
            refine j_lv (lv' := [(0, .ref hMO), (1, .int (s5.1 + 1))]) cx [1, 0] rfl ?_
            exact ihe6 _ (se_l h_9)
          have LPe15 : ∀ (n : Nat) (s14 : Int32 × (Nat → Int32) × (Nat → Int32)), lp (f_X7_draw_b2 MOza s5) n s14 = some e15 → j 0 0 [(hMO, .inr (6, [.ref hMOz, .ref hMOa, .ref hMOb, .int MOst, .ref hMOk, .int MOik, .ref hMOt, .int MOln, .ref hMOo, .ref hMOw, .ref hMOm, .ref hMOq, .int MOpl, .int MOiw, .int MOle, .ref hMOn])), (hMOz, .inl (cI, 116, .inl MOza)), (hMOo, .inl (cI, 150, .inl s14.2.1)), (hMOw, .inl (cI, 150, .inl s14.2.2))] [(0, .ref hMO), (1, .int s5.1), (2, .int s14.1)] 68 [] := by
            intro n
            induction n with
            | zero => intro s14 z; exact absurd z (by intro z; cases z)
            | succ n ihe15 =>
              intro s14 h_22
              obtain ⟨q_23, h_24, h_25⟩ := bd_s h_22
              unfold f_X7_draw_b2 at h_24
              refine j_iload_n (pc' := 69) cx 2 dX7_draw_68 rfl rfl ?_
              refine j_iconst (pc' := 70) cx 4 dX7_draw_69 ki_4 rfl ?_
              refine j_icmp_ge (tgt := 109) (pc' := 73) cx dX7_draw_70 (by decide) rfl (fun ch_24 => ?_) (fun ch_24 => ?_)
              · have h_26 := it_t h_24 ch_24
                have h_27 := so_i h_26
                subst h_27
                have h_28 := so_i (se_r h_25)
                subst h_28
                refine j_lv (lv' := [(0, .ref hMO), (1, .int s5.1)]) cx [0, 1] rfl ?_
                exact KXe15
              · have h_29 := it_f h_24 ch_24
                refine j_aload_n (pc' := 74) cx 0 dX7_draw_73 rfl rfl ?_
                refine j_get (C := RX7) (T := TX7) (N := 16) (pc' := 77) cx uB_X7 0 rfl rfl 8 (by decide) wF_X7_25 (.ref hMOo) rfl dX7_draw_74 rfl ?_
                refine j_aload_n (pc' := 78) cx 0 dX7_draw_77 rfl rfl ?_
                refine j_iload_n (pc' := 79) cx 1 dX7_draw_78 rfl rfl ?_
                obtain ⟨r16, c17, h_30⟩ := bd_s h_29
                refine j_cV (pc' := 82) cx (c_X7_middleOf l D cI cZ cC cS hMO hMOz hMOa hMOb hMOk hMOt hMOo hMOw hMOm hMOq hMOn MOst MOik MOln MOpl MOiw MOle MOza s5.1 r16 c17) 1 yk_X7_middleOf wM_X7_58 ⟨wN_X7_middleOf, wS_X7_middleOf, wI_X7, wC_X7_middleOf⟩ ⟨rfl, rfl, Nat.le_of_ble_eq_true rfl, Nat.le_of_ble_eq_true rfl, Nat.le_of_ble_eq_true rfl, Nat.le_of_ble_eq_true rfl⟩ [0, 1] [2, 3] [2, 3, 0, 1] rfl [(hMOo, .inl (cI, 150, .inl s14.2.1)), (hMOw, .inl (cI, 150, .inl s14.2.2))] rfl (by decide) [(hMO, .inr (6, [.ref hMOz, .ref hMOa, .ref hMOb, .int MOst, .ref hMOk, .int MOik, .ref hMOt, .int MOln, .ref hMOo, .ref hMOw, .ref hMOm, .ref hMOq, .int MOpl, .int MOiw, .int MOle, .ref hMOn])), (hMOz, .inl (cI, 116, .inl MOza)), (hMOo, .inl (cI, 150, .inl s14.2.1)), (hMOw, .inl (cI, 150, .inl s14.2.2))] rfl (by decide) 0 6 rfl rfl rfl rfl rfl (Nat.le_of_ble_eq_true rfl) dX7_draw_79 rfl ?_
                refine j_iload_n (pc' := 83) cx 2 dX7_draw_82 rfl rfl ?_
                obtain ⟨r18, c19, h_31⟩ := bd_s h_30
                refine j_cS (pc' := 86) cx (c_X7_beside l D cI cZ cC cS r16 s14.1 r18 c19) 2 yk_X7_beside wM_X7_61 ⟨wT_X7_beside, wI_X7, wC_X7_beside⟩ ⟨rfl, rfl, Nat.le_of_ble_eq_true rfl, Nat.le_of_ble_eq_true rfl, Nat.le_of_ble_eq_true rfl, Nat.le_of_ble_eq_true rfl⟩ [] [0, 1, 2, 3] [0, 1, 2, 3] rfl [(hMO, .inr (6, [.ref hMOz, .ref hMOa, .ref hMOb, .int MOst, .ref hMOk, .int MOik, .ref hMOt, .int MOln, .ref hMOo, .ref hMOw, .ref hMOm, .ref hMOq, .int MOpl, .int MOiw, .int MOle, .ref hMOn])), (hMOz, .inl (cI, 116, .inl MOza)), (hMOo, .inl (cI, 150, .inl s14.2.1)), (hMOw, .inl (cI, 150, .inl s14.2.2))] rfl (by decide) [(hMO, .inr (6, [.ref hMOz, .ref hMOa, .ref hMOb, .int MOst, .ref hMOk, .int MOik, .ref hMOt, .int MOln, .ref hMOo, .ref hMOw, .ref hMOm, .ref hMOq, .int MOpl, .int MOiw, .int MOle, .ref hMOn])), (hMOz, .inl (cI, 116, .inl MOza)), (hMOo, .inl (cI, 150, .inl s14.2.1)), (hMOw, .inl (cI, 150, .inl s14.2.2))] rfl (by decide) rfl rfl (Nat.le_of_ble_eq_true rfl) dX7_draw_83 rfl ?_
                refine j_iload_n (pc' := 87) cx 1 dX7_draw_86 rfl rfl ?_
                obtain ⟨i20, h_32⟩ := ck_s h_31
                refine j_iast (ws' := [(hMO, .inr (6, [.ref hMOz, .ref hMOa, .ref hMOb, .int MOst, .ref hMOk, .int MOik, .ref hMOt, .int MOln, .ref hMOo, .ref hMOw, .ref hMOm, .ref hMOq, .int MOpl, .int MOiw, .int MOle, .ref hMOn])), (hMOz, .inl (cI, 116, .inl MOza)), (hMOo, .inl (cI, 150, .inl (upd s14.2.1 r18.toNatClampNeg s5.1))), (hMOw, .inl (cI, 150, .inl s14.2.2))]) (pc' := 88) cx 2 0 rfl rfl i20 rfl dX7_draw_87 rfl ?_
                refine j_aload_n (pc' := 89) cx 0 dX7_draw_88 rfl rfl ?_
                refine j_get (C := RX7) (T := TX7) (N := 16) (pc' := 92) cx uB_X7 0 rfl rfl 9 (by decide) wF_X7_28 (.ref hMOw) rfl dX7_draw_89 rfl ?_
                refine j_aload_n (pc' := 93) cx 0 dX7_draw_92 rfl rfl ?_
                refine j_iload_n (pc' := 94) cx 1 dX7_draw_93 rfl rfl ?_
                obtain ⟨r21, c22, h_33⟩ := bd_s h_32
                refine j_cV (pc' := 97) cx (c_X7_middleOf l D cI cZ cC cS hMO hMOz hMOa hMOb hMOk hMOt hMOo hMOw hMOm hMOq hMOn MOst MOik MOln MOpl MOiw MOle MOza s5.1 r21 c22) 1 yk_X7_middleOf wM_X7_58 ⟨wN_X7_middleOf, wS_X7_middleOf, wI_X7, wC_X7_middleOf⟩ ⟨rfl, rfl, Nat.le_of_ble_eq_true rfl, Nat.le_of_ble_eq_true rfl, Nat.le_of_ble_eq_true rfl, Nat.le_of_ble_eq_true rfl⟩ [0, 1] [2, 3] [2, 3, 0, 1] rfl [(hMOo, .inl (cI, 150, .inl (upd s14.2.1 r18.toNatClampNeg s5.1))), (hMOw, .inl (cI, 150, .inl s14.2.2))] rfl (by decide) [(hMO, .inr (6, [.ref hMOz, .ref hMOa, .ref hMOb, .int MOst, .ref hMOk, .int MOik, .ref hMOt, .int MOln, .ref hMOo, .ref hMOw, .ref hMOm, .ref hMOq, .int MOpl, .int MOiw, .int MOle, .ref hMOn])), (hMOz, .inl (cI, 116, .inl MOza)), (hMOo, .inl (cI, 150, .inl (upd s14.2.1 r18.toNatClampNeg s5.1))), (hMOw, .inl (cI, 150, .inl s14.2.2))] rfl (by decide) 0 6 rfl rfl rfl rfl rfl (Nat.le_of_ble_eq_true rfl) dX7_draw_94 rfl ?_
                refine j_iload_n (pc' := 98) cx 2 dX7_draw_97 rfl rfl ?_
                obtain ⟨r23, c24, h_34⟩ := bd_s h_33
                refine j_cS (pc' := 101) cx (c_X7_beside l D cI cZ cC cS r21 s14.1 r23 c24) 2 yk_X7_beside wM_X7_61 ⟨wT_X7_beside, wI_X7, wC_X7_beside⟩ ⟨rfl, rfl, Nat.le_of_ble_eq_true rfl, Nat.le_of_ble_eq_true rfl, Nat.le_of_ble_eq_true rfl, Nat.le_of_ble_eq_true rfl⟩ [] [0, 1, 2, 3] [0, 1, 2, 3] rfl [(hMO, .inr (6, [.ref hMOz, .ref hMOa, .ref hMOb, .int MOst, .ref hMOk, .int MOik, .ref hMOt, .int MOln, .ref hMOo, .ref hMOw, .ref hMOm, .ref hMOq, .int MOpl, .int MOiw, .int MOle, .ref hMOn])), (hMOz, .inl (cI, 116, .inl MOza)), (hMOo, .inl (cI, 150, .inl (upd s14.2.1 r18.toNatClampNeg s5.1))), (hMOw, .inl (cI, 150, .inl s14.2.2))] rfl (by decide) [(hMO, .inr (6, [.ref hMOz, .ref hMOa, .ref hMOb, .int MOst, .ref hMOk, .int MOik, .ref hMOt, .int MOln, .ref hMOo, .ref hMOw, .ref hMOm, .ref hMOq, .int MOpl, .int MOiw, .int MOle, .ref hMOn])), (hMOz, .inl (cI, 116, .inl MOza)), (hMOo, .inl (cI, 150, .inl (upd s14.2.1 r18.toNatClampNeg s5.1))), (hMOw, .inl (cI, 150, .inl s14.2.2))] rfl (by decide) rfl rfl (Nat.le_of_ble_eq_true rfl) dX7_draw_98 rfl ?_
                refine j_iload_n (pc' := 102) cx 2 dX7_draw_101 rfl rfl ?_
                obtain ⟨i25, h_35⟩ := ck_s h_34
                refine j_iast (ws' := [(hMO, .inr (6, [.ref hMOz, .ref hMOa, .ref hMOb, .int MOst, .ref hMOk, .int MOik, .ref hMOt, .int MOln, .ref hMOo, .ref hMOw, .ref hMOm, .ref hMOq, .int MOpl, .int MOiw, .int MOle, .ref hMOn])), (hMOz, .inl (cI, 116, .inl MOza)), (hMOo, .inl (cI, 150, .inl (upd s14.2.1 r18.toNatClampNeg s5.1))), (hMOw, .inl (cI, 150, .inl (upd s14.2.2 r23.toNatClampNeg s14.1)))]) (pc' := 103) cx 3 0 rfl rfl i25 rfl dX7_draw_102 rfl ?_
                refine j_iinc (v := (s14.1 + 1)) (lv' := [(2, .int (s14.1 + 1)), (0, .ref hMO), (1, .int s5.1)]) (pc' := 106) cx 2 dX7_draw_103 rfl (kn_1 _) (by decide) rfl rfl ?_
                refine j_goto (pc' := 68) cx dX7_draw_106 (by decide) ?_
                have h_36 := so_i h_35
                subst h_36
                refine j_lv (lv' := [(0, .ref hMO), (1, .int s5.1), (2, .int (s14.1 + 1))]) cx [1, 2, 0] rfl ?_
                exact ihe15 _ (se_l h_25)
          refine j_lv (lv' := [(0, .ref hMO), (1, .int s5.1), (2, .int 0)]) cx [1, 2, 0] rfl ?_
          exact LPe15 _ _ h_19
    refine j_lv (lv' := [(0, .ref hMO), (1, .int 0)]) cx [1, 0] rfl ?_
    exact LPe6 _ _ h_3
  have LPe2 : ∀ (n : Nat) (s1 : Int32 × (Nat → Int32) × (Nat → Int32)), lp (f_X7_draw_b1) n s1 = some e2 → j 0 0 [(hMO, .inr (6, [.ref hMOz, .ref hMOa, .ref hMOb, .int MOst, .ref hMOk, .int MOik, .ref hMOt, .int MOln, .ref hMOo, .ref hMOw, .ref hMOm, .ref hMOq, .int MOpl, .int MOiw, .int MOle, .ref hMOn])), (hMOz, .inl (cI, 116, .inl MOza)), (hMOo, .inl (cI, 150, .inl s1.2.1)), (hMOw, .inl (cI, 150, .inl s1.2.2))] [(0, .ref hMO), (1, .int s1.1)] 2 [] := by
    intro n
    induction n with
    | zero => intro s1 z; exact absurd z (by intro z; cases z)
    | succ n ihe2 =>
      intro s1 h_37
      obtain ⟨q_38, h_39, h_40⟩ := bd_s h_37
      unfold f_X7_draw_b1 at h_39
      refine j_iload_n (pc' := 3) cx 1 dX7_draw_2 rfl rfl ?_
      refine j_sipush (pc' := 6) cx 150 dX7_draw_3 ks_150 rfl ?_
      refine j_icmp_ge (tgt := 31) (pc' := 9) cx dX7_draw_6 (by decide) rfl (fun ch_39 => ?_) (fun ch_39 => ?_)
      · have h_41 := it_t h_39 ch_39
        have h_42 := so_i h_41
        subst h_42
        have h_43 := so_i (se_r h_40)
        subst h_43
        refine j_lv (lv' := [(0, .ref hMO)]) cx [0] rfl ?_
        exact KXe2
      · have h_44 := it_f h_39 ch_39
        refine j_aload_n (pc' := 10) cx 0 dX7_draw_9 rfl rfl ?_
        refine j_get (C := RX7) (T := TX7) (N := 16) (pc' := 13) cx uB_X7 0 rfl rfl 8 (by decide) wF_X7_25 (.ref hMOo) rfl dX7_draw_10 rfl ?_
        refine j_iload_n (pc' := 14) cx 1 dX7_draw_13 rfl rfl ?_
        refine j_bipush (pc' := 16) cx (-5) dX7_draw_14 kb_m5 rfl ?_
        obtain ⟨i3, h_45⟩ := ck_s h_44
        refine j_iast (ws' := [(hMO, .inr (6, [.ref hMOz, .ref hMOa, .ref hMOb, .int MOst, .ref hMOk, .int MOik, .ref hMOt, .int MOln, .ref hMOo, .ref hMOw, .ref hMOm, .ref hMOq, .int MOpl, .int MOiw, .int MOle, .ref hMOn])), (hMOz, .inl (cI, 116, .inl MOza)), (hMOo, .inl (cI, 150, .inl (upd s1.2.1 s1.1.toNatClampNeg (-5)))), (hMOw, .inl (cI, 150, .inl s1.2.2))]) (pc' := 17) cx 2 0 rfl rfl i3 rfl dX7_draw_16 rfl ?_
        refine j_aload_n (pc' := 18) cx 0 dX7_draw_17 rfl rfl ?_
        refine j_get (C := RX7) (T := TX7) (N := 16) (pc' := 21) cx uB_X7 0 rfl rfl 9 (by decide) wF_X7_28 (.ref hMOw) rfl dX7_draw_18 rfl ?_
        refine j_iload_n (pc' := 22) cx 1 dX7_draw_21 rfl rfl ?_
        refine j_bipush (pc' := 24) cx (-5) dX7_draw_22 kb_m5 rfl ?_
        obtain ⟨i4, h_46⟩ := ck_s h_45
        refine j_iast (ws' := [(hMO, .inr (6, [.ref hMOz, .ref hMOa, .ref hMOb, .int MOst, .ref hMOk, .int MOik, .ref hMOt, .int MOln, .ref hMOo, .ref hMOw, .ref hMOm, .ref hMOq, .int MOpl, .int MOiw, .int MOle, .ref hMOn])), (hMOz, .inl (cI, 116, .inl MOza)), (hMOo, .inl (cI, 150, .inl (upd s1.2.1 s1.1.toNatClampNeg (-5)))), (hMOw, .inl (cI, 150, .inl (upd s1.2.2 s1.1.toNatClampNeg (-5))))]) (pc' := 25) cx 3 0 rfl rfl i4 rfl dX7_draw_24 rfl ?_
        refine j_iinc (v := (s1.1 + 1)) (lv' := [(1, .int (s1.1 + 1)), (0, .ref hMO)]) (pc' := 28) cx 1 dX7_draw_25 rfl (kn_1 _) (by decide) rfl rfl ?_
        refine j_goto (pc' := 2) cx dX7_draw_28 (by decide) ?_
        have h_47 := so_i h_46
        subst h_47
        refine j_lv (lv' := [(0, .ref hMO), (1, .int (s1.1 + 1))]) cx [1, 0] rfl ?_
        exact ihe2 _ (se_l h_40)
  refine j_lv (lv' := [(0, .ref hMO), (1, .int 0)]) cx [1, 0] rfl ?_
  exact LPe2 _ _ h_1
set_option maxHeartbeats 4000000 in
set_option maxRecDepth 100000 in
theorem c_X7_in (l : Launch) (D : va_G) (cI cZ cC cS : ClassId) (p0 : Int32) (p1 : Int32) (p2 : Int32) (out : Int32) (hm : f_X7_in p0 p1 p2 = some out) : Ct l yX7_in cX7_in 3 (some .boolean) ({ frames := 0, cells := 0, slots := 0, locals := 0 }) (D, TY cI cZ cC cS) [.int p0, .int p1, .int p2] [] (jw_P (some (.int out)) []) 0 0 := by
  refine ct_of RX7 (by decide +kernel) rfl (Nat.le_of_ble_eq_true rfl) (fun j cx => ?_)
  unfold f_X7_in at hm
  show j 0 0 [] [(0, .int p0), (1, .int p1), (2, .int p2)] 0 []
  refine j_iload_n (pc' := 1) cx 0 dX7_in_0 rfl rfl ?_
  refine j_iload_n (pc' := 2) cx 1 dX7_in_1 rfl rfl ?_
  obtain ⟨t1, h_2, h_1⟩ := bd_s hm
  have Kt1 : j 0 0 [] [] 15 [.int t1] := by
    obtain ⟨b2, h_3⟩ := ckP_s h_1
    have h_4 := so_i h_3
    subst h_4
    exact j_ret cx (Or.inr (Or.inl ⟨_, _, rfl, (nz_n b2), dX7_in_15, rfl, rfl⟩)) ⟨rfl, rfl⟩
  refine j_icmp_lt (tgt := 14) (pc' := 5) cx dX7_in_2 (by decide) rfl (fun ch_2 => ?_) (fun ch_2 => ?_)
  · have h_5 := it_t h_2 ch_2
    refine j_iconst (pc' := 15) cx 0 dX7_in_14 ki_0 rfl ?_
    have h_6 := so_i h_5
    subst h_6
    refine j_lv (lv' := []) cx [] rfl ?_
    exact Kt1
  · have h_7 := it_f h_2 ch_2
    refine j_iload_n (pc' := 6) cx 0 dX7_in_5 rfl rfl ?_
    refine j_iload_n (pc' := 7) cx 2 dX7_in_6 rfl rfl ?_
    refine j_icmp_gt (tgt := 14) (pc' := 10) cx dX7_in_7 (by decide) rfl (fun ch_7 => ?_) (fun ch_7 => ?_)
    · have h_8 := it_t h_7 ch_7
      refine j_iconst (pc' := 15) cx 0 dX7_in_14 ki_0 rfl ?_
      have h_9 := so_i h_8
      subst h_9
      refine j_lv (lv' := []) cx [] rfl ?_
      exact Kt1
    · have h_10 := it_f h_7 ch_7
      refine j_iconst (pc' := 11) cx 1 dX7_in_10 ki_1 rfl ?_
      refine j_goto (pc' := 15) cx dX7_in_11 (by decide) ?_
      have h_11 := so_i h_10
      subst h_11
      refine j_lv (lv' := []) cx [] rfl ?_
      exact Kt1
set_option maxHeartbeats 4000000 in
set_option maxRecDepth 100000 in
theorem c_X7_isKind (l : Launch) (D : va_G) (cI cZ cC cS : ClassId) (p0 : Int32) (out : Int32) (hm : f_X7_isKind p0 = some out) : Ct l yX7_isKind cX7_isKind 1 (some .boolean) ({ frames := 1, cells := 0, slots := 0, locals := 22 }) (D, TY cI cZ cC cS) [.int p0] [] (jw_P (some (.int out)) []) 0 0 := by
  refine ct_of RX7 (by decide +kernel) rfl (Nat.le_of_ble_eq_true rfl) (fun j cx => ?_)
  unfold f_X7_isKind at hm
  show j 0 0 [] [(0, .int p0)] 0 []
  refine j_iload_n (pc' := 1) cx 0 dX7_isKind_0 rfl rfl ?_
  refine j_iconst (pc' := 2) cx 0 dX7_isKind_1 ki_0 rfl ?_
  refine j_iconst (pc' := 3) cx 5 dX7_isKind_2 ki_5 rfl ?_
  obtain ⟨r1, c2, h_1⟩ := bd_s hm
  refine j_cS (pc' := 6) cx (c_X7_in l D cI cZ cC cS p0 0 5 r1 c2) 3 yk_X7_in wM_X7_43 ⟨wT_X7_in, wI_X7, wC_X7_in⟩ ⟨rfl, rfl, Nat.le_of_ble_eq_true rfl, Nat.le_of_ble_eq_true rfl, Nat.le_of_ble_eq_true rfl, Nat.le_of_ble_eq_true rfl⟩ [] [] [] rfl [] rfl (by decide) [] rfl (by decide) rfl rfl (Nat.le_of_ble_eq_true rfl) dX7_isKind_3 rfl ?_
  obtain ⟨b3, h_2⟩ := ckP_s h_1
  have h_3 := so_i h_2
  subst h_3
  exact j_ret cx (Or.inr (Or.inl ⟨_, _, rfl, (nz_n b3), dX7_isKind_6, rfl, rfl⟩)) ⟨rfl, rfl⟩
set_option maxHeartbeats 4000000 in
set_option maxRecDepth 100000 in
theorem c_X7_isCell (l : Launch) (D : va_G) (cI cZ cC cS : ClassId) (p0 : Int32) (out : Int32) (hm : f_X7_isCell p0 = some out) : Ct l yX7_isCell cX7_isCell 1 (some .boolean) ({ frames := 1, cells := 0, slots := 0, locals := 22 }) (D, TY cI cZ cC cS) [.int p0] [] (jw_P (some (.int out)) []) 0 0 := by
  refine ct_of RX7 (by decide +kernel) rfl (Nat.le_of_ble_eq_true rfl) (fun j cx => ?_)
  unfold f_X7_isCell at hm
  show j 0 0 [] [(0, .int p0)] 0 []
  refine j_iload_n (pc' := 1) cx 0 dX7_isCell_0 rfl rfl ?_
  refine j_iconst (pc' := 2) cx 0 dX7_isCell_1 ki_0 rfl ?_
  refine j_sipush (pc' := 5) cx 149 dX7_isCell_2 ks_149 rfl ?_
  obtain ⟨r1, c2, h_1⟩ := bd_s hm
  refine j_cS (pc' := 8) cx (c_X7_in l D cI cZ cC cS p0 0 149 r1 c2) 3 yk_X7_in wM_X7_43 ⟨wT_X7_in, wI_X7, wC_X7_in⟩ ⟨rfl, rfl, Nat.le_of_ble_eq_true rfl, Nat.le_of_ble_eq_true rfl, Nat.le_of_ble_eq_true rfl, Nat.le_of_ble_eq_true rfl⟩ [] [] [] rfl [] rfl (by decide) [] rfl (by decide) rfl rfl (Nat.le_of_ble_eq_true rfl) dX7_isCell_5 rfl ?_
  obtain ⟨b3, h_2⟩ := ckP_s h_1
  have h_3 := so_i h_2
  subst h_3
  exact j_ret cx (Or.inr (Or.inl ⟨_, _, rfl, (nz_n b3), dX7_isCell_8, rfl, rfl⟩)) ⟨rfl, rfl⟩
set_option maxHeartbeats 4000000 in
set_option maxRecDepth 100000 in
theorem c_X7_isCross (l : Launch) (D : va_G) (cI cZ cC cS : ClassId) (hMO hMOz hMOa hMOb hMOk hMOt hMOo hMOw hMOm hMOq hMOn : Nat) (MOst : Int32) (MOik : Int32) (MOln : Int32) (MOpl : Int32) (MOiw : Int32) (MOle : Int32) (MOza : Nat → Int32) (p0 : Int32) (out : Int32) (hm : f_X7_isCross MOza p0 = some out) : Ct l yX7_isCross cX7_isCross 2 (some .boolean) ({ frames := 1, cells := 0, slots := 0, locals := 22 }) (D, TY cI cZ cC cS) [.ref hMO, .int p0] [(hMO, .inr (6, [.ref hMOz, .ref hMOa, .ref hMOb, .int MOst, .ref hMOk, .int MOik, .ref hMOt, .int MOln, .ref hMOo, .ref hMOw, .ref hMOm, .ref hMOq, .int MOpl, .int MOiw, .int MOle, .ref hMOn])), (hMOz, .inl (cI, 116, .inl MOza))] (jw_P (some (.int out)) [(hMO, .inr (6, [.ref hMOz, .ref hMOa, .ref hMOb, .int MOst, .ref hMOk, .int MOik, .ref hMOt, .int MOln, .ref hMOo, .ref hMOw, .ref hMOm, .ref hMOq, .int MOpl, .int MOiw, .int MOle, .ref hMOn])), (hMOz, .inl (cI, 116, .inl MOza))]) 0 0 := by
  refine ct_of RX7 (by decide +kernel) rfl (Nat.le_of_ble_eq_true rfl) (fun j cx => ?_)
  unfold f_X7_isCross at hm
  show j 0 0 [(hMO, .inr (6, [.ref hMOz, .ref hMOa, .ref hMOb, .int MOst, .ref hMOk, .int MOik, .ref hMOt, .int MOln, .ref hMOo, .ref hMOw, .ref hMOm, .ref hMOq, .int MOpl, .int MOiw, .int MOle, .ref hMOn])), (hMOz, .inl (cI, 116, .inl MOza))] [(0, .ref hMO), (1, .int p0)] 0 []
  refine j_iload_n (pc' := 1) cx 1 dX7_isCross_0 rfl rfl ?_
  refine j_iconst (pc' := 2) cx 0 dX7_isCross_1 ki_0 rfl ?_
  refine j_aload_n (pc' := 3) cx 0 dX7_isCross_2 rfl rfl ?_
  refine j_get (C := RX7) (T := TX7) (N := 16) (pc' := 6) cx uB_X7 0 rfl rfl 0 (by decide) wF_X7_7 (.ref hMOz) rfl dX7_isCross_3 rfl ?_
  refine j_bipush (pc' := 8) cx 25 dX7_isCross_6 kb_25 rfl ?_
  obtain ⟨i1, h_1⟩ := ck_s hm
  refine j_iald (pc' := 9) cx 1 0 rfl rfl i1 dX7_isCross_8 rfl ?_
  refine j_iconst (pc' := 10) cx 1 dX7_isCross_9 ki_1 rfl ?_
  refine j_isub (pc' := 11) cx dX7_isCross_10 rfl ?_
  obtain ⟨r2, c3, h_2⟩ := bd_s h_1
  refine j_cS (pc' := 14) cx (c_X7_in l D cI cZ cC cS p0 0 ((MOza (25 : Int32).toNatClampNeg) - 1) r2 c3) 3 yk_X7_in wM_X7_43 ⟨wT_X7_in, wI_X7, wC_X7_in⟩ ⟨rfl, rfl, Nat.le_of_ble_eq_true rfl, Nat.le_of_ble_eq_true rfl, Nat.le_of_ble_eq_true rfl, Nat.le_of_ble_eq_true rfl⟩ [] [0, 1] [0, 1] rfl [(hMO, .inr (6, [.ref hMOz, .ref hMOa, .ref hMOb, .int MOst, .ref hMOk, .int MOik, .ref hMOt, .int MOln, .ref hMOo, .ref hMOw, .ref hMOm, .ref hMOq, .int MOpl, .int MOiw, .int MOle, .ref hMOn])), (hMOz, .inl (cI, 116, .inl MOza))] rfl (by decide) [(hMO, .inr (6, [.ref hMOz, .ref hMOa, .ref hMOb, .int MOst, .ref hMOk, .int MOik, .ref hMOt, .int MOln, .ref hMOo, .ref hMOw, .ref hMOm, .ref hMOq, .int MOpl, .int MOiw, .int MOle, .ref hMOn])), (hMOz, .inl (cI, 116, .inl MOza))] rfl (by decide) rfl rfl (Nat.le_of_ble_eq_true rfl) dX7_isCross_11 rfl ?_
  obtain ⟨b4, h_3⟩ := ckP_s h_2
  have h_4 := so_i h_3
  subst h_4
  exact j_ret cx (Or.inr (Or.inl ⟨_, _, rfl, (nz_n b4), dX7_isCross_14, rfl, rfl⟩)) ⟨rfl, rfl⟩
set_option maxHeartbeats 4000000 in
set_option maxRecDepth 100000 in
theorem c_X7_kindOf (l : Launch) (D : va_G) (cI cZ cC cS : ClassId) (hMO hMOz hMOa hMOb hMOk hMOt hMOo hMOw hMOm hMOq hMOn : Nat) (MOst : Int32) (MOik : Int32) (MOln : Int32) (MOpl : Int32) (MOiw : Int32) (MOle : Int32) (MOza : Nat → Int32) (p0 : Int32) (out : Int32) (hm : f_X7_kindOf MOza p0 = some out) : Ct l yX7_kindOf cX7_kindOf 2 (some .int) ({ frames := 0, cells := 0, slots := 0, locals := 0 }) (D, TY cI cZ cC cS) [.ref hMO, .int p0] [(hMO, .inr (6, [.ref hMOz, .ref hMOa, .ref hMOb, .int MOst, .ref hMOk, .int MOik, .ref hMOt, .int MOln, .ref hMOo, .ref hMOw, .ref hMOm, .ref hMOq, .int MOpl, .int MOiw, .int MOle, .ref hMOn])), (hMOz, .inl (cI, 116, .inl MOza))] (jw_P (some (.int out)) [(hMO, .inr (6, [.ref hMOz, .ref hMOa, .ref hMOb, .int MOst, .ref hMOk, .int MOik, .ref hMOt, .int MOln, .ref hMOo, .ref hMOw, .ref hMOm, .ref hMOq, .int MOpl, .int MOiw, .int MOle, .ref hMOn])), (hMOz, .inl (cI, 116, .inl MOza))]) 0 0 := by
  refine ct_of RX7 (by decide +kernel) rfl (Nat.le_of_ble_eq_true rfl) (fun j cx => ?_)
  unfold f_X7_kindOf at hm
  show j 0 0 [(hMO, .inr (6, [.ref hMOz, .ref hMOa, .ref hMOb, .int MOst, .ref hMOk, .int MOik, .ref hMOt, .int MOln, .ref hMOo, .ref hMOw, .ref hMOm, .ref hMOq, .int MOpl, .int MOiw, .int MOle, .ref hMOn])), (hMOz, .inl (cI, 116, .inl MOza))] [(0, .ref hMO), (1, .int p0)] 0 []
  refine j_aload_n (pc' := 1) cx 0 dX7_kindOf_0 rfl rfl ?_
  refine j_get (C := RX7) (T := TX7) (N := 16) (pc' := 4) cx uB_X7 0 rfl rfl 0 (by decide) wF_X7_7 (.ref hMOz) rfl dX7_kindOf_1 rfl ?_
  refine j_bipush (pc' := 6) cx 26 dX7_kindOf_4 kb_26 rfl ?_
  refine j_iconst (pc' := 7) cx 3 dX7_kindOf_6 ki_3 rfl ?_
  refine j_iload_n (pc' := 8) cx 1 dX7_kindOf_7 rfl rfl ?_
  refine j_imul (pc' := 9) cx dX7_kindOf_8 rfl ?_
  refine j_iadd (pc' := 10) cx dX7_kindOf_9 rfl ?_
  obtain ⟨i1, h_1⟩ := ck_s hm
  refine j_iald (pc' := 11) cx 1 0 rfl rfl i1 dX7_kindOf_10 rfl ?_
  have h_2 := so_i h_1
  subst h_2
  exact j_ret cx (Or.inr (Or.inl ⟨_, _, rfl, rfl, dX7_kindOf_11, rfl, rfl⟩)) ⟨rfl, rfl⟩
set_option maxHeartbeats 4000000 in
set_option maxRecDepth 100000 in
theorem c_X7_turnsOf (l : Launch) (D : va_G) (cI cZ cC cS : ClassId) (hMO hMOz hMOa hMOb hMOk hMOt hMOo hMOw hMOm hMOq hMOn : Nat) (MOst : Int32) (MOik : Int32) (MOln : Int32) (MOpl : Int32) (MOiw : Int32) (MOle : Int32) (MOza : Nat → Int32) (p0 : Int32) (out : Int32) (hm : f_X7_turnsOf MOza p0 = some out) : Ct l yX7_turnsOf cX7_turnsOf 2 (some .int) ({ frames := 0, cells := 0, slots := 0, locals := 0 }) (D, TY cI cZ cC cS) [.ref hMO, .int p0] [(hMO, .inr (6, [.ref hMOz, .ref hMOa, .ref hMOb, .int MOst, .ref hMOk, .int MOik, .ref hMOt, .int MOln, .ref hMOo, .ref hMOw, .ref hMOm, .ref hMOq, .int MOpl, .int MOiw, .int MOle, .ref hMOn])), (hMOz, .inl (cI, 116, .inl MOza))] (jw_P (some (.int out)) [(hMO, .inr (6, [.ref hMOz, .ref hMOa, .ref hMOb, .int MOst, .ref hMOk, .int MOik, .ref hMOt, .int MOln, .ref hMOo, .ref hMOw, .ref hMOm, .ref hMOq, .int MOpl, .int MOiw, .int MOle, .ref hMOn])), (hMOz, .inl (cI, 116, .inl MOza))]) 0 0 := by
  refine ct_of RX7 (by decide +kernel) rfl (Nat.le_of_ble_eq_true rfl) (fun j cx => ?_)
  unfold f_X7_turnsOf at hm
  show j 0 0 [(hMO, .inr (6, [.ref hMOz, .ref hMOa, .ref hMOb, .int MOst, .ref hMOk, .int MOik, .ref hMOt, .int MOln, .ref hMOo, .ref hMOw, .ref hMOm, .ref hMOq, .int MOpl, .int MOiw, .int MOle, .ref hMOn])), (hMOz, .inl (cI, 116, .inl MOza))] [(0, .ref hMO), (1, .int p0)] 0 []
  refine j_aload_n (pc' := 1) cx 0 dX7_turnsOf_0 rfl rfl ?_
  refine j_get (C := RX7) (T := TX7) (N := 16) (pc' := 4) cx uB_X7 0 rfl rfl 0 (by decide) wF_X7_7 (.ref hMOz) rfl dX7_turnsOf_1 rfl ?_
  refine j_bipush (pc' := 6) cx 26 dX7_turnsOf_4 kb_26 rfl ?_
  refine j_iconst (pc' := 7) cx 3 dX7_turnsOf_6 ki_3 rfl ?_
  refine j_iload_n (pc' := 8) cx 1 dX7_turnsOf_7 rfl rfl ?_
  refine j_imul (pc' := 9) cx dX7_turnsOf_8 rfl ?_
  refine j_iadd (pc' := 10) cx dX7_turnsOf_9 rfl ?_
  refine j_iconst (pc' := 11) cx 1 dX7_turnsOf_10 ki_1 rfl ?_
  refine j_iadd (pc' := 12) cx dX7_turnsOf_11 rfl ?_
  obtain ⟨i1, h_1⟩ := ck_s hm
  refine j_iald (pc' := 13) cx 1 0 rfl rfl i1 dX7_turnsOf_12 rfl ?_
  have h_2 := so_i h_1
  subst h_2
  exact j_ret cx (Or.inr (Or.inl ⟨_, _, rfl, rfl, dX7_turnsOf_13, rfl, rfl⟩)) ⟨rfl, rfl⟩
set_option maxHeartbeats 4000000 in
set_option maxRecDepth 100000 in
theorem c_X7_colourBy (l : Launch) (D : va_G) (cI cZ cC cS : ClassId) (hMO hMOz hMOa hMOb hMOk hMOt hMOo hMOw hMOm hMOq hMOn : Nat) (MOst : Int32) (MOik : Int32) (MOln : Int32) (MOpl : Int32) (MOiw : Int32) (MOle : Int32) (MOza : Nat → Int32) (p0 : Int32) (p1 : Int32) (p2 : Int32) (out : Int32) (hm : f_X7_colourBy MOza p0 p1 p2 = some out) : Ct l yX7_colourBy cX7_colourBy 4 (some .int) ({ frames := 0, cells := 0, slots := 0, locals := 0 }) (D, TY cI cZ cC cS) [.ref hMO, .int p0, .int p1, .int p2] [(hMO, .inr (6, [.ref hMOz, .ref hMOa, .ref hMOb, .int MOst, .ref hMOk, .int MOik, .ref hMOt, .int MOln, .ref hMOo, .ref hMOw, .ref hMOm, .ref hMOq, .int MOpl, .int MOiw, .int MOle, .ref hMOn])), (hMOz, .inl (cI, 116, .inl MOza))] (jw_P (some (.int out)) [(hMO, .inr (6, [.ref hMOz, .ref hMOa, .ref hMOb, .int MOst, .ref hMOk, .int MOik, .ref hMOt, .int MOln, .ref hMOo, .ref hMOw, .ref hMOm, .ref hMOq, .int MOpl, .int MOiw, .int MOle, .ref hMOn])), (hMOz, .inl (cI, 116, .inl MOza))]) 0 0 := by
  refine ct_of RX7 (by decide +kernel) rfl (Nat.le_of_ble_eq_true rfl) (fun j cx => ?_)
  unfold f_X7_colourBy at hm
  show j 0 0 [(hMO, .inr (6, [.ref hMOz, .ref hMOa, .ref hMOb, .int MOst, .ref hMOk, .int MOik, .ref hMOt, .int MOln, .ref hMOo, .ref hMOw, .ref hMOm, .ref hMOq, .int MOpl, .int MOiw, .int MOle, .ref hMOn])), (hMOz, .inl (cI, 116, .inl MOza))] [(0, .ref hMO), (1, .int p0), (2, .int p1), (3, .int p2)] 0 []
  refine j_aload_n (pc' := 1) cx 0 dX7_colourBy_0 rfl rfl ?_
  refine j_get (C := RX7) (T := TX7) (N := 16) (pc' := 4) cx uB_X7 0 rfl rfl 0 (by decide) wF_X7_7 (.ref hMOz) rfl dX7_colourBy_1 rfl ?_
  refine j_iconst (pc' := 5) cx 4 dX7_colourBy_4 ki_4 rfl ?_
  refine j_iload_n (pc' := 6) cx 1 dX7_colourBy_5 rfl rfl ?_
  refine j_imul (pc' := 7) cx dX7_colourBy_6 rfl ?_
  refine j_iload_n (pc' := 8) cx 3 dX7_colourBy_7 rfl rfl ?_
  refine j_iload_n (pc' := 9) cx 2 dX7_colourBy_8 rfl rfl ?_
  refine j_isub (pc' := 10) cx dX7_colourBy_9 rfl ?_
  refine j_iconst (pc' := 11) cx 4 dX7_colourBy_10 ki_4 rfl ?_
  refine j_iadd (pc' := 12) cx dX7_colourBy_11 rfl ?_
  refine j_iconst (pc' := 13) cx 4 dX7_colourBy_12 ki_4 rfl ?_
  refine j_irem (pc' := 14) cx dX7_colourBy_13 kz_4 rfl ?_
  refine j_iadd (pc' := 15) cx dX7_colourBy_14 rfl ?_
  obtain ⟨i1, h_1⟩ := ck_s hm
  refine j_iald (pc' := 16) cx 1 0 rfl rfl i1 dX7_colourBy_15 rfl ?_
  have h_2 := so_i h_1
  subst h_2
  exact j_ret cx (Or.inr (Or.inl ⟨_, _, rfl, rfl, dX7_colourBy_16, rfl, rfl⟩)) ⟨rfl, rfl⟩
set_option maxHeartbeats 4000000 in
set_option maxRecDepth 100000 in
theorem c_X7_colourOf (l : Launch) (D : va_G) (cI cZ cC cS : ClassId) (hMO hMOz hMOa hMOb hMOk hMOt hMOo hMOw hMOm hMOq hMOn : Nat) (MOst : Int32) (MOik : Int32) (MOln : Int32) (MOpl : Int32) (MOiw : Int32) (MOle : Int32) (MOza : Nat → Int32) (p0 : Int32) (p1 : Int32) (out : Int32) (hm : f_X7_colourOf MOza p0 p1 = some out) : Ct l yX7_colourOf cX7_colourOf 3 (some .int) ({ frames := 1, cells := 0, slots := 0, locals := 23 }) (D, TY cI cZ cC cS) [.ref hMO, .int p0, .int p1] [(hMO, .inr (6, [.ref hMOz, .ref hMOa, .ref hMOb, .int MOst, .ref hMOk, .int MOik, .ref hMOt, .int MOln, .ref hMOo, .ref hMOw, .ref hMOm, .ref hMOq, .int MOpl, .int MOiw, .int MOle, .ref hMOn])), (hMOz, .inl (cI, 116, .inl MOza))] (jw_P (some (.int out)) [(hMO, .inr (6, [.ref hMOz, .ref hMOa, .ref hMOb, .int MOst, .ref hMOk, .int MOik, .ref hMOt, .int MOln, .ref hMOo, .ref hMOw, .ref hMOm, .ref hMOq, .int MOpl, .int MOiw, .int MOle, .ref hMOn])), (hMOz, .inl (cI, 116, .inl MOza))]) 0 0 := by
  refine ct_of RX7 (by decide +kernel) rfl (Nat.le_of_ble_eq_true rfl) (fun j cx => ?_)
  unfold f_X7_colourOf at hm
  show j 0 0 [(hMO, .inr (6, [.ref hMOz, .ref hMOa, .ref hMOb, .int MOst, .ref hMOk, .int MOik, .ref hMOt, .int MOln, .ref hMOo, .ref hMOw, .ref hMOm, .ref hMOq, .int MOpl, .int MOiw, .int MOle, .ref hMOn])), (hMOz, .inl (cI, 116, .inl MOza))] [(0, .ref hMO), (1, .int p0), (2, .int p1)] 0 []
  refine j_aload_n (pc' := 1) cx 0 dX7_colourOf_0 rfl rfl ?_
  refine j_aload_n (pc' := 2) cx 0 dX7_colourOf_1 rfl rfl ?_
  refine j_iload_n (pc' := 3) cx 1 dX7_colourOf_2 rfl rfl ?_
  obtain ⟨r1, c2, h_1⟩ := bd_s hm
  refine j_cV (pc' := 6) cx (c_X7_kindOf l D cI cZ cC cS hMO hMOz hMOa hMOb hMOk hMOt hMOo hMOw hMOm hMOq hMOn MOst MOik MOln MOpl MOiw MOle MOza p0 r1 c2) 1 yk_X7_kindOf wM_X7_47 ⟨wN_X7_kindOf, wS_X7_kindOf, wI_X7, wC_X7_kindOf⟩ ⟨rfl, rfl, Nat.le_of_ble_eq_true rfl, Nat.le_of_ble_eq_true rfl, Nat.le_of_ble_eq_true rfl, Nat.le_of_ble_eq_true rfl⟩ [0, 1] [] [0, 1] rfl [] rfl (by decide) [(hMO, .inr (6, [.ref hMOz, .ref hMOa, .ref hMOb, .int MOst, .ref hMOk, .int MOik, .ref hMOt, .int MOln, .ref hMOo, .ref hMOw, .ref hMOm, .ref hMOq, .int MOpl, .int MOiw, .int MOle, .ref hMOn])), (hMOz, .inl (cI, 116, .inl MOza))] rfl (by decide) 0 6 rfl rfl rfl rfl rfl (Nat.le_of_ble_eq_true rfl) dX7_colourOf_3 rfl ?_
  refine j_aload_n (pc' := 7) cx 0 dX7_colourOf_6 rfl rfl ?_
  refine j_iload_n (pc' := 8) cx 1 dX7_colourOf_7 rfl rfl ?_
  obtain ⟨r3, c4, h_2⟩ := bd_s h_1
  refine j_cV (pc' := 11) cx (c_X7_turnsOf l D cI cZ cC cS hMO hMOz hMOa hMOb hMOk hMOt hMOo hMOw hMOm hMOq hMOn MOst MOik MOln MOpl MOiw MOle MOza p0 r3 c4) 1 yk_X7_turnsOf wM_X7_51 ⟨wN_X7_turnsOf, wS_X7_turnsOf, wI_X7, wC_X7_turnsOf⟩ ⟨rfl, rfl, Nat.le_of_ble_eq_true rfl, Nat.le_of_ble_eq_true rfl, Nat.le_of_ble_eq_true rfl, Nat.le_of_ble_eq_true rfl⟩ [0, 1] [] [0, 1] rfl [] rfl (by decide) [(hMO, .inr (6, [.ref hMOz, .ref hMOa, .ref hMOb, .int MOst, .ref hMOk, .int MOik, .ref hMOt, .int MOln, .ref hMOo, .ref hMOw, .ref hMOm, .ref hMOq, .int MOpl, .int MOiw, .int MOle, .ref hMOn])), (hMOz, .inl (cI, 116, .inl MOza))] rfl (by decide) 0 6 rfl rfl rfl rfl rfl (Nat.le_of_ble_eq_true rfl) dX7_colourOf_8 rfl ?_
  refine j_iload_n (pc' := 12) cx 2 dX7_colourOf_11 rfl rfl ?_
  obtain ⟨r5, c6, h_3⟩ := bd_s h_2
  refine j_cV (pc' := 15) cx (c_X7_colourBy l D cI cZ cC cS hMO hMOz hMOa hMOb hMOk hMOt hMOo hMOw hMOm hMOq hMOn MOst MOik MOln MOpl MOiw MOle MOza r1 r3 p1 r5 c6) 3 yk_X7_colourBy wM_X7_54 ⟨wN_X7_colourBy, wS_X7_colourBy, wI_X7, wC_X7_colourBy⟩ ⟨rfl, rfl, Nat.le_of_ble_eq_true rfl, Nat.le_of_ble_eq_true rfl, Nat.le_of_ble_eq_true rfl, Nat.le_of_ble_eq_true rfl⟩ [0, 1] [] [0, 1] rfl [] rfl (by decide) [(hMO, .inr (6, [.ref hMOz, .ref hMOa, .ref hMOb, .int MOst, .ref hMOk, .int MOik, .ref hMOt, .int MOln, .ref hMOo, .ref hMOw, .ref hMOm, .ref hMOq, .int MOpl, .int MOiw, .int MOle, .ref hMOn])), (hMOz, .inl (cI, 116, .inl MOza))] rfl (by decide) 0 6 rfl rfl rfl rfl rfl (Nat.le_of_ble_eq_true rfl) dX7_colourOf_12 rfl ?_
  have h_4 := so_i h_3
  subst h_4
  exact j_ret cx (Or.inr (Or.inl ⟨_, _, rfl, rfl, dX7_colourOf_15, rfl, rfl⟩)) ⟨rfl, rfl⟩
set_option maxHeartbeats 4000000 in
set_option maxRecDepth 100000 in
theorem c_X7_hasArm (l : Launch) (D : va_G) (cI cZ cC cS : ClassId) (hMO hMOz hMOa hMOb hMOk hMOt hMOo hMOw hMOm hMOq hMOn : Nat) (MOst : Int32) (MOik : Int32) (MOln : Int32) (MOpl : Int32) (MOiw : Int32) (MOle : Int32) (MOwy : Nat → Int32) (p0 : Int32) (out : Int32) (hm : f_X7_hasArm MOwy p0 = some out) : Ct l yX7_hasArm cX7_hasArm 2 (some .boolean) ({ frames := 1, cells := 0, slots := 0, locals := 22 }) (D, TY cI cZ cC cS) [.ref hMO, .int p0] [(hMO, .inr (6, [.ref hMOz, .ref hMOa, .ref hMOb, .int MOst, .ref hMOk, .int MOik, .ref hMOt, .int MOln, .ref hMOo, .ref hMOw, .ref hMOm, .ref hMOq, .int MOpl, .int MOiw, .int MOle, .ref hMOn])), (hMOw, .inl (cI, 150, .inl MOwy))] (jw_P (some (.int out)) [(hMO, .inr (6, [.ref hMOz, .ref hMOa, .ref hMOb, .int MOst, .ref hMOk, .int MOik, .ref hMOt, .int MOln, .ref hMOo, .ref hMOw, .ref hMOm, .ref hMOq, .int MOpl, .int MOiw, .int MOle, .ref hMOn])), (hMOw, .inl (cI, 150, .inl MOwy))]) 0 0 := by
  refine ct_of RX7 (by decide +kernel) rfl (Nat.le_of_ble_eq_true rfl) (fun j cx => ?_)
  unfold f_X7_hasArm at hm
  show j 0 0 [(hMO, .inr (6, [.ref hMOz, .ref hMOa, .ref hMOb, .int MOst, .ref hMOk, .int MOik, .ref hMOt, .int MOln, .ref hMOo, .ref hMOw, .ref hMOm, .ref hMOq, .int MOpl, .int MOiw, .int MOle, .ref hMOn])), (hMOw, .inl (cI, 150, .inl MOwy))] [(0, .ref hMO), (1, .int p0)] 0 []
  refine j_aload_n (pc' := 1) cx 0 dX7_hasArm_0 rfl rfl ?_
  refine j_get (C := RX7) (T := TX7) (N := 16) (pc' := 4) cx uB_X7 0 rfl rfl 9 (by decide) wF_X7_28 (.ref hMOw) rfl dX7_hasArm_1 rfl ?_
  refine j_iload_n (pc' := 5) cx 1 dX7_hasArm_4 rfl rfl ?_
  obtain ⟨i1, h_1⟩ := ck_s hm
  refine j_iald (pc' := 6) cx 1 0 rfl rfl i1 dX7_hasArm_5 rfl ?_
  refine j_iconst (pc' := 7) cx 0 dX7_hasArm_6 ki_0 rfl ?_
  refine j_iconst (pc' := 8) cx 3 dX7_hasArm_7 ki_3 rfl ?_
  obtain ⟨r2, c3, h_2⟩ := bd_s h_1
  refine j_cS (pc' := 11) cx (c_X7_in l D cI cZ cC cS (MOwy p0.toNatClampNeg) 0 3 r2 c3) 3 yk_X7_in wM_X7_43 ⟨wT_X7_in, wI_X7, wC_X7_in⟩ ⟨rfl, rfl, Nat.le_of_ble_eq_true rfl, Nat.le_of_ble_eq_true rfl, Nat.le_of_ble_eq_true rfl, Nat.le_of_ble_eq_true rfl⟩ [] [0, 1] [0, 1] rfl [(hMO, .inr (6, [.ref hMOz, .ref hMOa, .ref hMOb, .int MOst, .ref hMOk, .int MOik, .ref hMOt, .int MOln, .ref hMOo, .ref hMOw, .ref hMOm, .ref hMOq, .int MOpl, .int MOiw, .int MOle, .ref hMOn])), (hMOw, .inl (cI, 150, .inl MOwy))] rfl (by decide) [(hMO, .inr (6, [.ref hMOz, .ref hMOa, .ref hMOb, .int MOst, .ref hMOk, .int MOik, .ref hMOt, .int MOln, .ref hMOo, .ref hMOw, .ref hMOm, .ref hMOq, .int MOpl, .int MOiw, .int MOle, .ref hMOn])), (hMOw, .inl (cI, 150, .inl MOwy))] rfl (by decide) rfl rfl (Nat.le_of_ble_eq_true rfl) dX7_hasArm_8 rfl ?_
  obtain ⟨b4, h_3⟩ := ckP_s h_2
  have h_4 := so_i h_3
  subst h_4
  exact j_ret cx (Or.inr (Or.inl ⟨_, _, rfl, (nz_n b4), dX7_hasArm_11, rfl, rfl⟩)) ⟨rfl, rfl⟩
set_option maxHeartbeats 4000000 in
set_option maxRecDepth 100000 in
theorem c_X7_armColour (l : Launch) (D : va_G) (cI cZ cC cS : ClassId) (hMO hMOz hMOa hMOb hMOk hMOt hMOo hMOw hMOm hMOq hMOn : Nat) (MOst : Int32) (MOik : Int32) (MOln : Int32) (MOpl : Int32) (MOiw : Int32) (MOle : Int32) (MOza : Nat → Int32) (MOon : Nat → Int32) (MOwy : Nat → Int32) (p0 : Int32) (out : Int32) (hm : f_X7_armColour MOza MOon MOwy p0 = some out) : Ct l yX7_armColour cX7_armColour 2 (some .int) ({ frames := 2, cells := 0, slots := 0, locals := 45 }) (D, TY cI cZ cC cS) [.ref hMO, .int p0] [(hMO, .inr (6, [.ref hMOz, .ref hMOa, .ref hMOb, .int MOst, .ref hMOk, .int MOik, .ref hMOt, .int MOln, .ref hMOo, .ref hMOw, .ref hMOm, .ref hMOq, .int MOpl, .int MOiw, .int MOle, .ref hMOn])), (hMOz, .inl (cI, 116, .inl MOza)), (hMOo, .inl (cI, 150, .inl MOon)), (hMOw, .inl (cI, 150, .inl MOwy))] (jw_P (some (.int out)) [(hMO, .inr (6, [.ref hMOz, .ref hMOa, .ref hMOb, .int MOst, .ref hMOk, .int MOik, .ref hMOt, .int MOln, .ref hMOo, .ref hMOw, .ref hMOm, .ref hMOq, .int MOpl, .int MOiw, .int MOle, .ref hMOn])), (hMOz, .inl (cI, 116, .inl MOza)), (hMOo, .inl (cI, 150, .inl MOon)), (hMOw, .inl (cI, 150, .inl MOwy))]) 0 0 := by
  refine ct_of RX7 (by decide +kernel) rfl (Nat.le_of_ble_eq_true rfl) (fun j cx => ?_)
  unfold f_X7_armColour at hm
  show j 0 0 [(hMO, .inr (6, [.ref hMOz, .ref hMOa, .ref hMOb, .int MOst, .ref hMOk, .int MOik, .ref hMOt, .int MOln, .ref hMOo, .ref hMOw, .ref hMOm, .ref hMOq, .int MOpl, .int MOiw, .int MOle, .ref hMOn])), (hMOz, .inl (cI, 116, .inl MOza)), (hMOo, .inl (cI, 150, .inl MOon)), (hMOw, .inl (cI, 150, .inl MOwy))] [(0, .ref hMO), (1, .int p0)] 0 []
  refine j_aload_n (pc' := 1) cx 0 dX7_armColour_0 rfl rfl ?_
  refine j_aload_n (pc' := 2) cx 0 dX7_armColour_1 rfl rfl ?_
  refine j_get (C := RX7) (T := TX7) (N := 16) (pc' := 5) cx uB_X7 0 rfl rfl 8 (by decide) wF_X7_25 (.ref hMOo) rfl dX7_armColour_2 rfl ?_
  refine j_iload_n (pc' := 6) cx 1 dX7_armColour_5 rfl rfl ?_
  obtain ⟨i1, h_1⟩ := ck_s hm
  refine j_iald (pc' := 7) cx 2 0 rfl rfl i1 dX7_armColour_6 rfl ?_
  refine j_aload_n (pc' := 8) cx 0 dX7_armColour_7 rfl rfl ?_
  refine j_get (C := RX7) (T := TX7) (N := 16) (pc' := 11) cx uB_X7 0 rfl rfl 9 (by decide) wF_X7_28 (.ref hMOw) rfl dX7_armColour_8 rfl ?_
  refine j_iload_n (pc' := 12) cx 1 dX7_armColour_11 rfl rfl ?_
  obtain ⟨i2, h_2⟩ := ck_s h_1
  refine j_iald (pc' := 13) cx 3 0 rfl rfl i2 dX7_armColour_12 rfl ?_
  obtain ⟨r3, c4, h_3⟩ := bd_s h_2
  refine j_cV (pc' := 16) cx (c_X7_colourOf l D cI cZ cC cS hMO hMOz hMOa hMOb hMOk hMOt hMOo hMOw hMOm hMOq hMOn MOst MOik MOln MOpl MOiw MOle MOza (MOon p0.toNatClampNeg) (MOwy p0.toNatClampNeg) r3 c4) 2 yk_X7_colourOf wM_X7_65 ⟨wN_X7_colourOf, wS_X7_colourOf, wI_X7, wC_X7_colourOf⟩ ⟨rfl, rfl, Nat.le_of_ble_eq_true rfl, Nat.le_of_ble_eq_true rfl, Nat.le_of_ble_eq_true rfl, Nat.le_of_ble_eq_true rfl⟩ [0, 1] [2, 3] [2, 3, 0, 1] rfl [(hMOo, .inl (cI, 150, .inl MOon)), (hMOw, .inl (cI, 150, .inl MOwy))] rfl (by decide) [(hMO, .inr (6, [.ref hMOz, .ref hMOa, .ref hMOb, .int MOst, .ref hMOk, .int MOik, .ref hMOt, .int MOln, .ref hMOo, .ref hMOw, .ref hMOm, .ref hMOq, .int MOpl, .int MOiw, .int MOle, .ref hMOn])), (hMOz, .inl (cI, 116, .inl MOza)), (hMOo, .inl (cI, 150, .inl MOon)), (hMOw, .inl (cI, 150, .inl MOwy))] rfl (by decide) 0 6 rfl rfl rfl rfl rfl (Nat.le_of_ble_eq_true rfl) dX7_armColour_13 rfl ?_
  have h_4 := so_i h_3
  subst h_4
  exact j_ret cx (Or.inr (Or.inl ⟨_, _, rfl, rfl, dX7_armColour_16, rfl, rfl⟩)) ⟨rfl, rfl⟩
set_option maxHeartbeats 4000000 in
set_option maxRecDepth 100000 in
theorem c_X7_clash (l : Launch) (D : va_G) (cI cZ cC cS : ClassId) (hMO hMOz hMOa hMOb hMOk hMOt hMOo hMOw hMOm hMOq hMOn : Nat) (MOst : Int32) (MOik : Int32) (MOln : Int32) (MOpl : Int32) (MOiw : Int32) (MOle : Int32) (MOza : Nat → Int32) (p0 : Int32) (p1 : Int32) (out : Int32) (hm : f_X7_clash MOza p0 p1 = some out) : Ct l yX7_clash cX7_clash 3 (some .boolean) ({ frames := 0, cells := 0, slots := 0, locals := 0 }) (D, TY cI cZ cC cS) [.ref hMO, .int p0, .int p1] [(hMO, .inr (6, [.ref hMOz, .ref hMOa, .ref hMOb, .int MOst, .ref hMOk, .int MOik, .ref hMOt, .int MOln, .ref hMOo, .ref hMOw, .ref hMOm, .ref hMOq, .int MOpl, .int MOiw, .int MOle, .ref hMOn])), (hMOz, .inl (cI, 116, .inl MOza))] (jw_P (some (.int out)) [(hMO, .inr (6, [.ref hMOz, .ref hMOa, .ref hMOb, .int MOst, .ref hMOk, .int MOik, .ref hMOt, .int MOln, .ref hMOo, .ref hMOw, .ref hMOm, .ref hMOq, .int MOpl, .int MOiw, .int MOle, .ref hMOn])), (hMOz, .inl (cI, 116, .inl MOza))]) 0 0 := by
  refine ct_of RX7 (by decide +kernel) rfl (Nat.le_of_ble_eq_true rfl) (fun j cx => ?_)
  unfold f_X7_clash at hm
  show j 0 0 [(hMO, .inr (6, [.ref hMOz, .ref hMOa, .ref hMOb, .int MOst, .ref hMOk, .int MOik, .ref hMOt, .int MOln, .ref hMOo, .ref hMOw, .ref hMOm, .ref hMOq, .int MOpl, .int MOiw, .int MOle, .ref hMOn])), (hMOz, .inl (cI, 116, .inl MOza))] [(0, .ref hMO), (1, .int p0), (2, .int p1)] 0 []
  refine j_aload_n (pc' := 1) cx 0 dX7_clash_0 rfl rfl ?_
  refine j_get (C := RX7) (T := TX7) (N := 16) (pc' := 4) cx uB_X7 0 rfl rfl 0 (by decide) wF_X7_7 (.ref hMOz) rfl dX7_clash_1 rfl ?_
  refine j_bipush (pc' := 6) cx 24 dX7_clash_4 kb_24 rfl ?_
  obtain ⟨i1, h_1⟩ := ck_s hm
  refine j_iald (pc' := 7) cx 1 0 rfl rfl i1 dX7_clash_6 rfl ?_
  obtain ⟨t3, h_3, h_2⟩ := bd_s h_1
  have Kt3 : j 0 0 [(hMO, .inr (6, [.ref hMOz, .ref hMOa, .ref hMOb, .int MOst, .ref hMOk, .int MOik, .ref hMOt, .int MOln, .ref hMOo, .ref hMOw, .ref hMOm, .ref hMOq, .int MOpl, .int MOiw, .int MOle, .ref hMOn])), (hMOz, .inl (cI, 116, .inl MOza))] [] 44 [.int t3] := by
    obtain ⟨b4, h_4⟩ := ckP_s h_2
    have h_5 := so_i h_4
    subst h_5
    exact j_ret cx (Or.inr (Or.inl ⟨_, _, rfl, (nz_n b4), dX7_clash_44, rfl, rfl⟩)) ⟨rfl, rfl⟩
  refine j_if_ne (tgt := 23) (pc' := 10) cx dX7_clash_7 (by decide) rfl (fun ch_3 => ?_) (fun ch_3 => ?_)
  · have h_6 := it_f h_3 ch_3
    refine j_aload_n (pc' := 24) cx 0 dX7_clash_23 rfl rfl ?_
    refine j_get (C := RX7) (T := TX7) (N := 16) (pc' := 27) cx uB_X7 0 rfl rfl 0 (by decide) wF_X7_7 (.ref hMOz) rfl dX7_clash_24 rfl ?_
    refine j_bipush (pc' := 29) cx 24 dX7_clash_27 kb_24 rfl ?_
    obtain ⟨i2, h_7⟩ := ck_s h_6
    refine j_iald (pc' := 30) cx 1 0 rfl rfl i2 dX7_clash_29 rfl ?_
    refine j_iconst (pc' := 31) cx 1 dX7_clash_30 ki_1 rfl ?_
    refine j_icmp_ne (tgt := 43) (pc' := 34) cx dX7_clash_31 (by decide) rfl (fun ch_7 => ?_) (fun ch_7 => ?_)
    · have h_8 := it_f h_7 ch_7
      refine j_iconst (pc' := 44) cx 0 dX7_clash_43 ki_0 rfl ?_
      have h_9 := so_i h_8
      subst h_9
      refine j_lv (lv' := []) cx [] rfl ?_
      exact Kt3
    · have h_10 := it_t h_7 ch_7
      refine j_iload_n (pc' := 35) cx 1 dX7_clash_34 rfl rfl ?_
      refine j_iload_n (pc' := 36) cx 2 dX7_clash_35 rfl rfl ?_
      refine j_icmp_ne (tgt := 43) (pc' := 39) cx dX7_clash_36 (by decide) rfl (fun ch_10 => ?_) (fun ch_10 => ?_)
      · have h_11 := it_f h_10 ch_10
        refine j_iconst (pc' := 44) cx 0 dX7_clash_43 ki_0 rfl ?_
        have h_12 := so_i h_11
        subst h_12
        refine j_lv (lv' := []) cx [] rfl ?_
        exact Kt3
      · have h_13 := it_t h_10 ch_10
        refine j_iconst (pc' := 40) cx 1 dX7_clash_39 ki_1 rfl ?_
        refine j_goto (pc' := 44) cx dX7_clash_40 (by decide) ?_
        have h_14 := so_i h_13
        subst h_14
        refine j_lv (lv' := []) cx [] rfl ?_
        exact Kt3
  · have h_15 := it_t h_3 ch_3
    refine j_iload_n (pc' := 11) cx 1 dX7_clash_10 rfl rfl ?_
    refine j_iload_n (pc' := 12) cx 2 dX7_clash_11 rfl rfl ?_
    refine j_icmp_eq (tgt := 19) (pc' := 15) cx dX7_clash_12 (by decide) rfl (fun ch_15 => ?_) (fun ch_15 => ?_)
    · have h_16 := it_t h_15 ch_15
      refine j_iconst (pc' := 20) cx 0 dX7_clash_19 ki_0 rfl ?_
      refine j_goto (pc' := 44) cx dX7_clash_20 (by decide) ?_
      have h_17 := so_i h_16
      subst h_17
      refine j_lv (lv' := []) cx [] rfl ?_
      exact Kt3
    · have h_18 := it_f h_15 ch_15
      refine j_iconst (pc' := 16) cx 1 dX7_clash_15 ki_1 rfl ?_
      refine j_goto (pc' := 44) cx dX7_clash_16 (by decide) ?_
      have h_19 := so_i h_18
      subst h_19
      refine j_lv (lv' := []) cx [] rfl ?_
      exact Kt3
set_option maxHeartbeats 4000000 in
set_option maxRecDepth 100000 in
theorem c_X7_touch (l : Launch) (D : va_G) (cI cZ cC cS : ClassId) (hMO hMOz hMOa hMOb hMOk hMOt hMOo hMOw hMOm hMOq hMOn : Nat) (MOst : Int32) (MOik : Int32) (MOln : Int32) (MOpl : Int32) (MOiw : Int32) (MOle : Int32) (MOon : Nat → Int32) (MOwy : Nat → Int32) (p0 : Int32) (p1 : Int32) (out : Int32) (hm : f_X7_touch MOon MOwy p0 p1 = some out) : Ct l yX7_touch cX7_touch 3 (some .boolean) ({ frames := 2, cells := 0, slots := 0, locals := 43 }) (D, TY cI cZ cC cS) [.ref hMO, .int p0, .int p1] [(hMO, .inr (6, [.ref hMOz, .ref hMOa, .ref hMOb, .int MOst, .ref hMOk, .int MOik, .ref hMOt, .int MOln, .ref hMOo, .ref hMOw, .ref hMOm, .ref hMOq, .int MOpl, .int MOiw, .int MOle, .ref hMOn])), (hMOo, .inl (cI, 150, .inl MOon)), (hMOw, .inl (cI, 150, .inl MOwy))] (jw_P (some (.int out)) [(hMO, .inr (6, [.ref hMOz, .ref hMOa, .ref hMOb, .int MOst, .ref hMOk, .int MOik, .ref hMOt, .int MOln, .ref hMOo, .ref hMOw, .ref hMOm, .ref hMOq, .int MOpl, .int MOiw, .int MOle, .ref hMOn])), (hMOo, .inl (cI, 150, .inl MOon)), (hMOw, .inl (cI, 150, .inl MOwy))]) 0 0 := by
  refine ct_of RX7 (by decide +kernel) rfl (Nat.le_of_ble_eq_true rfl) (fun j cx => ?_)
  unfold f_X7_touch at hm
  show j 0 0 [(hMO, .inr (6, [.ref hMOz, .ref hMOa, .ref hMOb, .int MOst, .ref hMOk, .int MOik, .ref hMOt, .int MOln, .ref hMOo, .ref hMOw, .ref hMOm, .ref hMOq, .int MOpl, .int MOiw, .int MOle, .ref hMOn])), (hMOo, .inl (cI, 150, .inl MOon)), (hMOw, .inl (cI, 150, .inl MOwy))] [(0, .ref hMO), (1, .int p0), (2, .int p1)] 0 []
  refine j_aload_n (pc' := 1) cx 0 dX7_touch_0 rfl rfl ?_
  refine j_iload_n (pc' := 2) cx 1 dX7_touch_1 rfl rfl ?_
  obtain ⟨r1, c2, h_1⟩ := bd_s hm
  refine j_cV (pc' := 5) cx (c_X7_hasArm l D cI cZ cC cS hMO hMOz hMOa hMOb hMOk hMOt hMOo hMOw hMOm hMOq hMOn MOst MOik MOln MOpl MOiw MOle MOwy p0 r1 c2) 1 yk_X7_hasArm wM_X7_68 ⟨wN_X7_hasArm, wS_X7_hasArm, wI_X7, wC_X7_hasArm⟩ ⟨rfl, rfl, Nat.le_of_ble_eq_true rfl, Nat.le_of_ble_eq_true rfl, Nat.le_of_ble_eq_true rfl, Nat.le_of_ble_eq_true rfl⟩ [0, 2] [1] [1, 0, 2] rfl [(hMOo, .inl (cI, 150, .inl MOon))] rfl (by decide) [(hMO, .inr (6, [.ref hMOz, .ref hMOa, .ref hMOb, .int MOst, .ref hMOk, .int MOik, .ref hMOt, .int MOln, .ref hMOo, .ref hMOw, .ref hMOm, .ref hMOq, .int MOpl, .int MOiw, .int MOle, .ref hMOn])), (hMOo, .inl (cI, 150, .inl MOon)), (hMOw, .inl (cI, 150, .inl MOwy))] rfl (by decide) 0 6 rfl rfl rfl rfl rfl (Nat.le_of_ble_eq_true rfl) dX7_touch_2 rfl ?_
  obtain ⟨t7, h_3, h_2⟩ := bd_s h_1
  have Kt7 : j 0 0 [(hMO, .inr (6, [.ref hMOz, .ref hMOa, .ref hMOb, .int MOst, .ref hMOk, .int MOik, .ref hMOt, .int MOln, .ref hMOo, .ref hMOw, .ref hMOm, .ref hMOq, .int MOpl, .int MOiw, .int MOle, .ref hMOn])), (hMOo, .inl (cI, 150, .inl MOon)), (hMOw, .inl (cI, 150, .inl MOwy))] [] 36 [.int t7] := by
    obtain ⟨b8, h_4⟩ := ckP_s h_2
    have h_5 := so_i h_4
    subst h_5
    exact j_ret cx (Or.inr (Or.inl ⟨_, _, rfl, (nz_n b8), dX7_touch_36, rfl, rfl⟩)) ⟨rfl, rfl⟩
  refine j_if_eq (tgt := 35) (pc' := 8) cx dX7_touch_5 (by decide) rfl (fun ch_3 => ?_) (fun ch_3 => ?_)
  · have h_6 := it_t h_3 ch_3
    refine j_iconst (pc' := 36) cx 0 dX7_touch_35 ki_0 rfl ?_
    have h_7 := so_i h_6
    subst h_7
    refine j_lv (lv' := []) cx [] rfl ?_
    exact Kt7
  · have h_8 := it_f h_3 ch_3
    refine j_aload_n (pc' := 9) cx 0 dX7_touch_8 rfl rfl ?_
    refine j_iload_n (pc' := 10) cx 2 dX7_touch_9 rfl rfl ?_
    obtain ⟨r3, c4, h_9⟩ := bd_s h_8
    refine j_cV (pc' := 13) cx (c_X7_hasArm l D cI cZ cC cS hMO hMOz hMOa hMOb hMOk hMOt hMOo hMOw hMOm hMOq hMOn MOst MOik MOln MOpl MOiw MOle MOwy p1 r3 c4) 1 yk_X7_hasArm wM_X7_68 ⟨wN_X7_hasArm, wS_X7_hasArm, wI_X7, wC_X7_hasArm⟩ ⟨rfl, rfl, Nat.le_of_ble_eq_true rfl, Nat.le_of_ble_eq_true rfl, Nat.le_of_ble_eq_true rfl, Nat.le_of_ble_eq_true rfl⟩ [0, 2] [1] [1, 0, 2] rfl [(hMOo, .inl (cI, 150, .inl MOon))] rfl (by decide) [(hMO, .inr (6, [.ref hMOz, .ref hMOa, .ref hMOb, .int MOst, .ref hMOk, .int MOik, .ref hMOt, .int MOln, .ref hMOo, .ref hMOw, .ref hMOm, .ref hMOq, .int MOpl, .int MOiw, .int MOle, .ref hMOn])), (hMOo, .inl (cI, 150, .inl MOon)), (hMOw, .inl (cI, 150, .inl MOwy))] rfl (by decide) 0 6 rfl rfl rfl rfl rfl (Nat.le_of_ble_eq_true rfl) dX7_touch_10 rfl ?_
    refine j_if_eq (tgt := 35) (pc' := 16) cx dX7_touch_13 (by decide) rfl (fun ch_9 => ?_) (fun ch_9 => ?_)
    · have h_10 := it_t h_9 ch_9
      refine j_iconst (pc' := 36) cx 0 dX7_touch_35 ki_0 rfl ?_
      have h_11 := so_i h_10
      subst h_11
      refine j_lv (lv' := []) cx [] rfl ?_
      exact Kt7
    · have h_12 := it_f h_9 ch_9
      refine j_aload_n (pc' := 17) cx 0 dX7_touch_16 rfl rfl ?_
      refine j_get (C := RX7) (T := TX7) (N := 16) (pc' := 20) cx uB_X7 0 rfl rfl 8 (by decide) wF_X7_25 (.ref hMOo) rfl dX7_touch_17 rfl ?_
      refine j_iload_n (pc' := 21) cx 1 dX7_touch_20 rfl rfl ?_
      obtain ⟨i5, h_13⟩ := ck_s h_12
      refine j_iald (pc' := 22) cx 1 0 rfl rfl i5 dX7_touch_21 rfl ?_
      refine j_aload_n (pc' := 23) cx 0 dX7_touch_22 rfl rfl ?_
      refine j_get (C := RX7) (T := TX7) (N := 16) (pc' := 26) cx uB_X7 0 rfl rfl 8 (by decide) wF_X7_25 (.ref hMOo) rfl dX7_touch_23 rfl ?_
      refine j_iload_n (pc' := 27) cx 2 dX7_touch_26 rfl rfl ?_
      obtain ⟨i6, h_14⟩ := ck_s h_13
      refine j_iald (pc' := 28) cx 1 0 rfl rfl i6 dX7_touch_27 rfl ?_
      refine j_icmp_eq (tgt := 35) (pc' := 31) cx dX7_touch_28 (by decide) rfl (fun ch_14 => ?_) (fun ch_14 => ?_)
      · have h_15 := it_t h_14 ch_14
        refine j_iconst (pc' := 36) cx 0 dX7_touch_35 ki_0 rfl ?_
        have h_16 := so_i h_15
        subst h_16
        refine j_lv (lv' := []) cx [] rfl ?_
        exact Kt7
      · have h_17 := it_f h_14 ch_14
        refine j_iconst (pc' := 32) cx 1 dX7_touch_31 ki_1 rfl ?_
        refine j_goto (pc' := 36) cx dX7_touch_32 (by decide) ?_
        have h_18 := so_i h_17
        subst h_18
        refine j_lv (lv' := []) cx [] rfl ?_
        exact Kt7
set_option maxHeartbeats 4000000 in
set_option maxRecDepth 100000 in
theorem c_X7_areClashing (l : Launch) (D : va_G) (cI cZ cC cS : ClassId) (hMO hMOz hMOa hMOb hMOk hMOt hMOo hMOw hMOm hMOq hMOn : Nat) (MOst : Int32) (MOik : Int32) (MOln : Int32) (MOpl : Int32) (MOiw : Int32) (MOle : Int32) (MOza : Nat → Int32) (MOon : Nat → Int32) (MOwy : Nat → Int32) (out : Int32) (hm : f_X7_areClashing MOza MOon MOwy = some out) : Ct l yX7_areClashing cX7_areClashing 5 (some .boolean) ({ frames := 3, cells := 0, slots := 0, locals := 66 }) (D, TY cI cZ cC cS) [.ref hMO] [(hMO, .inr (6, [.ref hMOz, .ref hMOa, .ref hMOb, .int MOst, .ref hMOk, .int MOik, .ref hMOt, .int MOln, .ref hMOo, .ref hMOw, .ref hMOm, .ref hMOq, .int MOpl, .int MOiw, .int MOle, .ref hMOn])), (hMOz, .inl (cI, 116, .inl MOza)), (hMOo, .inl (cI, 150, .inl MOon)), (hMOw, .inl (cI, 150, .inl MOwy))] (jw_P (some (.int out)) [(hMO, .inr (6, [.ref hMOz, .ref hMOa, .ref hMOb, .int MOst, .ref hMOk, .int MOik, .ref hMOt, .int MOln, .ref hMOo, .ref hMOw, .ref hMOm, .ref hMOq, .int MOpl, .int MOiw, .int MOle, .ref hMOn])), (hMOz, .inl (cI, 116, .inl MOza)), (hMOo, .inl (cI, 150, .inl MOon)), (hMOw, .inl (cI, 150, .inl MOwy))]) 0 0 := by
  refine ct_of RX7 (by decide +kernel) rfl (Nat.le_of_ble_eq_true rfl) (fun j cx => ?_)
  unfold f_X7_areClashing at hm
  show j 0 0 [(hMO, .inr (6, [.ref hMOz, .ref hMOa, .ref hMOb, .int MOst, .ref hMOk, .int MOik, .ref hMOt, .int MOln, .ref hMOo, .ref hMOw, .ref hMOm, .ref hMOq, .int MOpl, .int MOiw, .int MOle, .ref hMOn])), (hMOz, .inl (cI, 116, .inl MOza)), (hMOo, .inl (cI, 150, .inl MOon)), (hMOw, .inl (cI, 150, .inl MOwy))] [(0, .ref hMO)] 0 []
  refine j_iconst (pc' := 1) cx 0 dX7_areClashing_0 ki_0 rfl ?_
  refine j_istore_n (lv' := [(1, .int 0), (0, .ref hMO)]) (pc' := 2) cx dX7_areClashing_1 (by decide) rfl rfl ?_
  refine j_iconst (pc' := 3) cx 0 dX7_areClashing_2 ki_0 rfl ?_
  refine j_istore_n (lv' := [(2, .int 0), (1, .int 0), (0, .ref hMO)]) (pc' := 4) cx dX7_areClashing_3 (by decide) rfl rfl ?_
  obtain ⟨e2, h_1, h_2⟩ := bd_s hm
  have KXe2 : j 0 0 [(hMO, .inr (6, [.ref hMOz, .ref hMOa, .ref hMOb, .int MOst, .ref hMOk, .int MOik, .ref hMOt, .int MOln, .ref hMOo, .ref hMOw, .ref hMOm, .ref hMOq, .int MOpl, .int MOiw, .int MOle, .ref hMOn])), (hMOz, .inl (cI, 116, .inl MOza)), (hMOo, .inl (cI, 150, .inl MOon)), (hMOw, .inl (cI, 150, .inl MOwy))] [(1, .int e2.1)] 75 [] := by
    refine j_iload_n (pc' := 76) cx 0 dX7_areClashing_75 rfl rfl ?_
    obtain ⟨b16, h_3⟩ := ckP_s h_2
    have h_4 := so_i h_3
    subst h_4
    exact j_ret cx (Or.inr (Or.inl ⟨_, _, rfl, (nz_n b16), dX7_areClashing_76, rfl, rfl⟩)) ⟨rfl, rfl⟩
  have LPe2 : ∀ (n : Nat) (s1 : Int32 × Int32), lp (f_X7_areClashing_b2 MOza MOon MOwy) n s1 = some e2 → j 0 0 [(hMO, .inr (6, [.ref hMOz, .ref hMOa, .ref hMOb, .int MOst, .ref hMOk, .int MOik, .ref hMOt, .int MOln, .ref hMOo, .ref hMOw, .ref hMOm, .ref hMOq, .int MOpl, .int MOiw, .int MOle, .ref hMOn])), (hMOz, .inl (cI, 116, .inl MOza)), (hMOo, .inl (cI, 150, .inl MOon)), (hMOw, .inl (cI, 150, .inl MOwy))] [(0, .ref hMO), (1, .int s1.1), (2, .int s1.2)] 4 [] := by
    intro n
    induction n with
    | zero => intro s1 z; exact absurd z (by intro z; cases z)
    | succ n ihe2 =>
      intro s1 h_5
      obtain ⟨q_6, h_7, h_8⟩ := bd_s h_5
      unfold f_X7_areClashing_b2 at h_7
      refine j_iload_n (pc' := 5) cx 2 dX7_areClashing_4 rfl rfl ?_
      refine j_sipush (pc' := 8) cx 150 dX7_areClashing_5 ks_150 rfl ?_
      refine j_icmp_ge (tgt := 75) (pc' := 11) cx dX7_areClashing_8 (by decide) rfl (fun ch_7 => ?_) (fun ch_7 => ?_)
      · have h_9 := it_t h_7 ch_7
        have h_10 := so_i h_9
        subst h_10
        have h_11 := so_i (se_r h_8)
        subst h_11
        refine j_lv (lv' := [(1, .int s1.1)]) cx [1] rfl ?_
        exact KXe2
      · have h_12 := it_f h_7 ch_7
        refine j_iconst (pc' := 12) cx 1 dX7_areClashing_11 ki_1 rfl ?_
        refine j_istore_n (lv' := [(3, .int 1), (0, .ref hMO), (1, .int s1.1), (2, .int s1.2)]) (pc' := 13) cx dX7_areClashing_12 (by decide) rfl rfl ?_
        obtain ⟨e4, h_13, h_14⟩ := bd_s h_12
        have KXe4 : j 0 0 [(hMO, .inr (6, [.ref hMOz, .ref hMOa, .ref hMOb, .int MOst, .ref hMOk, .int MOik, .ref hMOt, .int MOln, .ref hMOo, .ref hMOw, .ref hMOm, .ref hMOq, .int MOpl, .int MOiw, .int MOle, .ref hMOn])), (hMOz, .inl (cI, 116, .inl MOza)), (hMOo, .inl (cI, 150, .inl MOon)), (hMOw, .inl (cI, 150, .inl MOwy))] [(0, .ref hMO), (1, .int e4.1), (2, .int s1.2)] 69 [] := by
          refine j_iinc (v := (s1.2 + 1)) (lv' := [(2, .int (s1.2 + 1)), (0, .ref hMO), (1, .int e4.1)]) (pc' := 72) cx 2 dX7_areClashing_69 rfl (kn_1 _) (by decide) rfl rfl ?_
          refine j_goto (pc' := 4) cx dX7_areClashing_72 (by decide) ?_
          have h_15 := so_i h_14
          subst h_15
          refine j_lv (lv' := [(0, .ref hMO), (1, .int e4.1), (2, .int (s1.2 + 1))]) cx [1, 2, 0] rfl ?_
          exact ihe2 _ (se_l h_8)
        have LPe4 : ∀ (n : Nat) (s3 : Int32 × Int32), lp (f_X7_areClashing_b1 MOza MOon MOwy s1) n s3 = some e4 → j 0 0 [(hMO, .inr (6, [.ref hMOz, .ref hMOa, .ref hMOb, .int MOst, .ref hMOk, .int MOik, .ref hMOt, .int MOln, .ref hMOo, .ref hMOw, .ref hMOm, .ref hMOq, .int MOpl, .int MOiw, .int MOle, .ref hMOn])), (hMOz, .inl (cI, 116, .inl MOza)), (hMOo, .inl (cI, 150, .inl MOon)), (hMOw, .inl (cI, 150, .inl MOwy))] [(0, .ref hMO), (1, .int s3.1), (2, .int s1.2), (3, .int s3.2)] 13 [] := by
          intro n
          induction n with
          | zero => intro s3 z; exact absurd z (by intro z; cases z)
          | succ n ihe4 =>
            intro s3 h_16
            obtain ⟨q_17, h_18, h_19⟩ := bd_s h_16
            unfold f_X7_areClashing_b1 at h_18
            refine j_iload_n (pc' := 14) cx 3 dX7_areClashing_13 rfl rfl ?_
            refine j_iconst (pc' := 15) cx 3 dX7_areClashing_14 ki_3 rfl ?_
            refine j_icmp_ge (tgt := 69) (pc' := 18) cx dX7_areClashing_15 (by decide) rfl (fun ch_18 => ?_) (fun ch_18 => ?_)
            · have h_20 := it_t h_18 ch_18
              have h_21 := so_i h_20
              subst h_21
              have h_22 := so_i (se_r h_19)
              subst h_22
              refine j_lv (lv' := [(0, .ref hMO), (1, .int s3.1), (2, .int s1.2)]) cx [0, 1, 2] rfl ?_
              exact KXe4
            · have h_23 := it_f h_18 ch_18
              refine j_iload_n (pc' := 19) cx 2 dX7_areClashing_18 rfl rfl ?_
              refine j_iload_n (pc' := 20) cx 3 dX7_areClashing_19 rfl rfl ?_
              obtain ⟨r5, c6, h_24⟩ := bd_s h_23
              refine j_cS (pc' := 23) cx (c_X7_beside l D cI cZ cC cS s1.2 s3.2 r5 c6) 2 yk_X7_beside wM_X7_61 ⟨wT_X7_beside, wI_X7, wC_X7_beside⟩ ⟨rfl, rfl, Nat.le_of_ble_eq_true rfl, Nat.le_of_ble_eq_true rfl, Nat.le_of_ble_eq_true rfl, Nat.le_of_ble_eq_true rfl⟩ [] [0, 1, 2, 3] [0, 1, 2, 3] rfl [(hMO, .inr (6, [.ref hMOz, .ref hMOa, .ref hMOb, .int MOst, .ref hMOk, .int MOik, .ref hMOt, .int MOln, .ref hMOo, .ref hMOw, .ref hMOm, .ref hMOq, .int MOpl, .int MOiw, .int MOle, .ref hMOn])), (hMOz, .inl (cI, 116, .inl MOza)), (hMOo, .inl (cI, 150, .inl MOon)), (hMOw, .inl (cI, 150, .inl MOwy))] rfl (by decide) [(hMO, .inr (6, [.ref hMOz, .ref hMOa, .ref hMOb, .int MOst, .ref hMOk, .int MOik, .ref hMOt, .int MOln, .ref hMOo, .ref hMOw, .ref hMOm, .ref hMOq, .int MOpl, .int MOiw, .int MOle, .ref hMOn])), (hMOz, .inl (cI, 116, .inl MOza)), (hMOo, .inl (cI, 150, .inl MOon)), (hMOw, .inl (cI, 150, .inl MOwy))] rfl (by decide) rfl rfl (Nat.le_of_ble_eq_true rfl) dX7_areClashing_20 rfl ?_
              refine j_istore (lv' := [(4, .int r5), (0, .ref hMO), (1, .int s3.1), (2, .int s1.2), (3, .int s3.2)]) (pc' := 25) cx dX7_areClashing_23 (by decide) rfl rfl ?_
              refine j_iload_n (pc' := 26) cx 2 dX7_areClashing_25 rfl rfl ?_
              obtain ⟨t15, h_26, h_25⟩ := bd_s h_24
              have Kt15 : j 0 0 [(hMO, .inr (6, [.ref hMOz, .ref hMOa, .ref hMOb, .int MOst, .ref hMOk, .int MOik, .ref hMOt, .int MOln, .ref hMOo, .ref hMOw, .ref hMOm, .ref hMOq, .int MOpl, .int MOiw, .int MOle, .ref hMOn])), (hMOz, .inl (cI, 116, .inl MOza)), (hMOo, .inl (cI, 150, .inl MOon)), (hMOw, .inl (cI, 150, .inl MOwy))] [(0, .ref hMO), (2, .int s1.2), (3, .int s3.2)] 62 [.int t15] := by
                refine j_istore_n (lv' := [(1, .int t15), (0, .ref hMO), (2, .int s1.2), (3, .int s3.2)]) (pc' := 63) cx dX7_areClashing_62 (by decide) rfl rfl ?_
                refine j_iinc (v := (s3.2 + 1)) (lv' := [(3, .int (s3.2 + 1)), (1, .int t15), (0, .ref hMO), (2, .int s1.2)]) (pc' := 66) cx 3 dX7_areClashing_63 rfl (kn_1 _) (by decide) rfl rfl ?_
                refine j_goto (pc' := 13) cx dX7_areClashing_66 (by decide) ?_
                have h_27 := so_i h_25
                subst h_27
                refine j_lv (lv' := [(0, .ref hMO), (1, .int t15), (2, .int s1.2), (3, .int (s3.2 + 1))]) cx [2, 1, 3, 0] rfl ?_
                exact ihe4 _ (se_l h_19)
              refine j_if_ne (tgt := 57) (pc' := 29) cx dX7_areClashing_26 (by decide) rfl (fun ch_26 => ?_) (fun ch_26 => ?_)
              · have h_28 := it_f h_26 ch_26
                refine j_iconst (pc' := 58) cx 1 dX7_areClashing_57 ki_1 rfl ?_
                refine j_goto (pc' := 62) cx dX7_areClashing_58 (by decide) ?_
                have h_29 := so_i h_28
                subst h_29
                refine j_lv (lv' := [(0, .ref hMO), (2, .int s1.2), (3, .int s3.2)]) cx [1, 3, 4] rfl ?_
                exact Kt15
              · have h_30 := it_t h_26 ch_26
                refine j_aload_n (pc' := 30) cx 1 dX7_areClashing_29 rfl rfl ?_
                refine j_iload_n (pc' := 31) cx 3 dX7_areClashing_30 rfl rfl ?_
                refine j_iload (pc' := 33) cx 0 dX7_areClashing_31 rfl rfl ?_
                obtain ⟨r7, c8, h_31⟩ := bd_s h_30
                refine j_cV (pc' := 36) cx (c_X7_touch l D cI cZ cC cS hMO hMOz hMOa hMOb hMOk hMOt hMOo hMOw hMOm hMOq hMOn MOst MOik MOln MOpl MOiw MOle MOon MOwy s1.2 r5 r7 c8) 2 yk_X7_touch wM_X7_72 ⟨wN_X7_touch, wS_X7_touch, wI_X7, wC_X7_touch⟩ ⟨rfl, rfl, Nat.le_of_ble_eq_true rfl, Nat.le_of_ble_eq_true rfl, Nat.le_of_ble_eq_true rfl, Nat.le_of_ble_eq_true rfl⟩ [0, 2, 3] [1] [1, 0, 2, 3] rfl [(hMOz, .inl (cI, 116, .inl MOza))] rfl (by decide) [(hMO, .inr (6, [.ref hMOz, .ref hMOa, .ref hMOb, .int MOst, .ref hMOk, .int MOik, .ref hMOt, .int MOln, .ref hMOo, .ref hMOw, .ref hMOm, .ref hMOq, .int MOpl, .int MOiw, .int MOle, .ref hMOn])), (hMOz, .inl (cI, 116, .inl MOza)), (hMOo, .inl (cI, 150, .inl MOon)), (hMOw, .inl (cI, 150, .inl MOwy))] rfl (by decide) 0 6 rfl rfl rfl rfl rfl (Nat.le_of_ble_eq_true rfl) dX7_areClashing_33 rfl ?_
                refine j_if_eq (tgt := 61) (pc' := 39) cx dX7_areClashing_36 (by decide) rfl (fun ch_31 => ?_) (fun ch_31 => ?_)
                · have h_32 := it_t h_31 ch_31
                  refine j_iconst (pc' := 62) cx 0 dX7_areClashing_61 ki_0 rfl ?_
                  have h_33 := so_i h_32
                  subst h_33
                  refine j_lv (lv' := [(0, .ref hMO), (2, .int s1.2), (3, .int s3.2)]) cx [1, 3, 4] rfl ?_
                  exact Kt15
                · have h_34 := it_f h_31 ch_31
                  refine j_aload_n (pc' := 40) cx 1 dX7_areClashing_39 rfl rfl ?_
                  refine j_aload_n (pc' := 41) cx 1 dX7_areClashing_40 rfl rfl ?_
                  refine j_iload_n (pc' := 42) cx 3 dX7_areClashing_41 rfl rfl ?_
                  obtain ⟨r9, c10, h_35⟩ := bd_s h_34
                  refine j_cV (pc' := 45) cx (c_X7_armColour l D cI cZ cC cS hMO hMOz hMOa hMOb hMOk hMOt hMOo hMOw hMOm hMOq hMOn MOst MOik MOln MOpl MOiw MOle MOza MOon MOwy s1.2 r9 c10) 1 yk_X7_armColour wM_X7_76 ⟨wN_X7_armColour, wS_X7_armColour, wI_X7, wC_X7_armColour⟩ ⟨rfl, rfl, Nat.le_of_ble_eq_true rfl, Nat.le_of_ble_eq_true rfl, Nat.le_of_ble_eq_true rfl, Nat.le_of_ble_eq_true rfl⟩ [0, 1, 2, 3] [] [0, 1, 2, 3] rfl [] rfl (by decide) [(hMO, .inr (6, [.ref hMOz, .ref hMOa, .ref hMOb, .int MOst, .ref hMOk, .int MOik, .ref hMOt, .int MOln, .ref hMOo, .ref hMOw, .ref hMOm, .ref hMOq, .int MOpl, .int MOiw, .int MOle, .ref hMOn])), (hMOz, .inl (cI, 116, .inl MOza)), (hMOo, .inl (cI, 150, .inl MOon)), (hMOw, .inl (cI, 150, .inl MOwy))] rfl (by decide) 0 6 rfl rfl rfl rfl rfl (Nat.le_of_ble_eq_true rfl) dX7_areClashing_42 rfl ?_
                  refine j_aload_n (pc' := 46) cx 1 dX7_areClashing_45 rfl rfl ?_
                  refine j_iload (pc' := 48) cx 0 dX7_areClashing_46 rfl rfl ?_
                  obtain ⟨r11, c12, h_36⟩ := bd_s h_35
                  refine j_cV (pc' := 51) cx (c_X7_armColour l D cI cZ cC cS hMO hMOz hMOa hMOb hMOk hMOt hMOo hMOw hMOm hMOq hMOn MOst MOik MOln MOpl MOiw MOle MOza MOon MOwy r5 r11 c12) 1 yk_X7_armColour wM_X7_76 ⟨wN_X7_armColour, wS_X7_armColour, wI_X7, wC_X7_armColour⟩ ⟨rfl, rfl, Nat.le_of_ble_eq_true rfl, Nat.le_of_ble_eq_true rfl, Nat.le_of_ble_eq_true rfl, Nat.le_of_ble_eq_true rfl⟩ [0, 1, 2, 3] [] [0, 1, 2, 3] rfl [] rfl (by decide) [(hMO, .inr (6, [.ref hMOz, .ref hMOa, .ref hMOb, .int MOst, .ref hMOk, .int MOik, .ref hMOt, .int MOln, .ref hMOo, .ref hMOw, .ref hMOm, .ref hMOq, .int MOpl, .int MOiw, .int MOle, .ref hMOn])), (hMOz, .inl (cI, 116, .inl MOza)), (hMOo, .inl (cI, 150, .inl MOon)), (hMOw, .inl (cI, 150, .inl MOwy))] rfl (by decide) 0 6 rfl rfl rfl rfl rfl (Nat.le_of_ble_eq_true rfl) dX7_areClashing_48 rfl ?_
                  obtain ⟨r13, c14, h_37⟩ := bd_s h_36
                  refine j_cV (pc' := 54) cx (c_X7_clash l D cI cZ cC cS hMO hMOz hMOa hMOb hMOk hMOt hMOo hMOw hMOm hMOq hMOn MOst MOik MOln MOpl MOiw MOle MOza r9 r11 r13 c14) 2 yk_X7_clash wM_X7_79 ⟨wN_X7_clash, wS_X7_clash, wI_X7, wC_X7_clash⟩ ⟨rfl, rfl, Nat.le_of_ble_eq_true rfl, Nat.le_of_ble_eq_true rfl, Nat.le_of_ble_eq_true rfl, Nat.le_of_ble_eq_true rfl⟩ [0, 1] [2, 3] [2, 3, 0, 1] rfl [(hMOo, .inl (cI, 150, .inl MOon)), (hMOw, .inl (cI, 150, .inl MOwy))] rfl (by decide) [(hMO, .inr (6, [.ref hMOz, .ref hMOa, .ref hMOb, .int MOst, .ref hMOk, .int MOik, .ref hMOt, .int MOln, .ref hMOo, .ref hMOw, .ref hMOm, .ref hMOq, .int MOpl, .int MOiw, .int MOle, .ref hMOn])), (hMOz, .inl (cI, 116, .inl MOza)), (hMOo, .inl (cI, 150, .inl MOon)), (hMOw, .inl (cI, 150, .inl MOwy))] rfl (by decide) 0 6 rfl rfl rfl rfl rfl (Nat.le_of_ble_eq_true rfl) dX7_areClashing_51 rfl ?_
                  refine j_if_eq (tgt := 61) (pc' := 57) cx dX7_areClashing_54 (by decide) rfl (fun ch_37 => ?_) (fun ch_37 => ?_)
                  · have h_38 := it_t h_37 ch_37
                    refine j_iconst (pc' := 62) cx 0 dX7_areClashing_61 ki_0 rfl ?_
                    have h_39 := so_i h_38
                    subst h_39
                    refine j_lv (lv' := [(0, .ref hMO), (2, .int s1.2), (3, .int s3.2)]) cx [1, 3, 4] rfl ?_
                    exact Kt15
                  · have h_40 := it_f h_37 ch_37
                    refine j_iconst (pc' := 58) cx 1 dX7_areClashing_57 ki_1 rfl ?_
                    refine j_goto (pc' := 62) cx dX7_areClashing_58 (by decide) ?_
                    have h_41 := so_i h_40
                    subst h_41
                    refine j_lv (lv' := [(0, .ref hMO), (2, .int s1.2), (3, .int s3.2)]) cx [1, 3, 4] rfl ?_
                    exact Kt15
        refine j_lv (lv' := [(0, .ref hMO), (1, .int s1.1), (2, .int s1.2), (3, .int 1)]) cx [1, 2, 3, 0] rfl ?_
        exact LPe4 _ _ h_13
  refine j_lv (lv' := [(0, .ref hMO), (1, .int 0), (2, .int 0)]) cx [2, 1, 0] rfl ?_
  exact LPe2 _ _ h_1
set_option maxHeartbeats 4000000 in
set_option maxRecDepth 100000 in
theorem c_X7_record (l : Launch) (D : va_G) (cI cZ cC cS : ClassId) (hFR hMO hMOz hMOa hMOb hMOk hMOt hMOo hMOw hMOm hMOq hMOn : Nat) (FRa : Nat → Int32) (MOst : Int32) (MOik : Int32) (MOln : Int32) (MOpl : Int32) (MOiw : Int32) (MOle : Int32) (MObe : Nat → Int32) (out : Int32 × (Nat → Int32)) (hm : f_X7_record FRa MOst MObe = some out) : Ct l yX7_record cX7_record 3 none ({ frames := 0, cells := 0, slots := 0, locals := 0 }) (D, TY cI cZ cC cS) [.ref hMO, .ref hFR] [(hFR, .inl (cI, 116, .inl FRa)), (hMO, .inr (6, [.ref hMOz, .ref hMOa, .ref hMOb, .int MOst, .ref hMOk, .int MOik, .ref hMOt, .int MOln, .ref hMOo, .ref hMOw, .ref hMOm, .ref hMOq, .int MOpl, .int MOiw, .int MOle, .ref hMOn])), (hMOb, .inl (cI, 464, .inl MObe))] (jw_P none [(hFR, .inl (cI, 116, .inl FRa)), (hMO, .inr (6, [.ref hMOz, .ref hMOa, .ref hMOb, .int out.1, .ref hMOk, .int MOik, .ref hMOt, .int MOln, .ref hMOo, .ref hMOw, .ref hMOm, .ref hMOq, .int MOpl, .int MOiw, .int MOle, .ref hMOn])), (hMOb, .inl (cI, 464, .inl out.2))]) 0 0 := by
  refine ct_of RX7 (by decide +kernel) rfl (Nat.le_of_ble_eq_true rfl) (fun j cx => ?_)
  unfold f_X7_record at hm
  show j 0 0 [(hFR, .inl (cI, 116, .inl FRa)), (hMO, .inr (6, [.ref hMOz, .ref hMOa, .ref hMOb, .int MOst, .ref hMOk, .int MOik, .ref hMOt, .int MOln, .ref hMOo, .ref hMOw, .ref hMOm, .ref hMOq, .int MOpl, .int MOiw, .int MOle, .ref hMOn])), (hMOb, .inl (cI, 464, .inl MObe))] [(0, .ref hMO), (1, .ref hFR)] 0 []
  refine j_aload_n (pc' := 1) cx 0 dX7_record_0 rfl rfl ?_
  refine j_get (C := RX7) (T := TX7) (N := 16) (pc' := 4) cx uB_X7 1 rfl rfl 3 (by decide) wF_X7_82 (.int MOst) rfl dX7_record_1 rfl ?_
  refine j_iconst (pc' := 5) cx 4 dX7_record_4 ki_4 rfl ?_
  obtain ⟨t5, h_2, h_1⟩ := bd_s hm
  have Kt5 : j 0 0 [(hFR, .inl (cI, 116, .inl FRa)), (hMO, .inr (6, [.ref hMOz, .ref hMOa, .ref hMOb, .int t5.1, .ref hMOk, .int MOik, .ref hMOt, .int MOln, .ref hMOo, .ref hMOw, .ref hMOm, .ref hMOq, .int MOpl, .int MOiw, .int MOle, .ref hMOn])), (hMOb, .inl (cI, 464, .inl t5.2))] [(0, .ref hMO), (1, .ref hFR)] 48 [] := by
    refine j_iconst (pc' := 49) cx 0 dX7_record_48 ki_0 rfl ?_
    refine j_istore_n (lv' := [(2, .int 0), (0, .ref hMO), (1, .ref hFR)]) (pc' := 50) cx dX7_record_49 (by decide) rfl rfl ?_
    obtain ⟨e7, h_3, h_4⟩ := bd_s h_1
    have KXe7 : j 0 0 [(hFR, .inl (cI, 116, .inl FRa)), (hMO, .inr (6, [.ref hMOz, .ref hMOa, .ref hMOb, .int t5.1, .ref hMOk, .int MOik, .ref hMOt, .int MOln, .ref hMOo, .ref hMOw, .ref hMOm, .ref hMOq, .int MOpl, .int MOiw, .int MOle, .ref hMOn])), (hMOb, .inl (cI, 464, .inl e7.2))] [(0, .ref hMO)] 79 [] := by
      refine j_aload_n (pc' := 80) cx 0 dX7_record_79 rfl rfl ?_
      refine j_dup (pc' := 81) cx dX7_record_80 rfl rfl ?_
      refine j_get (C := RX7) (T := TX7) (N := 16) (pc' := 84) cx uB_X7 1 rfl rfl 3 (by decide) wF_X7_82 (.int t5.1) rfl dX7_record_81 rfl ?_
      refine j_iconst (pc' := 85) cx 1 dX7_record_84 ki_1 rfl ?_
      refine j_iadd (pc' := 86) cx dX7_record_85 rfl ?_
      refine j_put (C := RX7) (T := TX7) (N := 16) (ws' := [(hFR, .inl (cI, 116, .inl FRa)), (hMO, .inr (6, [.ref hMOz, .ref hMOa, .ref hMOb, .int (t5.1 + 1), .ref hMOk, .int MOik, .ref hMOt, .int MOln, .ref hMOo, .ref hMOw, .ref hMOm, .ref hMOq, .int MOpl, .int MOiw, .int MOle, .ref hMOn])), (hMOb, .inl (cI, 464, .inl e7.2))]) (pc' := 89) cx uB_X7 tyX7 tyX7_ok nmX7 1 rfl rfl 3 (by decide) wF_X7_82 rfl rfl rfl (Nat.le_of_ble_eq_true rfl) rfl dX7_record_86 rfl ?_
      have h_5 := so_i h_4
      subst h_5
      exact j_ret cx (Or.inl ⟨rfl, dX7_record_89, rfl, rfl⟩) ⟨rfl, rfl⟩
    have LPe7 : ∀ (n : Nat) (s6 : Int32 × (Nat → Int32)), lp (f_X7_record_b2 FRa t5) n s6 = some e7 → j 0 0 [(hFR, .inl (cI, 116, .inl FRa)), (hMO, .inr (6, [.ref hMOz, .ref hMOa, .ref hMOb, .int t5.1, .ref hMOk, .int MOik, .ref hMOt, .int MOln, .ref hMOo, .ref hMOw, .ref hMOm, .ref hMOq, .int MOpl, .int MOiw, .int MOle, .ref hMOn])), (hMOb, .inl (cI, 464, .inl s6.2))] [(0, .ref hMO), (1, .ref hFR), (2, .int s6.1)] 50 [] := by
      intro n
      induction n with
      | zero => intro s6 z; exact absurd z (by intro z; cases z)
      | succ n ihe7 =>
        intro s6 h_6
        obtain ⟨q_7, h_8, h_9⟩ := bd_s h_6
        unfold f_X7_record_b2 at h_8
        refine j_iload_n (pc' := 51) cx 2 dX7_record_50 rfl rfl ?_
        refine j_bipush (pc' := 53) cx 116 dX7_record_51 kb_116 rfl ?_
        refine j_icmp_ge (tgt := 79) (pc' := 56) cx dX7_record_53 (by decide) rfl (fun ch_8 => ?_) (fun ch_8 => ?_)
        · have h_10 := it_t h_8 ch_8
          have h_11 := so_i h_10
          subst h_11
          have h_12 := so_i (se_r h_9)
          subst h_12
          refine j_lv (lv' := [(0, .ref hMO)]) cx [0] rfl ?_
          exact KXe7
        · have h_13 := it_f h_8 ch_8
          refine j_aload_n (pc' := 57) cx 0 dX7_record_56 rfl rfl ?_
          refine j_get (C := RX7) (T := TX7) (N := 16) (pc' := 60) cx uB_X7 1 rfl rfl 2 (by decide) wF_X7_16 (.ref hMOb) rfl dX7_record_57 rfl ?_
          refine j_bipush (pc' := 62) cx 116 dX7_record_60 kb_116 rfl ?_
          refine j_aload_n (pc' := 63) cx 0 dX7_record_62 rfl rfl ?_
          refine j_get (C := RX7) (T := TX7) (N := 16) (pc' := 66) cx uB_X7 1 rfl rfl 3 (by decide) wF_X7_82 (.int t5.1) rfl dX7_record_63 rfl ?_
          refine j_imul (pc' := 67) cx dX7_record_66 rfl ?_
          refine j_iload_n (pc' := 68) cx 2 dX7_record_67 rfl rfl ?_
          refine j_iadd (pc' := 69) cx dX7_record_68 rfl ?_
          refine j_aload_n (pc' := 70) cx 1 dX7_record_69 rfl rfl ?_
          refine j_iload_n (pc' := 71) cx 2 dX7_record_70 rfl rfl ?_
          obtain ⟨i8, h_14⟩ := ck_s h_13
          refine j_iald (pc' := 72) cx 0 0 rfl rfl i8 dX7_record_71 rfl ?_
          obtain ⟨i9, h_15⟩ := ck_s h_14
          refine j_iast (ws' := [(hFR, .inl (cI, 116, .inl FRa)), (hMO, .inr (6, [.ref hMOz, .ref hMOa, .ref hMOb, .int t5.1, .ref hMOk, .int MOik, .ref hMOt, .int MOln, .ref hMOo, .ref hMOw, .ref hMOm, .ref hMOq, .int MOpl, .int MOiw, .int MOle, .ref hMOn])), (hMOb, .inl (cI, 464, .inl (upd s6.2 ((116 * t5.1) + s6.1).toNatClampNeg (FRa s6.1.toNatClampNeg))))]) (pc' := 73) cx 2 0 rfl rfl i9 rfl dX7_record_72 rfl ?_
          refine j_iinc (v := (s6.1 + 1)) (lv' := [(2, .int (s6.1 + 1)), (0, .ref hMO), (1, .ref hFR)]) (pc' := 76) cx 2 dX7_record_73 rfl (kn_1 _) (by decide) rfl rfl ?_
          refine j_goto (pc' := 50) cx dX7_record_76 (by decide) ?_
          have h_16 := so_i h_15
          subst h_16
          refine j_lv (lv' := [(0, .ref hMO), (1, .ref hFR), (2, .int (s6.1 + 1))]) cx [1, 2, 0] rfl ?_
          exact ihe7 _ (se_l h_9)
    refine j_lv (lv' := [(0, .ref hMO), (1, .ref hFR), (2, .int 0)]) cx [1, 2, 0] rfl ?_
    exact LPe7 _ _ h_3
  refine j_icmp_ne (tgt := 48) (pc' := 8) cx dX7_record_5 (by decide) rfl (fun ch_2 => ?_) (fun ch_2 => ?_)
  · have h_17 := it_f h_2 ch_2
    have h_18 := so_i h_17
    subst h_18
    exact Kt5
  · have h_19 := it_t h_2 ch_2
    refine j_iconst (pc' := 9) cx 0 dX7_record_8 ki_0 rfl ?_
    refine j_istore_n (lv' := [(2, .int 0), (0, .ref hMO), (1, .ref hFR)]) (pc' := 10) cx dX7_record_9 (by decide) rfl rfl ?_
    obtain ⟨e2, h_20, h_21⟩ := bd_s h_19
    have KXe2 : j 0 0 [(hFR, .inl (cI, 116, .inl FRa)), (hMO, .inr (6, [.ref hMOz, .ref hMOa, .ref hMOb, .int MOst, .ref hMOk, .int MOik, .ref hMOt, .int MOln, .ref hMOo, .ref hMOw, .ref hMOm, .ref hMOq, .int MOpl, .int MOiw, .int MOle, .ref hMOn])), (hMOb, .inl (cI, 464, .inl e2.2))] [(0, .ref hMO), (1, .ref hFR)] 38 [] := by
      refine j_aload_n (pc' := 39) cx 0 dX7_record_38 rfl rfl ?_
      refine j_dup (pc' := 40) cx dX7_record_39 rfl rfl ?_
      refine j_get (C := RX7) (T := TX7) (N := 16) (pc' := 43) cx uB_X7 1 rfl rfl 3 (by decide) wF_X7_82 (.int MOst) rfl dX7_record_40 rfl ?_
      refine j_iconst (pc' := 44) cx 1 dX7_record_43 ki_1 rfl ?_
      refine j_isub (pc' := 45) cx dX7_record_44 rfl ?_
      refine j_put (C := RX7) (T := TX7) (N := 16) (ws' := [(hFR, .inl (cI, 116, .inl FRa)), (hMO, .inr (6, [.ref hMOz, .ref hMOa, .ref hMOb, .int (MOst - 1), .ref hMOk, .int MOik, .ref hMOt, .int MOln, .ref hMOo, .ref hMOw, .ref hMOm, .ref hMOq, .int MOpl, .int MOiw, .int MOle, .ref hMOn])), (hMOb, .inl (cI, 464, .inl e2.2))]) (pc' := 48) cx uB_X7 tyX7 tyX7_ok nmX7 1 rfl rfl 3 (by decide) wF_X7_82 rfl rfl rfl (Nat.le_of_ble_eq_true rfl) rfl dX7_record_45 rfl ?_
      have h_22 := so_i h_21
      subst h_22
      exact Kt5
    have LPe2 : ∀ (n : Nat) (s1 : Int32 × (Nat → Int32)), lp (f_X7_record_b1) n s1 = some e2 → j 0 0 [(hFR, .inl (cI, 116, .inl FRa)), (hMO, .inr (6, [.ref hMOz, .ref hMOa, .ref hMOb, .int MOst, .ref hMOk, .int MOik, .ref hMOt, .int MOln, .ref hMOo, .ref hMOw, .ref hMOm, .ref hMOq, .int MOpl, .int MOiw, .int MOle, .ref hMOn])), (hMOb, .inl (cI, 464, .inl s1.2))] [(0, .ref hMO), (1, .ref hFR), (2, .int s1.1)] 10 [] := by
      intro n
      induction n with
      | zero => intro s1 z; exact absurd z (by intro z; cases z)
      | succ n ihe2 =>
        intro s1 h_23
        obtain ⟨q_24, h_25, h_26⟩ := bd_s h_23
        unfold f_X7_record_b1 at h_25
        refine j_iload_n (pc' := 11) cx 2 dX7_record_10 rfl rfl ?_
        refine j_sipush (pc' := 14) cx 348 dX7_record_11 ks_348 rfl ?_
        refine j_icmp_ge (tgt := 38) (pc' := 17) cx dX7_record_14 (by decide) rfl (fun ch_25 => ?_) (fun ch_25 => ?_)
        · have h_27 := it_t h_25 ch_25
          have h_28 := so_i h_27
          subst h_28
          have h_29 := so_i (se_r h_26)
          subst h_29
          refine j_lv (lv' := [(0, .ref hMO), (1, .ref hFR)]) cx [0, 1] rfl ?_
          exact KXe2
        · have h_30 := it_f h_25 ch_25
          refine j_aload_n (pc' := 18) cx 0 dX7_record_17 rfl rfl ?_
          refine j_get (C := RX7) (T := TX7) (N := 16) (pc' := 21) cx uB_X7 1 rfl rfl 2 (by decide) wF_X7_16 (.ref hMOb) rfl dX7_record_18 rfl ?_
          refine j_iload_n (pc' := 22) cx 2 dX7_record_21 rfl rfl ?_
          refine j_aload_n (pc' := 23) cx 0 dX7_record_22 rfl rfl ?_
          refine j_get (C := RX7) (T := TX7) (N := 16) (pc' := 26) cx uB_X7 1 rfl rfl 2 (by decide) wF_X7_16 (.ref hMOb) rfl dX7_record_23 rfl ?_
          refine j_bipush (pc' := 28) cx 116 dX7_record_26 kb_116 rfl ?_
          refine j_iload_n (pc' := 29) cx 2 dX7_record_28 rfl rfl ?_
          refine j_iadd (pc' := 30) cx dX7_record_29 rfl ?_
          obtain ⟨i3, h_31⟩ := ck_s h_30
          refine j_iald (pc' := 31) cx 2 0 rfl rfl i3 dX7_record_30 rfl ?_
          obtain ⟨i4, h_32⟩ := ck_s h_31
          refine j_iast (ws' := [(hFR, .inl (cI, 116, .inl FRa)), (hMO, .inr (6, [.ref hMOz, .ref hMOa, .ref hMOb, .int MOst, .ref hMOk, .int MOik, .ref hMOt, .int MOln, .ref hMOo, .ref hMOw, .ref hMOm, .ref hMOq, .int MOpl, .int MOiw, .int MOle, .ref hMOn])), (hMOb, .inl (cI, 464, .inl (upd s1.2 s1.1.toNatClampNeg (s1.2 (116 + s1.1).toNatClampNeg))))]) (pc' := 32) cx 2 0 rfl rfl i4 rfl dX7_record_31 rfl ?_
          refine j_iinc (v := (s1.1 + 1)) (lv' := [(2, .int (s1.1 + 1)), (0, .ref hMO), (1, .ref hFR)]) (pc' := 35) cx 2 dX7_record_32 rfl (kn_1 _) (by decide) rfl rfl ?_
          refine j_goto (pc' := 10) cx dX7_record_35 (by decide) ?_
          have h_33 := so_i h_32
          subst h_33
          refine j_lv (lv' := [(0, .ref hMO), (1, .ref hFR), (2, .int (s1.1 + 1))]) cx [1, 2, 0] rfl ?_
          exact ihe2 _ (se_l h_26)
    refine j_lv (lv' := [(0, .ref hMO), (1, .ref hFR), (2, .int 0)]) cx [1, 2, 0] rfl ?_
    exact LPe2 _ _ h_20
set_option maxHeartbeats 4000000 in
set_option maxRecDepth 100000 in
theorem c_X7_putAside (l : Launch) (D : va_G) (cI cZ cC cS : ClassId) (hMO hMOz hMOa hMOb hMOk hMOt hMOo hMOw hMOm hMOq hMOn : Nat) (MOst : Int32) (MOik : Int32) (MOln : Int32) (MOpl : Int32) (MOiw : Int32) (MOle : Int32) (MOza : Nat → Int32) (MOas : Nat → Int32) (out : (Nat → Int32)) (hm : f_X7_putAside MOza MOas = some out) : Ct l yX7_putAside cX7_putAside 2 none ({ frames := 0, cells := 0, slots := 0, locals := 0 }) (D, TY cI cZ cC cS) [.ref hMO] [(hMO, .inr (6, [.ref hMOz, .ref hMOa, .ref hMOb, .int MOst, .ref hMOk, .int MOik, .ref hMOt, .int MOln, .ref hMOo, .ref hMOw, .ref hMOm, .ref hMOq, .int MOpl, .int MOiw, .int MOle, .ref hMOn])), (hMOz, .inl (cI, 116, .inl MOza)), (hMOa, .inl (cI, 116, .inl MOas))] (jw_P none [(hMO, .inr (6, [.ref hMOz, .ref hMOa, .ref hMOb, .int MOst, .ref hMOk, .int MOik, .ref hMOt, .int MOln, .ref hMOo, .ref hMOw, .ref hMOm, .ref hMOq, .int MOpl, .int MOiw, .int MOle, .ref hMOn])), (hMOz, .inl (cI, 116, .inl MOza)), (hMOa, .inl (cI, 116, .inl out))]) 0 0 := by
  refine ct_of RX7 (by decide +kernel) rfl (Nat.le_of_ble_eq_true rfl) (fun j cx => ?_)
  unfold f_X7_putAside at hm
  show j 0 0 [(hMO, .inr (6, [.ref hMOz, .ref hMOa, .ref hMOb, .int MOst, .ref hMOk, .int MOik, .ref hMOt, .int MOln, .ref hMOo, .ref hMOw, .ref hMOm, .ref hMOq, .int MOpl, .int MOiw, .int MOle, .ref hMOn])), (hMOz, .inl (cI, 116, .inl MOza)), (hMOa, .inl (cI, 116, .inl MOas))] [(0, .ref hMO)] 0 []
  refine j_iconst (pc' := 1) cx 0 dX7_putAside_0 ki_0 rfl ?_
  refine j_istore_n (lv' := [(1, .int 0), (0, .ref hMO)]) (pc' := 2) cx dX7_putAside_1 (by decide) rfl rfl ?_
  obtain ⟨e2, h_1, h_2⟩ := bd_s hm
  have KXe2 : j 0 0 [(hMO, .inr (6, [.ref hMOz, .ref hMOa, .ref hMOb, .int MOst, .ref hMOk, .int MOik, .ref hMOt, .int MOln, .ref hMOo, .ref hMOw, .ref hMOm, .ref hMOq, .int MOpl, .int MOiw, .int MOle, .ref hMOn])), (hMOz, .inl (cI, 116, .inl MOza)), (hMOa, .inl (cI, 116, .inl e2.2))] [] 26 [] := by
    have h_3 := so_i h_2
    subst h_3
    exact j_ret cx (Or.inl ⟨rfl, dX7_putAside_26, rfl, rfl⟩) ⟨rfl, rfl⟩
  have LPe2 : ∀ (n : Nat) (s1 : Int32 × (Nat → Int32)), lp (f_X7_putAside_b1 MOza) n s1 = some e2 → j 0 0 [(hMO, .inr (6, [.ref hMOz, .ref hMOa, .ref hMOb, .int MOst, .ref hMOk, .int MOik, .ref hMOt, .int MOln, .ref hMOo, .ref hMOw, .ref hMOm, .ref hMOq, .int MOpl, .int MOiw, .int MOle, .ref hMOn])), (hMOz, .inl (cI, 116, .inl MOza)), (hMOa, .inl (cI, 116, .inl s1.2))] [(0, .ref hMO), (1, .int s1.1)] 2 [] := by
    intro n
    induction n with
    | zero => intro s1 z; exact absurd z (by intro z; cases z)
    | succ n ihe2 =>
      intro s1 h_4
      obtain ⟨q_5, h_6, h_7⟩ := bd_s h_4
      unfold f_X7_putAside_b1 at h_6
      refine j_iload_n (pc' := 3) cx 1 dX7_putAside_2 rfl rfl ?_
      refine j_bipush (pc' := 5) cx 116 dX7_putAside_3 kb_116 rfl ?_
      refine j_icmp_ge (tgt := 26) (pc' := 8) cx dX7_putAside_5 (by decide) rfl (fun ch_6 => ?_) (fun ch_6 => ?_)
      · have h_8 := it_t h_6 ch_6
        have h_9 := so_i h_8
        subst h_9
        have h_10 := so_i (se_r h_7)
        subst h_10
        refine j_lv (lv' := []) cx [] rfl ?_
        exact KXe2
      · have h_11 := it_f h_6 ch_6
        refine j_aload_n (pc' := 9) cx 0 dX7_putAside_8 rfl rfl ?_
        refine j_get (C := RX7) (T := TX7) (N := 16) (pc' := 12) cx uB_X7 0 rfl rfl 1 (by decide) wF_X7_13 (.ref hMOa) rfl dX7_putAside_9 rfl ?_
        refine j_iload_n (pc' := 13) cx 1 dX7_putAside_12 rfl rfl ?_
        refine j_aload_n (pc' := 14) cx 0 dX7_putAside_13 rfl rfl ?_
        refine j_get (C := RX7) (T := TX7) (N := 16) (pc' := 17) cx uB_X7 0 rfl rfl 0 (by decide) wF_X7_7 (.ref hMOz) rfl dX7_putAside_14 rfl ?_
        refine j_iload_n (pc' := 18) cx 1 dX7_putAside_17 rfl rfl ?_
        obtain ⟨i3, h_12⟩ := ck_s h_11
        refine j_iald (pc' := 19) cx 1 0 rfl rfl i3 dX7_putAside_18 rfl ?_
        obtain ⟨i4, h_13⟩ := ck_s h_12
        refine j_iast (ws' := [(hMO, .inr (6, [.ref hMOz, .ref hMOa, .ref hMOb, .int MOst, .ref hMOk, .int MOik, .ref hMOt, .int MOln, .ref hMOo, .ref hMOw, .ref hMOm, .ref hMOq, .int MOpl, .int MOiw, .int MOle, .ref hMOn])), (hMOz, .inl (cI, 116, .inl MOza)), (hMOa, .inl (cI, 116, .inl (upd s1.2 s1.1.toNatClampNeg (MOza s1.1.toNatClampNeg))))]) (pc' := 20) cx 2 0 rfl rfl i4 rfl dX7_putAside_19 rfl ?_
        refine j_iinc (v := (s1.1 + 1)) (lv' := [(1, .int (s1.1 + 1)), (0, .ref hMO)]) (pc' := 23) cx 1 dX7_putAside_20 rfl (kn_1 _) (by decide) rfl rfl ?_
        refine j_goto (pc' := 2) cx dX7_putAside_23 (by decide) ?_
        have h_14 := so_i h_13
        subst h_14
        refine j_lv (lv' := [(0, .ref hMO), (1, .int (s1.1 + 1))]) cx [1, 0] rfl ?_
        exact ihe2 _ (se_l h_7)
  refine j_lv (lv' := [(0, .ref hMO), (1, .int 0)]) cx [1, 0] rfl ?_
  exact LPe2 _ _ h_1
set_option maxHeartbeats 4000000 in
set_option maxRecDepth 100000 in
theorem c_X7_putBack (l : Launch) (D : va_G) (cI cZ cC cS : ClassId) (hMO hMOz hMOa hMOb hMOk hMOt hMOo hMOw hMOm hMOq hMOn : Nat) (MOst : Int32) (MOik : Int32) (MOln : Int32) (MOpl : Int32) (MOiw : Int32) (MOle : Int32) (MOza : Nat → Int32) (MOas : Nat → Int32) (MOon : Nat → Int32) (MOwy : Nat → Int32) (out : (Nat → Int32) × (Nat → Int32) × (Nat → Int32)) (hm : f_X7_putBack MOza MOas MOon MOwy = some out) : Ct l yX7_putBack cX7_putBack 2 none ({ frames := 2, cells := 0, slots := 0, locals := 45 }) (D, TY cI cZ cC cS) [.ref hMO] [(hMO, .inr (6, [.ref hMOz, .ref hMOa, .ref hMOb, .int MOst, .ref hMOk, .int MOik, .ref hMOt, .int MOln, .ref hMOo, .ref hMOw, .ref hMOm, .ref hMOq, .int MOpl, .int MOiw, .int MOle, .ref hMOn])), (hMOz, .inl (cI, 116, .inl MOza)), (hMOa, .inl (cI, 116, .inl MOas)), (hMOo, .inl (cI, 150, .inl MOon)), (hMOw, .inl (cI, 150, .inl MOwy))] (jw_P none [(hMO, .inr (6, [.ref hMOz, .ref hMOa, .ref hMOb, .int MOst, .ref hMOk, .int MOik, .ref hMOt, .int MOln, .ref hMOo, .ref hMOw, .ref hMOm, .ref hMOq, .int MOpl, .int MOiw, .int MOle, .ref hMOn])), (hMOz, .inl (cI, 116, .inl out.1)), (hMOa, .inl (cI, 116, .inl MOas)), (hMOo, .inl (cI, 150, .inl out.2.1)), (hMOw, .inl (cI, 150, .inl out.2.2))]) 0 0 := by
  refine ct_of RX7 (by decide +kernel) rfl (Nat.le_of_ble_eq_true rfl) (fun j cx => ?_)
  unfold f_X7_putBack at hm
  show j 0 0 [(hMO, .inr (6, [.ref hMOz, .ref hMOa, .ref hMOb, .int MOst, .ref hMOk, .int MOik, .ref hMOt, .int MOln, .ref hMOo, .ref hMOw, .ref hMOm, .ref hMOq, .int MOpl, .int MOiw, .int MOle, .ref hMOn])), (hMOz, .inl (cI, 116, .inl MOza)), (hMOa, .inl (cI, 116, .inl MOas)), (hMOo, .inl (cI, 150, .inl MOon)), (hMOw, .inl (cI, 150, .inl MOwy))] [(0, .ref hMO)] 0 []
  refine j_iconst (pc' := 1) cx 0 dX7_putBack_0 ki_0 rfl ?_
  refine j_istore_n (lv' := [(1, .int 0), (0, .ref hMO)]) (pc' := 2) cx dX7_putBack_1 (by decide) rfl rfl ?_
  obtain ⟨e2, h_1, h_2⟩ := bd_s hm
  have KXe2 : j 0 0 [(hMO, .inr (6, [.ref hMOz, .ref hMOa, .ref hMOb, .int MOst, .ref hMOk, .int MOik, .ref hMOt, .int MOln, .ref hMOo, .ref hMOw, .ref hMOm, .ref hMOq, .int MOpl, .int MOiw, .int MOle, .ref hMOn])), (hMOz, .inl (cI, 116, .inl e2.2)), (hMOa, .inl (cI, 116, .inl MOas)), (hMOo, .inl (cI, 150, .inl MOon)), (hMOw, .inl (cI, 150, .inl MOwy))] [(0, .ref hMO)] 26 [] := by
    refine j_aload_n (pc' := 27) cx 0 dX7_putBack_26 rfl rfl ?_
    obtain ⟨r5, c6, h_3⟩ := bd_s h_2
    refine j_cV (pc' := 30) cx (c_X7_draw l D cI cZ cC cS hMO hMOz hMOa hMOb hMOk hMOt hMOo hMOw hMOm hMOq hMOn MOst MOik MOln MOpl MOiw MOle e2.2 MOon MOwy r5 c6) 0 yk_X7_draw wM_X7_40 ⟨wN_X7_draw, wS_X7_draw, wI_X7, wC_X7_draw⟩ ⟨rfl, rfl, Nat.le_of_ble_eq_true rfl, Nat.le_of_ble_eq_true rfl, Nat.le_of_ble_eq_true rfl, Nat.le_of_ble_eq_true rfl⟩ [0, 1, 3, 4] [2] [1, 2, 0, 3, 4] rfl [(hMOa, .inl (cI, 116, .inl MOas))] rfl (by decide) [(hMO, .inr (6, [.ref hMOz, .ref hMOa, .ref hMOb, .int MOst, .ref hMOk, .int MOik, .ref hMOt, .int MOln, .ref hMOo, .ref hMOw, .ref hMOm, .ref hMOq, .int MOpl, .int MOiw, .int MOle, .ref hMOn])), (hMOz, .inl (cI, 116, .inl e2.2)), (hMOa, .inl (cI, 116, .inl MOas)), (hMOo, .inl (cI, 150, .inl r5.1)), (hMOw, .inl (cI, 150, .inl r5.2))] rfl (by decide) 0 6 rfl rfl rfl rfl rfl (Nat.le_of_ble_eq_true rfl) dX7_putBack_27 rfl ?_
    have h_4 := so_i h_3
    subst h_4
    exact j_ret cx (Or.inl ⟨rfl, dX7_putBack_30, rfl, rfl⟩) ⟨rfl, rfl⟩
  have LPe2 : ∀ (n : Nat) (s1 : Int32 × (Nat → Int32)), lp (f_X7_putBack_b1 MOas) n s1 = some e2 → j 0 0 [(hMO, .inr (6, [.ref hMOz, .ref hMOa, .ref hMOb, .int MOst, .ref hMOk, .int MOik, .ref hMOt, .int MOln, .ref hMOo, .ref hMOw, .ref hMOm, .ref hMOq, .int MOpl, .int MOiw, .int MOle, .ref hMOn])), (hMOz, .inl (cI, 116, .inl s1.2)), (hMOa, .inl (cI, 116, .inl MOas)), (hMOo, .inl (cI, 150, .inl MOon)), (hMOw, .inl (cI, 150, .inl MOwy))] [(0, .ref hMO), (1, .int s1.1)] 2 [] := by
    intro n
    induction n with
    | zero => intro s1 z; exact absurd z (by intro z; cases z)
    | succ n ihe2 =>
      intro s1 h_5
      obtain ⟨q_6, h_7, h_8⟩ := bd_s h_5
      unfold f_X7_putBack_b1 at h_7
      refine j_iload_n (pc' := 3) cx 1 dX7_putBack_2 rfl rfl ?_
      refine j_bipush (pc' := 5) cx 116 dX7_putBack_3 kb_116 rfl ?_
      refine j_icmp_ge (tgt := 26) (pc' := 8) cx dX7_putBack_5 (by decide) rfl (fun ch_7 => ?_) (fun ch_7 => ?_)
      · have h_9 := it_t h_7 ch_7
        have h_10 := so_i h_9
        subst h_10
        have h_11 := so_i (se_r h_8)
        subst h_11
        refine j_lv (lv' := [(0, .ref hMO)]) cx [0] rfl ?_
        exact KXe2
      · have h_12 := it_f h_7 ch_7
        refine j_aload_n (pc' := 9) cx 0 dX7_putBack_8 rfl rfl ?_
        refine j_get (C := RX7) (T := TX7) (N := 16) (pc' := 12) cx uB_X7 0 rfl rfl 0 (by decide) wF_X7_7 (.ref hMOz) rfl dX7_putBack_9 rfl ?_
        refine j_iload_n (pc' := 13) cx 1 dX7_putBack_12 rfl rfl ?_
        refine j_aload_n (pc' := 14) cx 0 dX7_putBack_13 rfl rfl ?_
        refine j_get (C := RX7) (T := TX7) (N := 16) (pc' := 17) cx uB_X7 0 rfl rfl 1 (by decide) wF_X7_13 (.ref hMOa) rfl dX7_putBack_14 rfl ?_
        refine j_iload_n (pc' := 18) cx 1 dX7_putBack_17 rfl rfl ?_
        obtain ⟨i3, h_13⟩ := ck_s h_12
        refine j_iald (pc' := 19) cx 2 0 rfl rfl i3 dX7_putBack_18 rfl ?_
        obtain ⟨i4, h_14⟩ := ck_s h_13
        refine j_iast (ws' := [(hMO, .inr (6, [.ref hMOz, .ref hMOa, .ref hMOb, .int MOst, .ref hMOk, .int MOik, .ref hMOt, .int MOln, .ref hMOo, .ref hMOw, .ref hMOm, .ref hMOq, .int MOpl, .int MOiw, .int MOle, .ref hMOn])), (hMOz, .inl (cI, 116, .inl (upd s1.2 s1.1.toNatClampNeg (MOas s1.1.toNatClampNeg)))), (hMOa, .inl (cI, 116, .inl MOas)), (hMOo, .inl (cI, 150, .inl MOon)), (hMOw, .inl (cI, 150, .inl MOwy))]) (pc' := 20) cx 1 0 rfl rfl i4 rfl dX7_putBack_19 rfl ?_
        refine j_iinc (v := (s1.1 + 1)) (lv' := [(1, .int (s1.1 + 1)), (0, .ref hMO)]) (pc' := 23) cx 1 dX7_putBack_20 rfl (kn_1 _) (by decide) rfl rfl ?_
        refine j_goto (pc' := 2) cx dX7_putBack_23 (by decide) ?_
        have h_15 := so_i h_14
        subst h_15
        refine j_lv (lv' := [(0, .ref hMO), (1, .int (s1.1 + 1))]) cx [1, 0] rfl ?_
        exact ihe2 _ (se_l h_8)
  refine j_lv (lv' := [(0, .ref hMO), (1, .int 0)]) cx [1, 0] rfl ?_
  exact LPe2 _ _ h_1
set_option maxHeartbeats 4000000 in
set_option maxRecDepth 100000 in
theorem c_X7_undo (l : Launch) (D : va_G) (cI cZ cC cS : ClassId) (hMO hMOz hMOa hMOb hMOk hMOt hMOo hMOw hMOm hMOq hMOn : Nat) (MOst : Int32) (MOik : Int32) (MOln : Int32) (MOpl : Int32) (MOiw : Int32) (MOle : Int32) (MOza : Nat → Int32) (MObe : Nat → Int32) (MOon : Nat → Int32) (MOwy : Nat → Int32) (out : Int32 × Int32 × (Nat → Int32) × (Nat → Int32) × (Nat → Int32)) (hm : f_X7_undo MOst MOza MObe MOon MOwy = some out) : Ct l yX7_undo cX7_undo 2 (some .int) ({ frames := 2, cells := 0, slots := 0, locals := 45 }) (D, TY cI cZ cC cS) [.ref hMO] [(hMO, .inr (6, [.ref hMOz, .ref hMOa, .ref hMOb, .int MOst, .ref hMOk, .int MOik, .ref hMOt, .int MOln, .ref hMOo, .ref hMOw, .ref hMOm, .ref hMOq, .int MOpl, .int MOiw, .int MOle, .ref hMOn])), (hMOz, .inl (cI, 116, .inl MOza)), (hMOb, .inl (cI, 464, .inl MObe)), (hMOo, .inl (cI, 150, .inl MOon)), (hMOw, .inl (cI, 150, .inl MOwy))] (jw_P (some (.int out.1)) [(hMO, .inr (6, [.ref hMOz, .ref hMOa, .ref hMOb, .int out.2.1, .ref hMOk, .int MOik, .ref hMOt, .int MOln, .ref hMOo, .ref hMOw, .ref hMOm, .ref hMOq, .int MOpl, .int MOiw, .int MOle, .ref hMOn])), (hMOz, .inl (cI, 116, .inl out.2.2.1)), (hMOb, .inl (cI, 464, .inl MObe)), (hMOo, .inl (cI, 150, .inl out.2.2.2.1)), (hMOw, .inl (cI, 150, .inl out.2.2.2.2))]) 0 0 := by
  refine ct_of RX7 (by decide +kernel) rfl (Nat.le_of_ble_eq_true rfl) (fun j cx => ?_)
  unfold f_X7_undo at hm
  show j 0 0 [(hMO, .inr (6, [.ref hMOz, .ref hMOa, .ref hMOb, .int MOst, .ref hMOk, .int MOik, .ref hMOt, .int MOln, .ref hMOo, .ref hMOw, .ref hMOm, .ref hMOq, .int MOpl, .int MOiw, .int MOle, .ref hMOn])), (hMOz, .inl (cI, 116, .inl MOza)), (hMOb, .inl (cI, 464, .inl MObe)), (hMOo, .inl (cI, 150, .inl MOon)), (hMOw, .inl (cI, 150, .inl MOwy))] [(0, .ref hMO)] 0 []
  refine j_aload_n (pc' := 1) cx 0 dX7_undo_0 rfl rfl ?_
  refine j_get (C := RX7) (T := TX7) (N := 16) (pc' := 4) cx uB_X7 0 rfl rfl 3 (by decide) wF_X7_82 (.int MOst) rfl dX7_undo_1 rfl ?_
  refine j_if_ne (tgt := 10) (pc' := 7) cx dX7_undo_4 (by decide) rfl (fun chm => ?_) (fun chm => ?_)
  · have h_1 := it_f hm chm
    refine j_aload_n (pc' := 11) cx 0 dX7_undo_10 rfl rfl ?_
    refine j_dup (pc' := 12) cx dX7_undo_11 rfl rfl ?_
    refine j_get (C := RX7) (T := TX7) (N := 16) (pc' := 15) cx uB_X7 0 rfl rfl 3 (by decide) wF_X7_82 (.int MOst) rfl dX7_undo_12 rfl ?_
    refine j_iconst (pc' := 16) cx 1 dX7_undo_15 ki_1 rfl ?_
    refine j_isub (pc' := 17) cx dX7_undo_16 rfl ?_
    refine j_put (C := RX7) (T := TX7) (N := 16) (ws' := [(hMO, .inr (6, [.ref hMOz, .ref hMOa, .ref hMOb, .int (MOst - 1), .ref hMOk, .int MOik, .ref hMOt, .int MOln, .ref hMOo, .ref hMOw, .ref hMOm, .ref hMOq, .int MOpl, .int MOiw, .int MOle, .ref hMOn])), (hMOz, .inl (cI, 116, .inl MOza)), (hMOb, .inl (cI, 464, .inl MObe)), (hMOo, .inl (cI, 150, .inl MOon)), (hMOw, .inl (cI, 150, .inl MOwy))]) (pc' := 20) cx uB_X7 tyX7 tyX7_ok nmX7 0 rfl rfl 3 (by decide) wF_X7_82 rfl rfl rfl (Nat.le_of_ble_eq_true rfl) rfl dX7_undo_17 rfl ?_
    refine j_iconst (pc' := 21) cx 0 dX7_undo_20 ki_0 rfl ?_
    refine j_istore_n (lv' := [(1, .int 0), (0, .ref hMO)]) (pc' := 22) cx dX7_undo_21 (by decide) rfl rfl ?_
    obtain ⟨e2, h_2, h_3⟩ := bd_s h_1
    have KXe2 : j 0 0 [(hMO, .inr (6, [.ref hMOz, .ref hMOa, .ref hMOb, .int (MOst - 1), .ref hMOk, .int MOik, .ref hMOt, .int MOln, .ref hMOo, .ref hMOw, .ref hMOm, .ref hMOq, .int MOpl, .int MOiw, .int MOle, .ref hMOn])), (hMOz, .inl (cI, 116, .inl e2.2)), (hMOb, .inl (cI, 464, .inl MObe)), (hMOo, .inl (cI, 150, .inl MOon)), (hMOw, .inl (cI, 150, .inl MOwy))] [(0, .ref hMO)] 54 [] := by
      refine j_aload_n (pc' := 55) cx 0 dX7_undo_54 rfl rfl ?_
      obtain ⟨r5, c6, h_4⟩ := bd_s h_3
      refine j_cV (pc' := 58) cx (c_X7_draw l D cI cZ cC cS hMO hMOz hMOa hMOb hMOk hMOt hMOo hMOw hMOm hMOq hMOn (MOst - 1) MOik MOln MOpl MOiw MOle e2.2 MOon MOwy r5 c6) 0 yk_X7_draw wM_X7_40 ⟨wN_X7_draw, wS_X7_draw, wI_X7, wC_X7_draw⟩ ⟨rfl, rfl, Nat.le_of_ble_eq_true rfl, Nat.le_of_ble_eq_true rfl, Nat.le_of_ble_eq_true rfl, Nat.le_of_ble_eq_true rfl⟩ [0, 1, 3, 4] [2] [1, 2, 0, 3, 4] rfl [(hMOb, .inl (cI, 464, .inl MObe))] rfl (by decide) [(hMO, .inr (6, [.ref hMOz, .ref hMOa, .ref hMOb, .int (MOst - 1), .ref hMOk, .int MOik, .ref hMOt, .int MOln, .ref hMOo, .ref hMOw, .ref hMOm, .ref hMOq, .int MOpl, .int MOiw, .int MOle, .ref hMOn])), (hMOz, .inl (cI, 116, .inl e2.2)), (hMOb, .inl (cI, 464, .inl MObe)), (hMOo, .inl (cI, 150, .inl r5.1)), (hMOw, .inl (cI, 150, .inl r5.2))] rfl (by decide) 0 6 rfl rfl rfl rfl rfl (Nat.le_of_ble_eq_true rfl) dX7_undo_55 rfl ?_
      refine j_aload_n (pc' := 59) cx 0 dX7_undo_58 rfl rfl ?_
      refine j_get (C := RX7) (T := TX7) (N := 16) (pc' := 62) cx uB_X7 0 rfl rfl 3 (by decide) wF_X7_82 (.int (MOst - 1)) rfl dX7_undo_59 rfl ?_
      have h_5 := so_i h_4
      subst h_5
      exact j_ret cx (Or.inr (Or.inl ⟨_, _, rfl, rfl, dX7_undo_62, rfl, rfl⟩)) ⟨rfl, rfl⟩
    have LPe2 : ∀ (n : Nat) (s1 : Int32 × (Nat → Int32)), lp (f_X7_undo_b1 MOst MObe) n s1 = some e2 → j 0 0 [(hMO, .inr (6, [.ref hMOz, .ref hMOa, .ref hMOb, .int (MOst - 1), .ref hMOk, .int MOik, .ref hMOt, .int MOln, .ref hMOo, .ref hMOw, .ref hMOm, .ref hMOq, .int MOpl, .int MOiw, .int MOle, .ref hMOn])), (hMOz, .inl (cI, 116, .inl s1.2)), (hMOb, .inl (cI, 464, .inl MObe)), (hMOo, .inl (cI, 150, .inl MOon)), (hMOw, .inl (cI, 150, .inl MOwy))] [(0, .ref hMO), (1, .int s1.1)] 22 [] := by
      intro n
      induction n with
      | zero => intro s1 z; exact absurd z (by intro z; cases z)
      | succ n ihe2 =>
        intro s1 h_6
        obtain ⟨q_7, h_8, h_9⟩ := bd_s h_6
        unfold f_X7_undo_b1 at h_8
        refine j_iload_n (pc' := 23) cx 1 dX7_undo_22 rfl rfl ?_
        refine j_bipush (pc' := 25) cx 116 dX7_undo_23 kb_116 rfl ?_
        refine j_icmp_ge (tgt := 54) (pc' := 28) cx dX7_undo_25 (by decide) rfl (fun ch_8 => ?_) (fun ch_8 => ?_)
        · have h_10 := it_t h_8 ch_8
          have h_11 := so_i h_10
          subst h_11
          have h_12 := so_i (se_r h_9)
          subst h_12
          refine j_lv (lv' := [(0, .ref hMO)]) cx [0] rfl ?_
          exact KXe2
        · have h_13 := it_f h_8 ch_8
          refine j_aload_n (pc' := 29) cx 0 dX7_undo_28 rfl rfl ?_
          refine j_get (C := RX7) (T := TX7) (N := 16) (pc' := 32) cx uB_X7 0 rfl rfl 0 (by decide) wF_X7_7 (.ref hMOz) rfl dX7_undo_29 rfl ?_
          refine j_iload_n (pc' := 33) cx 1 dX7_undo_32 rfl rfl ?_
          refine j_aload_n (pc' := 34) cx 0 dX7_undo_33 rfl rfl ?_
          refine j_get (C := RX7) (T := TX7) (N := 16) (pc' := 37) cx uB_X7 0 rfl rfl 2 (by decide) wF_X7_16 (.ref hMOb) rfl dX7_undo_34 rfl ?_
          refine j_bipush (pc' := 39) cx 116 dX7_undo_37 kb_116 rfl ?_
          refine j_aload_n (pc' := 40) cx 0 dX7_undo_39 rfl rfl ?_
          refine j_get (C := RX7) (T := TX7) (N := 16) (pc' := 43) cx uB_X7 0 rfl rfl 3 (by decide) wF_X7_82 (.int (MOst - 1)) rfl dX7_undo_40 rfl ?_
          refine j_imul (pc' := 44) cx dX7_undo_43 rfl ?_
          refine j_iload_n (pc' := 45) cx 1 dX7_undo_44 rfl rfl ?_
          refine j_iadd (pc' := 46) cx dX7_undo_45 rfl ?_
          obtain ⟨i3, h_14⟩ := ck_s h_13
          refine j_iald (pc' := 47) cx 2 0 rfl rfl i3 dX7_undo_46 rfl ?_
          obtain ⟨i4, h_15⟩ := ck_s h_14
          refine j_iast (ws' := [(hMO, .inr (6, [.ref hMOz, .ref hMOa, .ref hMOb, .int (MOst - 1), .ref hMOk, .int MOik, .ref hMOt, .int MOln, .ref hMOo, .ref hMOw, .ref hMOm, .ref hMOq, .int MOpl, .int MOiw, .int MOle, .ref hMOn])), (hMOz, .inl (cI, 116, .inl (upd s1.2 s1.1.toNatClampNeg (MObe ((116 * (MOst - 1)) + s1.1).toNatClampNeg)))), (hMOb, .inl (cI, 464, .inl MObe)), (hMOo, .inl (cI, 150, .inl MOon)), (hMOw, .inl (cI, 150, .inl MOwy))]) (pc' := 48) cx 1 0 rfl rfl i4 rfl dX7_undo_47 rfl ?_
          refine j_iinc (v := (s1.1 + 1)) (lv' := [(1, .int (s1.1 + 1)), (0, .ref hMO)]) (pc' := 51) cx 1 dX7_undo_48 rfl (kn_1 _) (by decide) rfl rfl ?_
          refine j_goto (pc' := 22) cx dX7_undo_51 (by decide) ?_
          have h_16 := so_i h_15
          subst h_16
          refine j_lv (lv' := [(0, .ref hMO), (1, .int (s1.1 + 1))]) cx [1, 0] rfl ?_
          exact ihe2 _ (se_l h_9)
    refine j_lv (lv' := [(0, .ref hMO), (1, .int 0)]) cx [1, 0] rfl ?_
    exact LPe2 _ _ h_2
  · have h_17 := it_t hm chm
    refine j_bipush (pc' := 9) cx (-5) dX7_undo_7 kb_m5 rfl ?_
    have h_18 := so_i h_17
    subst h_18
    exact j_ret cx (Or.inr (Or.inl ⟨_, _, rfl, rfl, dX7_undo_9, rfl, rfl⟩)) ⟨rfl, rfl⟩
set_option maxHeartbeats 4000000 in
set_option maxRecDepth 100000 in
theorem c_X7_keep (l : Launch) (D : va_G) (cI cZ cC cS : ClassId) (hMO hMOz hMOa hMOb hMOk hMOt hMOo hMOw hMOm hMOq hMOn : Nat) (MOst : Int32) (MOik : Int32) (MOln : Int32) (MOpl : Int32) (MOiw : Int32) (MOle : Int32) (MOza : Nat → Int32) (MOke : Nat → Int32) (out : Int32 × Int32 × (Nat → Int32)) (hm : f_X7_keep MOik MOza MOke = some out) : Ct l yX7_keep cX7_keep 2 (some .int) ({ frames := 0, cells := 0, slots := 0, locals := 0 }) (D, TY cI cZ cC cS) [.ref hMO] [(hMO, .inr (6, [.ref hMOz, .ref hMOa, .ref hMOb, .int MOst, .ref hMOk, .int MOik, .ref hMOt, .int MOln, .ref hMOo, .ref hMOw, .ref hMOm, .ref hMOq, .int MOpl, .int MOiw, .int MOle, .ref hMOn])), (hMOz, .inl (cI, 116, .inl MOza)), (hMOk, .inl (cI, 116, .inl MOke))] (jw_P (some (.int out.1)) [(hMO, .inr (6, [.ref hMOz, .ref hMOa, .ref hMOb, .int MOst, .ref hMOk, .int out.2.1, .ref hMOt, .int MOln, .ref hMOo, .ref hMOw, .ref hMOm, .ref hMOq, .int MOpl, .int MOiw, .int MOle, .ref hMOn])), (hMOz, .inl (cI, 116, .inl MOza)), (hMOk, .inl (cI, 116, .inl out.2.2))]) 0 0 := by
  refine ct_of RX7 (by decide +kernel) rfl (Nat.le_of_ble_eq_true rfl) (fun j cx => ?_)
  unfold f_X7_keep at hm
  show j 0 0 [(hMO, .inr (6, [.ref hMOz, .ref hMOa, .ref hMOb, .int MOst, .ref hMOk, .int MOik, .ref hMOt, .int MOln, .ref hMOo, .ref hMOw, .ref hMOm, .ref hMOq, .int MOpl, .int MOiw, .int MOle, .ref hMOn])), (hMOz, .inl (cI, 116, .inl MOza)), (hMOk, .inl (cI, 116, .inl MOke))] [(0, .ref hMO)] 0 []
  refine j_iconst (pc' := 1) cx 0 dX7_keep_0 ki_0 rfl ?_
  refine j_istore_n (lv' := [(1, .int 0), (0, .ref hMO)]) (pc' := 2) cx dX7_keep_1 (by decide) rfl rfl ?_
  obtain ⟨e2, h_1, h_2⟩ := bd_s hm
  have KXe2 : j 0 0 [(hMO, .inr (6, [.ref hMOz, .ref hMOa, .ref hMOb, .int MOst, .ref hMOk, .int MOik, .ref hMOt, .int MOln, .ref hMOo, .ref hMOw, .ref hMOm, .ref hMOq, .int MOpl, .int MOiw, .int MOle, .ref hMOn])), (hMOz, .inl (cI, 116, .inl MOza)), (hMOk, .inl (cI, 116, .inl e2.2))] [(0, .ref hMO)] 26 [] := by
    refine j_aload_n (pc' := 27) cx 0 dX7_keep_26 rfl rfl ?_
    refine j_iconst (pc' := 28) cx 1 dX7_keep_27 ki_1 rfl ?_
    refine j_put (C := RX7) (T := TX7) (N := 16) (ws' := [(hMO, .inr (6, [.ref hMOz, .ref hMOa, .ref hMOb, .int MOst, .ref hMOk, .int 1, .ref hMOt, .int MOln, .ref hMOo, .ref hMOw, .ref hMOm, .ref hMOq, .int MOpl, .int MOiw, .int MOle, .ref hMOn])), (hMOz, .inl (cI, 116, .inl MOza)), (hMOk, .inl (cI, 116, .inl e2.2))]) (pc' := 31) cx uB_X7 tyX7 tyX7_ok nmX7 0 rfl rfl 5 (by decide) wF_X7_86 rfl (by decide +kernel) (by decide +kernel) (Nat.le_of_ble_eq_true rfl) rfl dX7_keep_28 rfl ?_
    refine j_aload_n (pc' := 32) cx 0 dX7_keep_31 rfl rfl ?_
    refine j_get (C := RX7) (T := TX7) (N := 16) (pc' := 35) cx uB_X7 0 rfl rfl 0 (by decide) wF_X7_7 (.ref hMOz) rfl dX7_keep_32 rfl ?_
    refine j_bipush (pc' := 37) cx 25 dX7_keep_35 kb_25 rfl ?_
    obtain ⟨i5, h_3⟩ := ck_s h_2
    refine j_iald (pc' := 38) cx 1 0 rfl rfl i5 dX7_keep_37 rfl ?_
    have h_4 := so_i h_3
    subst h_4
    exact j_ret cx (Or.inr (Or.inl ⟨_, _, rfl, rfl, dX7_keep_38, rfl, rfl⟩)) ⟨rfl, rfl⟩
  have LPe2 : ∀ (n : Nat) (s1 : Int32 × (Nat → Int32)), lp (f_X7_keep_b1 MOza) n s1 = some e2 → j 0 0 [(hMO, .inr (6, [.ref hMOz, .ref hMOa, .ref hMOb, .int MOst, .ref hMOk, .int MOik, .ref hMOt, .int MOln, .ref hMOo, .ref hMOw, .ref hMOm, .ref hMOq, .int MOpl, .int MOiw, .int MOle, .ref hMOn])), (hMOz, .inl (cI, 116, .inl MOza)), (hMOk, .inl (cI, 116, .inl s1.2))] [(0, .ref hMO), (1, .int s1.1)] 2 [] := by
    intro n
    induction n with
    | zero => intro s1 z; exact absurd z (by intro z; cases z)
    | succ n ihe2 =>
      intro s1 h_5
      obtain ⟨q_6, h_7, h_8⟩ := bd_s h_5
      unfold f_X7_keep_b1 at h_7
      refine j_iload_n (pc' := 3) cx 1 dX7_keep_2 rfl rfl ?_
      refine j_bipush (pc' := 5) cx 116 dX7_keep_3 kb_116 rfl ?_
      refine j_icmp_ge (tgt := 26) (pc' := 8) cx dX7_keep_5 (by decide) rfl (fun ch_7 => ?_) (fun ch_7 => ?_)
      · have h_9 := it_t h_7 ch_7
        have h_10 := so_i h_9
        subst h_10
        have h_11 := so_i (se_r h_8)
        subst h_11
        refine j_lv (lv' := [(0, .ref hMO)]) cx [0] rfl ?_
        exact KXe2
      · have h_12 := it_f h_7 ch_7
        refine j_aload_n (pc' := 9) cx 0 dX7_keep_8 rfl rfl ?_
        refine j_get (C := RX7) (T := TX7) (N := 16) (pc' := 12) cx uB_X7 0 rfl rfl 4 (by decide) wF_X7_19 (.ref hMOk) rfl dX7_keep_9 rfl ?_
        refine j_iload_n (pc' := 13) cx 1 dX7_keep_12 rfl rfl ?_
        refine j_aload_n (pc' := 14) cx 0 dX7_keep_13 rfl rfl ?_
        refine j_get (C := RX7) (T := TX7) (N := 16) (pc' := 17) cx uB_X7 0 rfl rfl 0 (by decide) wF_X7_7 (.ref hMOz) rfl dX7_keep_14 rfl ?_
        refine j_iload_n (pc' := 18) cx 1 dX7_keep_17 rfl rfl ?_
        obtain ⟨i3, h_13⟩ := ck_s h_12
        refine j_iald (pc' := 19) cx 1 0 rfl rfl i3 dX7_keep_18 rfl ?_
        obtain ⟨i4, h_14⟩ := ck_s h_13
        refine j_iast (ws' := [(hMO, .inr (6, [.ref hMOz, .ref hMOa, .ref hMOb, .int MOst, .ref hMOk, .int MOik, .ref hMOt, .int MOln, .ref hMOo, .ref hMOw, .ref hMOm, .ref hMOq, .int MOpl, .int MOiw, .int MOle, .ref hMOn])), (hMOz, .inl (cI, 116, .inl MOza)), (hMOk, .inl (cI, 116, .inl (upd s1.2 s1.1.toNatClampNeg (MOza s1.1.toNatClampNeg))))]) (pc' := 20) cx 2 0 rfl rfl i4 rfl dX7_keep_19 rfl ?_
        refine j_iinc (v := (s1.1 + 1)) (lv' := [(1, .int (s1.1 + 1)), (0, .ref hMO)]) (pc' := 23) cx 1 dX7_keep_20 rfl (kn_1 _) (by decide) rfl rfl ?_
        refine j_goto (pc' := 2) cx dX7_keep_23 (by decide) ?_
        have h_15 := so_i h_14
        subst h_15
        refine j_lv (lv' := [(0, .ref hMO), (1, .int (s1.1 + 1))]) cx [1, 0] rfl ?_
        exact ihe2 _ (se_l h_8)
  refine j_lv (lv' := [(0, .ref hMO), (1, .int 0)]) cx [1, 0] rfl ?_
  exact LPe2 _ _ h_1
set_option maxHeartbeats 4000000 in
set_option maxRecDepth 100000 in
theorem c_X7_restore (l : Launch) (D : va_G) (cI cZ cC cS : ClassId) (hMO hMOz hMOa hMOb hMOk hMOt hMOo hMOw hMOm hMOq hMOn : Nat) (MOst : Int32) (MOik : Int32) (MOln : Int32) (MOpl : Int32) (MOiw : Int32) (MOle : Int32) (MOza : Nat → Int32) (MObe : Nat → Int32) (MOke : Nat → Int32) (MOon : Nat → Int32) (MOwy : Nat → Int32) (out : Int32 × Int32 × (Nat → Int32) × (Nat → Int32) × (Nat → Int32) × (Nat → Int32)) (hm : f_X7_restore MOst MOik MOza MObe MOke MOon MOwy = some out) : Ct l yX7_restore cX7_restore 2 (some .int) ({ frames := 2, cells := 0, slots := 0, locals := 45 }) (D, TY cI cZ cC cS) [.ref hMO] [(hMO, .inr (6, [.ref hMOz, .ref hMOa, .ref hMOb, .int MOst, .ref hMOk, .int MOik, .ref hMOt, .int MOln, .ref hMOo, .ref hMOw, .ref hMOm, .ref hMOq, .int MOpl, .int MOiw, .int MOle, .ref hMOn])), (hMOz, .inl (cI, 116, .inl MOza)), (hMOb, .inl (cI, 464, .inl MObe)), (hMOk, .inl (cI, 116, .inl MOke)), (hMOo, .inl (cI, 150, .inl MOon)), (hMOw, .inl (cI, 150, .inl MOwy))] (jw_P (some (.int out.1)) [(hMO, .inr (6, [.ref hMOz, .ref hMOa, .ref hMOb, .int out.2.1, .ref hMOk, .int MOik, .ref hMOt, .int MOln, .ref hMOo, .ref hMOw, .ref hMOm, .ref hMOq, .int MOpl, .int MOiw, .int MOle, .ref hMOn])), (hMOz, .inl (cI, 116, .inl out.2.2.1)), (hMOb, .inl (cI, 464, .inl out.2.2.2.1)), (hMOk, .inl (cI, 116, .inl MOke)), (hMOo, .inl (cI, 150, .inl out.2.2.2.2.1)), (hMOw, .inl (cI, 150, .inl out.2.2.2.2.2))]) 0 0 := by
  refine ct_of RX7 (by decide +kernel) rfl (Nat.le_of_ble_eq_true rfl) (fun j cx => ?_)
  unfold f_X7_restore at hm
  show j 0 0 [(hMO, .inr (6, [.ref hMOz, .ref hMOa, .ref hMOb, .int MOst, .ref hMOk, .int MOik, .ref hMOt, .int MOln, .ref hMOo, .ref hMOw, .ref hMOm, .ref hMOq, .int MOpl, .int MOiw, .int MOle, .ref hMOn])), (hMOz, .inl (cI, 116, .inl MOza)), (hMOb, .inl (cI, 464, .inl MObe)), (hMOk, .inl (cI, 116, .inl MOke)), (hMOo, .inl (cI, 150, .inl MOon)), (hMOw, .inl (cI, 150, .inl MOwy))] [(0, .ref hMO)] 0 []
  refine j_aload_n (pc' := 1) cx 0 dX7_restore_0 rfl rfl ?_
  refine j_get (C := RX7) (T := TX7) (N := 16) (pc' := 4) cx uB_X7 0 rfl rfl 5 (by decide) wF_X7_86 (.int MOik) rfl dX7_restore_1 rfl ?_
  refine j_if_ne (tgt := 10) (pc' := 7) cx dX7_restore_4 (by decide) rfl (fun chm => ?_) (fun chm => ?_)
  · have h_1 := it_f hm chm
    refine j_aload_n (pc' := 11) cx 0 dX7_restore_10 rfl rfl ?_
    refine j_aload_n (pc' := 12) cx 0 dX7_restore_11 rfl rfl ?_
    refine j_get (C := RX7) (T := TX7) (N := 16) (pc' := 15) cx uB_X7 0 rfl rfl 0 (by decide) wF_X7_7 (.ref hMOz) rfl dX7_restore_12 rfl ?_
    obtain ⟨r1, c2, h_2⟩ := bd_s h_1
    refine j_cV (pc' := 18) cx (c_X7_record l D cI cZ cC cS hMOz hMO hMOz hMOa hMOb hMOk hMOt hMOo hMOw hMOm hMOq hMOn MOza MOst MOik MOln MOpl MOiw MOle MObe r1 c2) 1 yk_X7_record wM_X7_90 ⟨wN_X7_record, wS_X7_record, wI_X7, wC_X7_record⟩ ⟨rfl, rfl, Nat.le_of_ble_eq_true rfl, Nat.le_of_ble_eq_true rfl, Nat.le_of_ble_eq_true rfl, Nat.le_of_ble_eq_true rfl⟩ [1, 0, 2] [3, 4, 5] [4, 3, 5, 0, 1, 2] rfl [(hMOk, .inl (cI, 116, .inl MOke)), (hMOo, .inl (cI, 150, .inl MOon)), (hMOw, .inl (cI, 150, .inl MOwy))] rfl (by decide) [(hMO, .inr (6, [.ref hMOz, .ref hMOa, .ref hMOb, .int r1.1, .ref hMOk, .int MOik, .ref hMOt, .int MOln, .ref hMOo, .ref hMOw, .ref hMOm, .ref hMOq, .int MOpl, .int MOiw, .int MOle, .ref hMOn])), (hMOz, .inl (cI, 116, .inl MOza)), (hMOb, .inl (cI, 464, .inl r1.2)), (hMOk, .inl (cI, 116, .inl MOke)), (hMOo, .inl (cI, 150, .inl MOon)), (hMOw, .inl (cI, 150, .inl MOwy))] rfl (by decide) 0 6 rfl rfl rfl rfl rfl (Nat.le_of_ble_eq_true rfl) dX7_restore_15 rfl ?_
    refine j_iconst (pc' := 19) cx 0 dX7_restore_18 ki_0 rfl ?_
    refine j_istore_n (lv' := [(1, .int 0), (0, .ref hMO)]) (pc' := 20) cx dX7_restore_19 (by decide) rfl rfl ?_
    obtain ⟨e4, h_3, h_4⟩ := bd_s h_2
    have KXe4 : j 0 0 [(hMO, .inr (6, [.ref hMOz, .ref hMOa, .ref hMOb, .int r1.1, .ref hMOk, .int MOik, .ref hMOt, .int MOln, .ref hMOo, .ref hMOw, .ref hMOm, .ref hMOq, .int MOpl, .int MOiw, .int MOle, .ref hMOn])), (hMOz, .inl (cI, 116, .inl e4.2)), (hMOb, .inl (cI, 464, .inl r1.2)), (hMOk, .inl (cI, 116, .inl MOke)), (hMOo, .inl (cI, 150, .inl MOon)), (hMOw, .inl (cI, 150, .inl MOwy))] [(0, .ref hMO)] 44 [] := by
      refine j_aload_n (pc' := 45) cx 0 dX7_restore_44 rfl rfl ?_
      obtain ⟨r7, c8, h_5⟩ := bd_s h_4
      refine j_cV (pc' := 48) cx (c_X7_draw l D cI cZ cC cS hMO hMOz hMOa hMOb hMOk hMOt hMOo hMOw hMOm hMOq hMOn r1.1 MOik MOln MOpl MOiw MOle e4.2 MOon MOwy r7 c8) 0 yk_X7_draw wM_X7_40 ⟨wN_X7_draw, wS_X7_draw, wI_X7, wC_X7_draw⟩ ⟨rfl, rfl, Nat.le_of_ble_eq_true rfl, Nat.le_of_ble_eq_true rfl, Nat.le_of_ble_eq_true rfl, Nat.le_of_ble_eq_true rfl⟩ [0, 1, 4, 5] [2, 3] [2, 3, 0, 1, 4, 5] rfl [(hMOb, .inl (cI, 464, .inl r1.2)), (hMOk, .inl (cI, 116, .inl MOke))] rfl (by decide) [(hMO, .inr (6, [.ref hMOz, .ref hMOa, .ref hMOb, .int r1.1, .ref hMOk, .int MOik, .ref hMOt, .int MOln, .ref hMOo, .ref hMOw, .ref hMOm, .ref hMOq, .int MOpl, .int MOiw, .int MOle, .ref hMOn])), (hMOz, .inl (cI, 116, .inl e4.2)), (hMOb, .inl (cI, 464, .inl r1.2)), (hMOk, .inl (cI, 116, .inl MOke)), (hMOo, .inl (cI, 150, .inl r7.1)), (hMOw, .inl (cI, 150, .inl r7.2))] rfl (by decide) 0 6 rfl rfl rfl rfl rfl (Nat.le_of_ble_eq_true rfl) dX7_restore_45 rfl ?_
      refine j_aload_n (pc' := 49) cx 0 dX7_restore_48 rfl rfl ?_
      refine j_get (C := RX7) (T := TX7) (N := 16) (pc' := 52) cx uB_X7 0 rfl rfl 0 (by decide) wF_X7_7 (.ref hMOz) rfl dX7_restore_49 rfl ?_
      refine j_bipush (pc' := 54) cx 25 dX7_restore_52 kb_25 rfl ?_
      obtain ⟨i9, h_6⟩ := ck_s h_5
      refine j_iald (pc' := 55) cx 1 0 rfl rfl i9 dX7_restore_54 rfl ?_
      have h_7 := so_i h_6
      subst h_7
      exact j_ret cx (Or.inr (Or.inl ⟨_, _, rfl, rfl, dX7_restore_55, rfl, rfl⟩)) ⟨rfl, rfl⟩
    have LPe4 : ∀ (n : Nat) (s3 : Int32 × (Nat → Int32)), lp (f_X7_restore_b1 MOke) n s3 = some e4 → j 0 0 [(hMO, .inr (6, [.ref hMOz, .ref hMOa, .ref hMOb, .int r1.1, .ref hMOk, .int MOik, .ref hMOt, .int MOln, .ref hMOo, .ref hMOw, .ref hMOm, .ref hMOq, .int MOpl, .int MOiw, .int MOle, .ref hMOn])), (hMOz, .inl (cI, 116, .inl s3.2)), (hMOb, .inl (cI, 464, .inl r1.2)), (hMOk, .inl (cI, 116, .inl MOke)), (hMOo, .inl (cI, 150, .inl MOon)), (hMOw, .inl (cI, 150, .inl MOwy))] [(0, .ref hMO), (1, .int s3.1)] 20 [] := by
      intro n
      induction n with
      | zero => intro s3 z; exact absurd z (by intro z; cases z)
      | succ n ihe4 =>
        intro s3 h_8
        obtain ⟨q_9, h_10, h_11⟩ := bd_s h_8
        unfold f_X7_restore_b1 at h_10
        refine j_iload_n (pc' := 21) cx 1 dX7_restore_20 rfl rfl ?_
        refine j_bipush (pc' := 23) cx 116 dX7_restore_21 kb_116 rfl ?_
        refine j_icmp_ge (tgt := 44) (pc' := 26) cx dX7_restore_23 (by decide) rfl (fun ch_10 => ?_) (fun ch_10 => ?_)
        · have h_12 := it_t h_10 ch_10
          have h_13 := so_i h_12
          subst h_13
          have h_14 := so_i (se_r h_11)
          subst h_14
          refine j_lv (lv' := [(0, .ref hMO)]) cx [0] rfl ?_
          exact KXe4
        · have h_15 := it_f h_10 ch_10
          refine j_aload_n (pc' := 27) cx 0 dX7_restore_26 rfl rfl ?_
          refine j_get (C := RX7) (T := TX7) (N := 16) (pc' := 30) cx uB_X7 0 rfl rfl 0 (by decide) wF_X7_7 (.ref hMOz) rfl dX7_restore_27 rfl ?_
          refine j_iload_n (pc' := 31) cx 1 dX7_restore_30 rfl rfl ?_
          refine j_aload_n (pc' := 32) cx 0 dX7_restore_31 rfl rfl ?_
          refine j_get (C := RX7) (T := TX7) (N := 16) (pc' := 35) cx uB_X7 0 rfl rfl 4 (by decide) wF_X7_19 (.ref hMOk) rfl dX7_restore_32 rfl ?_
          refine j_iload_n (pc' := 36) cx 1 dX7_restore_35 rfl rfl ?_
          obtain ⟨i5, h_16⟩ := ck_s h_15
          refine j_iald (pc' := 37) cx 3 0 rfl rfl i5 dX7_restore_36 rfl ?_
          obtain ⟨i6, h_17⟩ := ck_s h_16
          refine j_iast (ws' := [(hMO, .inr (6, [.ref hMOz, .ref hMOa, .ref hMOb, .int r1.1, .ref hMOk, .int MOik, .ref hMOt, .int MOln, .ref hMOo, .ref hMOw, .ref hMOm, .ref hMOq, .int MOpl, .int MOiw, .int MOle, .ref hMOn])), (hMOz, .inl (cI, 116, .inl (upd s3.2 s3.1.toNatClampNeg (MOke s3.1.toNatClampNeg)))), (hMOb, .inl (cI, 464, .inl r1.2)), (hMOk, .inl (cI, 116, .inl MOke)), (hMOo, .inl (cI, 150, .inl MOon)), (hMOw, .inl (cI, 150, .inl MOwy))]) (pc' := 38) cx 1 0 rfl rfl i6 rfl dX7_restore_37 rfl ?_
          refine j_iinc (v := (s3.1 + 1)) (lv' := [(1, .int (s3.1 + 1)), (0, .ref hMO)]) (pc' := 41) cx 1 dX7_restore_38 rfl (kn_1 _) (by decide) rfl rfl ?_
          refine j_goto (pc' := 20) cx dX7_restore_41 (by decide) ?_
          have h_18 := so_i h_17
          subst h_18
          refine j_lv (lv' := [(0, .ref hMO), (1, .int (s3.1 + 1))]) cx [1, 0] rfl ?_
          exact ihe4 _ (se_l h_11)
    refine j_lv (lv' := [(0, .ref hMO), (1, .int 0)]) cx [1, 0] rfl ?_
    exact LPe4 _ _ h_3
  · have h_19 := it_t hm chm
    refine j_bipush (pc' := 9) cx (-5) dX7_restore_7 kb_m5 rfl ?_
    have h_20 := so_i h_19
    subst h_20
    exact j_ret cx (Or.inr (Or.inl ⟨_, _, rfl, rfl, dX7_restore_9, rfl, rfl⟩)) ⟨rfl, rfl⟩
set_option maxHeartbeats 4000000 in
set_option maxRecDepth 100000 in
theorem c_X7_canStay (l : Launch) (D : va_G) (cI cZ cC cS : ClassId) (hMO hMOz hMOa hMOb hMOk hMOt hMOo hMOw hMOm hMOq hMOn : Nat) (MOst : Int32) (MOik : Int32) (MOln : Int32) (MOpl : Int32) (MOiw : Int32) (MOle : Int32) (MOza : Nat → Int32) (MOas : Nat → Int32) (MObe : Nat → Int32) (MOon : Nat → Int32) (MOwy : Nat → Int32) (out : Int32 × Int32 × (Nat → Int32) × (Nat → Int32) × (Nat → Int32) × (Nat → Int32)) (hm : f_X7_canStay MOst MOza MOas MObe MOon MOwy = some out) : Ct l yX7_canStay cX7_canStay 1 (some .boolean) ({ frames := 4, cells := 0, slots := 0, locals := 90 }) (D, TY cI cZ cC cS) [.ref hMO] [(hMO, .inr (6, [.ref hMOz, .ref hMOa, .ref hMOb, .int MOst, .ref hMOk, .int MOik, .ref hMOt, .int MOln, .ref hMOo, .ref hMOw, .ref hMOm, .ref hMOq, .int MOpl, .int MOiw, .int MOle, .ref hMOn])), (hMOz, .inl (cI, 116, .inl MOza)), (hMOa, .inl (cI, 116, .inl MOas)), (hMOb, .inl (cI, 464, .inl MObe)), (hMOo, .inl (cI, 150, .inl MOon)), (hMOw, .inl (cI, 150, .inl MOwy))] (jw_P (some (.int out.1)) [(hMO, .inr (6, [.ref hMOz, .ref hMOa, .ref hMOb, .int out.2.1, .ref hMOk, .int MOik, .ref hMOt, .int MOln, .ref hMOo, .ref hMOw, .ref hMOm, .ref hMOq, .int MOpl, .int MOiw, .int MOle, .ref hMOn])), (hMOz, .inl (cI, 116, .inl out.2.2.1)), (hMOa, .inl (cI, 116, .inl MOas)), (hMOb, .inl (cI, 464, .inl out.2.2.2.1)), (hMOo, .inl (cI, 150, .inl out.2.2.2.2.1)), (hMOw, .inl (cI, 150, .inl out.2.2.2.2.2))]) 0 0 := by
  refine ct_of RX7 (by decide +kernel) rfl (Nat.le_of_ble_eq_true rfl) (fun j cx => ?_)
  unfold f_X7_canStay at hm
  show j 0 0 [(hMO, .inr (6, [.ref hMOz, .ref hMOa, .ref hMOb, .int MOst, .ref hMOk, .int MOik, .ref hMOt, .int MOln, .ref hMOo, .ref hMOw, .ref hMOm, .ref hMOq, .int MOpl, .int MOiw, .int MOle, .ref hMOn])), (hMOz, .inl (cI, 116, .inl MOza)), (hMOa, .inl (cI, 116, .inl MOas)), (hMOb, .inl (cI, 464, .inl MObe)), (hMOo, .inl (cI, 150, .inl MOon)), (hMOw, .inl (cI, 150, .inl MOwy))] [(0, .ref hMO)] 0 []
  refine j_aload_n (pc' := 1) cx 0 dX7_canStay_0 rfl rfl ?_
  obtain ⟨r1, c2, h_1⟩ := bd_s hm
  refine j_cV (pc' := 4) cx (c_X7_draw l D cI cZ cC cS hMO hMOz hMOa hMOb hMOk hMOt hMOo hMOw hMOm hMOq hMOn MOst MOik MOln MOpl MOiw MOle MOza MOon MOwy r1 c2) 0 yk_X7_draw wM_X7_40 ⟨wN_X7_draw, wS_X7_draw, wI_X7, wC_X7_draw⟩ ⟨rfl, rfl, Nat.le_of_ble_eq_true rfl, Nat.le_of_ble_eq_true rfl, Nat.le_of_ble_eq_true rfl, Nat.le_of_ble_eq_true rfl⟩ [0, 1, 4, 5] [2, 3] [2, 3, 0, 1, 4, 5] rfl [(hMOa, .inl (cI, 116, .inl MOas)), (hMOb, .inl (cI, 464, .inl MObe))] rfl (by decide) [(hMO, .inr (6, [.ref hMOz, .ref hMOa, .ref hMOb, .int MOst, .ref hMOk, .int MOik, .ref hMOt, .int MOln, .ref hMOo, .ref hMOw, .ref hMOm, .ref hMOq, .int MOpl, .int MOiw, .int MOle, .ref hMOn])), (hMOz, .inl (cI, 116, .inl MOza)), (hMOa, .inl (cI, 116, .inl MOas)), (hMOb, .inl (cI, 464, .inl MObe)), (hMOo, .inl (cI, 150, .inl r1.1)), (hMOw, .inl (cI, 150, .inl r1.2))] rfl (by decide) 0 6 rfl rfl rfl rfl rfl (Nat.le_of_ble_eq_true rfl) dX7_canStay_1 rfl ?_
  refine j_aload_n (pc' := 5) cx 0 dX7_canStay_4 rfl rfl ?_
  obtain ⟨r3, c4, h_2⟩ := bd_s h_1
  refine j_cV (pc' := 8) cx (c_X7_areClashing l D cI cZ cC cS hMO hMOz hMOa hMOb hMOk hMOt hMOo hMOw hMOm hMOq hMOn MOst MOik MOln MOpl MOiw MOle MOza r1.1 r1.2 r3 c4) 0 yk_X7_areClashing wM_X7_94 ⟨wN_X7_areClashing, wS_X7_areClashing, wI_X7, wC_X7_areClashing⟩ ⟨rfl, rfl, Nat.le_of_ble_eq_true rfl, Nat.le_of_ble_eq_true rfl, Nat.le_of_ble_eq_true rfl, Nat.le_of_ble_eq_true rfl⟩ [0, 1, 4, 5] [2, 3] [2, 3, 0, 1, 4, 5] rfl [(hMOa, .inl (cI, 116, .inl MOas)), (hMOb, .inl (cI, 464, .inl MObe))] rfl (by decide) [(hMO, .inr (6, [.ref hMOz, .ref hMOa, .ref hMOb, .int MOst, .ref hMOk, .int MOik, .ref hMOt, .int MOln, .ref hMOo, .ref hMOw, .ref hMOm, .ref hMOq, .int MOpl, .int MOiw, .int MOle, .ref hMOn])), (hMOz, .inl (cI, 116, .inl MOza)), (hMOa, .inl (cI, 116, .inl MOas)), (hMOb, .inl (cI, 464, .inl MObe)), (hMOo, .inl (cI, 150, .inl r1.1)), (hMOw, .inl (cI, 150, .inl r1.2))] rfl (by decide) 0 6 rfl rfl rfl rfl rfl (Nat.le_of_ble_eq_true rfl) dX7_canStay_5 rfl ?_
  refine j_if_eq (tgt := 17) (pc' := 11) cx dX7_canStay_8 (by decide) rfl (fun ch_2 => ?_) (fun ch_2 => ?_)
  · have h_3 := it_t h_2 ch_2
    refine j_aload_n (pc' := 18) cx 0 dX7_canStay_17 rfl rfl ?_
    refine j_aload_n (pc' := 19) cx 0 dX7_canStay_18 rfl rfl ?_
    refine j_get (C := RX7) (T := TX7) (N := 16) (pc' := 22) cx uB_X7 0 rfl rfl 1 (by decide) wF_X7_13 (.ref hMOa) rfl dX7_canStay_19 rfl ?_
    obtain ⟨r5, c6, h_4⟩ := bd_s h_3
    refine j_cV (pc' := 25) cx (c_X7_record l D cI cZ cC cS hMOa hMO hMOz hMOa hMOb hMOk hMOt hMOo hMOw hMOm hMOq hMOn MOas MOst MOik MOln MOpl MOiw MOle MObe r5 c6) 1 yk_X7_record wM_X7_90 ⟨wN_X7_record, wS_X7_record, wI_X7, wC_X7_record⟩ ⟨rfl, rfl, Nat.le_of_ble_eq_true rfl, Nat.le_of_ble_eq_true rfl, Nat.le_of_ble_eq_true rfl, Nat.le_of_ble_eq_true rfl⟩ [2, 0, 3] [1, 4, 5] [4, 0, 3, 5, 1, 2] rfl [(hMOz, .inl (cI, 116, .inl MOza)), (hMOo, .inl (cI, 150, .inl r1.1)), (hMOw, .inl (cI, 150, .inl r1.2))] rfl (by decide) [(hMO, .inr (6, [.ref hMOz, .ref hMOa, .ref hMOb, .int r5.1, .ref hMOk, .int MOik, .ref hMOt, .int MOln, .ref hMOo, .ref hMOw, .ref hMOm, .ref hMOq, .int MOpl, .int MOiw, .int MOle, .ref hMOn])), (hMOz, .inl (cI, 116, .inl MOza)), (hMOa, .inl (cI, 116, .inl MOas)), (hMOb, .inl (cI, 464, .inl r5.2)), (hMOo, .inl (cI, 150, .inl r1.1)), (hMOw, .inl (cI, 150, .inl r1.2))] rfl (by decide) 0 6 rfl rfl rfl rfl rfl (Nat.le_of_ble_eq_true rfl) dX7_canStay_22 rfl ?_
    refine j_iconst (pc' := 26) cx 1 dX7_canStay_25 ki_1 rfl ?_
    have h_5 := so_i h_4
    subst h_5
    exact j_ret cx (Or.inr (Or.inl ⟨_, _, rfl, (by decide +kernel), dX7_canStay_26, rfl, rfl⟩)) ⟨rfl, rfl⟩
  · have h_6 := it_f h_2 ch_2
    refine j_aload_n (pc' := 12) cx 0 dX7_canStay_11 rfl rfl ?_
    obtain ⟨r7, c8, h_7⟩ := bd_s h_6
    refine j_cV (pc' := 15) cx (c_X7_putBack l D cI cZ cC cS hMO hMOz hMOa hMOb hMOk hMOt hMOo hMOw hMOm hMOq hMOn MOst MOik MOln MOpl MOiw MOle MOza MOas r1.1 r1.2 r7 c8) 0 yk_X7_putBack wM_X7_98 ⟨wN_X7_putBack, wS_X7_putBack, wI_X7, wC_X7_putBack⟩ ⟨rfl, rfl, Nat.le_of_ble_eq_true rfl, Nat.le_of_ble_eq_true rfl, Nat.le_of_ble_eq_true rfl, Nat.le_of_ble_eq_true rfl⟩ [0, 1, 2, 4, 5] [3] [1, 2, 3, 0, 4, 5] rfl [(hMOb, .inl (cI, 464, .inl MObe))] rfl (by decide) [(hMO, .inr (6, [.ref hMOz, .ref hMOa, .ref hMOb, .int MOst, .ref hMOk, .int MOik, .ref hMOt, .int MOln, .ref hMOo, .ref hMOw, .ref hMOm, .ref hMOq, .int MOpl, .int MOiw, .int MOle, .ref hMOn])), (hMOz, .inl (cI, 116, .inl r7.1)), (hMOa, .inl (cI, 116, .inl MOas)), (hMOb, .inl (cI, 464, .inl MObe)), (hMOo, .inl (cI, 150, .inl r7.2.1)), (hMOw, .inl (cI, 150, .inl r7.2.2))] rfl (by decide) 0 6 rfl rfl rfl rfl rfl (Nat.le_of_ble_eq_true rfl) dX7_canStay_12 rfl ?_
    refine j_iconst (pc' := 16) cx 0 dX7_canStay_15 ki_0 rfl ?_
    have h_8 := so_i h_7
    subst h_8
    exact j_ret cx (Or.inr (Or.inl ⟨_, _, rfl, (by decide +kernel), dX7_canStay_16, rfl, rfl⟩)) ⟨rfl, rfl⟩
set_option maxHeartbeats 4000000 in
set_option maxRecDepth 100000 in
theorem c_X7_paint (l : Launch) (D : va_G) (cI cZ cC cS : ClassId) (hMO hMOz hMOa hMOb hMOk hMOt hMOo hMOw hMOm hMOq hMOn : Nat) (MOst : Int32) (MOik : Int32) (MOln : Int32) (MOpl : Int32) (MOiw : Int32) (MOle : Int32) (MOza : Nat → Int32) (MOas : Nat → Int32) (MObe : Nat → Int32) (MOon : Nat → Int32) (MOwy : Nat → Int32) (p0 : Int32) (p1 : Int32) (p2 : Int32) (out : Int32 × Int32 × (Nat → Int32) × (Nat → Int32) × (Nat → Int32) × (Nat → Int32) × (Nat → Int32)) (hm : f_X7_paint MOst MOza MOas MObe MOon MOwy p0 p1 p2 = some out) : Ct l yX7_paint cX7_paint 5 (some .int) ({ frames := 5, cells := 0, slots := 0, locals := 110 }) (D, TY cI cZ cC cS) [.ref hMO, .int p0, .int p1, .int p2] [(hMO, .inr (6, [.ref hMOz, .ref hMOa, .ref hMOb, .int MOst, .ref hMOk, .int MOik, .ref hMOt, .int MOln, .ref hMOo, .ref hMOw, .ref hMOm, .ref hMOq, .int MOpl, .int MOiw, .int MOle, .ref hMOn])), (hMOz, .inl (cI, 116, .inl MOza)), (hMOa, .inl (cI, 116, .inl MOas)), (hMOb, .inl (cI, 464, .inl MObe)), (hMOo, .inl (cI, 150, .inl MOon)), (hMOw, .inl (cI, 150, .inl MOwy))] (jw_P (some (.int out.1)) [(hMO, .inr (6, [.ref hMOz, .ref hMOa, .ref hMOb, .int out.2.1, .ref hMOk, .int MOik, .ref hMOt, .int MOln, .ref hMOo, .ref hMOw, .ref hMOm, .ref hMOq, .int MOpl, .int MOiw, .int MOle, .ref hMOn])), (hMOz, .inl (cI, 116, .inl out.2.2.1)), (hMOa, .inl (cI, 116, .inl out.2.2.2.1)), (hMOb, .inl (cI, 464, .inl out.2.2.2.2.1)), (hMOo, .inl (cI, 150, .inl out.2.2.2.2.2.1)), (hMOw, .inl (cI, 150, .inl out.2.2.2.2.2.2))]) 0 0 := by
  refine ct_of RX7 (by decide +kernel) rfl (Nat.le_of_ble_eq_true rfl) (fun j cx => ?_)
  unfold f_X7_paint at hm
  show j 0 0 [(hMO, .inr (6, [.ref hMOz, .ref hMOa, .ref hMOb, .int MOst, .ref hMOk, .int MOik, .ref hMOt, .int MOln, .ref hMOo, .ref hMOw, .ref hMOm, .ref hMOq, .int MOpl, .int MOiw, .int MOle, .ref hMOn])), (hMOz, .inl (cI, 116, .inl MOza)), (hMOa, .inl (cI, 116, .inl MOas)), (hMOb, .inl (cI, 464, .inl MObe)), (hMOo, .inl (cI, 150, .inl MOon)), (hMOw, .inl (cI, 150, .inl MOwy))] [(0, .ref hMO), (1, .int p0), (2, .int p1), (3, .int p2)] 0 []
  refine j_iload_n (pc' := 1) cx 1 dX7_paint_0 rfl rfl ?_
  obtain ⟨r1, c2, h_1⟩ := bd_s hm
  refine j_cS (pc' := 4) cx (c_X7_isKind l D cI cZ cC cS p0 r1 c2) 1 yk_X7_isKind wM_X7_101 ⟨wT_X7_isKind, wI_X7, wC_X7_isKind⟩ ⟨rfl, rfl, Nat.le_of_ble_eq_true rfl, Nat.le_of_ble_eq_true rfl, Nat.le_of_ble_eq_true rfl, Nat.le_of_ble_eq_true rfl⟩ [] [0, 1, 2, 3, 4, 5] [0, 1, 2, 3, 4, 5] rfl [(hMO, .inr (6, [.ref hMOz, .ref hMOa, .ref hMOb, .int MOst, .ref hMOk, .int MOik, .ref hMOt, .int MOln, .ref hMOo, .ref hMOw, .ref hMOm, .ref hMOq, .int MOpl, .int MOiw, .int MOle, .ref hMOn])), (hMOz, .inl (cI, 116, .inl MOza)), (hMOa, .inl (cI, 116, .inl MOas)), (hMOb, .inl (cI, 464, .inl MObe)), (hMOo, .inl (cI, 150, .inl MOon)), (hMOw, .inl (cI, 150, .inl MOwy))] rfl (by decide) [(hMO, .inr (6, [.ref hMOz, .ref hMOa, .ref hMOb, .int MOst, .ref hMOk, .int MOik, .ref hMOt, .int MOln, .ref hMOo, .ref hMOw, .ref hMOm, .ref hMOq, .int MOpl, .int MOiw, .int MOle, .ref hMOn])), (hMOz, .inl (cI, 116, .inl MOza)), (hMOa, .inl (cI, 116, .inl MOas)), (hMOb, .inl (cI, 464, .inl MObe)), (hMOo, .inl (cI, 150, .inl MOon)), (hMOw, .inl (cI, 150, .inl MOwy))] rfl (by decide) rfl rfl (Nat.le_of_ble_eq_true rfl) dX7_paint_1 rfl ?_
  refine j_if_ne (tgt := 9) (pc' := 7) cx dX7_paint_4 (by decide) rfl (fun ch_1 => ?_) (fun ch_1 => ?_)
  · have h_2 := it_f h_1 ch_1
    refine j_iload_n (pc' := 10) cx 2 dX7_paint_9 rfl rfl ?_
    refine j_iconst (pc' := 11) cx 0 dX7_paint_10 ki_0 rfl ?_
    refine j_iconst (pc' := 12) cx 3 dX7_paint_11 ki_3 rfl ?_
    obtain ⟨r3, c4, h_3⟩ := bd_s h_2
    refine j_cS (pc' := 15) cx (c_X7_in l D cI cZ cC cS p1 0 3 r3 c4) 3 yk_X7_in wM_X7_43 ⟨wT_X7_in, wI_X7, wC_X7_in⟩ ⟨rfl, rfl, Nat.le_of_ble_eq_true rfl, Nat.le_of_ble_eq_true rfl, Nat.le_of_ble_eq_true rfl, Nat.le_of_ble_eq_true rfl⟩ [] [0, 1, 2, 3, 4, 5] [0, 1, 2, 3, 4, 5] rfl [(hMO, .inr (6, [.ref hMOz, .ref hMOa, .ref hMOb, .int MOst, .ref hMOk, .int MOik, .ref hMOt, .int MOln, .ref hMOo, .ref hMOw, .ref hMOm, .ref hMOq, .int MOpl, .int MOiw, .int MOle, .ref hMOn])), (hMOz, .inl (cI, 116, .inl MOza)), (hMOa, .inl (cI, 116, .inl MOas)), (hMOb, .inl (cI, 464, .inl MObe)), (hMOo, .inl (cI, 150, .inl MOon)), (hMOw, .inl (cI, 150, .inl MOwy))] rfl (by decide) [(hMO, .inr (6, [.ref hMOz, .ref hMOa, .ref hMOb, .int MOst, .ref hMOk, .int MOik, .ref hMOt, .int MOln, .ref hMOo, .ref hMOw, .ref hMOm, .ref hMOq, .int MOpl, .int MOiw, .int MOle, .ref hMOn])), (hMOz, .inl (cI, 116, .inl MOza)), (hMOa, .inl (cI, 116, .inl MOas)), (hMOb, .inl (cI, 464, .inl MObe)), (hMOo, .inl (cI, 150, .inl MOon)), (hMOw, .inl (cI, 150, .inl MOwy))] rfl (by decide) rfl rfl (Nat.le_of_ble_eq_true rfl) dX7_paint_12 rfl ?_
    refine j_if_eq (tgt := 27) (pc' := 18) cx dX7_paint_15 (by decide) rfl (fun ch_3 => ?_) (fun ch_3 => ?_)
    · have h_4 := it_t h_3 ch_3
      refine j_bipush (pc' := 29) cx (-2) dX7_paint_27 kb_m2 rfl ?_
      have h_5 := so_i h_4
      subst h_5
      exact j_ret cx (Or.inr (Or.inl ⟨_, _, rfl, rfl, dX7_paint_29, rfl, rfl⟩)) ⟨rfl, rfl⟩
    · have h_6 := it_f h_3 ch_3
      refine j_iload_n (pc' := 19) cx 3 dX7_paint_18 rfl rfl ?_
      refine j_iconst (pc' := 20) cx 0 dX7_paint_19 ki_0 rfl ?_
      refine j_iconst (pc' := 21) cx 5 dX7_paint_20 ki_5 rfl ?_
      obtain ⟨r5, c6, h_7⟩ := bd_s h_6
      refine j_cS (pc' := 24) cx (c_X7_in l D cI cZ cC cS p2 0 5 r5 c6) 3 yk_X7_in wM_X7_43 ⟨wT_X7_in, wI_X7, wC_X7_in⟩ ⟨rfl, rfl, Nat.le_of_ble_eq_true rfl, Nat.le_of_ble_eq_true rfl, Nat.le_of_ble_eq_true rfl, Nat.le_of_ble_eq_true rfl⟩ [] [0, 1, 2, 3, 4, 5] [0, 1, 2, 3, 4, 5] rfl [(hMO, .inr (6, [.ref hMOz, .ref hMOa, .ref hMOb, .int MOst, .ref hMOk, .int MOik, .ref hMOt, .int MOln, .ref hMOo, .ref hMOw, .ref hMOm, .ref hMOq, .int MOpl, .int MOiw, .int MOle, .ref hMOn])), (hMOz, .inl (cI, 116, .inl MOza)), (hMOa, .inl (cI, 116, .inl MOas)), (hMOb, .inl (cI, 464, .inl MObe)), (hMOo, .inl (cI, 150, .inl MOon)), (hMOw, .inl (cI, 150, .inl MOwy))] rfl (by decide) [(hMO, .inr (6, [.ref hMOz, .ref hMOa, .ref hMOb, .int MOst, .ref hMOk, .int MOik, .ref hMOt, .int MOln, .ref hMOo, .ref hMOw, .ref hMOm, .ref hMOq, .int MOpl, .int MOiw, .int MOle, .ref hMOn])), (hMOz, .inl (cI, 116, .inl MOza)), (hMOa, .inl (cI, 116, .inl MOas)), (hMOb, .inl (cI, 464, .inl MObe)), (hMOo, .inl (cI, 150, .inl MOon)), (hMOw, .inl (cI, 150, .inl MOwy))] rfl (by decide) rfl rfl (Nat.le_of_ble_eq_true rfl) dX7_paint_21 rfl ?_
      refine j_if_ne (tgt := 30) (pc' := 27) cx dX7_paint_24 (by decide) rfl (fun ch_7 => ?_) (fun ch_7 => ?_)
      · have h_8 := it_f h_7 ch_7
        refine j_aload_n (pc' := 31) cx 0 dX7_paint_30 rfl rfl ?_
        refine j_get (C := RX7) (T := TX7) (N := 16) (pc' := 34) cx uB_X7 0 rfl rfl 0 (by decide) wF_X7_7 (.ref hMOz) rfl dX7_paint_31 rfl ?_
        refine j_iconst (pc' := 35) cx 4 dX7_paint_34 ki_4 rfl ?_
        refine j_iload_n (pc' := 36) cx 1 dX7_paint_35 rfl rfl ?_
        refine j_imul (pc' := 37) cx dX7_paint_36 rfl ?_
        refine j_iload_n (pc' := 38) cx 2 dX7_paint_37 rfl rfl ?_
        refine j_iadd (pc' := 39) cx dX7_paint_38 rfl ?_
        obtain ⟨i7, h_9⟩ := ck_s h_8
        refine j_iald (pc' := 40) cx 1 0 rfl rfl i7 dX7_paint_39 rfl ?_
        refine j_istore (lv' := [(4, .int (MOza ((4 * p0) + p1).toNatClampNeg)), (0, .ref hMO), (1, .int p0), (2, .int p1), (3, .int p2)]) (pc' := 42) cx dX7_paint_40 (by decide) rfl rfl ?_
        refine j_iload (pc' := 44) cx 0 dX7_paint_42 rfl rfl ?_
        refine j_iload_n (pc' := 45) cx 4 dX7_paint_44 rfl rfl ?_
        refine j_icmp_ne (tgt := 51) (pc' := 48) cx dX7_paint_45 (by decide) rfl (fun ch_9 => ?_) (fun ch_9 => ?_)
        · have h_10 := it_f h_9 ch_9
          refine j_aload_n (pc' := 52) cx 1 dX7_paint_51 rfl rfl ?_
          obtain ⟨r8, c9, h_11⟩ := bd_s h_10
          refine j_cV (pc' := 55) cx (c_X7_putAside l D cI cZ cC cS hMO hMOz hMOa hMOb hMOk hMOt hMOo hMOw hMOm hMOq hMOn MOst MOik MOln MOpl MOiw MOle MOza MOas r8 c9) 0 yk_X7_putAside wM_X7_104 ⟨wN_X7_putAside, wS_X7_putAside, wI_X7, wC_X7_putAside⟩ ⟨rfl, rfl, Nat.le_of_ble_eq_true rfl, Nat.le_of_ble_eq_true rfl, Nat.le_of_ble_eq_true rfl, Nat.le_of_ble_eq_true rfl⟩ [0, 1, 2] [3, 4, 5] [3, 4, 5, 0, 1, 2] rfl [(hMOb, .inl (cI, 464, .inl MObe)), (hMOo, .inl (cI, 150, .inl MOon)), (hMOw, .inl (cI, 150, .inl MOwy))] rfl (by decide) [(hMO, .inr (6, [.ref hMOz, .ref hMOa, .ref hMOb, .int MOst, .ref hMOk, .int MOik, .ref hMOt, .int MOln, .ref hMOo, .ref hMOw, .ref hMOm, .ref hMOq, .int MOpl, .int MOiw, .int MOle, .ref hMOn])), (hMOz, .inl (cI, 116, .inl MOza)), (hMOa, .inl (cI, 116, .inl r8)), (hMOb, .inl (cI, 464, .inl MObe)), (hMOo, .inl (cI, 150, .inl MOon)), (hMOw, .inl (cI, 150, .inl MOwy))] rfl (by decide) 0 6 rfl rfl rfl rfl rfl (Nat.le_of_ble_eq_true rfl) dX7_paint_52 rfl ?_
          refine j_aload_n (pc' := 56) cx 1 dX7_paint_55 rfl rfl ?_
          refine j_get (C := RX7) (T := TX7) (N := 16) (pc' := 59) cx uB_X7 0 rfl rfl 0 (by decide) wF_X7_7 (.ref hMOz) rfl dX7_paint_56 rfl ?_
          refine j_iconst (pc' := 60) cx 4 dX7_paint_59 ki_4 rfl ?_
          refine j_iload_n (pc' := 61) cx 2 dX7_paint_60 rfl rfl ?_
          refine j_imul (pc' := 62) cx dX7_paint_61 rfl ?_
          refine j_iload_n (pc' := 63) cx 3 dX7_paint_62 rfl rfl ?_
          refine j_iadd (pc' := 64) cx dX7_paint_63 rfl ?_
          refine j_iload_n (pc' := 65) cx 4 dX7_paint_64 rfl rfl ?_
          obtain ⟨i10, h_12⟩ := ck_s h_11
          refine j_iast (ws' := [(hMO, .inr (6, [.ref hMOz, .ref hMOa, .ref hMOb, .int MOst, .ref hMOk, .int MOik, .ref hMOt, .int MOln, .ref hMOo, .ref hMOw, .ref hMOm, .ref hMOq, .int MOpl, .int MOiw, .int MOle, .ref hMOn])), (hMOz, .inl (cI, 116, .inl (upd MOza ((4 * p0) + p1).toNatClampNeg p2))), (hMOa, .inl (cI, 116, .inl r8)), (hMOb, .inl (cI, 464, .inl MObe)), (hMOo, .inl (cI, 150, .inl MOon)), (hMOw, .inl (cI, 150, .inl MOwy))]) (pc' := 66) cx 1 0 rfl rfl i10 rfl dX7_paint_65 rfl ?_
          refine j_aload_n (pc' := 67) cx 1 dX7_paint_66 rfl rfl ?_
          obtain ⟨r11, c12, h_13⟩ := bd_s h_12
          refine j_cV (pc' := 70) cx (c_X7_canStay l D cI cZ cC cS hMO hMOz hMOa hMOb hMOk hMOt hMOo hMOw hMOm hMOq hMOn MOst MOik MOln MOpl MOiw MOle (upd MOza ((4 * p0) + p1).toNatClampNeg p2) r8 MObe MOon MOwy r11 c12) 0 yk_X7_canStay wM_X7_107 ⟨wN_X7_canStay, wS_X7_canStay, wI_X7, wC_X7_canStay⟩ ⟨rfl, rfl, Nat.le_of_ble_eq_true rfl, Nat.le_of_ble_eq_true rfl, Nat.le_of_ble_eq_true rfl, Nat.le_of_ble_eq_true rfl⟩ [0, 1, 2, 3, 4, 5] [] [0, 1, 2, 3, 4, 5] rfl [] rfl (by decide) [(hMO, .inr (6, [.ref hMOz, .ref hMOa, .ref hMOb, .int r11.2.1, .ref hMOk, .int MOik, .ref hMOt, .int MOln, .ref hMOo, .ref hMOw, .ref hMOm, .ref hMOq, .int MOpl, .int MOiw, .int MOle, .ref hMOn])), (hMOz, .inl (cI, 116, .inl r11.2.2.1)), (hMOa, .inl (cI, 116, .inl r8)), (hMOb, .inl (cI, 464, .inl r11.2.2.2.1)), (hMOo, .inl (cI, 150, .inl r11.2.2.2.2.1)), (hMOw, .inl (cI, 150, .inl r11.2.2.2.2.2))] rfl (by decide) 0 6 rfl rfl rfl rfl rfl (Nat.le_of_ble_eq_true rfl) dX7_paint_67 rfl ?_
          obtain ⟨t13, h_15, h_14⟩ := bd_s h_13
          have Kt13 : j 0 0 [(hMO, .inr (6, [.ref hMOz, .ref hMOa, .ref hMOb, .int r11.2.1, .ref hMOk, .int MOik, .ref hMOt, .int MOln, .ref hMOo, .ref hMOw, .ref hMOm, .ref hMOq, .int MOpl, .int MOiw, .int MOle, .ref hMOn])), (hMOz, .inl (cI, 116, .inl r11.2.2.1)), (hMOa, .inl (cI, 116, .inl r8)), (hMOb, .inl (cI, 464, .inl r11.2.2.2.1)), (hMOo, .inl (cI, 150, .inl r11.2.2.2.2.1)), (hMOw, .inl (cI, 150, .inl r11.2.2.2.2.2))] [] 80 [.int t13] := by
            have h_16 := so_i h_14
            subst h_16
            exact j_ret cx (Or.inr (Or.inl ⟨_, _, rfl, rfl, dX7_paint_80, rfl, rfl⟩)) ⟨rfl, rfl⟩
          refine j_if_eq (tgt := 78) (pc' := 73) cx dX7_paint_70 (by decide) rfl (fun ch_15 => ?_) (fun ch_15 => ?_)
          · have h_17 := it_t h_15 ch_15
            refine j_bipush (pc' := 80) cx (-4) dX7_paint_78 kb_m4 rfl ?_
            have h_18 := so_i h_17
            subst h_18
            refine j_lv (lv' := []) cx [] rfl ?_
            exact Kt13
          · have h_19 := it_f h_15 ch_15
            refine j_iload (pc' := 75) cx 0 dX7_paint_73 rfl rfl ?_
            refine j_goto (pc' := 80) cx dX7_paint_75 (by decide) ?_
            have h_20 := so_i h_19
            subst h_20
            refine j_lv (lv' := []) cx [] rfl ?_
            exact Kt13
        · have h_21 := it_t h_9 ch_9
          refine j_bipush (pc' := 50) cx (-5) dX7_paint_48 kb_m5 rfl ?_
          have h_22 := so_i h_21
          subst h_22
          exact j_ret cx (Or.inr (Or.inl ⟨_, _, rfl, rfl, dX7_paint_50, rfl, rfl⟩)) ⟨rfl, rfl⟩
      · have h_23 := it_t h_7 ch_7
        refine j_bipush (pc' := 29) cx (-2) dX7_paint_27 kb_m2 rfl ?_
        have h_24 := so_i h_23
        subst h_24
        exact j_ret cx (Or.inr (Or.inl ⟨_, _, rfl, rfl, dX7_paint_29, rfl, rfl⟩)) ⟨rfl, rfl⟩
  · have h_25 := it_t h_1 ch_1
    refine j_iconst (pc' := 8) cx (-1) dX7_paint_7 ki_m1 rfl ?_
    have h_26 := so_i h_25
    subst h_26
    exact j_ret cx (Or.inr (Or.inl ⟨_, _, rfl, rfl, dX7_paint_8, rfl, rfl⟩)) ⟨rfl, rfl⟩
set_option maxHeartbeats 4000000 in
set_option maxRecDepth 100000 in
theorem c_X7_setRule (l : Launch) (D : va_G) (cI cZ cC cS : ClassId) (hMO hMOz hMOa hMOb hMOk hMOt hMOo hMOw hMOm hMOq hMOn : Nat) (MOst : Int32) (MOik : Int32) (MOln : Int32) (MOpl : Int32) (MOiw : Int32) (MOle : Int32) (MOza : Nat → Int32) (MOas : Nat → Int32) (MObe : Nat → Int32) (MOon : Nat → Int32) (MOwy : Nat → Int32) (p0 : Int32) (out : Int32 × Int32 × (Nat → Int32) × (Nat → Int32) × (Nat → Int32) × (Nat → Int32) × (Nat → Int32)) (hm : f_X7_setRule MOst MOza MOas MObe MOon MOwy p0 = some out) : Ct l yX7_setRule cX7_setRule 3 (some .int) ({ frames := 5, cells := 0, slots := 0, locals := 110 }) (D, TY cI cZ cC cS) [.ref hMO, .int p0] [(hMO, .inr (6, [.ref hMOz, .ref hMOa, .ref hMOb, .int MOst, .ref hMOk, .int MOik, .ref hMOt, .int MOln, .ref hMOo, .ref hMOw, .ref hMOm, .ref hMOq, .int MOpl, .int MOiw, .int MOle, .ref hMOn])), (hMOz, .inl (cI, 116, .inl MOza)), (hMOa, .inl (cI, 116, .inl MOas)), (hMOb, .inl (cI, 464, .inl MObe)), (hMOo, .inl (cI, 150, .inl MOon)), (hMOw, .inl (cI, 150, .inl MOwy))] (jw_P (some (.int out.1)) [(hMO, .inr (6, [.ref hMOz, .ref hMOa, .ref hMOb, .int out.2.1, .ref hMOk, .int MOik, .ref hMOt, .int MOln, .ref hMOo, .ref hMOw, .ref hMOm, .ref hMOq, .int MOpl, .int MOiw, .int MOle, .ref hMOn])), (hMOz, .inl (cI, 116, .inl out.2.2.1)), (hMOa, .inl (cI, 116, .inl out.2.2.2.1)), (hMOb, .inl (cI, 464, .inl out.2.2.2.2.1)), (hMOo, .inl (cI, 150, .inl out.2.2.2.2.2.1)), (hMOw, .inl (cI, 150, .inl out.2.2.2.2.2.2))]) 0 0 := by
  refine ct_of RX7 (by decide +kernel) rfl (Nat.le_of_ble_eq_true rfl) (fun j cx => ?_)
  unfold f_X7_setRule at hm
  show j 0 0 [(hMO, .inr (6, [.ref hMOz, .ref hMOa, .ref hMOb, .int MOst, .ref hMOk, .int MOik, .ref hMOt, .int MOln, .ref hMOo, .ref hMOw, .ref hMOm, .ref hMOq, .int MOpl, .int MOiw, .int MOle, .ref hMOn])), (hMOz, .inl (cI, 116, .inl MOza)), (hMOa, .inl (cI, 116, .inl MOas)), (hMOb, .inl (cI, 464, .inl MObe)), (hMOo, .inl (cI, 150, .inl MOon)), (hMOw, .inl (cI, 150, .inl MOwy))] [(0, .ref hMO), (1, .int p0)] 0 []
  refine j_iload_n (pc' := 1) cx 1 dX7_setRule_0 rfl rfl ?_
  refine j_iconst (pc' := 2) cx 0 dX7_setRule_1 ki_0 rfl ?_
  refine j_iconst (pc' := 3) cx 2 dX7_setRule_2 ki_2 rfl ?_
  obtain ⟨r1, c2, h_1⟩ := bd_s hm
  refine j_cS (pc' := 6) cx (c_X7_in l D cI cZ cC cS p0 0 2 r1 c2) 3 yk_X7_in wM_X7_43 ⟨wT_X7_in, wI_X7, wC_X7_in⟩ ⟨rfl, rfl, Nat.le_of_ble_eq_true rfl, Nat.le_of_ble_eq_true rfl, Nat.le_of_ble_eq_true rfl, Nat.le_of_ble_eq_true rfl⟩ [] [0, 1, 2, 3, 4, 5] [0, 1, 2, 3, 4, 5] rfl [(hMO, .inr (6, [.ref hMOz, .ref hMOa, .ref hMOb, .int MOst, .ref hMOk, .int MOik, .ref hMOt, .int MOln, .ref hMOo, .ref hMOw, .ref hMOm, .ref hMOq, .int MOpl, .int MOiw, .int MOle, .ref hMOn])), (hMOz, .inl (cI, 116, .inl MOza)), (hMOa, .inl (cI, 116, .inl MOas)), (hMOb, .inl (cI, 464, .inl MObe)), (hMOo, .inl (cI, 150, .inl MOon)), (hMOw, .inl (cI, 150, .inl MOwy))] rfl (by decide) [(hMO, .inr (6, [.ref hMOz, .ref hMOa, .ref hMOb, .int MOst, .ref hMOk, .int MOik, .ref hMOt, .int MOln, .ref hMOo, .ref hMOw, .ref hMOm, .ref hMOq, .int MOpl, .int MOiw, .int MOle, .ref hMOn])), (hMOz, .inl (cI, 116, .inl MOza)), (hMOa, .inl (cI, 116, .inl MOas)), (hMOb, .inl (cI, 464, .inl MObe)), (hMOo, .inl (cI, 150, .inl MOon)), (hMOw, .inl (cI, 150, .inl MOwy))] rfl (by decide) rfl rfl (Nat.le_of_ble_eq_true rfl) dX7_setRule_3 rfl ?_
  refine j_if_ne (tgt := 12) (pc' := 9) cx dX7_setRule_6 (by decide) rfl (fun ch_1 => ?_) (fun ch_1 => ?_)
  · have h_2 := it_f h_1 ch_1
    refine j_aload_n (pc' := 13) cx 0 dX7_setRule_12 rfl rfl ?_
    refine j_get (C := RX7) (T := TX7) (N := 16) (pc' := 16) cx uB_X7 0 rfl rfl 0 (by decide) wF_X7_7 (.ref hMOz) rfl dX7_setRule_13 rfl ?_
    refine j_bipush (pc' := 18) cx 24 dX7_setRule_16 kb_24 rfl ?_
    obtain ⟨i3, h_3⟩ := ck_s h_2
    refine j_iald (pc' := 19) cx 1 0 rfl rfl i3 dX7_setRule_18 rfl ?_
    refine j_istore_n (lv' := [(2, .int (MOza (24 : Int32).toNatClampNeg)), (0, .ref hMO), (1, .int p0)]) (pc' := 20) cx dX7_setRule_19 (by decide) rfl rfl ?_
    refine j_iload_n (pc' := 21) cx 0 dX7_setRule_20 rfl rfl ?_
    refine j_iload_n (pc' := 22) cx 2 dX7_setRule_21 rfl rfl ?_
    refine j_icmp_ne (tgt := 28) (pc' := 25) cx dX7_setRule_22 (by decide) rfl (fun ch_3 => ?_) (fun ch_3 => ?_)
    · have h_4 := it_f h_3 ch_3
      refine j_aload_n (pc' := 29) cx 1 dX7_setRule_28 rfl rfl ?_
      obtain ⟨r4, c5, h_5⟩ := bd_s h_4
      refine j_cV (pc' := 32) cx (c_X7_putAside l D cI cZ cC cS hMO hMOz hMOa hMOb hMOk hMOt hMOo hMOw hMOm hMOq hMOn MOst MOik MOln MOpl MOiw MOle MOza MOas r4 c5) 0 yk_X7_putAside wM_X7_104 ⟨wN_X7_putAside, wS_X7_putAside, wI_X7, wC_X7_putAside⟩ ⟨rfl, rfl, Nat.le_of_ble_eq_true rfl, Nat.le_of_ble_eq_true rfl, Nat.le_of_ble_eq_true rfl, Nat.le_of_ble_eq_true rfl⟩ [0, 1, 2] [3, 4, 5] [3, 4, 5, 0, 1, 2] rfl [(hMOb, .inl (cI, 464, .inl MObe)), (hMOo, .inl (cI, 150, .inl MOon)), (hMOw, .inl (cI, 150, .inl MOwy))] rfl (by decide) [(hMO, .inr (6, [.ref hMOz, .ref hMOa, .ref hMOb, .int MOst, .ref hMOk, .int MOik, .ref hMOt, .int MOln, .ref hMOo, .ref hMOw, .ref hMOm, .ref hMOq, .int MOpl, .int MOiw, .int MOle, .ref hMOn])), (hMOz, .inl (cI, 116, .inl MOza)), (hMOa, .inl (cI, 116, .inl r4)), (hMOb, .inl (cI, 464, .inl MObe)), (hMOo, .inl (cI, 150, .inl MOon)), (hMOw, .inl (cI, 150, .inl MOwy))] rfl (by decide) 0 6 rfl rfl rfl rfl rfl (Nat.le_of_ble_eq_true rfl) dX7_setRule_29 rfl ?_
      refine j_aload_n (pc' := 33) cx 1 dX7_setRule_32 rfl rfl ?_
      refine j_get (C := RX7) (T := TX7) (N := 16) (pc' := 36) cx uB_X7 0 rfl rfl 0 (by decide) wF_X7_7 (.ref hMOz) rfl dX7_setRule_33 rfl ?_
      refine j_bipush (pc' := 38) cx 24 dX7_setRule_36 kb_24 rfl ?_
      refine j_iload_n (pc' := 39) cx 2 dX7_setRule_38 rfl rfl ?_
      obtain ⟨i6, h_6⟩ := ck_s h_5
      refine j_iast (ws' := [(hMO, .inr (6, [.ref hMOz, .ref hMOa, .ref hMOb, .int MOst, .ref hMOk, .int MOik, .ref hMOt, .int MOln, .ref hMOo, .ref hMOw, .ref hMOm, .ref hMOq, .int MOpl, .int MOiw, .int MOle, .ref hMOn])), (hMOz, .inl (cI, 116, .inl (upd MOza (24 : Int32).toNatClampNeg p0))), (hMOa, .inl (cI, 116, .inl r4)), (hMOb, .inl (cI, 464, .inl MObe)), (hMOo, .inl (cI, 150, .inl MOon)), (hMOw, .inl (cI, 150, .inl MOwy))]) (pc' := 40) cx 1 0 rfl rfl i6 rfl dX7_setRule_39 rfl ?_
      refine j_aload_n (pc' := 41) cx 1 dX7_setRule_40 rfl rfl ?_
      obtain ⟨r7, c8, h_7⟩ := bd_s h_6
      refine j_cV (pc' := 44) cx (c_X7_canStay l D cI cZ cC cS hMO hMOz hMOa hMOb hMOk hMOt hMOo hMOw hMOm hMOq hMOn MOst MOik MOln MOpl MOiw MOle (upd MOza (24 : Int32).toNatClampNeg p0) r4 MObe MOon MOwy r7 c8) 0 yk_X7_canStay wM_X7_107 ⟨wN_X7_canStay, wS_X7_canStay, wI_X7, wC_X7_canStay⟩ ⟨rfl, rfl, Nat.le_of_ble_eq_true rfl, Nat.le_of_ble_eq_true rfl, Nat.le_of_ble_eq_true rfl, Nat.le_of_ble_eq_true rfl⟩ [0, 1, 2, 3, 4, 5] [] [0, 1, 2, 3, 4, 5] rfl [] rfl (by decide) [(hMO, .inr (6, [.ref hMOz, .ref hMOa, .ref hMOb, .int r7.2.1, .ref hMOk, .int MOik, .ref hMOt, .int MOln, .ref hMOo, .ref hMOw, .ref hMOm, .ref hMOq, .int MOpl, .int MOiw, .int MOle, .ref hMOn])), (hMOz, .inl (cI, 116, .inl r7.2.2.1)), (hMOa, .inl (cI, 116, .inl r4)), (hMOb, .inl (cI, 464, .inl r7.2.2.2.1)), (hMOo, .inl (cI, 150, .inl r7.2.2.2.2.1)), (hMOw, .inl (cI, 150, .inl r7.2.2.2.2.2))] rfl (by decide) 0 6 rfl rfl rfl rfl rfl (Nat.le_of_ble_eq_true rfl) dX7_setRule_41 rfl ?_
      obtain ⟨t9, h_9, h_8⟩ := bd_s h_7
      have Kt9 : j 0 0 [(hMO, .inr (6, [.ref hMOz, .ref hMOa, .ref hMOb, .int r7.2.1, .ref hMOk, .int MOik, .ref hMOt, .int MOln, .ref hMOo, .ref hMOw, .ref hMOm, .ref hMOq, .int MOpl, .int MOiw, .int MOle, .ref hMOn])), (hMOz, .inl (cI, 116, .inl r7.2.2.1)), (hMOa, .inl (cI, 116, .inl r4)), (hMOb, .inl (cI, 464, .inl r7.2.2.2.1)), (hMOo, .inl (cI, 150, .inl r7.2.2.2.2.1)), (hMOw, .inl (cI, 150, .inl r7.2.2.2.2.2))] [] 53 [.int t9] := by
        have h_10 := so_i h_8
        subst h_10
        exact j_ret cx (Or.inr (Or.inl ⟨_, _, rfl, rfl, dX7_setRule_53, rfl, rfl⟩)) ⟨rfl, rfl⟩
      refine j_if_eq (tgt := 51) (pc' := 47) cx dX7_setRule_44 (by decide) rfl (fun ch_9 => ?_) (fun ch_9 => ?_)
      · have h_11 := it_t h_9 ch_9
        refine j_bipush (pc' := 53) cx (-4) dX7_setRule_51 kb_m4 rfl ?_
        have h_12 := so_i h_11
        subst h_12
        refine j_lv (lv' := []) cx [] rfl ?_
        exact Kt9
      · have h_13 := it_f h_9 ch_9
        refine j_iload_n (pc' := 48) cx 0 dX7_setRule_47 rfl rfl ?_
        refine j_goto (pc' := 53) cx dX7_setRule_48 (by decide) ?_
        have h_14 := so_i h_13
        subst h_14
        refine j_lv (lv' := []) cx [] rfl ?_
        exact Kt9
    · have h_15 := it_t h_3 ch_3
      refine j_bipush (pc' := 27) cx (-5) dX7_setRule_25 kb_m5 rfl ?_
      have h_16 := so_i h_15
      subst h_16
      exact j_ret cx (Or.inr (Or.inl ⟨_, _, rfl, rfl, dX7_setRule_27, rfl, rfl⟩)) ⟨rfl, rfl⟩
  · have h_17 := it_t h_1 ch_1
    refine j_bipush (pc' := 11) cx (-2) dX7_setRule_9 kb_m2 rfl ?_
    have h_18 := so_i h_17
    subst h_18
    exact j_ret cx (Or.inr (Or.inl ⟨_, _, rfl, rfl, dX7_setRule_11, rfl, rfl⟩)) ⟨rfl, rfl⟩
set_option maxHeartbeats 4000000 in
set_option maxRecDepth 100000 in
theorem c_X7_touches (l : Launch) (D : va_G) (cI cZ cC cS : ClassId) (hMO hMOz hMOa hMOb hMOk hMOt hMOo hMOw hMOm hMOq hMOn : Nat) (MOst : Int32) (MOik : Int32) (MOln : Int32) (MOpl : Int32) (MOiw : Int32) (MOle : Int32) (MOza : Nat → Int32) (MOon : Nat → Int32) (MOwy : Nat → Int32) (p0 : Int32) (p1 : Int32) (p2 : Int32) (out : Int32) (hm : f_X7_touches MOza MOon MOwy p0 p1 p2 = some out) : Ct l yX7_touches cX7_touches 10 (some .int) ({ frames := 3, cells := 0, slots := 0, locals := 66 }) (D, TY cI cZ cC cS) [.ref hMO, .int p0, .int p1, .int p2] [(hMO, .inr (6, [.ref hMOz, .ref hMOa, .ref hMOb, .int MOst, .ref hMOk, .int MOik, .ref hMOt, .int MOln, .ref hMOo, .ref hMOw, .ref hMOm, .ref hMOq, .int MOpl, .int MOiw, .int MOle, .ref hMOn])), (hMOz, .inl (cI, 116, .inl MOza)), (hMOo, .inl (cI, 150, .inl MOon)), (hMOw, .inl (cI, 150, .inl MOwy))] (jw_P (some (.int out)) [(hMO, .inr (6, [.ref hMOz, .ref hMOa, .ref hMOb, .int MOst, .ref hMOk, .int MOik, .ref hMOt, .int MOln, .ref hMOo, .ref hMOw, .ref hMOm, .ref hMOq, .int MOpl, .int MOiw, .int MOle, .ref hMOn])), (hMOz, .inl (cI, 116, .inl MOza)), (hMOo, .inl (cI, 150, .inl MOon)), (hMOw, .inl (cI, 150, .inl MOwy))]) 0 0 := by
  refine ct_of RX7 (by decide +kernel) rfl (Nat.le_of_ble_eq_true rfl) (fun j cx => ?_)
  unfold f_X7_touches at hm
  show j 0 0 [(hMO, .inr (6, [.ref hMOz, .ref hMOa, .ref hMOb, .int MOst, .ref hMOk, .int MOik, .ref hMOt, .int MOln, .ref hMOo, .ref hMOw, .ref hMOm, .ref hMOq, .int MOpl, .int MOiw, .int MOle, .ref hMOn])), (hMOz, .inl (cI, 116, .inl MOza)), (hMOo, .inl (cI, 150, .inl MOon)), (hMOw, .inl (cI, 150, .inl MOwy))] [(0, .ref hMO), (1, .int p0), (2, .int p1), (3, .int p2)] 0 []
  refine j_iconst (pc' := 1) cx 0 dX7_touches_0 ki_0 rfl ?_
  refine j_istore (lv' := [(4, .int 0), (0, .ref hMO), (1, .int p0), (2, .int p1), (3, .int p2)]) (pc' := 3) cx dX7_touches_1 (by decide) rfl rfl ?_
  refine j_iconst (pc' := 4) cx 0 dX7_touches_3 ki_0 rfl ?_
  refine j_istore (lv' := [(5, .int 0), (4, .int 0), (0, .ref hMO), (1, .int p0), (2, .int p1), (3, .int p2)]) (pc' := 6) cx dX7_touches_4 (by decide) rfl rfl ?_
  refine j_iconst (pc' := 7) cx 0 dX7_touches_6 ki_0 rfl ?_
  refine j_istore (lv' := [(6, .int 0), (5, .int 0), (4, .int 0), (0, .ref hMO), (1, .int p0), (2, .int p1), (3, .int p2)]) (pc' := 9) cx dX7_touches_7 (by decide) rfl rfl ?_
  obtain ⟨e2, h_1, h_2⟩ := bd_s hm
  have KXe2 : j 0 0 [(hMO, .inr (6, [.ref hMOz, .ref hMOa, .ref hMOb, .int MOst, .ref hMOk, .int MOik, .ref hMOt, .int MOln, .ref hMOo, .ref hMOw, .ref hMOm, .ref hMOq, .int MOpl, .int MOiw, .int MOle, .ref hMOn])), (hMOz, .inl (cI, 116, .inl MOza)), (hMOo, .inl (cI, 150, .inl MOon)), (hMOw, .inl (cI, 150, .inl MOwy))] [(4, .int e2.1), (5, .int e2.2.1)] 98 [] := by
    refine j_iload (pc' := 100) cx 1 dX7_touches_98 rfl rfl ?_
    obtain ⟨t19, h_4, h_3⟩ := bd_s h_2
    have Kt19 : j 0 0 [(hMO, .inr (6, [.ref hMOz, .ref hMOa, .ref hMOb, .int MOst, .ref hMOk, .int MOik, .ref hMOt, .int MOln, .ref hMOo, .ref hMOw, .ref hMOm, .ref hMOq, .int MOpl, .int MOiw, .int MOle, .ref hMOn])), (hMOz, .inl (cI, 116, .inl MOza)), (hMOo, .inl (cI, 150, .inl MOon)), (hMOw, .inl (cI, 150, .inl MOwy))] [] 109 [.int t19] := by
      have h_5 := so_i h_3
      subst h_5
      exact j_ret cx (Or.inr (Or.inl ⟨_, _, rfl, rfl, dX7_touches_109, rfl, rfl⟩)) ⟨rfl, rfl⟩
    refine j_if_eq (tgt := 107) (pc' := 103) cx dX7_touches_100 (by decide) rfl (fun ch_4 => ?_) (fun ch_4 => ?_)
    · have h_6 := it_t h_4 ch_4
      refine j_iload (pc' := 109) cx 0 dX7_touches_107 rfl rfl ?_
      have h_7 := so_i h_6
      subst h_7
      refine j_lv (lv' := []) cx [] rfl ?_
      exact Kt19
    · have h_8 := it_f h_4 ch_4
      refine j_iconst (pc' := 104) cx (-1) dX7_touches_103 ki_m1 rfl ?_
      refine j_goto (pc' := 109) cx dX7_touches_104 (by decide) ?_
      have h_9 := so_i h_8
      subst h_9
      refine j_lv (lv' := []) cx [] rfl ?_
      exact Kt19
  have LPe2 : ∀ (n : Nat) (s1 : Int32 × Int32 × Int32), lp (f_X7_touches_b2 MOza MOon MOwy p0 p1 p2) n s1 = some e2 → j 0 0 [(hMO, .inr (6, [.ref hMOz, .ref hMOa, .ref hMOb, .int MOst, .ref hMOk, .int MOik, .ref hMOt, .int MOln, .ref hMOo, .ref hMOw, .ref hMOm, .ref hMOq, .int MOpl, .int MOiw, .int MOle, .ref hMOn])), (hMOz, .inl (cI, 116, .inl MOza)), (hMOo, .inl (cI, 150, .inl MOon)), (hMOw, .inl (cI, 150, .inl MOwy))] [(0, .ref hMO), (1, .int p0), (2, .int p1), (3, .int p2), (4, .int s1.1), (5, .int s1.2.1), (6, .int s1.2.2)] 9 [] := by
    intro n
    induction n with
    | zero => intro s1 z; exact absurd z (by intro z; cases z)
    | succ n ihe2 =>
      intro s1 h_10
      obtain ⟨q_11, h_12, h_13⟩ := bd_s h_10
      unfold f_X7_touches_b2 at h_12
      refine j_iload (pc' := 11) cx 6 dX7_touches_9 rfl rfl ?_
      refine j_iconst (pc' := 12) cx 4 dX7_touches_11 ki_4 rfl ?_
      refine j_icmp_ge (tgt := 98) (pc' := 15) cx dX7_touches_12 (by decide) rfl (fun ch_12 => ?_) (fun ch_12 => ?_)
      · have h_14 := it_t h_12 ch_12
        have h_15 := so_i h_14
        subst h_15
        have h_16 := so_i (se_r h_13)
        subst h_16
        refine j_lv (lv' := [(4, .int s1.1), (5, .int s1.2.1)]) cx [4, 5] rfl ?_
        exact KXe2
      · have h_17 := it_f h_12 ch_12
        refine j_iload_n (pc' := 16) cx 3 dX7_touches_15 rfl rfl ?_
        refine j_iload (pc' := 18) cx 6 dX7_touches_16 rfl rfl ?_
        obtain ⟨r3, c4, h_18⟩ := bd_s h_17
        refine j_cS (pc' := 21) cx (c_X7_beside l D cI cZ cC cS p2 s1.2.2 r3 c4) 2 yk_X7_beside wM_X7_61 ⟨wT_X7_beside, wI_X7, wC_X7_beside⟩ ⟨rfl, rfl, Nat.le_of_ble_eq_true rfl, Nat.le_of_ble_eq_true rfl, Nat.le_of_ble_eq_true rfl, Nat.le_of_ble_eq_true rfl⟩ [] [0, 1, 2, 3] [0, 1, 2, 3] rfl [(hMO, .inr (6, [.ref hMOz, .ref hMOa, .ref hMOb, .int MOst, .ref hMOk, .int MOik, .ref hMOt, .int MOln, .ref hMOo, .ref hMOw, .ref hMOm, .ref hMOq, .int MOpl, .int MOiw, .int MOle, .ref hMOn])), (hMOz, .inl (cI, 116, .inl MOza)), (hMOo, .inl (cI, 150, .inl MOon)), (hMOw, .inl (cI, 150, .inl MOwy))] rfl (by decide) [(hMO, .inr (6, [.ref hMOz, .ref hMOa, .ref hMOb, .int MOst, .ref hMOk, .int MOik, .ref hMOt, .int MOln, .ref hMOo, .ref hMOw, .ref hMOm, .ref hMOq, .int MOpl, .int MOiw, .int MOle, .ref hMOn])), (hMOz, .inl (cI, 116, .inl MOza)), (hMOo, .inl (cI, 150, .inl MOon)), (hMOw, .inl (cI, 150, .inl MOwy))] rfl (by decide) rfl rfl (Nat.le_of_ble_eq_true rfl) dX7_touches_18 rfl ?_
        refine j_istore (lv' := [(7, .int r3), (0, .ref hMO), (1, .int p0), (2, .int p1), (3, .int p2), (4, .int s1.1), (5, .int s1.2.1), (6, .int s1.2.2)]) (pc' := 23) cx dX7_touches_21 (by decide) rfl rfl ?_
        refine j_iconst (pc' := 24) cx 0 dX7_touches_23 ki_0 rfl ?_
        refine j_istore (lv' := [(8, .int 0), (7, .int r3), (0, .ref hMO), (1, .int p0), (2, .int p1), (3, .int p2), (4, .int s1.1), (5, .int s1.2.1), (6, .int s1.2.2)]) (pc' := 26) cx dX7_touches_24 (by decide) rfl rfl ?_
        obtain ⟨e6, h_19, h_20⟩ := bd_s h_18
        have KXe6 : j 0 0 [(hMO, .inr (6, [.ref hMOz, .ref hMOa, .ref hMOb, .int MOst, .ref hMOk, .int MOik, .ref hMOt, .int MOln, .ref hMOo, .ref hMOw, .ref hMOm, .ref hMOq, .int MOpl, .int MOiw, .int MOle, .ref hMOn])), (hMOz, .inl (cI, 116, .inl MOza)), (hMOo, .inl (cI, 150, .inl MOon)), (hMOw, .inl (cI, 150, .inl MOwy))] [(0, .ref hMO), (1, .int p0), (2, .int p1), (3, .int p2), (4, .int e6.1), (5, .int e6.2.1), (6, .int s1.2.2)] 92 [] := by
          refine j_iinc (v := (s1.2.2 + 1)) (lv' := [(6, .int (s1.2.2 + 1)), (0, .ref hMO), (1, .int p0), (2, .int p1), (3, .int p2), (4, .int e6.1), (5, .int e6.2.1)]) (pc' := 95) cx 6 dX7_touches_92 rfl (kn_1 _) (by decide) rfl rfl ?_
          refine j_goto (pc' := 9) cx dX7_touches_95 (by decide) ?_
          have h_21 := so_i h_20
          subst h_21
          refine j_lv (lv' := [(0, .ref hMO), (1, .int p0), (2, .int p1), (3, .int p2), (4, .int e6.1), (5, .int e6.2.1), (6, .int (s1.2.2 + 1))]) cx [1, 2, 3, 4, 5, 6, 0] rfl ?_
          exact ihe2 _ (se_l h_13)
        have LPe6 : ∀ (n : Nat) (s5 : Int32 × Int32 × Int32), lp (f_X7_touches_b1 MOza MOon MOwy p0 p1 s1 r3) n s5 = some e6 → j 0 0 [(hMO, .inr (6, [.ref hMOz, .ref hMOa, .ref hMOb, .int MOst, .ref hMOk, .int MOik, .ref hMOt, .int MOln, .ref hMOo, .ref hMOw, .ref hMOm, .ref hMOq, .int MOpl, .int MOiw, .int MOle, .ref hMOn])), (hMOz, .inl (cI, 116, .inl MOza)), (hMOo, .inl (cI, 150, .inl MOon)), (hMOw, .inl (cI, 150, .inl MOwy))] [(0, .ref hMO), (1, .int p0), (2, .int p1), (3, .int p2), (4, .int s5.1), (5, .int s5.2.1), (6, .int s1.2.2), (7, .int r3), (8, .int s5.2.2)] 26 [] := by
          intro n
          induction n with
          | zero => intro s5 z; exact absurd z (by intro z; cases z)
          | succ n ihe6 =>
            intro s5 h_22
            obtain ⟨q_23, h_24, h_25⟩ := bd_s h_22
            unfold f_X7_touches_b1 at h_24
            refine j_iload (pc' := 28) cx 8 dX7_touches_26 rfl rfl ?_
            refine j_iconst (pc' := 29) cx 4 dX7_touches_28 ki_4 rfl ?_
            refine j_icmp_ge (tgt := 92) (pc' := 32) cx dX7_touches_29 (by decide) rfl (fun ch_24 => ?_) (fun ch_24 => ?_)
            · have h_26 := it_t h_24 ch_24
              have h_27 := so_i h_26
              subst h_27
              have h_28 := so_i (se_r h_25)
              subst h_28
              refine j_lv (lv' := [(0, .ref hMO), (1, .int p0), (2, .int p1), (3, .int p2), (4, .int s5.1), (5, .int s5.2.1), (6, .int s1.2.2)]) cx [0, 1, 2, 3, 4, 5, 6] rfl ?_
              exact KXe6
            · have h_29 := it_f h_24 ch_24
              refine j_iload (pc' := 34) cx 7 dX7_touches_32 rfl rfl ?_
              refine j_iload (pc' := 36) cx 8 dX7_touches_34 rfl rfl ?_
              obtain ⟨r7, c8, h_30⟩ := bd_s h_29
              refine j_cS (pc' := 39) cx (c_X7_beside l D cI cZ cC cS r3 s5.2.2 r7 c8) 2 yk_X7_beside wM_X7_61 ⟨wT_X7_beside, wI_X7, wC_X7_beside⟩ ⟨rfl, rfl, Nat.le_of_ble_eq_true rfl, Nat.le_of_ble_eq_true rfl, Nat.le_of_ble_eq_true rfl, Nat.le_of_ble_eq_true rfl⟩ [] [0, 1, 2, 3] [0, 1, 2, 3] rfl [(hMO, .inr (6, [.ref hMOz, .ref hMOa, .ref hMOb, .int MOst, .ref hMOk, .int MOik, .ref hMOt, .int MOln, .ref hMOo, .ref hMOw, .ref hMOm, .ref hMOq, .int MOpl, .int MOiw, .int MOle, .ref hMOn])), (hMOz, .inl (cI, 116, .inl MOza)), (hMOo, .inl (cI, 150, .inl MOon)), (hMOw, .inl (cI, 150, .inl MOwy))] rfl (by decide) [(hMO, .inr (6, [.ref hMOz, .ref hMOa, .ref hMOb, .int MOst, .ref hMOk, .int MOik, .ref hMOt, .int MOln, .ref hMOo, .ref hMOw, .ref hMOm, .ref hMOq, .int MOpl, .int MOiw, .int MOle, .ref hMOn])), (hMOz, .inl (cI, 116, .inl MOza)), (hMOo, .inl (cI, 150, .inl MOon)), (hMOw, .inl (cI, 150, .inl MOwy))] rfl (by decide) rfl rfl (Nat.le_of_ble_eq_true rfl) dX7_touches_36 rfl ?_
              refine j_istore (lv' := [(9, .int r7), (0, .ref hMO), (1, .int p0), (2, .int p1), (3, .int p2), (4, .int s5.1), (5, .int s5.2.1), (6, .int s1.2.2), (7, .int r3), (8, .int s5.2.2)]) (pc' := 41) cx dX7_touches_39 (by decide) rfl rfl ?_
              refine j_aload_n (pc' := 42) cx 1 dX7_touches_41 rfl rfl ?_
              refine j_iload (pc' := 44) cx 0 dX7_touches_42 rfl rfl ?_
              obtain ⟨r9, c10, h_31⟩ := bd_s h_30
              refine j_cV (pc' := 47) cx (c_X7_hasArm l D cI cZ cC cS hMO hMOz hMOa hMOb hMOk hMOt hMOo hMOw hMOm hMOq hMOn MOst MOik MOln MOpl MOiw MOle MOwy r7 r9 c10) 1 yk_X7_hasArm wM_X7_68 ⟨wN_X7_hasArm, wS_X7_hasArm, wI_X7, wC_X7_hasArm⟩ ⟨rfl, rfl, Nat.le_of_ble_eq_true rfl, Nat.le_of_ble_eq_true rfl, Nat.le_of_ble_eq_true rfl, Nat.le_of_ble_eq_true rfl⟩ [0, 3] [1, 2] [2, 0, 1, 3] rfl [(hMOz, .inl (cI, 116, .inl MOza)), (hMOo, .inl (cI, 150, .inl MOon))] rfl (by decide) [(hMO, .inr (6, [.ref hMOz, .ref hMOa, .ref hMOb, .int MOst, .ref hMOk, .int MOik, .ref hMOt, .int MOln, .ref hMOo, .ref hMOw, .ref hMOm, .ref hMOq, .int MOpl, .int MOiw, .int MOle, .ref hMOn])), (hMOz, .inl (cI, 116, .inl MOza)), (hMOo, .inl (cI, 150, .inl MOon)), (hMOw, .inl (cI, 150, .inl MOwy))] rfl (by decide) 0 6 rfl rfl rfl rfl rfl (Nat.le_of_ble_eq_true rfl) dX7_touches_44 rfl ?_
              obtain ⟨t18, h_33, h_32⟩ := bd_s h_31
              have Kt18 : j 0 0 [(hMO, .inr (6, [.ref hMOz, .ref hMOa, .ref hMOb, .int MOst, .ref hMOk, .int MOik, .ref hMOt, .int MOln, .ref hMOo, .ref hMOw, .ref hMOm, .ref hMOq, .int MOpl, .int MOiw, .int MOle, .ref hMOn])), (hMOz, .inl (cI, 116, .inl MOza)), (hMOo, .inl (cI, 150, .inl MOon)), (hMOw, .inl (cI, 150, .inl MOwy))] [(0, .ref hMO), (1, .int p0), (2, .int p1), (3, .int p2), (4, .int t18.1), (5, .int t18.2), (6, .int s1.2.2), (7, .int r3), (8, .int s5.2.2)] 86 [] := by
                refine j_iinc (v := (s5.2.2 + 1)) (lv' := [(8, .int (s5.2.2 + 1)), (0, .ref hMO), (1, .int p0), (2, .int p1), (3, .int p2), (4, .int t18.1), (5, .int t18.2), (6, .int s1.2.2), (7, .int r3)]) (pc' := 89) cx 8 dX7_touches_86 rfl (kn_1 _) (by decide) rfl rfl ?_
                refine j_goto (pc' := 26) cx dX7_touches_89 (by decide) ?_
                have h_34 := so_i h_32
                subst h_34
                refine j_lv (lv' := [(0, .ref hMO), (1, .int p0), (2, .int p1), (3, .int p2), (4, .int t18.1), (5, .int t18.2), (6, .int s1.2.2), (7, .int r3), (8, .int (s5.2.2 + 1))]) cx [1, 2, 3, 4, 5, 6, 7, 8, 0] rfl ?_
                exact ihe6 _ (se_l h_25)
              refine j_if_eq (tgt := 86) (pc' := 50) cx dX7_touches_47 (by decide) rfl (fun ch_33 => ?_) (fun ch_33 => ?_)
              · have h_35 := it_t h_33 ch_33
                have h_36 := so_i h_35
                subst h_36
                refine j_lv (lv' := [(0, .ref hMO), (1, .int p0), (2, .int p1), (3, .int p2), (4, .int s5.1), (5, .int s5.2.1), (6, .int s1.2.2), (7, .int r3), (8, .int s5.2.2)]) cx [1, 2, 3, 4, 5, 6, 7, 8, 9] rfl ?_
                exact Kt18
              · have h_37 := it_f h_33 ch_33
                refine j_iinc (v := (s5.1 + 1)) (lv' := [(4, .int (s5.1 + 1)), (9, .int r7), (0, .ref hMO), (1, .int p0), (2, .int p1), (3, .int p2), (5, .int s5.2.1), (6, .int s1.2.2), (7, .int r3), (8, .int s5.2.2)]) (pc' := 53) cx 5 dX7_touches_50 rfl (kn_1 _) (by decide) rfl rfl ?_
                refine j_iload (pc' := 55) cx 6 dX7_touches_53 rfl rfl ?_
                obtain ⟨t17, h_39, h_38⟩ := bd_s h_37
                have Kt17 : j 0 0 [(hMO, .inr (6, [.ref hMOz, .ref hMOa, .ref hMOb, .int MOst, .ref hMOk, .int MOik, .ref hMOt, .int MOln, .ref hMOo, .ref hMOw, .ref hMOm, .ref hMOq, .int MOpl, .int MOiw, .int MOle, .ref hMOn])), (hMOz, .inl (cI, 116, .inl MOza)), (hMOo, .inl (cI, 150, .inl MOon)), (hMOw, .inl (cI, 150, .inl MOwy))] [(0, .ref hMO), (1, .int p0), (2, .int p1), (3, .int p2), (4, .int (s5.1 + 1)), (6, .int s1.2.2), (7, .int r3), (8, .int s5.2.2)] 84 [.int t17] := by
                  refine j_istore (lv' := [(5, .int t17), (0, .ref hMO), (1, .int p0), (2, .int p1), (3, .int p2), (4, .int (s5.1 + 1)), (6, .int s1.2.2), (7, .int r3), (8, .int s5.2.2)]) (pc' := 86) cx dX7_touches_84 (by decide) rfl rfl ?_
                  have h_40 := so_i h_38
                  subst h_40
                  refine j_lv (lv' := [(0, .ref hMO), (1, .int p0), (2, .int p1), (3, .int p2), (4, .int (s5.1 + 1)), (5, .int t17), (6, .int s1.2.2), (7, .int r3), (8, .int s5.2.2)]) cx [1, 2, 3, 4, 5, 0, 6, 7, 8] rfl ?_
                  exact Kt18
                refine j_if_ne (tgt := 79) (pc' := 58) cx dX7_touches_55 (by decide) rfl (fun ch_39 => ?_) (fun ch_39 => ?_)
                · have h_41 := it_f h_39 ch_39
                  refine j_iconst (pc' := 80) cx 1 dX7_touches_79 ki_1 rfl ?_
                  refine j_goto (pc' := 84) cx dX7_touches_80 (by decide) ?_
                  have h_42 := so_i h_41
                  subst h_42
                  refine j_lv (lv' := [(0, .ref hMO), (1, .int p0), (2, .int p1), (3, .int p2), (4, .int (s5.1 + 1)), (6, .int s1.2.2), (7, .int r3), (8, .int s5.2.2)]) cx [2, 3, 4, 5, 0, 7, 8, 9] rfl ?_
                  exact Kt17
                · have h_43 := it_t h_39 ch_39
                  refine j_aload_n (pc' := 59) cx 2 dX7_touches_58 rfl rfl ?_
                  refine j_aload_n (pc' := 60) cx 2 dX7_touches_59 rfl rfl ?_
                  refine j_iload_n (pc' := 61) cx 3 dX7_touches_60 rfl rfl ?_
                  refine j_iload_n (pc' := 62) cx 4 dX7_touches_61 rfl rfl ?_
                  refine j_iload (pc' := 64) cx 7 dX7_touches_62 rfl rfl ?_
                  obtain ⟨r11, c12, h_44⟩ := bd_s h_43
                  refine j_cV (pc' := 67) cx (c_X7_colourBy l D cI cZ cC cS hMO hMOz hMOa hMOb hMOk hMOt hMOo hMOw hMOm hMOq hMOn MOst MOik MOln MOpl MOiw MOle MOza p0 p1 s1.2.2 r11 c12) 3 yk_X7_colourBy wM_X7_54 ⟨wN_X7_colourBy, wS_X7_colourBy, wI_X7, wC_X7_colourBy⟩ ⟨rfl, rfl, Nat.le_of_ble_eq_true rfl, Nat.le_of_ble_eq_true rfl, Nat.le_of_ble_eq_true rfl, Nat.le_of_ble_eq_true rfl⟩ [0, 1] [2, 3] [2, 3, 0, 1] rfl [(hMOo, .inl (cI, 150, .inl MOon)), (hMOw, .inl (cI, 150, .inl MOwy))] rfl (by decide) [(hMO, .inr (6, [.ref hMOz, .ref hMOa, .ref hMOb, .int MOst, .ref hMOk, .int MOik, .ref hMOt, .int MOln, .ref hMOo, .ref hMOw, .ref hMOm, .ref hMOq, .int MOpl, .int MOiw, .int MOle, .ref hMOn])), (hMOz, .inl (cI, 116, .inl MOza)), (hMOo, .inl (cI, 150, .inl MOon)), (hMOw, .inl (cI, 150, .inl MOwy))] rfl (by decide) 0 6 rfl rfl rfl rfl rfl (Nat.le_of_ble_eq_true rfl) dX7_touches_64 rfl ?_
                  refine j_aload_n (pc' := 68) cx 2 dX7_touches_67 rfl rfl ?_
                  refine j_iload (pc' := 70) cx 1 dX7_touches_68 rfl rfl ?_
                  obtain ⟨r13, c14, h_45⟩ := bd_s h_44
                  refine j_cV (pc' := 73) cx (c_X7_armColour l D cI cZ cC cS hMO hMOz hMOa hMOb hMOk hMOt hMOo hMOw hMOm hMOq hMOn MOst MOik MOln MOpl MOiw MOle MOza MOon MOwy r7 r13 c14) 1 yk_X7_armColour wM_X7_76 ⟨wN_X7_armColour, wS_X7_armColour, wI_X7, wC_X7_armColour⟩ ⟨rfl, rfl, Nat.le_of_ble_eq_true rfl, Nat.le_of_ble_eq_true rfl, Nat.le_of_ble_eq_true rfl, Nat.le_of_ble_eq_true rfl⟩ [0, 1, 2, 3] [] [0, 1, 2, 3] rfl [] rfl (by decide) [(hMO, .inr (6, [.ref hMOz, .ref hMOa, .ref hMOb, .int MOst, .ref hMOk, .int MOik, .ref hMOt, .int MOln, .ref hMOo, .ref hMOw, .ref hMOm, .ref hMOq, .int MOpl, .int MOiw, .int MOle, .ref hMOn])), (hMOz, .inl (cI, 116, .inl MOza)), (hMOo, .inl (cI, 150, .inl MOon)), (hMOw, .inl (cI, 150, .inl MOwy))] rfl (by decide) 0 6 rfl rfl rfl rfl rfl (Nat.le_of_ble_eq_true rfl) dX7_touches_70 rfl ?_
                  obtain ⟨r15, c16, h_46⟩ := bd_s h_45
                  refine j_cV (pc' := 76) cx (c_X7_clash l D cI cZ cC cS hMO hMOz hMOa hMOb hMOk hMOt hMOo hMOw hMOm hMOq hMOn MOst MOik MOln MOpl MOiw MOle MOza r11 r13 r15 c16) 2 yk_X7_clash wM_X7_79 ⟨wN_X7_clash, wS_X7_clash, wI_X7, wC_X7_clash⟩ ⟨rfl, rfl, Nat.le_of_ble_eq_true rfl, Nat.le_of_ble_eq_true rfl, Nat.le_of_ble_eq_true rfl, Nat.le_of_ble_eq_true rfl⟩ [0, 1] [2, 3] [2, 3, 0, 1] rfl [(hMOo, .inl (cI, 150, .inl MOon)), (hMOw, .inl (cI, 150, .inl MOwy))] rfl (by decide) [(hMO, .inr (6, [.ref hMOz, .ref hMOa, .ref hMOb, .int MOst, .ref hMOk, .int MOik, .ref hMOt, .int MOln, .ref hMOo, .ref hMOw, .ref hMOm, .ref hMOq, .int MOpl, .int MOiw, .int MOle, .ref hMOn])), (hMOz, .inl (cI, 116, .inl MOza)), (hMOo, .inl (cI, 150, .inl MOon)), (hMOw, .inl (cI, 150, .inl MOwy))] rfl (by decide) 0 6 rfl rfl rfl rfl rfl (Nat.le_of_ble_eq_true rfl) dX7_touches_73 rfl ?_
                  refine j_if_eq (tgt := 83) (pc' := 79) cx dX7_touches_76 (by decide) rfl (fun ch_46 => ?_) (fun ch_46 => ?_)
                  · have h_47 := it_t h_46 ch_46
                    refine j_iconst (pc' := 84) cx 0 dX7_touches_83 ki_0 rfl ?_
                    have h_48 := so_i h_47
                    subst h_48
                    refine j_lv (lv' := [(0, .ref hMO), (1, .int p0), (2, .int p1), (3, .int p2), (4, .int (s5.1 + 1)), (6, .int s1.2.2), (7, .int r3), (8, .int s5.2.2)]) cx [2, 3, 4, 5, 0, 7, 8, 9] rfl ?_
                    exact Kt17
                  · have h_49 := it_f h_46 ch_46
                    refine j_iconst (pc' := 80) cx 1 dX7_touches_79 ki_1 rfl ?_
                    refine j_goto (pc' := 84) cx dX7_touches_80 (by decide) ?_
                    have h_50 := so_i h_49
                    subst h_50
                    refine j_lv (lv' := [(0, .ref hMO), (1, .int p0), (2, .int p1), (3, .int p2), (4, .int (s5.1 + 1)), (6, .int s1.2.2), (7, .int r3), (8, .int s5.2.2)]) cx [2, 3, 4, 5, 0, 7, 8, 9] rfl ?_
                    exact Kt17
        refine j_lv (lv' := [(0, .ref hMO), (1, .int p0), (2, .int p1), (3, .int p2), (4, .int s1.1), (5, .int s1.2.1), (6, .int s1.2.2), (7, .int r3), (8, .int 0)]) cx [2, 3, 4, 5, 6, 7, 8, 1, 0] rfl ?_
        exact LPe6 _ _ h_19
  refine j_lv (lv' := [(0, .ref hMO), (1, .int p0), (2, .int p1), (3, .int p2), (4, .int 0), (5, .int 0), (6, .int 0)]) cx [3, 4, 5, 6, 2, 1, 0] rfl ?_
  exact LPe2 _ _ h_1
set_option maxHeartbeats 4000000 in
set_option maxRecDepth 100000 in
theorem c_X7_why (l : Launch) (D : va_G) (cI cZ cC cS : ClassId) (hMO hMOz hMOa hMOb hMOk hMOt hMOo hMOw hMOm hMOq hMOn : Nat) (MOst : Int32) (MOik : Int32) (MOln : Int32) (MOpl : Int32) (MOiw : Int32) (MOle : Int32) (MOza : Nat → Int32) (MOon : Nat → Int32) (MOwy : Nat → Int32) (p0 : Int32) (p1 : Int32) (p2 : Int32) (out : Int32) (hm : f_X7_why MOza MOon MOwy p0 p1 p2 = some out) : Ct l yX7_why cX7_why 5 (some .int) ({ frames := 4, cells := 0, slots := 0, locals := 95 }) (D, TY cI cZ cC cS) [.ref hMO, .int p0, .int p1, .int p2] [(hMO, .inr (6, [.ref hMOz, .ref hMOa, .ref hMOb, .int MOst, .ref hMOk, .int MOik, .ref hMOt, .int MOln, .ref hMOo, .ref hMOw, .ref hMOm, .ref hMOq, .int MOpl, .int MOiw, .int MOle, .ref hMOn])), (hMOz, .inl (cI, 116, .inl MOza)), (hMOo, .inl (cI, 150, .inl MOon)), (hMOw, .inl (cI, 150, .inl MOwy))] (jw_P (some (.int out)) [(hMO, .inr (6, [.ref hMOz, .ref hMOa, .ref hMOb, .int MOst, .ref hMOk, .int MOik, .ref hMOt, .int MOln, .ref hMOo, .ref hMOw, .ref hMOm, .ref hMOq, .int MOpl, .int MOiw, .int MOle, .ref hMOn])), (hMOz, .inl (cI, 116, .inl MOza)), (hMOo, .inl (cI, 150, .inl MOon)), (hMOw, .inl (cI, 150, .inl MOwy))]) 0 0 := by
  refine ct_of RX7 (by decide +kernel) rfl (Nat.le_of_ble_eq_true rfl) (fun j cx => ?_)
  unfold f_X7_why at hm
  show j 0 0 [(hMO, .inr (6, [.ref hMOz, .ref hMOa, .ref hMOb, .int MOst, .ref hMOk, .int MOik, .ref hMOt, .int MOln, .ref hMOo, .ref hMOw, .ref hMOm, .ref hMOq, .int MOpl, .int MOiw, .int MOle, .ref hMOn])), (hMOz, .inl (cI, 116, .inl MOza)), (hMOo, .inl (cI, 150, .inl MOon)), (hMOw, .inl (cI, 150, .inl MOwy))] [(0, .ref hMO), (1, .int p0), (2, .int p1), (3, .int p2)] 0 []
  refine j_aload_n (pc' := 1) cx 0 dX7_why_0 rfl rfl ?_
  refine j_get (C := RX7) (T := TX7) (N := 16) (pc' := 4) cx uB_X7 0 rfl rfl 8 (by decide) wF_X7_25 (.ref hMOo) rfl dX7_why_1 rfl ?_
  refine j_iload_n (pc' := 5) cx 3 dX7_why_4 rfl rfl ?_
  obtain ⟨i1, h_1⟩ := ck_s hm
  refine j_iald (pc' := 6) cx 2 0 rfl rfl i1 dX7_why_5 rfl ?_
  refine j_if_lt (tgt := 11) (pc' := 9) cx dX7_why_6 (by decide) rfl (fun ch_1 => ?_) (fun ch_1 => ?_)
  · have h_2 := it_t h_1 ch_1
    refine j_iconst (pc' := 12) cx 0 dX7_why_11 ki_0 rfl ?_
    refine j_istore (lv' := [(4, .int 0), (0, .ref hMO), (1, .int p0), (2, .int p1), (3, .int p2)]) (pc' := 14) cx dX7_why_12 (by decide) rfl rfl ?_
    obtain ⟨e3, h_3, h_4⟩ := bd_s h_2
    have KXe3 : ∀ e3x, e3 = .inl e3x → j 0 0 [(hMO, .inr (6, [.ref hMOz, .ref hMOa, .ref hMOb, .int MOst, .ref hMOk, .int MOik, .ref hMOt, .int MOln, .ref hMOo, .ref hMOw, .ref hMOm, .ref hMOq, .int MOpl, .int MOiw, .int MOle, .ref hMOn])), (hMOz, .inl (cI, 116, .inl MOza)), (hMOo, .inl (cI, 150, .inl MOon)), (hMOw, .inl (cI, 150, .inl MOwy))] [(0, .ref hMO), (1, .int p0), (2, .int p1), (3, .int p2)] 42 [] := by
      intro e3x ze3
      subst ze3
      have h_5 := se_l h_4
      refine j_aload_n (pc' := 43) cx 0 dX7_why_42 rfl rfl ?_
      refine j_iload_n (pc' := 44) cx 1 dX7_why_43 rfl rfl ?_
      refine j_iload_n (pc' := 45) cx 2 dX7_why_44 rfl rfl ?_
      refine j_iload_n (pc' := 46) cx 3 dX7_why_45 rfl rfl ?_
      obtain ⟨r7, c8, h_6⟩ := bd_s h_5
      refine j_cV (pc' := 49) cx (c_X7_touches l D cI cZ cC cS hMO hMOz hMOa hMOb hMOk hMOt hMOo hMOw hMOm hMOq hMOn MOst MOik MOln MOpl MOiw MOle MOza MOon MOwy p0 p1 p2 r7 c8) 3 yk_X7_touches wM_X7_110 ⟨wN_X7_touches, wS_X7_touches, wI_X7, wC_X7_touches⟩ ⟨rfl, rfl, Nat.le_of_ble_eq_true rfl, Nat.le_of_ble_eq_true rfl, Nat.le_of_ble_eq_true rfl, Nat.le_of_ble_eq_true rfl⟩ [0, 1, 2, 3] [] [0, 1, 2, 3] rfl [] rfl (by decide) [(hMO, .inr (6, [.ref hMOz, .ref hMOa, .ref hMOb, .int MOst, .ref hMOk, .int MOik, .ref hMOt, .int MOln, .ref hMOo, .ref hMOw, .ref hMOm, .ref hMOq, .int MOpl, .int MOiw, .int MOle, .ref hMOn])), (hMOz, .inl (cI, 116, .inl MOza)), (hMOo, .inl (cI, 150, .inl MOon)), (hMOw, .inl (cI, 150, .inl MOwy))] rfl (by decide) 0 6 rfl rfl rfl rfl rfl (Nat.le_of_ble_eq_true rfl) dX7_why_46 rfl ?_
      obtain ⟨t10, h_8, h_7⟩ := bd_s h_6
      have Kt10 : j 0 0 [(hMO, .inr (6, [.ref hMOz, .ref hMOa, .ref hMOb, .int MOst, .ref hMOk, .int MOik, .ref hMOt, .int MOln, .ref hMOo, .ref hMOw, .ref hMOm, .ref hMOq, .int MOpl, .int MOiw, .int MOle, .ref hMOn])), (hMOz, .inl (cI, 116, .inl MOza)), (hMOo, .inl (cI, 150, .inl MOon)), (hMOw, .inl (cI, 150, .inl MOwy))] [] 73 [.int t10] := by
        have h_9 := so_i h_7
        subst h_9
        exact j_ret cx (Or.inr (Or.inl ⟨_, _, rfl, rfl, dX7_why_73, rfl, rfl⟩)) ⟨rfl, rfl⟩
      refine j_if_ge (tgt := 56) (pc' := 52) cx dX7_why_49 (by decide) rfl (fun ch_8 => ?_) (fun ch_8 => ?_)
      · have h_10 := it_t h_8 ch_8
        refine j_aload_n (pc' := 57) cx 0 dX7_why_56 rfl rfl ?_
        refine j_get (C := RX7) (T := TX7) (N := 16) (pc' := 60) cx uB_X7 0 rfl rfl 0 (by decide) wF_X7_7 (.ref hMOz) rfl dX7_why_57 rfl ?_
        refine j_bipush (pc' := 62) cx 25 dX7_why_60 kb_25 rfl ?_
        obtain ⟨i9, h_11⟩ := ck_s h_10
        refine j_iald (pc' := 63) cx 1 0 rfl rfl i9 dX7_why_62 rfl ?_
        refine j_bipush (pc' := 65) cx 30 dX7_why_63 kb_30 rfl ?_
        refine j_icmp_ne (tgt := 72) (pc' := 68) cx dX7_why_65 (by decide) rfl (fun ch_11 => ?_) (fun ch_11 => ?_)
        · have h_12 := it_f h_11 ch_11
          refine j_iconst (pc' := 73) cx 0 dX7_why_72 ki_0 rfl ?_
          have h_13 := so_i h_12
          subst h_13
          refine j_lv (lv' := []) cx [] rfl ?_
          exact Kt10
        · have h_14 := it_t h_11 ch_11
          refine j_iconst (pc' := 69) cx 4 dX7_why_68 ki_4 rfl ?_
          refine j_goto (pc' := 73) cx dX7_why_69 (by decide) ?_
          have h_15 := so_i h_14
          subst h_15
          refine j_lv (lv' := []) cx [] rfl ?_
          exact Kt10
      · have h_16 := it_f h_8 ch_8
        refine j_iconst (pc' := 53) cx 3 dX7_why_52 ki_3 rfl ?_
        refine j_goto (pc' := 73) cx dX7_why_53 (by decide) ?_
        have h_17 := so_i h_16
        subst h_17
        refine j_lv (lv' := []) cx [] rfl ?_
        exact Kt10
    have LPe3 : ∀ (n : Nat) (s2 : Int32), lp (f_X7_why_b1 MOon p2) n s2 = some e3 → j 0 0 [(hMO, .inr (6, [.ref hMOz, .ref hMOa, .ref hMOb, .int MOst, .ref hMOk, .int MOik, .ref hMOt, .int MOln, .ref hMOo, .ref hMOw, .ref hMOm, .ref hMOq, .int MOpl, .int MOiw, .int MOle, .ref hMOn])), (hMOz, .inl (cI, 116, .inl MOza)), (hMOo, .inl (cI, 150, .inl MOon)), (hMOw, .inl (cI, 150, .inl MOwy))] [(0, .ref hMO), (1, .int p0), (2, .int p1), (3, .int p2), (4, .int s2)] 14 [] := by
      intro n
      induction n with
      | zero => intro s2 z; exact absurd z (by intro z; cases z)
      | succ n ihe3 =>
        intro s2 h_18
        obtain ⟨q_19, h_20, h_21⟩ := bd_s h_18
        unfold f_X7_why_b1 at h_20
        refine j_iload (pc' := 16) cx 4 dX7_why_14 rfl rfl ?_
        refine j_iconst (pc' := 17) cx 4 dX7_why_16 ki_4 rfl ?_
        refine j_icmp_ge (tgt := 42) (pc' := 20) cx dX7_why_17 (by decide) rfl (fun ch_20 => ?_) (fun ch_20 => ?_)
        · have h_22 := it_t h_20 ch_20
          have h_23 := so_i h_22
          subst h_23
          have h_24 := so_i (se_r h_21)
          subst h_24
          refine j_lv (lv' := [(0, .ref hMO), (1, .int p0), (2, .int p1), (3, .int p2)]) cx [0, 1, 2, 3] rfl ?_
          exact KXe3 _ rfl
        · have h_25 := it_f h_20 ch_20
          refine j_aload_n (pc' := 21) cx 0 dX7_why_20 rfl rfl ?_
          refine j_get (C := RX7) (T := TX7) (N := 16) (pc' := 24) cx uB_X7 0 rfl rfl 8 (by decide) wF_X7_25 (.ref hMOo) rfl dX7_why_21 rfl ?_
          refine j_iload_n (pc' := 25) cx 3 dX7_why_24 rfl rfl ?_
          refine j_iload (pc' := 27) cx 4 dX7_why_25 rfl rfl ?_
          obtain ⟨r4, c5, h_26⟩ := bd_s h_25
          refine j_cS (pc' := 30) cx (c_X7_beside l D cI cZ cC cS p2 s2 r4 c5) 2 yk_X7_beside wM_X7_61 ⟨wT_X7_beside, wI_X7, wC_X7_beside⟩ ⟨rfl, rfl, Nat.le_of_ble_eq_true rfl, Nat.le_of_ble_eq_true rfl, Nat.le_of_ble_eq_true rfl, Nat.le_of_ble_eq_true rfl⟩ [] [0, 1, 2, 3] [0, 1, 2, 3] rfl [(hMO, .inr (6, [.ref hMOz, .ref hMOa, .ref hMOb, .int MOst, .ref hMOk, .int MOik, .ref hMOt, .int MOln, .ref hMOo, .ref hMOw, .ref hMOm, .ref hMOq, .int MOpl, .int MOiw, .int MOle, .ref hMOn])), (hMOz, .inl (cI, 116, .inl MOza)), (hMOo, .inl (cI, 150, .inl MOon)), (hMOw, .inl (cI, 150, .inl MOwy))] rfl (by decide) [(hMO, .inr (6, [.ref hMOz, .ref hMOa, .ref hMOb, .int MOst, .ref hMOk, .int MOik, .ref hMOt, .int MOln, .ref hMOo, .ref hMOw, .ref hMOm, .ref hMOq, .int MOpl, .int MOiw, .int MOle, .ref hMOn])), (hMOz, .inl (cI, 116, .inl MOza)), (hMOo, .inl (cI, 150, .inl MOon)), (hMOw, .inl (cI, 150, .inl MOwy))] rfl (by decide) rfl rfl (Nat.le_of_ble_eq_true rfl) dX7_why_27 rfl ?_
          obtain ⟨i6, h_27⟩ := ck_s h_26
          refine j_iald (pc' := 31) cx 2 0 rfl rfl i6 dX7_why_30 rfl ?_
          refine j_if_lt (tgt := 36) (pc' := 34) cx dX7_why_31 (by decide) rfl (fun ch_27 => ?_) (fun ch_27 => ?_)
          · have h_28 := it_t h_27 ch_27
            refine j_iinc (v := (s2 + 1)) (lv' := [(4, .int (s2 + 1)), (0, .ref hMO), (1, .int p0), (2, .int p1), (3, .int p2)]) (pc' := 39) cx 4 dX7_why_36 rfl (kn_1 _) (by decide) rfl rfl ?_
            refine j_goto (pc' := 14) cx dX7_why_39 (by decide) ?_
            have h_29 := so_i h_28
            subst h_29
            refine j_lv (lv' := [(0, .ref hMO), (1, .int p0), (2, .int p1), (3, .int p2), (4, .int (s2 + 1))]) cx [1, 2, 3, 4, 0] rfl ?_
            exact ihe3 _ (se_l h_21)
          · have h_30 := it_f h_27 ch_27
            refine j_iconst (pc' := 35) cx 2 dX7_why_34 ki_2 rfl ?_
            have h_31 := so_i h_30
            subst h_31
            have h_32 := so_i (se_r h_21)
            subst h_32
            have h_33 := se_r h_4
            have h_34 := so_i h_33
            subst h_34
            exact j_ret cx (Or.inr (Or.inl ⟨_, _, rfl, rfl, dX7_why_35, rfl, rfl⟩)) ⟨rfl, rfl⟩
    refine j_lv (lv' := [(0, .ref hMO), (1, .int p0), (2, .int p1), (3, .int p2), (4, .int 0)]) cx [1, 2, 3, 4, 0] rfl ?_
    exact LPe3 _ _ h_3
  · have h_35 := it_f h_1 ch_1
    refine j_iconst (pc' := 10) cx 1 dX7_why_9 ki_1 rfl ?_
    have h_36 := so_i h_35
    subst h_36
    exact j_ret cx (Or.inr (Or.inl ⟨_, _, rfl, rfl, dX7_why_10, rfl, rfl⟩)) ⟨rfl, rfl⟩
set_option maxHeartbeats 4000000 in
set_option maxRecDepth 100000 in
theorem c_X7_add (l : Launch) (D : va_G) (cI cZ cC cS : ClassId) (hMO hMOz hMOa hMOb hMOk hMOt hMOo hMOw hMOm hMOq hMOn : Nat) (MOst : Int32) (MOik : Int32) (MOln : Int32) (MOpl : Int32) (MOiw : Int32) (MOle : Int32) (MOza : Nat → Int32) (MOon : Nat → Int32) (MOwy : Nat → Int32) (p0 : Int32) (p1 : Int32) (p2 : Int32) (out : (Nat → Int32) × (Nat → Int32) × (Nat → Int32)) (hm : f_X7_add MOza MOon MOwy p0 p1 p2 = some out) : Ct l yX7_add cX7_add 4 none ({ frames := 2, cells := 0, slots := 0, locals := 45 }) (D, TY cI cZ cC cS) [.ref hMO, .int p0, .int p1, .int p2] [(hMO, .inr (6, [.ref hMOz, .ref hMOa, .ref hMOb, .int MOst, .ref hMOk, .int MOik, .ref hMOt, .int MOln, .ref hMOo, .ref hMOw, .ref hMOm, .ref hMOq, .int MOpl, .int MOiw, .int MOle, .ref hMOn])), (hMOz, .inl (cI, 116, .inl MOza)), (hMOo, .inl (cI, 150, .inl MOon)), (hMOw, .inl (cI, 150, .inl MOwy))] (jw_P none [(hMO, .inr (6, [.ref hMOz, .ref hMOa, .ref hMOb, .int MOst, .ref hMOk, .int MOik, .ref hMOt, .int MOln, .ref hMOo, .ref hMOw, .ref hMOm, .ref hMOq, .int MOpl, .int MOiw, .int MOle, .ref hMOn])), (hMOz, .inl (cI, 116, .inl out.1)), (hMOo, .inl (cI, 150, .inl out.2.1)), (hMOw, .inl (cI, 150, .inl out.2.2))]) 0 0 := by
  refine ct_of RX7 (by decide +kernel) rfl (Nat.le_of_ble_eq_true rfl) (fun j cx => ?_)
  unfold f_X7_add at hm
  show j 0 0 [(hMO, .inr (6, [.ref hMOz, .ref hMOa, .ref hMOb, .int MOst, .ref hMOk, .int MOik, .ref hMOt, .int MOln, .ref hMOo, .ref hMOw, .ref hMOm, .ref hMOq, .int MOpl, .int MOiw, .int MOle, .ref hMOn])), (hMOz, .inl (cI, 116, .inl MOza)), (hMOo, .inl (cI, 150, .inl MOon)), (hMOw, .inl (cI, 150, .inl MOwy))] [(0, .ref hMO), (1, .int p0), (2, .int p1), (3, .int p2)] 0 []
  refine j_aload_n (pc' := 1) cx 0 dX7_add_0 rfl rfl ?_
  refine j_get (C := RX7) (T := TX7) (N := 16) (pc' := 4) cx uB_X7 0 rfl rfl 0 (by decide) wF_X7_7 (.ref hMOz) rfl dX7_add_1 rfl ?_
  refine j_bipush (pc' := 6) cx 26 dX7_add_4 kb_26 rfl ?_
  refine j_iconst (pc' := 7) cx 3 dX7_add_6 ki_3 rfl ?_
  refine j_aload_n (pc' := 8) cx 0 dX7_add_7 rfl rfl ?_
  refine j_get (C := RX7) (T := TX7) (N := 16) (pc' := 11) cx uB_X7 0 rfl rfl 0 (by decide) wF_X7_7 (.ref hMOz) rfl dX7_add_8 rfl ?_
  refine j_bipush (pc' := 13) cx 25 dX7_add_11 kb_25 rfl ?_
  obtain ⟨i1, h_1⟩ := ck_s hm
  refine j_iald (pc' := 14) cx 1 0 rfl rfl i1 dX7_add_13 rfl ?_
  refine j_imul (pc' := 15) cx dX7_add_14 rfl ?_
  refine j_iadd (pc' := 16) cx dX7_add_15 rfl ?_
  refine j_iload_n (pc' := 17) cx 1 dX7_add_16 rfl rfl ?_
  obtain ⟨i2, h_2⟩ := ck_s h_1
  refine j_iast (ws' := [(hMO, .inr (6, [.ref hMOz, .ref hMOa, .ref hMOb, .int MOst, .ref hMOk, .int MOik, .ref hMOt, .int MOln, .ref hMOo, .ref hMOw, .ref hMOm, .ref hMOq, .int MOpl, .int MOiw, .int MOle, .ref hMOn])), (hMOz, .inl (cI, 116, .inl (upd MOza (26 + (3 * (MOza (25 : Int32).toNatClampNeg))).toNatClampNeg p0))), (hMOo, .inl (cI, 150, .inl MOon)), (hMOw, .inl (cI, 150, .inl MOwy))]) (pc' := 18) cx 1 0 rfl rfl i2 rfl dX7_add_17 rfl ?_
  refine j_aload_n (pc' := 19) cx 0 dX7_add_18 rfl rfl ?_
  refine j_get (C := RX7) (T := TX7) (N := 16) (pc' := 22) cx uB_X7 0 rfl rfl 0 (by decide) wF_X7_7 (.ref hMOz) rfl dX7_add_19 rfl ?_
  refine j_bipush (pc' := 24) cx 26 dX7_add_22 kb_26 rfl ?_
  refine j_iconst (pc' := 25) cx 3 dX7_add_24 ki_3 rfl ?_
  refine j_aload_n (pc' := 26) cx 0 dX7_add_25 rfl rfl ?_
  refine j_get (C := RX7) (T := TX7) (N := 16) (pc' := 29) cx uB_X7 0 rfl rfl 0 (by decide) wF_X7_7 (.ref hMOz) rfl dX7_add_26 rfl ?_
  refine j_bipush (pc' := 31) cx 25 dX7_add_29 kb_25 rfl ?_
  obtain ⟨i3, h_3⟩ := ck_s h_2
  refine j_iald (pc' := 32) cx 1 0 rfl rfl i3 dX7_add_31 rfl ?_
  refine j_imul (pc' := 33) cx dX7_add_32 rfl ?_
  refine j_iadd (pc' := 34) cx dX7_add_33 rfl ?_
  refine j_iconst (pc' := 35) cx 1 dX7_add_34 ki_1 rfl ?_
  refine j_iadd (pc' := 36) cx dX7_add_35 rfl ?_
  refine j_iload_n (pc' := 37) cx 2 dX7_add_36 rfl rfl ?_
  obtain ⟨i4, h_4⟩ := ck_s h_3
  refine j_iast (ws' := [(hMO, .inr (6, [.ref hMOz, .ref hMOa, .ref hMOb, .int MOst, .ref hMOk, .int MOik, .ref hMOt, .int MOln, .ref hMOo, .ref hMOw, .ref hMOm, .ref hMOq, .int MOpl, .int MOiw, .int MOle, .ref hMOn])), (hMOz, .inl (cI, 116, .inl (upd (upd MOza (26 + (3 * (MOza (25 : Int32).toNatClampNeg))).toNatClampNeg p0) ((26 + (3 * ((upd MOza (26 + (3 * (MOza (25 : Int32).toNatClampNeg))).toNatClampNeg p0) (25 : Int32).toNatClampNeg))) + 1).toNatClampNeg p1))), (hMOo, .inl (cI, 150, .inl MOon)), (hMOw, .inl (cI, 150, .inl MOwy))]) (pc' := 38) cx 1 0 rfl rfl i4 rfl dX7_add_37 rfl ?_
  refine j_aload_n (pc' := 39) cx 0 dX7_add_38 rfl rfl ?_
  refine j_get (C := RX7) (T := TX7) (N := 16) (pc' := 42) cx uB_X7 0 rfl rfl 0 (by decide) wF_X7_7 (.ref hMOz) rfl dX7_add_39 rfl ?_
  refine j_bipush (pc' := 44) cx 26 dX7_add_42 kb_26 rfl ?_
  refine j_iconst (pc' := 45) cx 3 dX7_add_44 ki_3 rfl ?_
  refine j_aload_n (pc' := 46) cx 0 dX7_add_45 rfl rfl ?_
  refine j_get (C := RX7) (T := TX7) (N := 16) (pc' := 49) cx uB_X7 0 rfl rfl 0 (by decide) wF_X7_7 (.ref hMOz) rfl dX7_add_46 rfl ?_
  refine j_bipush (pc' := 51) cx 25 dX7_add_49 kb_25 rfl ?_
  obtain ⟨i5, h_5⟩ := ck_s h_4
  refine j_iald (pc' := 52) cx 1 0 rfl rfl i5 dX7_add_51 rfl ?_
  refine j_imul (pc' := 53) cx dX7_add_52 rfl ?_
  refine j_iadd (pc' := 54) cx dX7_add_53 rfl ?_
  refine j_iconst (pc' := 55) cx 2 dX7_add_54 ki_2 rfl ?_
  refine j_iadd (pc' := 56) cx dX7_add_55 rfl ?_
  refine j_iload_n (pc' := 57) cx 3 dX7_add_56 rfl rfl ?_
  obtain ⟨i6, h_6⟩ := ck_s h_5
  refine j_iast (ws' := [(hMO, .inr (6, [.ref hMOz, .ref hMOa, .ref hMOb, .int MOst, .ref hMOk, .int MOik, .ref hMOt, .int MOln, .ref hMOo, .ref hMOw, .ref hMOm, .ref hMOq, .int MOpl, .int MOiw, .int MOle, .ref hMOn])), (hMOz, .inl (cI, 116, .inl (upd (upd (upd MOza (26 + (3 * (MOza (25 : Int32).toNatClampNeg))).toNatClampNeg p0) ((26 + (3 * ((upd MOza (26 + (3 * (MOza (25 : Int32).toNatClampNeg))).toNatClampNeg p0) (25 : Int32).toNatClampNeg))) + 1).toNatClampNeg p1) ((26 + (3 * ((upd (upd MOza (26 + (3 * (MOza (25 : Int32).toNatClampNeg))).toNatClampNeg p0) ((26 + (3 * ((upd MOza (26 + (3 * (MOza (25 : Int32).toNatClampNeg))).toNatClampNeg p0) (25 : Int32).toNatClampNeg))) + 1).toNatClampNeg p1) (25 : Int32).toNatClampNeg))) + 2).toNatClampNeg p2))), (hMOo, .inl (cI, 150, .inl MOon)), (hMOw, .inl (cI, 150, .inl MOwy))]) (pc' := 58) cx 1 0 rfl rfl i6 rfl dX7_add_57 rfl ?_
  refine j_aload_n (pc' := 59) cx 0 dX7_add_58 rfl rfl ?_
  refine j_get (C := RX7) (T := TX7) (N := 16) (pc' := 62) cx uB_X7 0 rfl rfl 0 (by decide) wF_X7_7 (.ref hMOz) rfl dX7_add_59 rfl ?_
  refine j_bipush (pc' := 64) cx 25 dX7_add_62 kb_25 rfl ?_
  refine j_dup2 (pc' := 65) cx dX7_add_64 rfl rfl rfl ?_
  obtain ⟨i7, h_7⟩ := ck_s h_6
  refine j_iald (pc' := 66) cx 1 0 rfl rfl i7 dX7_add_65 rfl ?_
  refine j_iconst (pc' := 67) cx 1 dX7_add_66 ki_1 rfl ?_
  refine j_iadd (pc' := 68) cx dX7_add_67 rfl ?_
  obtain ⟨i8, h_8⟩ := ck_s h_7
  refine j_iast (ws' := [(hMO, .inr (6, [.ref hMOz, .ref hMOa, .ref hMOb, .int MOst, .ref hMOk, .int MOik, .ref hMOt, .int MOln, .ref hMOo, .ref hMOw, .ref hMOm, .ref hMOq, .int MOpl, .int MOiw, .int MOle, .ref hMOn])), (hMOz, .inl (cI, 116, .inl (upd (upd (upd (upd MOza (26 + (3 * (MOza (25 : Int32).toNatClampNeg))).toNatClampNeg p0) ((26 + (3 * ((upd MOza (26 + (3 * (MOza (25 : Int32).toNatClampNeg))).toNatClampNeg p0) (25 : Int32).toNatClampNeg))) + 1).toNatClampNeg p1) ((26 + (3 * ((upd (upd MOza (26 + (3 * (MOza (25 : Int32).toNatClampNeg))).toNatClampNeg p0) ((26 + (3 * ((upd MOza (26 + (3 * (MOza (25 : Int32).toNatClampNeg))).toNatClampNeg p0) (25 : Int32).toNatClampNeg))) + 1).toNatClampNeg p1) (25 : Int32).toNatClampNeg))) + 2).toNatClampNeg p2) (25 : Int32).toNatClampNeg (((upd (upd (upd MOza (26 + (3 * (MOza (25 : Int32).toNatClampNeg))).toNatClampNeg p0) ((26 + (3 * ((upd MOza (26 + (3 * (MOza (25 : Int32).toNatClampNeg))).toNatClampNeg p0) (25 : Int32).toNatClampNeg))) + 1).toNatClampNeg p1) ((26 + (3 * ((upd (upd MOza (26 + (3 * (MOza (25 : Int32).toNatClampNeg))).toNatClampNeg p0) ((26 + (3 * ((upd MOza (26 + (3 * (MOza (25 : Int32).toNatClampNeg))).toNatClampNeg p0) (25 : Int32).toNatClampNeg))) + 1).toNatClampNeg p1) (25 : Int32).toNatClampNeg))) + 2).toNatClampNeg p2) (25 : Int32).toNatClampNeg) + 1)))), (hMOo, .inl (cI, 150, .inl MOon)), (hMOw, .inl (cI, 150, .inl MOwy))]) (pc' := 69) cx 1 0 rfl rfl i8 rfl dX7_add_68 rfl ?_
  refine j_aload_n (pc' := 70) cx 0 dX7_add_69 rfl rfl ?_
  obtain ⟨r9, c10, h_9⟩ := bd_s h_8
  refine j_cV (pc' := 73) cx (c_X7_draw l D cI cZ cC cS hMO hMOz hMOa hMOb hMOk hMOt hMOo hMOw hMOm hMOq hMOn MOst MOik MOln MOpl MOiw MOle (upd (upd (upd (upd MOza (26 + (3 * (MOza (25 : Int32).toNatClampNeg))).toNatClampNeg p0) ((26 + (3 * ((upd MOza (26 + (3 * (MOza (25 : Int32).toNatClampNeg))).toNatClampNeg p0) (25 : Int32).toNatClampNeg))) + 1).toNatClampNeg p1) ((26 + (3 * ((upd (upd MOza (26 + (3 * (MOza (25 : Int32).toNatClampNeg))).toNatClampNeg p0) ((26 + (3 * ((upd MOza (26 + (3 * (MOza (25 : Int32).toNatClampNeg))).toNatClampNeg p0) (25 : Int32).toNatClampNeg))) + 1).toNatClampNeg p1) (25 : Int32).toNatClampNeg))) + 2).toNatClampNeg p2) (25 : Int32).toNatClampNeg (((upd (upd (upd MOza (26 + (3 * (MOza (25 : Int32).toNatClampNeg))).toNatClampNeg p0) ((26 + (3 * ((upd MOza (26 + (3 * (MOza (25 : Int32).toNatClampNeg))).toNatClampNeg p0) (25 : Int32).toNatClampNeg))) + 1).toNatClampNeg p1) ((26 + (3 * ((upd (upd MOza (26 + (3 * (MOza (25 : Int32).toNatClampNeg))).toNatClampNeg p0) ((26 + (3 * ((upd MOza (26 + (3 * (MOza (25 : Int32).toNatClampNeg))).toNatClampNeg p0) (25 : Int32).toNatClampNeg))) + 1).toNatClampNeg p1) (25 : Int32).toNatClampNeg))) + 2).toNatClampNeg p2) (25 : Int32).toNatClampNeg) + 1)) MOon MOwy r9 c10) 0 yk_X7_draw wM_X7_40 ⟨wN_X7_draw, wS_X7_draw, wI_X7, wC_X7_draw⟩ ⟨rfl, rfl, Nat.le_of_ble_eq_true rfl, Nat.le_of_ble_eq_true rfl, Nat.le_of_ble_eq_true rfl, Nat.le_of_ble_eq_true rfl⟩ [0, 1, 2, 3] [] [0, 1, 2, 3] rfl [] rfl (by decide) [(hMO, .inr (6, [.ref hMOz, .ref hMOa, .ref hMOb, .int MOst, .ref hMOk, .int MOik, .ref hMOt, .int MOln, .ref hMOo, .ref hMOw, .ref hMOm, .ref hMOq, .int MOpl, .int MOiw, .int MOle, .ref hMOn])), (hMOz, .inl (cI, 116, .inl (upd (upd (upd (upd MOza (26 + (3 * (MOza (25 : Int32).toNatClampNeg))).toNatClampNeg p0) ((26 + (3 * ((upd MOza (26 + (3 * (MOza (25 : Int32).toNatClampNeg))).toNatClampNeg p0) (25 : Int32).toNatClampNeg))) + 1).toNatClampNeg p1) ((26 + (3 * ((upd (upd MOza (26 + (3 * (MOza (25 : Int32).toNatClampNeg))).toNatClampNeg p0) ((26 + (3 * ((upd MOza (26 + (3 * (MOza (25 : Int32).toNatClampNeg))).toNatClampNeg p0) (25 : Int32).toNatClampNeg))) + 1).toNatClampNeg p1) (25 : Int32).toNatClampNeg))) + 2).toNatClampNeg p2) (25 : Int32).toNatClampNeg (((upd (upd (upd MOza (26 + (3 * (MOza (25 : Int32).toNatClampNeg))).toNatClampNeg p0) ((26 + (3 * ((upd MOza (26 + (3 * (MOza (25 : Int32).toNatClampNeg))).toNatClampNeg p0) (25 : Int32).toNatClampNeg))) + 1).toNatClampNeg p1) ((26 + (3 * ((upd (upd MOza (26 + (3 * (MOza (25 : Int32).toNatClampNeg))).toNatClampNeg p0) ((26 + (3 * ((upd MOza (26 + (3 * (MOza (25 : Int32).toNatClampNeg))).toNatClampNeg p0) (25 : Int32).toNatClampNeg))) + 1).toNatClampNeg p1) (25 : Int32).toNatClampNeg))) + 2).toNatClampNeg p2) (25 : Int32).toNatClampNeg) + 1)))), (hMOo, .inl (cI, 150, .inl r9.1)), (hMOw, .inl (cI, 150, .inl r9.2))] rfl (by decide) 0 6 rfl rfl rfl rfl rfl (Nat.le_of_ble_eq_true rfl) dX7_add_70 rfl ?_
  have h_10 := so_i h_9
  subst h_10
  exact j_ret cx (Or.inl ⟨rfl, dX7_add_73, rfl, rfl⟩) ⟨rfl, rfl⟩
