set_option maxHeartbeats 4000000 in
set_option maxRecDepth 100000 in
theorem c_X7_bestPlace (l : Launch) (D : va_G) (cI cZ cC cS : ClassId) (hMO hMOz hMOa hMOb hMOk hMOt hMOo hMOw hMOm hMOq hMOn : Nat) (MOst : Int32) (MOik : Int32) (MOln : Int32) (MOpl : Int32) (MOiw : Int32) (MOle : Int32) (MOza : Nat → Int32) (MOon : Nat → Int32) (MOwy : Nat → Int32) (p0 : Int32) (p1 : Int32) (out : Int32) (hm : f_X7_bestPlace MOza MOon MOwy p0 p1 = some out) : Ct l yX7_bestPlace cX7_bestPlace 6 (some .int) ({ frames := 5, cells := 0, slots := 0, locals := 119 }) (D, TY cI cZ cC cS) [.ref hMO, .int p0, .int p1] [(hMO, .inr (6, [.ref hMOz, .ref hMOa, .ref hMOb, .int MOst, .ref hMOk, .int MOik, .ref hMOt, .int MOln, .ref hMOo, .ref hMOw, .ref hMOm, .ref hMOq, .int MOpl, .int MOiw, .int MOle, .ref hMOn])), (hMOz, .inl (cI, 116, .inl MOza)), (hMOo, .inl (cI, 150, .inl MOon)), (hMOw, .inl (cI, 150, .inl MOwy))] (jw_P (some (.int out)) [(hMO, .inr (6, [.ref hMOz, .ref hMOa, .ref hMOb, .int MOst, .ref hMOk, .int MOik, .ref hMOt, .int MOln, .ref hMOo, .ref hMOw, .ref hMOm, .ref hMOq, .int MOpl, .int MOiw, .int MOle, .ref hMOn])), (hMOz, .inl (cI, 116, .inl MOza)), (hMOo, .inl (cI, 150, .inl MOon)), (hMOw, .inl (cI, 150, .inl MOwy))]) 0 0 := by
  refine ct_of RX7 (by decide +kernel) rfl (Nat.le_of_ble_eq_true rfl) (fun j cx => ?_)
  unfold f_X7_bestPlace at hm
  show j 0 0 [(hMO, .inr (6, [.ref hMOz, .ref hMOa, .ref hMOb, .int MOst, .ref hMOk, .int MOik, .ref hMOt, .int MOln, .ref hMOo, .ref hMOw, .ref hMOm, .ref hMOq, .int MOpl, .int MOiw, .int MOle, .ref hMOn])), (hMOz, .inl (cI, 116, .inl MOza)), (hMOo, .inl (cI, 150, .inl MOon)), (hMOw, .inl (cI, 150, .inl MOwy))] [(0, .ref hMO), (1, .int p0), (2, .int p1)] 0 []
  refine j_iload_n (pc' := 1) cx 1 dX7_bestPlace_0 rfl rfl ?_
  obtain ⟨r1, c2, h_1⟩ := bd_s hm
  refine j_cS (pc' := 4) cx (c_X7_isKind l D cI cZ cC cS p0 r1 c2) 1 yk_X7_isKind wM_X7_101 ⟨wT_X7_isKind, wI_X7, wC_X7_isKind⟩ ⟨rfl, rfl, Nat.le_of_ble_eq_true rfl, Nat.le_of_ble_eq_true rfl, Nat.le_of_ble_eq_true rfl, Nat.le_of_ble_eq_true rfl⟩ [] [0, 1, 2, 3] [0, 1, 2, 3] rfl [(hMO, .inr (6, [.ref hMOz, .ref hMOa, .ref hMOb, .int MOst, .ref hMOk, .int MOik, .ref hMOt, .int MOln, .ref hMOo, .ref hMOw, .ref hMOm, .ref hMOq, .int MOpl, .int MOiw, .int MOle, .ref hMOn])), (hMOz, .inl (cI, 116, .inl MOza)), (hMOo, .inl (cI, 150, .inl MOon)), (hMOw, .inl (cI, 150, .inl MOwy))] rfl (by decide) [(hMO, .inr (6, [.ref hMOz, .ref hMOa, .ref hMOb, .int MOst, .ref hMOk, .int MOik, .ref hMOt, .int MOln, .ref hMOo, .ref hMOw, .ref hMOm, .ref hMOq, .int MOpl, .int MOiw, .int MOle, .ref hMOn])), (hMOz, .inl (cI, 116, .inl MOza)), (hMOo, .inl (cI, 150, .inl MOon)), (hMOw, .inl (cI, 150, .inl MOwy))] rfl (by decide) rfl rfl (Nat.le_of_ble_eq_true rfl) dX7_bestPlace_1 rfl ?_
  refine j_if_ne (tgt := 9) (pc' := 7) cx dX7_bestPlace_4 (by decide) rfl (fun ch_1 => ?_) (fun ch_1 => ?_)
  · have h_2 := it_f h_1 ch_1
    refine j_iload_n (pc' := 10) cx 2 dX7_bestPlace_9 rfl rfl ?_
    refine j_iconst (pc' := 11) cx 0 dX7_bestPlace_10 ki_0 rfl ?_
    refine j_iconst (pc' := 12) cx 1 dX7_bestPlace_11 ki_1 rfl ?_
    obtain ⟨r3, c4, h_3⟩ := bd_s h_2
    refine j_cS (pc' := 15) cx (c_X7_in l D cI cZ cC cS p1 0 1 r3 c4) 3 yk_X7_in wM_X7_43 ⟨wT_X7_in, wI_X7, wC_X7_in⟩ ⟨rfl, rfl, Nat.le_of_ble_eq_true rfl, Nat.le_of_ble_eq_true rfl, Nat.le_of_ble_eq_true rfl, Nat.le_of_ble_eq_true rfl⟩ [] [0, 1, 2, 3] [0, 1, 2, 3] rfl [(hMO, .inr (6, [.ref hMOz, .ref hMOa, .ref hMOb, .int MOst, .ref hMOk, .int MOik, .ref hMOt, .int MOln, .ref hMOo, .ref hMOw, .ref hMOm, .ref hMOq, .int MOpl, .int MOiw, .int MOle, .ref hMOn])), (hMOz, .inl (cI, 116, .inl MOza)), (hMOo, .inl (cI, 150, .inl MOon)), (hMOw, .inl (cI, 150, .inl MOwy))] rfl (by decide) [(hMO, .inr (6, [.ref hMOz, .ref hMOa, .ref hMOb, .int MOst, .ref hMOk, .int MOik, .ref hMOt, .int MOln, .ref hMOo, .ref hMOw, .ref hMOm, .ref hMOq, .int MOpl, .int MOiw, .int MOle, .ref hMOn])), (hMOz, .inl (cI, 116, .inl MOza)), (hMOo, .inl (cI, 150, .inl MOon)), (hMOw, .inl (cI, 150, .inl MOwy))] rfl (by decide) rfl rfl (Nat.le_of_ble_eq_true rfl) dX7_bestPlace_12 rfl ?_
    refine j_if_ne (tgt := 21) (pc' := 18) cx dX7_bestPlace_15 (by decide) rfl (fun ch_3 => ?_) (fun ch_3 => ?_)
    · have h_4 := it_f h_3 ch_3
      refine j_bipush (pc' := 23) cx (-5) dX7_bestPlace_21 kb_m5 rfl ?_
      refine j_istore_n (lv' := [(3, .int (-5)), (0, .ref hMO), (1, .int p0), (2, .int p1)]) (pc' := 24) cx dX7_bestPlace_23 (by decide) rfl rfl ?_
      refine j_bipush (pc' := 26) cx (-5) dX7_bestPlace_24 kb_m5 rfl ?_
      refine j_istore (lv' := [(4, .int (-5)), (3, .int (-5)), (0, .ref hMO), (1, .int p0), (2, .int p1)]) (pc' := 28) cx dX7_bestPlace_26 (by decide) rfl rfl ?_
      refine j_iconst (pc' := 29) cx 0 dX7_bestPlace_28 ki_0 rfl ?_
      refine j_istore (lv' := [(5, .int 0), (4, .int (-5)), (3, .int (-5)), (0, .ref hMO), (1, .int p0), (2, .int p1)]) (pc' := 31) cx dX7_bestPlace_29 (by decide) rfl rfl ?_
      obtain ⟨e6, h_5, h_6⟩ := bd_s h_4
      have KXe6 : j 0 0 [(hMO, .inr (6, [.ref hMOz, .ref hMOa, .ref hMOb, .int MOst, .ref hMOk, .int MOik, .ref hMOt, .int MOln, .ref hMOo, .ref hMOw, .ref hMOm, .ref hMOq, .int MOpl, .int MOiw, .int MOle, .ref hMOn])), (hMOz, .inl (cI, 116, .inl MOza)), (hMOo, .inl (cI, 150, .inl MOon)), (hMOw, .inl (cI, 150, .inl MOwy))] [(2, .int p1), (3, .int e6.1), (4, .int e6.2.1)] 97 [] := by
        refine j_iload_n (pc' := 98) cx 0 dX7_bestPlace_97 rfl rfl ?_
        obtain ⟨t14, h_8, h_7⟩ := bd_s h_6
        have Kt14 : j 0 0 [(hMO, .inr (6, [.ref hMOz, .ref hMOa, .ref hMOb, .int MOst, .ref hMOk, .int MOik, .ref hMOt, .int MOln, .ref hMOo, .ref hMOw, .ref hMOm, .ref hMOq, .int MOpl, .int MOiw, .int MOle, .ref hMOn])), (hMOz, .inl (cI, 116, .inl MOza)), (hMOo, .inl (cI, 150, .inl MOon)), (hMOw, .inl (cI, 150, .inl MOwy))] [] 107 [.int t14] := by
          have h_9 := so_i h_7
          subst h_9
          exact j_ret cx (Or.inr (Or.inl ⟨_, _, rfl, rfl, dX7_bestPlace_107, rfl, rfl⟩)) ⟨rfl, rfl⟩
        refine j_if_ne (tgt := 105) (pc' := 101) cx dX7_bestPlace_98 (by decide) rfl (fun ch_8 => ?_) (fun ch_8 => ?_)
        · have h_10 := it_f h_8 ch_8
          refine j_iload (pc' := 107) cx 2 dX7_bestPlace_105 rfl rfl ?_
          have h_11 := so_i h_10
          subst h_11
          refine j_lv (lv' := []) cx [] rfl ?_
          exact Kt14
        · have h_12 := it_t h_8 ch_8
          refine j_iload_n (pc' := 102) cx 1 dX7_bestPlace_101 rfl rfl ?_
          refine j_goto (pc' := 107) cx dX7_bestPlace_102 (by decide) ?_
          have h_13 := so_i h_12
          subst h_13
          refine j_lv (lv' := []) cx [] rfl ?_
          exact Kt14
      have LPe6 : ∀ (n : Nat) (s5 : Int32 × Int32 × Int32), lp (f_X7_bestPlace_b1 MOza MOon MOwy p0) n s5 = some e6 → j 0 0 [(hMO, .inr (6, [.ref hMOz, .ref hMOa, .ref hMOb, .int MOst, .ref hMOk, .int MOik, .ref hMOt, .int MOln, .ref hMOo, .ref hMOw, .ref hMOm, .ref hMOq, .int MOpl, .int MOiw, .int MOle, .ref hMOn])), (hMOz, .inl (cI, 116, .inl MOza)), (hMOo, .inl (cI, 150, .inl MOon)), (hMOw, .inl (cI, 150, .inl MOwy))] [(0, .ref hMO), (1, .int p0), (2, .int p1), (3, .int s5.1), (4, .int s5.2.1), (5, .int s5.2.2)] 31 [] := by
        intro n
        induction n with
        | zero => intro s5 z; exact absurd z (by intro z; cases z)
        | succ n ihe6 =>
          intro s5 h_14
          obtain ⟨q_15, h_16, h_17⟩ := bd_s h_14
          unfold f_X7_bestPlace_b1 at h_16
          refine j_iload (pc' := 33) cx 5 dX7_bestPlace_31 rfl rfl ?_
          refine j_sipush (pc' := 36) cx 600 dX7_bestPlace_33 ks_600 rfl ?_
          refine j_icmp_ge (tgt := 97) (pc' := 39) cx dX7_bestPlace_36 (by decide) rfl (fun ch_16 => ?_) (fun ch_16 => ?_)
          · have h_18 := it_t h_16 ch_16
            have h_19 := so_i h_18
            subst h_19
            have h_20 := so_i (se_r h_17)
            subst h_20
            refine j_lv (lv' := [(2, .int p1), (3, .int s5.1), (4, .int s5.2.1)]) cx [2, 3, 4] rfl ?_
            exact KXe6
          · have h_21 := it_f h_16 ch_16
            refine j_aload_n (pc' := 40) cx 0 dX7_bestPlace_39 rfl rfl ?_
            refine j_iload_n (pc' := 41) cx 1 dX7_bestPlace_40 rfl rfl ?_
            refine j_iload (pc' := 43) cx 5 dX7_bestPlace_41 rfl rfl ?_
            refine j_iconst (pc' := 44) cx 4 dX7_bestPlace_43 ki_4 rfl ?_
            refine j_irem (pc' := 45) cx dX7_bestPlace_44 kz_4 rfl ?_
            refine j_iload (pc' := 47) cx 5 dX7_bestPlace_45 rfl rfl ?_
            refine j_iconst (pc' := 48) cx 4 dX7_bestPlace_47 ki_4 rfl ?_
            refine j_idiv (pc' := 49) cx dX7_bestPlace_48 kz_4 rfl ?_
            obtain ⟨r7, c8, h_22⟩ := bd_s h_21
            refine j_cV (pc' := 52) cx (c_X7_why l D cI cZ cC cS hMO hMOz hMOa hMOb hMOk hMOt hMOo hMOw hMOm hMOq hMOn MOst MOik MOln MOpl MOiw MOle MOza MOon MOwy p0 (rm s5.2.2 4) (s5.2.2 / 4) r7 c8) 3 yk_X7_why wM_X7_116 ⟨wN_X7_why, wS_X7_why, wI_X7, wC_X7_why⟩ ⟨rfl, rfl, Nat.le_of_ble_eq_true rfl, Nat.le_of_ble_eq_true rfl, Nat.le_of_ble_eq_true rfl, Nat.le_of_ble_eq_true rfl⟩ [0, 1, 2, 3] [] [0, 1, 2, 3] rfl [] rfl (by decide) [(hMO, .inr (6, [.ref hMOz, .ref hMOa, .ref hMOb, .int MOst, .ref hMOk, .int MOik, .ref hMOt, .int MOln, .ref hMOo, .ref hMOw, .ref hMOm, .ref hMOq, .int MOpl, .int MOiw, .int MOle, .ref hMOn])), (hMOz, .inl (cI, 116, .inl MOza)), (hMOo, .inl (cI, 150, .inl MOon)), (hMOw, .inl (cI, 150, .inl MOwy))] rfl (by decide) 0 6 rfl rfl rfl rfl rfl (Nat.le_of_ble_eq_true rfl) dX7_bestPlace_49 rfl ?_
            obtain ⟨t13, h_24, h_23⟩ := bd_s h_22
            have Kt13 : j 0 0 [(hMO, .inr (6, [.ref hMOz, .ref hMOa, .ref hMOb, .int MOst, .ref hMOk, .int MOik, .ref hMOt, .int MOln, .ref hMOo, .ref hMOw, .ref hMOm, .ref hMOq, .int MOpl, .int MOiw, .int MOle, .ref hMOn])), (hMOz, .inl (cI, 116, .inl MOza)), (hMOo, .inl (cI, 150, .inl MOon)), (hMOw, .inl (cI, 150, .inl MOwy))] [(0, .ref hMO), (1, .int p0), (2, .int p1), (3, .int t13.1), (4, .int t13.2), (5, .int s5.2.2)] 91 [] := by
              refine j_iinc (v := (s5.2.2 + 1)) (lv' := [(5, .int (s5.2.2 + 1)), (0, .ref hMO), (1, .int p0), (2, .int p1), (3, .int t13.1), (4, .int t13.2)]) (pc' := 94) cx 5 dX7_bestPlace_91 rfl (kn_1 _) (by decide) rfl rfl ?_
              refine j_goto (pc' := 31) cx dX7_bestPlace_94 (by decide) ?_
              have h_25 := so_i h_23
              subst h_25
              refine j_lv (lv' := [(0, .ref hMO), (1, .int p0), (2, .int p1), (3, .int t13.1), (4, .int t13.2), (5, .int (s5.2.2 + 1))]) cx [1, 2, 3, 4, 5, 0] rfl ?_
              exact ihe6 _ (se_l h_17)
            refine j_if_ne (tgt := 91) (pc' := 55) cx dX7_bestPlace_52 (by decide) rfl (fun ch_24 => ?_) (fun ch_24 => ?_)
            · have h_26 := it_f h_24 ch_24
              have h_27 := so_i h_26
              subst h_27
              exact Kt13
            · have h_28 := it_t h_24 ch_24
              refine j_aload_n (pc' := 56) cx 0 dX7_bestPlace_55 rfl rfl ?_
              refine j_iload_n (pc' := 57) cx 1 dX7_bestPlace_56 rfl rfl ?_
              refine j_iload (pc' := 59) cx 5 dX7_bestPlace_57 rfl rfl ?_
              refine j_iconst (pc' := 60) cx 4 dX7_bestPlace_59 ki_4 rfl ?_
              refine j_irem (pc' := 61) cx dX7_bestPlace_60 kz_4 rfl ?_
              refine j_iload (pc' := 63) cx 5 dX7_bestPlace_61 rfl rfl ?_
              refine j_iconst (pc' := 64) cx 4 dX7_bestPlace_63 ki_4 rfl ?_
              refine j_idiv (pc' := 65) cx dX7_bestPlace_64 kz_4 rfl ?_
              obtain ⟨r9, c10, h_29⟩ := bd_s h_28
              refine j_cV (pc' := 68) cx (c_X7_touches l D cI cZ cC cS hMO hMOz hMOa hMOb hMOk hMOt hMOo hMOw hMOm hMOq hMOn MOst MOik MOln MOpl MOiw MOle MOza MOon MOwy p0 (rm s5.2.2 4) (s5.2.2 / 4) r9 c10) 3 yk_X7_touches wM_X7_110 ⟨wN_X7_touches, wS_X7_touches, wI_X7, wC_X7_touches⟩ ⟨rfl, rfl, Nat.le_of_ble_eq_true rfl, Nat.le_of_ble_eq_true rfl, Nat.le_of_ble_eq_true rfl, Nat.le_of_ble_eq_true rfl⟩ [0, 1, 2, 3] [] [0, 1, 2, 3] rfl [] rfl (by decide) [(hMO, .inr (6, [.ref hMOz, .ref hMOa, .ref hMOb, .int MOst, .ref hMOk, .int MOik, .ref hMOt, .int MOln, .ref hMOo, .ref hMOw, .ref hMOm, .ref hMOq, .int MOpl, .int MOiw, .int MOle, .ref hMOn])), (hMOz, .inl (cI, 116, .inl MOza)), (hMOo, .inl (cI, 150, .inl MOon)), (hMOw, .inl (cI, 150, .inl MOwy))] rfl (by decide) 0 6 rfl rfl rfl rfl rfl (Nat.le_of_ble_eq_true rfl) dX7_bestPlace_65 rfl ?_
              refine j_iload (pc' := 70) cx 4 dX7_bestPlace_68 rfl rfl ?_
              refine j_icmp_le (tgt := 91) (pc' := 73) cx dX7_bestPlace_70 (by decide) rfl (fun ch_29 => ?_) (fun ch_29 => ?_)
              · have h_30 := it_t h_29 ch_29
                have h_31 := so_i h_30
                subst h_31
                exact Kt13
              · have h_32 := it_f h_29 ch_29
                refine j_iload (pc' := 75) cx 5 dX7_bestPlace_73 rfl rfl ?_
                refine j_istore_n (lv' := [(3, .int s5.2.2), (0, .ref hMO), (1, .int p0), (2, .int p1), (4, .int s5.2.1), (5, .int s5.2.2)]) (pc' := 76) cx dX7_bestPlace_75 (by decide) rfl rfl ?_
                refine j_aload_n (pc' := 77) cx 1 dX7_bestPlace_76 rfl rfl ?_
                refine j_iload_n (pc' := 78) cx 2 dX7_bestPlace_77 rfl rfl ?_
                refine j_iload (pc' := 80) cx 5 dX7_bestPlace_78 rfl rfl ?_
                refine j_iconst (pc' := 81) cx 4 dX7_bestPlace_80 ki_4 rfl ?_
                refine j_irem (pc' := 82) cx dX7_bestPlace_81 kz_4 rfl ?_
                refine j_iload (pc' := 84) cx 5 dX7_bestPlace_82 rfl rfl ?_
                refine j_iconst (pc' := 85) cx 4 dX7_bestPlace_84 ki_4 rfl ?_
                refine j_idiv (pc' := 86) cx dX7_bestPlace_85 kz_4 rfl ?_
                obtain ⟨r11, c12, h_33⟩ := bd_s h_32
                refine j_cV (pc' := 89) cx (c_X7_touches l D cI cZ cC cS hMO hMOz hMOa hMOb hMOk hMOt hMOo hMOw hMOm hMOq hMOn MOst MOik MOln MOpl MOiw MOle MOza MOon MOwy p0 (rm s5.2.2 4) (s5.2.2 / 4) r11 c12) 3 yk_X7_touches wM_X7_110 ⟨wN_X7_touches, wS_X7_touches, wI_X7, wC_X7_touches⟩ ⟨rfl, rfl, Nat.le_of_ble_eq_true rfl, Nat.le_of_ble_eq_true rfl, Nat.le_of_ble_eq_true rfl, Nat.le_of_ble_eq_true rfl⟩ [0, 1, 2, 3] [] [0, 1, 2, 3] rfl [] rfl (by decide) [(hMO, .inr (6, [.ref hMOz, .ref hMOa, .ref hMOb, .int MOst, .ref hMOk, .int MOik, .ref hMOt, .int MOln, .ref hMOo, .ref hMOw, .ref hMOm, .ref hMOq, .int MOpl, .int MOiw, .int MOle, .ref hMOn])), (hMOz, .inl (cI, 116, .inl MOza)), (hMOo, .inl (cI, 150, .inl MOon)), (hMOw, .inl (cI, 150, .inl MOwy))] rfl (by decide) 0 6 rfl rfl rfl rfl rfl (Nat.le_of_ble_eq_true rfl) dX7_bestPlace_86 rfl ?_
                refine j_istore (lv' := [(4, .int r11), (3, .int s5.2.2), (0, .ref hMO), (1, .int p0), (2, .int p1), (5, .int s5.2.2)]) (pc' := 91) cx dX7_bestPlace_89 (by decide) rfl rfl ?_
                have h_34 := so_i h_33
                subst h_34
                refine j_lv (lv' := [(0, .ref hMO), (1, .int p0), (2, .int p1), (3, .int s5.2.2), (4, .int r11), (5, .int s5.2.2)]) cx [2, 3, 4, 1, 0, 5] rfl ?_
                exact Kt13
      refine j_lv (lv' := [(0, .ref hMO), (1, .int p0), (2, .int p1), (3, .int (-5)), (4, .int (-5)), (5, .int 0)]) cx [3, 4, 5, 2, 1, 0] rfl ?_
      exact LPe6 _ _ h_5
    · have h_35 := it_t h_3 ch_3
      refine j_bipush (pc' := 20) cx (-2) dX7_bestPlace_18 kb_m2 rfl ?_
      have h_36 := so_i h_35
      subst h_36
      exact j_ret cx (Or.inr (Or.inl ⟨_, _, rfl, rfl, dX7_bestPlace_20, rfl, rfl⟩)) ⟨rfl, rfl⟩
  · have h_37 := it_t h_1 ch_1
    refine j_iconst (pc' := 8) cx (-1) dX7_bestPlace_7 ki_m1 rfl ?_
    have h_38 := so_i h_37
    subst h_38
    exact j_ret cx (Or.inr (Or.inl ⟨_, _, rfl, rfl, dX7_bestPlace_8, rfl, rfl⟩)) ⟨rfl, rfl⟩
set_option maxHeartbeats 4000000 in
set_option maxRecDepth 100000 in
theorem c_X7_comesUpon (l : Launch) (D : va_G) (cI cZ cC cS : ClassId) (hMO hMOz hMOa hMOb hMOk hMOt hMOo hMOw hMOm hMOq hMOn : Nat) (MOst : Int32) (MOik : Int32) (MOln : Int32) (MOpl : Int32) (MOiw : Int32) (MOle : Int32) (MOza : Nat → Int32) (MOon : Nat → Int32) (MOwy : Nat → Int32) (p0 : Int32) (p1 : Int32) (out : Int32) (hm : f_X7_comesUpon MOza MOon MOwy p0 p1 = some out) : Ct l yX7_comesUpon cX7_comesUpon 9 (some .boolean) ({ frames := 2, cells := 0, slots := 0, locals := 45 }) (D, TY cI cZ cC cS) [.ref hMO, .int p0, .int p1] [(hMO, .inr (6, [.ref hMOz, .ref hMOa, .ref hMOb, .int MOst, .ref hMOk, .int MOik, .ref hMOt, .int MOln, .ref hMOo, .ref hMOw, .ref hMOm, .ref hMOq, .int MOpl, .int MOiw, .int MOle, .ref hMOn])), (hMOz, .inl (cI, 116, .inl MOza)), (hMOo, .inl (cI, 150, .inl MOon)), (hMOw, .inl (cI, 150, .inl MOwy))] (jw_P (some (.int out)) [(hMO, .inr (6, [.ref hMOz, .ref hMOa, .ref hMOb, .int MOst, .ref hMOk, .int MOik, .ref hMOt, .int MOln, .ref hMOo, .ref hMOw, .ref hMOm, .ref hMOq, .int MOpl, .int MOiw, .int MOle, .ref hMOn])), (hMOz, .inl (cI, 116, .inl MOza)), (hMOo, .inl (cI, 150, .inl MOon)), (hMOw, .inl (cI, 150, .inl MOwy))]) 0 0 := by
  refine ct_of RX7 (by decide +kernel) rfl (Nat.le_of_ble_eq_true rfl) (fun j cx => ?_)
  unfold f_X7_comesUpon at hm
  show j 0 0 [(hMO, .inr (6, [.ref hMOz, .ref hMOa, .ref hMOb, .int MOst, .ref hMOk, .int MOik, .ref hMOt, .int MOln, .ref hMOo, .ref hMOw, .ref hMOm, .ref hMOq, .int MOpl, .int MOiw, .int MOle, .ref hMOn])), (hMOz, .inl (cI, 116, .inl MOza)), (hMOo, .inl (cI, 150, .inl MOon)), (hMOw, .inl (cI, 150, .inl MOwy))] [(0, .ref hMO), (1, .int p0), (2, .int p1)] 0 []
  refine j_iconst (pc' := 1) cx 1 dX7_comesUpon_0 ki_1 rfl ?_
  refine j_istore_n (lv' := [(3, .int 1), (0, .ref hMO), (1, .int p0), (2, .int p1)]) (pc' := 2) cx dX7_comesUpon_1 (by decide) rfl rfl ?_
  refine j_iconst (pc' := 3) cx 0 dX7_comesUpon_2 ki_0 rfl ?_
  refine j_istore (lv' := [(4, .int 0), (3, .int 1), (0, .ref hMO), (1, .int p0), (2, .int p1)]) (pc' := 5) cx dX7_comesUpon_3 (by decide) rfl rfl ?_
  obtain ⟨e2, h_1, h_2⟩ := bd_s hm
  have KXe2 : j 0 0 [(hMO, .inr (6, [.ref hMOz, .ref hMOa, .ref hMOb, .int MOst, .ref hMOk, .int MOik, .ref hMOt, .int MOln, .ref hMOo, .ref hMOw, .ref hMOm, .ref hMOq, .int MOpl, .int MOiw, .int MOle, .ref hMOn])), (hMOz, .inl (cI, 116, .inl MOza)), (hMOo, .inl (cI, 150, .inl MOon)), (hMOw, .inl (cI, 150, .inl MOwy))] [(3, .int e2.1)] 159 [] := by
    refine j_iload_n (pc' := 160) cx 0 dX7_comesUpon_159 rfl rfl ?_
    obtain ⟨b19, h_3⟩ := ckP_s h_2
    have h_4 := so_i h_3
    subst h_4
    exact j_ret cx (Or.inr (Or.inl ⟨_, _, rfl, (nz_n b19), dX7_comesUpon_160, rfl, rfl⟩)) ⟨rfl, rfl⟩
  have LPe2 : ∀ (n : Nat) (s1 : Int32 × Int32), lp (f_X7_comesUpon_b2 MOza MOon MOwy p0 p1) n s1 = some e2 → j 0 0 [(hMO, .inr (6, [.ref hMOz, .ref hMOa, .ref hMOb, .int MOst, .ref hMOk, .int MOik, .ref hMOt, .int MOln, .ref hMOo, .ref hMOw, .ref hMOm, .ref hMOq, .int MOpl, .int MOiw, .int MOle, .ref hMOn])), (hMOz, .inl (cI, 116, .inl MOza)), (hMOo, .inl (cI, 150, .inl MOon)), (hMOw, .inl (cI, 150, .inl MOwy))] [(0, .ref hMO), (1, .int p0), (2, .int p1), (3, .int s1.1), (4, .int s1.2)] 5 [] := by
    intro n
    induction n with
    | zero => intro s1 z; exact absurd z (by intro z; cases z)
    | succ n ihe2 =>
      intro s1 h_5
      obtain ⟨q_6, h_7, h_8⟩ := bd_s h_5
      unfold f_X7_comesUpon_b2 at h_7
      refine j_iload (pc' := 7) cx 4 dX7_comesUpon_5 rfl rfl ?_
      refine j_aload_n (pc' := 8) cx 0 dX7_comesUpon_7 rfl rfl ?_
      refine j_get (C := RX7) (T := TX7) (N := 16) (pc' := 11) cx uB_X7 0 rfl rfl 0 (by decide) wF_X7_7 (.ref hMOz) rfl dX7_comesUpon_8 rfl ?_
      refine j_bipush (pc' := 13) cx 25 dX7_comesUpon_11 kb_25 rfl ?_
      obtain ⟨i3, h_9⟩ := ck_s h_7
      refine j_iald (pc' := 14) cx 1 0 rfl rfl i3 dX7_comesUpon_13 rfl ?_
      refine j_icmp_ge (tgt := 159) (pc' := 17) cx dX7_comesUpon_14 (by decide) rfl (fun ch_9 => ?_) (fun ch_9 => ?_)
      · have h_10 := it_t h_9 ch_9
        have h_11 := so_i h_10
        subst h_11
        have h_12 := so_i (se_r h_8)
        subst h_12
        refine j_lv (lv' := [(3, .int s1.1)]) cx [3] rfl ?_
        exact KXe2
      · have h_13 := it_f h_9 ch_9
        refine j_iload_n (pc' := 18) cx 3 dX7_comesUpon_17 rfl rfl ?_
        refine j_if_eq (tgt := 159) (pc' := 21) cx dX7_comesUpon_18 (by decide) rfl (fun ch_13 => ?_) (fun ch_13 => ?_)
        · have h_14 := it_t h_13 ch_13
          have h_15 := so_i h_14
          subst h_15
          have h_16 := so_i (se_r h_8)
          subst h_16
          refine j_lv (lv' := [(3, .int s1.1)]) cx [3] rfl ?_
          exact KXe2
        · have h_17 := it_f h_13 ch_13
          refine j_aload_n (pc' := 22) cx 0 dX7_comesUpon_21 rfl rfl ?_
          refine j_iload (pc' := 24) cx 4 dX7_comesUpon_22 rfl rfl ?_
          obtain ⟨r4, c5, h_18⟩ := bd_s h_17
          refine j_cV (pc' := 27) cx (c_X7_middleOf l D cI cZ cC cS hMO hMOz hMOa hMOb hMOk hMOt hMOo hMOw hMOm hMOq hMOn MOst MOik MOln MOpl MOiw MOle MOza s1.2 r4 c5) 1 yk_X7_middleOf wM_X7_58 ⟨wN_X7_middleOf, wS_X7_middleOf, wI_X7, wC_X7_middleOf⟩ ⟨rfl, rfl, Nat.le_of_ble_eq_true rfl, Nat.le_of_ble_eq_true rfl, Nat.le_of_ble_eq_true rfl, Nat.le_of_ble_eq_true rfl⟩ [0, 1] [2, 3] [2, 3, 0, 1] rfl [(hMOo, .inl (cI, 150, .inl MOon)), (hMOw, .inl (cI, 150, .inl MOwy))] rfl (by decide) [(hMO, .inr (6, [.ref hMOz, .ref hMOa, .ref hMOb, .int MOst, .ref hMOk, .int MOik, .ref hMOt, .int MOln, .ref hMOo, .ref hMOw, .ref hMOm, .ref hMOq, .int MOpl, .int MOiw, .int MOle, .ref hMOn])), (hMOz, .inl (cI, 116, .inl MOza)), (hMOo, .inl (cI, 150, .inl MOon)), (hMOw, .inl (cI, 150, .inl MOwy))] rfl (by decide) 0 6 rfl rfl rfl rfl rfl (Nat.le_of_ble_eq_true rfl) dX7_comesUpon_24 rfl ?_
          refine j_istore (lv' := [(5, .int r4), (0, .ref hMO), (1, .int p0), (2, .int p1), (3, .int s1.1), (4, .int s1.2)]) (pc' := 29) cx dX7_comesUpon_27 (by decide) rfl rfl ?_
          refine j_iload_n (pc' := 30) cx 2 dX7_comesUpon_29 rfl rfl ?_
          obtain ⟨t6, h_20, h_19⟩ := bd_s h_18
          have Kt6 : j 0 0 [(hMO, .inr (6, [.ref hMOz, .ref hMOa, .ref hMOb, .int MOst, .ref hMOk, .int MOik, .ref hMOt, .int MOln, .ref hMOo, .ref hMOw, .ref hMOm, .ref hMOq, .int MOpl, .int MOiw, .int MOle, .ref hMOn])), (hMOz, .inl (cI, 116, .inl MOza)), (hMOo, .inl (cI, 150, .inl MOon)), (hMOw, .inl (cI, 150, .inl MOwy))] [(0, .ref hMO), (1, .int p0), (2, .int p1), (4, .int s1.2)] 64 [.int t6] := by
            refine j_istore (lv' := [(6, .int t6), (0, .ref hMO), (1, .int p0), (2, .int p1), (4, .int s1.2)]) (pc' := 66) cx dX7_comesUpon_64 (by decide) rfl rfl ?_
            refine j_iload (pc' := 68) cx 0 dX7_comesUpon_66 rfl rfl ?_
            refine j_iload_n (pc' := 69) cx 3 dX7_comesUpon_68 rfl rfl ?_
            refine j_bipush (pc' := 71) cx 15 dX7_comesUpon_69 kb_15 rfl ?_
            refine j_irem (pc' := 72) cx dX7_comesUpon_71 kz_15 rfl ?_
            refine j_iload_n (pc' := 73) cx 3 dX7_comesUpon_72 rfl rfl ?_
            refine j_bipush (pc' := 75) cx 15 dX7_comesUpon_73 kb_15 rfl ?_
            refine j_idiv (pc' := 76) cx dX7_comesUpon_75 kz_15 rfl ?_
            obtain ⟨r7, c8, h_21⟩ := bd_s h_19
            refine j_cS (pc' := 79) cx (c_X7_shifted l D cI cZ cC cS t6 (rm p1 15) (p1 / 15) r7 c8) 3 yk_X7_shifted wM_X7_136 ⟨wT_X7_shifted, wI_X7, wC_X7_shifted⟩ ⟨rfl, rfl, Nat.le_of_ble_eq_true rfl, Nat.le_of_ble_eq_true rfl, Nat.le_of_ble_eq_true rfl, Nat.le_of_ble_eq_true rfl⟩ [] [0, 1, 2, 3] [0, 1, 2, 3] rfl [(hMO, .inr (6, [.ref hMOz, .ref hMOa, .ref hMOb, .int MOst, .ref hMOk, .int MOik, .ref hMOt, .int MOln, .ref hMOo, .ref hMOw, .ref hMOm, .ref hMOq, .int MOpl, .int MOiw, .int MOle, .ref hMOn])), (hMOz, .inl (cI, 116, .inl MOza)), (hMOo, .inl (cI, 150, .inl MOon)), (hMOw, .inl (cI, 150, .inl MOwy))] rfl (by decide) [(hMO, .inr (6, [.ref hMOz, .ref hMOa, .ref hMOb, .int MOst, .ref hMOk, .int MOik, .ref hMOt, .int MOln, .ref hMOo, .ref hMOw, .ref hMOm, .ref hMOq, .int MOpl, .int MOiw, .int MOle, .ref hMOn])), (hMOz, .inl (cI, 116, .inl MOza)), (hMOo, .inl (cI, 150, .inl MOon)), (hMOw, .inl (cI, 150, .inl MOwy))] rfl (by decide) rfl rfl (Nat.le_of_ble_eq_true rfl) dX7_comesUpon_76 rfl ?_
            refine j_istore (lv' := [(7, .int r7), (6, .int t6), (0, .ref hMO), (1, .int p0), (2, .int p1), (4, .int s1.2)]) (pc' := 81) cx dX7_comesUpon_79 (by decide) rfl rfl ?_
            refine j_aload_n (pc' := 82) cx 2 dX7_comesUpon_81 rfl rfl ?_
            refine j_get (C := RX7) (T := TX7) (N := 16) (pc' := 85) cx uB_X7 0 rfl rfl 9 (by decide) wF_X7_28 (.ref hMOw) rfl dX7_comesUpon_82 rfl ?_
            refine j_iload (pc' := 87) cx 0 dX7_comesUpon_85 rfl rfl ?_
            obtain ⟨i9, h_22⟩ := ck_s h_21
            refine j_iald (pc' := 88) cx 3 0 rfl rfl i9 dX7_comesUpon_87 rfl ?_
            refine j_iconst (pc' := 89) cx 4 dX7_comesUpon_88 ki_4 rfl ?_
            obtain ⟨t10, h_24, h_23⟩ := bd_s h_22
            have Kt10 : j 0 0 [(hMO, .inr (6, [.ref hMOz, .ref hMOa, .ref hMOb, .int MOst, .ref hMOk, .int MOik, .ref hMOt, .int MOln, .ref hMOo, .ref hMOw, .ref hMOm, .ref hMOq, .int MOpl, .int MOiw, .int MOle, .ref hMOn])), (hMOz, .inl (cI, 116, .inl MOza)), (hMOo, .inl (cI, 150, .inl MOon)), (hMOw, .inl (cI, 150, .inl MOwy))] [(0, .ref hMO), (1, .int p0), (2, .int p1), (4, .int s1.2), (7, .int r7)] 97 [.int t10] := by
              refine j_istore_n (lv' := [(3, .int t10), (0, .ref hMO), (1, .int p0), (2, .int p1), (4, .int s1.2), (7, .int r7)]) (pc' := 98) cx dX7_comesUpon_97 (by decide) rfl rfl ?_
              refine j_iconst (pc' := 99) cx 0 dX7_comesUpon_98 ki_0 rfl ?_
              refine j_istore (lv' := [(8, .int 0), (3, .int t10), (0, .ref hMO), (1, .int p0), (2, .int p1), (4, .int s1.2), (7, .int r7)]) (pc' := 101) cx dX7_comesUpon_99 (by decide) rfl rfl ?_
              obtain ⟨e12, h_25, h_26⟩ := bd_s h_23
              have KXe12 : j 0 0 [(hMO, .inr (6, [.ref hMOz, .ref hMOa, .ref hMOb, .int MOst, .ref hMOk, .int MOik, .ref hMOt, .int MOln, .ref hMOo, .ref hMOw, .ref hMOm, .ref hMOq, .int MOpl, .int MOiw, .int MOle, .ref hMOn])), (hMOz, .inl (cI, 116, .inl MOza)), (hMOo, .inl (cI, 150, .inl MOon)), (hMOw, .inl (cI, 150, .inl MOwy))] [(0, .ref hMO), (1, .int p0), (2, .int p1), (3, .int e12.1), (4, .int s1.2)] 153 [] := by
                refine j_iinc (v := (s1.2 + 1)) (lv' := [(4, .int (s1.2 + 1)), (0, .ref hMO), (1, .int p0), (2, .int p1), (3, .int e12.1)]) (pc' := 156) cx 4 dX7_comesUpon_153 rfl (kn_1 _) (by decide) rfl rfl ?_
                refine j_goto (pc' := 5) cx dX7_comesUpon_156 (by decide) ?_
                have h_27 := so_i h_26
                subst h_27
                refine j_lv (lv' := [(0, .ref hMO), (1, .int p0), (2, .int p1), (3, .int e12.1), (4, .int (s1.2 + 1))]) cx [1, 2, 3, 4, 0] rfl ?_
                exact ihe2 _ (se_l h_8)
              have LPe12 : ∀ (n : Nat) (s11 : Int32 × Int32), lp (f_X7_comesUpon_b1 MOza MOon p0 s1 r7) n s11 = some e12 → j 0 0 [(hMO, .inr (6, [.ref hMOz, .ref hMOa, .ref hMOb, .int MOst, .ref hMOk, .int MOik, .ref hMOt, .int MOln, .ref hMOo, .ref hMOw, .ref hMOm, .ref hMOq, .int MOpl, .int MOiw, .int MOle, .ref hMOn])), (hMOz, .inl (cI, 116, .inl MOza)), (hMOo, .inl (cI, 150, .inl MOon)), (hMOw, .inl (cI, 150, .inl MOwy))] [(0, .ref hMO), (1, .int p0), (2, .int p1), (3, .int s11.1), (4, .int s1.2), (7, .int r7), (8, .int s11.2)] 101 [] := by
                intro n
                induction n with
                | zero => intro s11 z; exact absurd z (by intro z; cases z)
                | succ n ihe12 =>
                  intro s11 h_28
                  obtain ⟨q_29, h_30, h_31⟩ := bd_s h_28
                  unfold f_X7_comesUpon_b1 at h_30
                  refine j_iload (pc' := 103) cx 6 dX7_comesUpon_101 rfl rfl ?_
                  refine j_iconst (pc' := 104) cx 4 dX7_comesUpon_103 ki_4 rfl ?_
                  refine j_icmp_ge (tgt := 153) (pc' := 107) cx dX7_comesUpon_104 (by decide) rfl (fun ch_30 => ?_) (fun ch_30 => ?_)
                  · have h_32 := it_t h_30 ch_30
                    have h_33 := so_i h_32
                    subst h_33
                    have h_34 := so_i (se_r h_31)
                    subst h_34
                    refine j_lv (lv' := [(0, .ref hMO), (1, .int p0), (2, .int p1), (3, .int s11.1), (4, .int s1.2)]) cx [0, 1, 2, 3, 4] rfl ?_
                    exact KXe12
                  · have h_35 := it_f h_30 ch_30
                    refine j_iload_n (pc' := 108) cx 3 dX7_comesUpon_107 rfl rfl ?_
                    refine j_if_eq (tgt := 153) (pc' := 111) cx dX7_comesUpon_108 (by decide) rfl (fun ch_35 => ?_) (fun ch_35 => ?_)
                    · have h_36 := it_t h_35 ch_35
                      have h_37 := so_i h_36
                      subst h_37
                      have h_38 := so_i (se_r h_31)
                      subst h_38
                      refine j_lv (lv' := [(0, .ref hMO), (1, .int p0), (2, .int p1), (3, .int s11.1), (4, .int s1.2)]) cx [0, 1, 2, 3, 4] rfl ?_
                      exact KXe12
                    · have h_39 := it_f h_35 ch_35
                      refine j_aload_n (pc' := 112) cx 0 dX7_comesUpon_111 rfl rfl ?_
                      refine j_aload_n (pc' := 113) cx 0 dX7_comesUpon_112 rfl rfl ?_
                      refine j_get (C := RX7) (T := TX7) (N := 16) (pc' := 116) cx uB_X7 0 rfl rfl 8 (by decide) wF_X7_25 (.ref hMOo) rfl dX7_comesUpon_113 rfl ?_
                      refine j_iload (pc' := 118) cx 5 dX7_comesUpon_116 rfl rfl ?_
                      obtain ⟨i13, h_40⟩ := ck_s h_39
                      refine j_iald (pc' := 119) cx 2 0 rfl rfl i13 dX7_comesUpon_118 rfl ?_
                      refine j_iload (pc' := 121) cx 6 dX7_comesUpon_119 rfl rfl ?_
                      obtain ⟨r14, c15, h_41⟩ := bd_s h_40
                      refine j_cV (pc' := 124) cx (c_X7_colourOf l D cI cZ cC cS hMO hMOz hMOa hMOb hMOk hMOt hMOo hMOw hMOm hMOq hMOn MOst MOik MOln MOpl MOiw MOle MOza (MOon r7.toNatClampNeg) s11.2 r14 c15) 2 yk_X7_colourOf wM_X7_65 ⟨wN_X7_colourOf, wS_X7_colourOf, wI_X7, wC_X7_colourOf⟩ ⟨rfl, rfl, Nat.le_of_ble_eq_true rfl, Nat.le_of_ble_eq_true rfl, Nat.le_of_ble_eq_true rfl, Nat.le_of_ble_eq_true rfl⟩ [0, 1] [2, 3] [2, 3, 0, 1] rfl [(hMOo, .inl (cI, 150, .inl MOon)), (hMOw, .inl (cI, 150, .inl MOwy))] rfl (by decide) [(hMO, .inr (6, [.ref hMOz, .ref hMOa, .ref hMOb, .int MOst, .ref hMOk, .int MOik, .ref hMOt, .int MOln, .ref hMOo, .ref hMOw, .ref hMOm, .ref hMOq, .int MOpl, .int MOiw, .int MOle, .ref hMOn])), (hMOz, .inl (cI, 116, .inl MOza)), (hMOo, .inl (cI, 150, .inl MOon)), (hMOw, .inl (cI, 150, .inl MOwy))] rfl (by decide) 0 6 rfl rfl rfl rfl rfl (Nat.le_of_ble_eq_true rfl) dX7_comesUpon_121 rfl ?_
                      refine j_aload_n (pc' := 125) cx 0 dX7_comesUpon_124 rfl rfl ?_
                      refine j_iload (pc' := 127) cx 4 dX7_comesUpon_125 rfl rfl ?_
                      refine j_iload (pc' := 129) cx 6 dX7_comesUpon_127 rfl rfl ?_
                      refine j_iconst (pc' := 130) cx 2 dX7_comesUpon_129 ki_2 rfl ?_
                      refine j_iload_n (pc' := 131) cx 1 dX7_comesUpon_130 rfl rfl ?_
                      refine j_imul (pc' := 132) cx dX7_comesUpon_131 rfl ?_
                      refine j_iadd (pc' := 133) cx dX7_comesUpon_132 rfl ?_
                      refine j_iconst (pc' := 134) cx 4 dX7_comesUpon_133 ki_4 rfl ?_
                      refine j_irem (pc' := 135) cx dX7_comesUpon_134 kz_4 rfl ?_
                      obtain ⟨r16, c17, h_42⟩ := bd_s h_41
                      refine j_cV (pc' := 138) cx (c_X7_colourOf l D cI cZ cC cS hMO hMOz hMOa hMOb hMOk hMOt hMOo hMOw hMOm hMOq hMOn MOst MOik MOln MOpl MOiw MOle MOza s1.2 (rm (s11.2 + (2 * p0)) 4) r16 c17) 2 yk_X7_colourOf wM_X7_65 ⟨wN_X7_colourOf, wS_X7_colourOf, wI_X7, wC_X7_colourOf⟩ ⟨rfl, rfl, Nat.le_of_ble_eq_true rfl, Nat.le_of_ble_eq_true rfl, Nat.le_of_ble_eq_true rfl, Nat.le_of_ble_eq_true rfl⟩ [0, 1] [2, 3] [2, 3, 0, 1] rfl [(hMOo, .inl (cI, 150, .inl MOon)), (hMOw, .inl (cI, 150, .inl MOwy))] rfl (by decide) [(hMO, .inr (6, [.ref hMOz, .ref hMOa, .ref hMOb, .int MOst, .ref hMOk, .int MOik, .ref hMOt, .int MOln, .ref hMOo, .ref hMOw, .ref hMOm, .ref hMOq, .int MOpl, .int MOiw, .int MOle, .ref hMOn])), (hMOz, .inl (cI, 116, .inl MOza)), (hMOo, .inl (cI, 150, .inl MOon)), (hMOw, .inl (cI, 150, .inl MOwy))] rfl (by decide) 0 6 rfl rfl rfl rfl rfl (Nat.le_of_ble_eq_true rfl) dX7_comesUpon_135 rfl ?_
                      obtain ⟨t18, h_44, h_43⟩ := bd_s h_42
                      have Kt18 : j 0 0 [(hMO, .inr (6, [.ref hMOz, .ref hMOa, .ref hMOb, .int MOst, .ref hMOk, .int MOik, .ref hMOt, .int MOln, .ref hMOo, .ref hMOw, .ref hMOm, .ref hMOq, .int MOpl, .int MOiw, .int MOle, .ref hMOn])), (hMOz, .inl (cI, 116, .inl MOza)), (hMOo, .inl (cI, 150, .inl MOon)), (hMOw, .inl (cI, 150, .inl MOwy))] [(0, .ref hMO), (1, .int p0), (2, .int p1), (4, .int s1.2), (7, .int r7), (8, .int s11.2)] 146 [.int t18] := by
                        refine j_istore_n (lv' := [(3, .int t18), (0, .ref hMO), (1, .int p0), (2, .int p1), (4, .int s1.2), (7, .int r7), (8, .int s11.2)]) (pc' := 147) cx dX7_comesUpon_146 (by decide) rfl rfl ?_
                        refine j_iinc (v := (s11.2 + 1)) (lv' := [(8, .int (s11.2 + 1)), (3, .int t18), (0, .ref hMO), (1, .int p0), (2, .int p1), (4, .int s1.2), (7, .int r7)]) (pc' := 150) cx 6 dX7_comesUpon_147 rfl (kn_1 _) (by decide) rfl rfl ?_
                        refine j_goto (pc' := 101) cx dX7_comesUpon_150 (by decide) ?_
                        have h_45 := so_i h_43
                        subst h_45
                        refine j_lv (lv' := [(0, .ref hMO), (1, .int p0), (2, .int p1), (3, .int t18), (4, .int s1.2), (7, .int r7), (8, .int (s11.2 + 1))]) cx [2, 3, 4, 1, 5, 6, 0] rfl ?_
                        exact ihe12 _ (se_l h_31)
                      refine j_icmp_ne (tgt := 145) (pc' := 141) cx dX7_comesUpon_138 (by decide) rfl (fun ch_44 => ?_) (fun ch_44 => ?_)
                      · have h_46 := it_f h_44 ch_44
                        refine j_iconst (pc' := 146) cx 0 dX7_comesUpon_145 ki_0 rfl ?_
                        have h_47 := so_i h_46
                        subst h_47
                        refine j_lv (lv' := [(0, .ref hMO), (1, .int p0), (2, .int p1), (4, .int s1.2), (7, .int r7), (8, .int s11.2)]) cx [0, 1, 2, 4, 5, 6] rfl ?_
                        exact Kt18
                      · have h_48 := it_t h_44 ch_44
                        refine j_iconst (pc' := 142) cx 1 dX7_comesUpon_141 ki_1 rfl ?_
                        refine j_goto (pc' := 146) cx dX7_comesUpon_142 (by decide) ?_
                        have h_49 := so_i h_48
                        subst h_49
                        refine j_lv (lv' := [(0, .ref hMO), (1, .int p0), (2, .int p1), (4, .int s1.2), (7, .int r7), (8, .int s11.2)]) cx [0, 1, 2, 4, 5, 6] rfl ?_
                        exact Kt18
              refine j_lv (lv' := [(0, .ref hMO), (1, .int p0), (2, .int p1), (3, .int t10), (4, .int s1.2), (7, .int r7), (8, .int 0)]) cx [2, 3, 4, 1, 5, 6, 0] rfl ?_
              exact LPe12 _ _ h_25
            refine j_icmp_ne (tgt := 96) (pc' := 92) cx dX7_comesUpon_89 (by decide) rfl (fun ch_24 => ?_) (fun ch_24 => ?_)
            · have h_50 := it_f h_24 ch_24
              refine j_iconst (pc' := 97) cx 0 dX7_comesUpon_96 ki_0 rfl ?_
              have h_51 := so_i h_50
              subst h_51
              refine j_lv (lv' := [(0, .ref hMO), (1, .int p0), (2, .int p1), (4, .int s1.2), (7, .int r7)]) cx [2, 3, 4, 5, 0] rfl ?_
              exact Kt10
            · have h_52 := it_t h_24 ch_24
              refine j_iconst (pc' := 93) cx 1 dX7_comesUpon_92 ki_1 rfl ?_
              refine j_goto (pc' := 97) cx dX7_comesUpon_93 (by decide) ?_
              have h_53 := so_i h_52
              subst h_53
              refine j_lv (lv' := [(0, .ref hMO), (1, .int p0), (2, .int p1), (4, .int s1.2), (7, .int r7)]) cx [2, 3, 4, 5, 0] rfl ?_
              exact Kt10
          refine j_if_ne (tgt := 38) (pc' := 33) cx dX7_comesUpon_30 (by decide) rfl (fun ch_20 => ?_) (fun ch_20 => ?_)
          · have h_54 := it_f h_20 ch_20
            refine j_bipush (pc' := 40) cx 15 dX7_comesUpon_38 kb_15 rfl ?_
            refine j_bipush (pc' := 42) cx 10 dX7_comesUpon_40 kb_10 rfl ?_
            refine j_iload (pc' := 44) cx 0 dX7_comesUpon_42 rfl rfl ?_
            refine j_bipush (pc' := 46) cx 15 dX7_comesUpon_44 kb_15 rfl ?_
            refine j_idiv (pc' := 47) cx dX7_comesUpon_46 kz_15 rfl ?_
            refine j_isub (pc' := 48) cx dX7_comesUpon_47 rfl ?_
            refine j_bipush (pc' := 50) cx 10 dX7_comesUpon_48 kb_10 rfl ?_
            refine j_irem (pc' := 51) cx dX7_comesUpon_50 kz_10 rfl ?_
            refine j_imul (pc' := 52) cx dX7_comesUpon_51 rfl ?_
            refine j_bipush (pc' := 54) cx 15 dX7_comesUpon_52 kb_15 rfl ?_
            refine j_iload (pc' := 56) cx 0 dX7_comesUpon_54 rfl rfl ?_
            refine j_bipush (pc' := 58) cx 15 dX7_comesUpon_56 kb_15 rfl ?_
            refine j_irem (pc' := 59) cx dX7_comesUpon_58 kz_15 rfl ?_
            refine j_isub (pc' := 60) cx dX7_comesUpon_59 rfl ?_
            refine j_bipush (pc' := 62) cx 15 dX7_comesUpon_60 kb_15 rfl ?_
            refine j_irem (pc' := 63) cx dX7_comesUpon_62 kz_15 rfl ?_
            refine j_iadd (pc' := 64) cx dX7_comesUpon_63 rfl ?_
            have h_55 := so_i h_54
            subst h_55
            refine j_lv (lv' := [(0, .ref hMO), (1, .int p0), (2, .int p1), (4, .int s1.2)]) cx [1, 2, 3, 5] rfl ?_
            exact Kt6
          · have h_56 := it_t h_20 ch_20
            refine j_iload (pc' := 35) cx 0 dX7_comesUpon_33 rfl rfl ?_
            refine j_goto (pc' := 64) cx dX7_comesUpon_35 (by decide) ?_
            have h_57 := so_i h_56
            subst h_57
            refine j_lv (lv' := [(0, .ref hMO), (1, .int p0), (2, .int p1), (4, .int s1.2)]) cx [1, 2, 3, 5] rfl ?_
            exact Kt6
  refine j_lv (lv' := [(0, .ref hMO), (1, .int p0), (2, .int p1), (3, .int 1), (4, .int 0)]) cx [2, 3, 4, 1, 0] rfl ?_
  exact LPe2 _ _ h_1
set_option maxHeartbeats 4000000 in
set_option maxRecDepth 100000 in
theorem c_X7_shifts (l : Launch) (D : va_G) (cI cZ cC cS : ClassId) (hMO hMOz hMOa hMOb hMOk hMOt hMOo hMOw hMOm hMOq hMOn : Nat) (MOst : Int32) (MOik : Int32) (MOln : Int32) (MOpl : Int32) (MOiw : Int32) (MOle : Int32) (MOza : Nat → Int32) (MOon : Nat → Int32) (MOwy : Nat → Int32) (p0 : Int32) (out : Int32) (hm : f_X7_shifts MOza MOon MOwy p0 = some out) : Ct l yX7_shifts cX7_shifts 6 (some .int) ({ frames := 3, cells := 0, slots := 0, locals := 73 }) (D, TY cI cZ cC cS) [.ref hMO, .int p0] [(hMO, .inr (6, [.ref hMOz, .ref hMOa, .ref hMOb, .int MOst, .ref hMOk, .int MOik, .ref hMOt, .int MOln, .ref hMOo, .ref hMOw, .ref hMOm, .ref hMOq, .int MOpl, .int MOiw, .int MOle, .ref hMOn])), (hMOz, .inl (cI, 116, .inl MOza)), (hMOo, .inl (cI, 150, .inl MOon)), (hMOw, .inl (cI, 150, .inl MOwy))] (jw_P (some (.int out)) [(hMO, .inr (6, [.ref hMOz, .ref hMOa, .ref hMOb, .int MOst, .ref hMOk, .int MOik, .ref hMOt, .int MOln, .ref hMOo, .ref hMOw, .ref hMOm, .ref hMOq, .int MOpl, .int MOiw, .int MOle, .ref hMOn])), (hMOz, .inl (cI, 116, .inl MOza)), (hMOo, .inl (cI, 150, .inl MOon)), (hMOw, .inl (cI, 150, .inl MOwy))]) 0 0 := by
  refine ct_of RX7 (by decide +kernel) rfl (Nat.le_of_ble_eq_true rfl) (fun j cx => ?_)
  unfold f_X7_shifts at hm
  show j 0 0 [(hMO, .inr (6, [.ref hMOz, .ref hMOa, .ref hMOb, .int MOst, .ref hMOk, .int MOik, .ref hMOt, .int MOln, .ref hMOo, .ref hMOw, .ref hMOm, .ref hMOq, .int MOpl, .int MOiw, .int MOle, .ref hMOn])), (hMOz, .inl (cI, 116, .inl MOza)), (hMOo, .inl (cI, 150, .inl MOon)), (hMOw, .inl (cI, 150, .inl MOwy))] [(0, .ref hMO), (1, .int p0)] 0 []
  refine j_iload_n (pc' := 1) cx 1 dX7_shifts_0 rfl rfl ?_
  refine j_iconst (pc' := 2) cx 0 dX7_shifts_1 ki_0 rfl ?_
  refine j_iconst (pc' := 3) cx 1 dX7_shifts_2 ki_1 rfl ?_
  obtain ⟨r1, c2, h_1⟩ := bd_s hm
  refine j_cS (pc' := 6) cx (c_X7_in l D cI cZ cC cS p0 0 1 r1 c2) 3 yk_X7_in wM_X7_43 ⟨wT_X7_in, wI_X7, wC_X7_in⟩ ⟨rfl, rfl, Nat.le_of_ble_eq_true rfl, Nat.le_of_ble_eq_true rfl, Nat.le_of_ble_eq_true rfl, Nat.le_of_ble_eq_true rfl⟩ [] [0, 1, 2, 3] [0, 1, 2, 3] rfl [(hMO, .inr (6, [.ref hMOz, .ref hMOa, .ref hMOb, .int MOst, .ref hMOk, .int MOik, .ref hMOt, .int MOln, .ref hMOo, .ref hMOw, .ref hMOm, .ref hMOq, .int MOpl, .int MOiw, .int MOle, .ref hMOn])), (hMOz, .inl (cI, 116, .inl MOza)), (hMOo, .inl (cI, 150, .inl MOon)), (hMOw, .inl (cI, 150, .inl MOwy))] rfl (by decide) [(hMO, .inr (6, [.ref hMOz, .ref hMOa, .ref hMOb, .int MOst, .ref hMOk, .int MOik, .ref hMOt, .int MOln, .ref hMOo, .ref hMOw, .ref hMOm, .ref hMOq, .int MOpl, .int MOiw, .int MOle, .ref hMOn])), (hMOz, .inl (cI, 116, .inl MOza)), (hMOo, .inl (cI, 150, .inl MOon)), (hMOw, .inl (cI, 150, .inl MOwy))] rfl (by decide) rfl rfl (Nat.le_of_ble_eq_true rfl) dX7_shifts_3 rfl ?_
  refine j_if_ne (tgt := 12) (pc' := 9) cx dX7_shifts_6 (by decide) rfl (fun ch_1 => ?_) (fun ch_1 => ?_)
  · have h_2 := it_f h_1 ch_1
    refine j_iconst (pc' := 13) cx 0 dX7_shifts_12 ki_0 rfl ?_
    refine j_istore_n (lv' := [(2, .int 0), (0, .ref hMO), (1, .int p0)]) (pc' := 14) cx dX7_shifts_13 (by decide) rfl rfl ?_
    refine j_bipush (pc' := 16) cx (-5) dX7_shifts_14 kb_m5 rfl ?_
    refine j_istore_n (lv' := [(3, .int (-5)), (2, .int 0), (0, .ref hMO), (1, .int p0)]) (pc' := 17) cx dX7_shifts_16 (by decide) rfl rfl ?_
    refine j_sipush (pc' := 20) cx 149 dX7_shifts_17 ks_149 rfl ?_
    refine j_istore (lv' := [(4, .int 149), (3, .int (-5)), (2, .int 0), (0, .ref hMO), (1, .int p0)]) (pc' := 22) cx dX7_shifts_20 (by decide) rfl rfl ?_
    obtain ⟨e4, h_3, h_4⟩ := bd_s h_2
    have KXe4 : j 0 0 [(hMO, .inr (6, [.ref hMOz, .ref hMOa, .ref hMOb, .int MOst, .ref hMOk, .int MOik, .ref hMOt, .int MOln, .ref hMOo, .ref hMOw, .ref hMOm, .ref hMOq, .int MOpl, .int MOiw, .int MOle, .ref hMOn])), (hMOz, .inl (cI, 116, .inl MOza)), (hMOo, .inl (cI, 150, .inl MOon)), (hMOw, .inl (cI, 150, .inl MOwy))] [(1, .int p0), (2, .int e4.1), (3, .int e4.2.1)] 72 [] := by
      refine j_iload_n (pc' := 73) cx 0 dX7_shifts_72 rfl rfl ?_
      obtain ⟨t9, h_6, h_5⟩ := bd_s h_4
      have Kt9 : j 0 0 [(hMO, .inr (6, [.ref hMOz, .ref hMOa, .ref hMOb, .int MOst, .ref hMOk, .int MOik, .ref hMOt, .int MOln, .ref hMOo, .ref hMOw, .ref hMOm, .ref hMOq, .int MOpl, .int MOiw, .int MOle, .ref hMOn])), (hMOz, .inl (cI, 116, .inl MOza)), (hMOo, .inl (cI, 150, .inl MOon)), (hMOw, .inl (cI, 150, .inl MOwy))] [] 81 [.int t9] := by
        have h_7 := so_i h_5
        subst h_7
        exact j_ret cx (Or.inr (Or.inl ⟨_, _, rfl, rfl, dX7_shifts_81, rfl, rfl⟩)) ⟨rfl, rfl⟩
      refine j_if_ne (tgt := 80) (pc' := 76) cx dX7_shifts_73 (by decide) rfl (fun ch_6 => ?_) (fun ch_6 => ?_)
      · have h_8 := it_f h_6 ch_6
        refine j_iload_n (pc' := 81) cx 2 dX7_shifts_80 rfl rfl ?_
        have h_9 := so_i h_8
        subst h_9
        refine j_lv (lv' := []) cx [] rfl ?_
        exact Kt9
      · have h_10 := it_t h_6 ch_6
        refine j_iload_n (pc' := 77) cx 1 dX7_shifts_76 rfl rfl ?_
        refine j_goto (pc' := 81) cx dX7_shifts_77 (by decide) ?_
        have h_11 := so_i h_10
        subst h_11
        refine j_lv (lv' := []) cx [] rfl ?_
        exact Kt9
    have LPe4 : ∀ (n : Nat) (s3 : Int32 × Int32 × Int32), lp (f_X7_shifts_b1 MOza MOon MOwy) n s3 = some e4 → j 0 0 [(hMO, .inr (6, [.ref hMOz, .ref hMOa, .ref hMOb, .int MOst, .ref hMOk, .int MOik, .ref hMOt, .int MOln, .ref hMOo, .ref hMOw, .ref hMOm, .ref hMOq, .int MOpl, .int MOiw, .int MOle, .ref hMOn])), (hMOz, .inl (cI, 116, .inl MOza)), (hMOo, .inl (cI, 150, .inl MOon)), (hMOw, .inl (cI, 150, .inl MOwy))] [(0, .ref hMO), (1, .int p0), (2, .int s3.1), (3, .int s3.2.1), (4, .int s3.2.2)] 22 [] := by
      intro n
      induction n with
      | zero => intro s3 z; exact absurd z (by intro z; cases z)
      | succ n ihe4 =>
        intro s3 h_12
        obtain ⟨q_13, h_14, h_15⟩ := bd_s h_12
        unfold f_X7_shifts_b1 at h_14
        refine j_iload (pc' := 24) cx 4 dX7_shifts_22 rfl rfl ?_
        refine j_if_lt (tgt := 72) (pc' := 27) cx dX7_shifts_24 (by decide) rfl (fun ch_14 => ?_) (fun ch_14 => ?_)
        · have h_16 := it_t h_14 ch_14
          have h_17 := so_i h_16
          subst h_17
          have h_18 := so_i (se_r h_15)
          subst h_18
          refine j_lv (lv' := [(1, .int p0), (2, .int s3.1), (3, .int s3.2.1)]) cx [1, 2, 3] rfl ?_
          exact KXe4
        · have h_19 := it_f h_14 ch_14
          refine j_aload_n (pc' := 28) cx 0 dX7_shifts_27 rfl rfl ?_
          refine j_iconst (pc' := 29) cx 0 dX7_shifts_28 ki_0 rfl ?_
          refine j_iload (pc' := 31) cx 4 dX7_shifts_29 rfl rfl ?_
          obtain ⟨r5, c6, h_20⟩ := bd_s h_19
          refine j_cV (pc' := 34) cx (c_X7_comesUpon l D cI cZ cC cS hMO hMOz hMOa hMOb hMOk hMOt hMOo hMOw hMOm hMOq hMOn MOst MOik MOln MOpl MOiw MOle MOza MOon MOwy 0 s3.2.2 r5 c6) 2 yk_X7_comesUpon wM_X7_211 ⟨wN_X7_comesUpon, wS_X7_comesUpon, wI_X7, wC_X7_comesUpon⟩ ⟨rfl, rfl, Nat.le_of_ble_eq_true rfl, Nat.le_of_ble_eq_true rfl, Nat.le_of_ble_eq_true rfl, Nat.le_of_ble_eq_true rfl⟩ [0, 1, 2, 3] [] [0, 1, 2, 3] rfl [] rfl (by decide) [(hMO, .inr (6, [.ref hMOz, .ref hMOa, .ref hMOb, .int MOst, .ref hMOk, .int MOik, .ref hMOt, .int MOln, .ref hMOo, .ref hMOw, .ref hMOm, .ref hMOq, .int MOpl, .int MOiw, .int MOle, .ref hMOn])), (hMOz, .inl (cI, 116, .inl MOza)), (hMOo, .inl (cI, 150, .inl MOon)), (hMOw, .inl (cI, 150, .inl MOwy))] rfl (by decide) 0 6 rfl rfl rfl rfl rfl (Nat.le_of_ble_eq_true rfl) dX7_shifts_31 rfl ?_
          refine j_istore (lv' := [(5, .int r5), (0, .ref hMO), (1, .int p0), (2, .int s3.1), (3, .int s3.2.1), (4, .int s3.2.2)]) (pc' := 36) cx dX7_shifts_34 (by decide) rfl rfl ?_
          refine j_iload_n (pc' := 37) cx 3 dX7_shifts_36 rfl rfl ?_
          refine j_iload (pc' := 39) cx 0 dX7_shifts_37 rfl rfl ?_
          obtain ⟨t7, h_22, h_21⟩ := bd_s h_20
          have Kt7 : j 0 0 [(hMO, .inr (6, [.ref hMOz, .ref hMOa, .ref hMOb, .int MOst, .ref hMOk, .int MOik, .ref hMOt, .int MOln, .ref hMOo, .ref hMOw, .ref hMOm, .ref hMOq, .int MOpl, .int MOiw, .int MOle, .ref hMOn])), (hMOz, .inl (cI, 116, .inl MOza)), (hMOo, .inl (cI, 150, .inl MOon)), (hMOw, .inl (cI, 150, .inl MOwy))] [(0, .ref hMO), (1, .int p0), (3, .int s3.2.1), (4, .int s3.2.2), (5, .int r5)] 47 [.int t7, .int s3.1] := by
            refine j_iadd (pc' := 48) cx dX7_shifts_47 rfl ?_
            refine j_istore_n (lv' := [(2, .int (s3.1 + t7)), (0, .ref hMO), (1, .int p0), (3, .int s3.2.1), (4, .int s3.2.2), (5, .int r5)]) (pc' := 49) cx dX7_shifts_48 (by decide) rfl rfl ?_
            refine j_iload (pc' := 51) cx 5 dX7_shifts_49 rfl rfl ?_
            obtain ⟨t8, h_24, h_23⟩ := bd_s h_21
            have Kt8 : j 0 0 [(hMO, .inr (6, [.ref hMOz, .ref hMOa, .ref hMOb, .int MOst, .ref hMOk, .int MOik, .ref hMOt, .int MOln, .ref hMOo, .ref hMOw, .ref hMOm, .ref hMOq, .int MOpl, .int MOiw, .int MOle, .ref hMOn])), (hMOz, .inl (cI, 116, .inl MOza)), (hMOo, .inl (cI, 150, .inl MOon)), (hMOw, .inl (cI, 150, .inl MOwy))] [(0, .ref hMO), (1, .int p0), (2, .int (s3.1 + t7)), (4, .int s3.2.2)] 65 [.int t8] := by
              refine j_istore_n (lv' := [(3, .int t8), (0, .ref hMO), (1, .int p0), (2, .int (s3.1 + t7)), (4, .int s3.2.2)]) (pc' := 66) cx dX7_shifts_65 (by decide) rfl rfl ?_
              refine j_iinc (v := (s3.2.2 + (-1))) (lv' := [(4, .int (s3.2.2 + (-1))), (3, .int t8), (0, .ref hMO), (1, .int p0), (2, .int (s3.1 + t7))]) (pc' := 69) cx 4 dX7_shifts_66 rfl (kn_m1 _) (by decide) rfl rfl ?_
              refine j_goto (pc' := 22) cx dX7_shifts_69 (by decide) ?_
              have h_25 := so_i h_23
              subst h_25
              refine j_lv (lv' := [(0, .ref hMO), (1, .int p0), (2, .int (s3.1 + t7)), (3, .int t8), (4, .int (s3.2.2 + (-1)))]) cx [2, 3, 4, 1, 0] rfl ?_
              exact ihe4 _ (se_l h_15)
            refine j_if_eq (tgt := 64) (pc' := 54) cx dX7_shifts_51 (by decide) rfl (fun ch_24 => ?_) (fun ch_24 => ?_)
            · have h_26 := it_t h_24 ch_24
              refine j_iload_n (pc' := 65) cx 3 dX7_shifts_64 rfl rfl ?_
              have h_27 := so_i h_26
              subst h_27
              refine j_lv (lv' := [(0, .ref hMO), (1, .int p0), (2, .int (s3.1 + t7)), (4, .int s3.2.2)]) cx [1, 2, 0, 4] rfl ?_
              exact Kt8
            · have h_28 := it_f h_24 ch_24
              refine j_iload (pc' := 56) cx 4 dX7_shifts_54 rfl rfl ?_
              refine j_if_le (tgt := 64) (pc' := 59) cx dX7_shifts_56 (by decide) rfl (fun ch_28 => ?_) (fun ch_28 => ?_)
              · have h_29 := it_t h_28 ch_28
                refine j_iload_n (pc' := 65) cx 3 dX7_shifts_64 rfl rfl ?_
                have h_30 := so_i h_29
                subst h_30
                refine j_lv (lv' := [(0, .ref hMO), (1, .int p0), (2, .int (s3.1 + t7)), (4, .int s3.2.2)]) cx [1, 2, 0, 4] rfl ?_
                exact Kt8
              · have h_31 := it_f h_28 ch_28
                refine j_iload (pc' := 61) cx 4 dX7_shifts_59 rfl rfl ?_
                refine j_goto (pc' := 65) cx dX7_shifts_61 (by decide) ?_
                have h_32 := so_i h_31
                subst h_32
                refine j_lv (lv' := [(0, .ref hMO), (1, .int p0), (2, .int (s3.1 + t7)), (4, .int s3.2.2)]) cx [1, 2, 0, 4] rfl ?_
                exact Kt8
          refine j_if_eq (tgt := 46) (pc' := 42) cx dX7_shifts_39 (by decide) rfl (fun ch_22 => ?_) (fun ch_22 => ?_)
          · have h_33 := it_t h_22 ch_22
            refine j_iconst (pc' := 47) cx 0 dX7_shifts_46 ki_0 rfl ?_
            have h_34 := so_i h_33
            subst h_34
            refine j_lv (lv' := [(0, .ref hMO), (1, .int p0), (3, .int s3.2.1), (4, .int s3.2.2), (5, .int r5)]) cx [1, 2, 4, 5, 0] rfl ?_
            exact Kt7
          · have h_35 := it_f h_22 ch_22
            refine j_iconst (pc' := 43) cx 1 dX7_shifts_42 ki_1 rfl ?_
            refine j_goto (pc' := 47) cx dX7_shifts_43 (by decide) ?_
            have h_36 := so_i h_35
            subst h_36
            refine j_lv (lv' := [(0, .ref hMO), (1, .int p0), (3, .int s3.2.1), (4, .int s3.2.2), (5, .int r5)]) cx [1, 2, 4, 5, 0] rfl ?_
            exact Kt7
    refine j_lv (lv' := [(0, .ref hMO), (1, .int p0), (2, .int 0), (3, .int (-5)), (4, .int 149)]) cx [3, 4, 2, 1, 0] rfl ?_
    exact LPe4 _ _ h_3
  · have h_37 := it_t h_1 ch_1
    refine j_bipush (pc' := 11) cx (-2) dX7_shifts_9 kb_m2 rfl ?_
    have h_38 := so_i h_37
    subst h_38
    exact j_ret cx (Or.inr (Or.inl ⟨_, _, rfl, rfl, dX7_shifts_11, rfl, rfl⟩)) ⟨rfl, rfl⟩
set_option maxHeartbeats 4000000 in
set_option maxRecDepth 100000 in
theorem c_X7_halfTurn (l : Launch) (D : va_G) (cI cZ cC cS : ClassId) (hMO hMOz hMOa hMOb hMOk hMOt hMOo hMOw hMOm hMOq hMOn : Nat) (MOst : Int32) (MOik : Int32) (MOln : Int32) (MOpl : Int32) (MOiw : Int32) (MOle : Int32) (MOza : Nat → Int32) (MOon : Nat → Int32) (MOwy : Nat → Int32) (out : Int32) (hm : f_X7_halfTurn MOza MOon MOwy = some out) : Ct l yX7_halfTurn cX7_halfTurn 3 (some .int) ({ frames := 3, cells := 0, slots := 0, locals := 73 }) (D, TY cI cZ cC cS) [.ref hMO] [(hMO, .inr (6, [.ref hMOz, .ref hMOa, .ref hMOb, .int MOst, .ref hMOk, .int MOik, .ref hMOt, .int MOln, .ref hMOo, .ref hMOw, .ref hMOm, .ref hMOq, .int MOpl, .int MOiw, .int MOle, .ref hMOn])), (hMOz, .inl (cI, 116, .inl MOza)), (hMOo, .inl (cI, 150, .inl MOon)), (hMOw, .inl (cI, 150, .inl MOwy))] (jw_P (some (.int out)) [(hMO, .inr (6, [.ref hMOz, .ref hMOa, .ref hMOb, .int MOst, .ref hMOk, .int MOik, .ref hMOt, .int MOln, .ref hMOo, .ref hMOw, .ref hMOm, .ref hMOq, .int MOpl, .int MOiw, .int MOle, .ref hMOn])), (hMOz, .inl (cI, 116, .inl MOza)), (hMOo, .inl (cI, 150, .inl MOon)), (hMOw, .inl (cI, 150, .inl MOwy))]) 0 0 := by
  refine ct_of RX7 (by decide +kernel) rfl (Nat.le_of_ble_eq_true rfl) (fun j cx => ?_)
  unfold f_X7_halfTurn at hm
  show j 0 0 [(hMO, .inr (6, [.ref hMOz, .ref hMOa, .ref hMOb, .int MOst, .ref hMOk, .int MOik, .ref hMOt, .int MOln, .ref hMOo, .ref hMOw, .ref hMOm, .ref hMOq, .int MOpl, .int MOiw, .int MOle, .ref hMOn])), (hMOz, .inl (cI, 116, .inl MOza)), (hMOo, .inl (cI, 150, .inl MOon)), (hMOw, .inl (cI, 150, .inl MOwy))] [(0, .ref hMO)] 0 []
  refine j_bipush (pc' := 2) cx (-5) dX7_halfTurn_0 kb_m5 rfl ?_
  refine j_istore_n (lv' := [(1, .int (-5)), (0, .ref hMO)]) (pc' := 3) cx dX7_halfTurn_2 (by decide) rfl rfl ?_
  refine j_sipush (pc' := 6) cx 149 dX7_halfTurn_3 ks_149 rfl ?_
  refine j_istore_n (lv' := [(2, .int 149), (1, .int (-5)), (0, .ref hMO)]) (pc' := 7) cx dX7_halfTurn_6 (by decide) rfl rfl ?_
  obtain ⟨e2, h_1, h_2⟩ := bd_s hm
  have KXe2 : j 0 0 [(hMO, .inr (6, [.ref hMOz, .ref hMOa, .ref hMOb, .int MOst, .ref hMOk, .int MOik, .ref hMOt, .int MOln, .ref hMOo, .ref hMOw, .ref hMOm, .ref hMOq, .int MOpl, .int MOiw, .int MOle, .ref hMOn])), (hMOz, .inl (cI, 116, .inl MOza)), (hMOo, .inl (cI, 150, .inl MOon)), (hMOw, .inl (cI, 150, .inl MOwy))] [(1, .int e2.1)] 32 [] := by
    refine j_iload_n (pc' := 33) cx 0 dX7_halfTurn_32 rfl rfl ?_
    have h_3 := so_i h_2
    subst h_3
    exact j_ret cx (Or.inr (Or.inl ⟨_, _, rfl, rfl, dX7_halfTurn_33, rfl, rfl⟩)) ⟨rfl, rfl⟩
  have LPe2 : ∀ (n : Nat) (s1 : Int32 × Int32), lp (f_X7_halfTurn_b1 MOza MOon MOwy) n s1 = some e2 → j 0 0 [(hMO, .inr (6, [.ref hMOz, .ref hMOa, .ref hMOb, .int MOst, .ref hMOk, .int MOik, .ref hMOt, .int MOln, .ref hMOo, .ref hMOw, .ref hMOm, .ref hMOq, .int MOpl, .int MOiw, .int MOle, .ref hMOn])), (hMOz, .inl (cI, 116, .inl MOza)), (hMOo, .inl (cI, 150, .inl MOon)), (hMOw, .inl (cI, 150, .inl MOwy))] [(0, .ref hMO), (1, .int s1.1), (2, .int s1.2)] 7 [] := by
    intro n
    induction n with
    | zero => intro s1 z; exact absurd z (by intro z; cases z)
    | succ n ihe2 =>
      intro s1 h_4
      obtain ⟨q_5, h_6, h_7⟩ := bd_s h_4
      unfold f_X7_halfTurn_b1 at h_6
      refine j_iload_n (pc' := 8) cx 2 dX7_halfTurn_7 rfl rfl ?_
      refine j_if_lt (tgt := 32) (pc' := 11) cx dX7_halfTurn_8 (by decide) rfl (fun ch_6 => ?_) (fun ch_6 => ?_)
      · have h_8 := it_t h_6 ch_6
        have h_9 := so_i h_8
        subst h_9
        have h_10 := so_i (se_r h_7)
        subst h_10
        refine j_lv (lv' := [(1, .int s1.1)]) cx [1] rfl ?_
        exact KXe2
      · have h_11 := it_f h_6 ch_6
        refine j_aload_n (pc' := 12) cx 0 dX7_halfTurn_11 rfl rfl ?_
        refine j_iconst (pc' := 13) cx 1 dX7_halfTurn_12 ki_1 rfl ?_
        refine j_iload_n (pc' := 14) cx 2 dX7_halfTurn_13 rfl rfl ?_
        obtain ⟨r3, c4, h_12⟩ := bd_s h_11
        refine j_cV (pc' := 17) cx (c_X7_comesUpon l D cI cZ cC cS hMO hMOz hMOa hMOb hMOk hMOt hMOo hMOw hMOm hMOq hMOn MOst MOik MOln MOpl MOiw MOle MOza MOon MOwy 1 s1.2 r3 c4) 2 yk_X7_comesUpon wM_X7_211 ⟨wN_X7_comesUpon, wS_X7_comesUpon, wI_X7, wC_X7_comesUpon⟩ ⟨rfl, rfl, Nat.le_of_ble_eq_true rfl, Nat.le_of_ble_eq_true rfl, Nat.le_of_ble_eq_true rfl, Nat.le_of_ble_eq_true rfl⟩ [0, 1, 2, 3] [] [0, 1, 2, 3] rfl [] rfl (by decide) [(hMO, .inr (6, [.ref hMOz, .ref hMOa, .ref hMOb, .int MOst, .ref hMOk, .int MOik, .ref hMOt, .int MOln, .ref hMOo, .ref hMOw, .ref hMOm, .ref hMOq, .int MOpl, .int MOiw, .int MOle, .ref hMOn])), (hMOz, .inl (cI, 116, .inl MOza)), (hMOo, .inl (cI, 150, .inl MOon)), (hMOw, .inl (cI, 150, .inl MOwy))] rfl (by decide) 0 6 rfl rfl rfl rfl rfl (Nat.le_of_ble_eq_true rfl) dX7_halfTurn_14 rfl ?_
        obtain ⟨t5, h_14, h_13⟩ := bd_s h_12
        have Kt5 : j 0 0 [(hMO, .inr (6, [.ref hMOz, .ref hMOa, .ref hMOb, .int MOst, .ref hMOk, .int MOik, .ref hMOt, .int MOln, .ref hMOo, .ref hMOw, .ref hMOm, .ref hMOq, .int MOpl, .int MOiw, .int MOle, .ref hMOn])), (hMOz, .inl (cI, 116, .inl MOza)), (hMOo, .inl (cI, 150, .inl MOon)), (hMOw, .inl (cI, 150, .inl MOwy))] [(0, .ref hMO), (2, .int s1.2)] 25 [.int t5] := by
          refine j_istore_n (lv' := [(1, .int t5), (0, .ref hMO), (2, .int s1.2)]) (pc' := 26) cx dX7_halfTurn_25 (by decide) rfl rfl ?_
          refine j_iinc (v := (s1.2 + (-1))) (lv' := [(2, .int (s1.2 + (-1))), (1, .int t5), (0, .ref hMO)]) (pc' := 29) cx 2 dX7_halfTurn_26 rfl (kn_m1 _) (by decide) rfl rfl ?_
          refine j_goto (pc' := 7) cx dX7_halfTurn_29 (by decide) ?_
          have h_15 := so_i h_13
          subst h_15
          refine j_lv (lv' := [(0, .ref hMO), (1, .int t5), (2, .int (s1.2 + (-1)))]) cx [2, 1, 0] rfl ?_
          exact ihe2 _ (se_l h_7)
        refine j_if_eq (tgt := 24) (pc' := 20) cx dX7_halfTurn_17 (by decide) rfl (fun ch_14 => ?_) (fun ch_14 => ?_)
        · have h_16 := it_t h_14 ch_14
          refine j_iload_n (pc' := 25) cx 1 dX7_halfTurn_24 rfl rfl ?_
          have h_17 := so_i h_16
          subst h_17
          refine j_lv (lv' := [(0, .ref hMO), (2, .int s1.2)]) cx [0, 2] rfl ?_
          exact Kt5
        · have h_18 := it_f h_14 ch_14
          refine j_iload_n (pc' := 21) cx 2 dX7_halfTurn_20 rfl rfl ?_
          refine j_goto (pc' := 25) cx dX7_halfTurn_21 (by decide) ?_
          have h_19 := so_i h_18
          subst h_19
          refine j_lv (lv' := [(0, .ref hMO), (2, .int s1.2)]) cx [0, 2] rfl ?_
          exact Kt5
  refine j_lv (lv' := [(0, .ref hMO), (1, .int (-5)), (2, .int 149)]) cx [2, 1, 0] rfl ?_
  exact LPe2 _ _ h_1
